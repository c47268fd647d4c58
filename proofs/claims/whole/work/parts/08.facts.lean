theorem q_lgl (vs : List Value) : (lg_sl vs).length = (vs.map fun v => if v.category = 2 then 2 else 1).sum := by
  induction vs with
  | nil => rfl
  | cons v t ih =>
    simp only [lg_sl, List.flatMap_cons, List.length_append, List.map_cons, List.sum_cons] at ih ⊢
    rw [ih]
    congr 1
    by_cases h : v.category = 2 <;> simp [h]
theorem q_cat_rf (r : Option Nat) : (va_rf r).category = 1 := by cases r <;> rfl
def q_on {β : Type} (r : Option Nat) (a : β) (f : Nat → β) : β := match r with
  | none => a
  | some x => f x
def q_min (x y : Int32) : Int32 := if y < x then y else x
def q_max (x y : Int32) : Int32 := if x < y then y else x
def q_ush (x y : Int32) : Int32 := (x.toUInt32 >>> (y.toUInt32 &&& Int32.toUInt32 31)).toInt32
def q_rd0 : Nat := 100
theorem r_iremq {l : Launch} {Γ : qC} {own : String} {cc : ByteArray} {nL : Nat} {R : Room} {nm : String} {rt : Option FieldType} {g : qG} {cells slots pc n : Nat} {L : List (Nat × Value)} {S : List Value} {I : qI} {X : qX} (hg : q_Ok l Γ own cc nL R nm rt g) {x y : Int32} (hd : q_at cc pc (.irem) 1 n) (hy : ¬ y = 0) (k : g cells slots n L (.int (q_rem x y) :: S) I X) : g cells slots pc L (.int y :: .int x :: S) I X := r_irem hg hd hy k
theorem r_iushrq {l : Launch} {Γ : qC} {own : String} {cc : ByteArray} {nL : Nat} {R : Room} {nm : String} {rt : Option FieldType} {g : qG} {cells slots pc n : Nat} {L : List (Nat × Value)} {S : List Value} {I : qI} {X : qX} (hg : q_Ok l Γ own cc nL R nm rt g) {x y : Int32} (hd : q_at cc pc (.iushr) 1 n) (k : g cells slots n L (.int (q_ush x y) :: S) I X) : g cells slots pc L (.int y :: .int x :: S) I X := r_iushr hg hd k
theorem r_minq {l : Launch} {Γ : qC} {own : String} {cc : ByteArray} {nL : Nat} {R : Room} {nm : String} {rt : Option FieldType} {g : qG} {cells slots pc n : Nat} {L : List (Nat × Value)} {S : List Value} {I : qI} {X : qX} (hg : q_Ok l Γ own cc nL R nm rt g) {i : Nat} {x y : Int32} (hd : q_at cc pc (.invokestatic i) 3 n) (hw : Cond.methodLink own i Lib.Math.min.name ∈ q_tbl ∧ Cond.static Lib.Math.min.name ∈ q_tbl ∧ Cond.initialized "java/lang/Math" ∈ q_tbl ∧ Cond.code Lib.Math.min.name Lib.Math.min.code 2 (some .int) ∈ q_tbl) (hR : 1 ≤ R.frames ∧ (S.map fun v => v.category).sum + 13 ≤ R.locals) (hc : cells ≤ R.cells ∧ slots ≤ R.slots) (k : g cells slots n L (.int (q_min x y) :: S) I X) : g cells slots pc L (.int y :: .int x :: S) I X := r_min hg hd hw hR hc k
theorem r_maxq {l : Launch} {Γ : qC} {own : String} {cc : ByteArray} {nL : Nat} {R : Room} {nm : String} {rt : Option FieldType} {g : qG} {cells slots pc n : Nat} {L : List (Nat × Value)} {S : List Value} {I : qI} {X : qX} (hg : q_Ok l Γ own cc nL R nm rt g) {i : Nat} {x y : Int32} (hd : q_at cc pc (.invokestatic i) 3 n) (hw : Cond.methodLink own i Lib.Math.max.name ∈ q_tbl ∧ Cond.static Lib.Math.max.name ∈ q_tbl ∧ Cond.initialized "java/lang/Math" ∈ q_tbl ∧ Cond.code Lib.Math.max.name Lib.Math.max.code 2 (some .int) ∈ q_tbl) (hR : 1 ≤ R.frames ∧ (S.map fun v => v.category).sum + 13 ≤ R.locals) (hc : cells ≤ R.cells ∧ slots ≤ R.slots) (k : g cells slots n L (.int (q_max x y) :: S) I X) : g cells slots pc L (.int y :: .int x :: S) I X := r_max hg hd hw hR hc k
theorem r_ialdC {l : Launch} {Γ : qC} {own : String} {cc : ByteArray} {nL : Nat} {R : Room} {nm : String} {rt : Option FieldType} {g : qG} {cells slots pc n : Nat} {L : List (Nat × Value)} {S : List Value} {I : qI} {X : qX} (hg : q_Ok l Γ own cc nL R nm rt g) {a N : Nat} {f : Nat → Int32} {i v : Int32} (hd : q_at cc pc (.iaload) 1 n) (hk : a < 4) (hl : q_ol Γ a = N) (hf : q_ov Γ a = f) (hv : q_rdO f N i = some v) (k : g cells slots n L (.int v :: S) I X) : g cells slots pc L (.int i :: .ref a :: S) I X := by
  obtain ⟨hin, rfl⟩ := q_rdO_in hv
  refine r_ialdO hg hd hk (by rw [hl]; exact hin) ?_
  rw [hf]
  exact k
theorem r_alenC {l : Launch} {Γ : qC} {own : String} {cc : ByteArray} {nL : Nat} {R : Room} {nm : String} {rt : Option FieldType} {g : qG} {cells slots pc n : Nat} {L : List (Nat × Value)} {S : List Value} {I : qI} {X : qX} (hg : q_Ok l Γ own cc nL R nm rt g) {a N : Nat} (hd : q_at cc pc (.arraylength) 1 n) (hk : a < 4) (hl : q_ol Γ a = N) (k : g cells slots n L (.int (nI N) :: S) I X) : g cells slots pc L (.ref a :: S) I X :=
  r_alenO hg hd hk (by rw [hl]; exact k)
theorem ci_m8 : Int32.ofInt (-8) = (-8) := by decide +kernel
theorem ci_m1 : Int32.ofInt (-1) = (-1) := by decide +kernel
theorem ci_0 : Int32.ofInt (0) = (nI 0) := by decide +kernel
theorem ci_1 : Int32.ofInt (1) = (nI 1) := by decide +kernel
theorem ci_2 : Int32.ofInt (2) = (nI 2) := by decide +kernel
theorem ci_3 : Int32.ofInt (3) = (nI 3) := by decide +kernel
theorem ci_4 : Int32.ofInt (4) = (nI 4) := by decide +kernel
theorem ci_5 : Int32.ofInt (5) = (nI 5) := by decide +kernel
theorem cb_m100 : (Int8.ofInt (-100)).toInt32 = (-100) := by decide +kernel
theorem cb_m33 : (Int8.ofInt (-33)).toInt32 = (-33) := by decide +kernel
theorem cb_6 : (Int8.ofInt (6)).toInt32 = (nI 6) := by decide +kernel
theorem cb_7 : (Int8.ofInt (7)).toInt32 = (nI 7) := by decide +kernel
theorem cb_8 : (Int8.ofInt (8)).toInt32 = (nI 8) := by decide +kernel
theorem cb_9 : (Int8.ofInt (9)).toInt32 = (nI 9) := by decide +kernel
theorem cb_10 : (Int8.ofInt (10)).toInt32 = (nI 10) := by decide +kernel
theorem cb_11 : (Int8.ofInt (11)).toInt32 = (nI 11) := by decide +kernel
theorem cb_12 : (Int8.ofInt (12)).toInt32 = (nI 12) := by decide +kernel
theorem cb_13 : (Int8.ofInt (13)).toInt32 = (nI 13) := by decide +kernel
theorem cb_16 : (Int8.ofInt (16)).toInt32 = (nI 16) := by decide +kernel
theorem cb_18 : (Int8.ofInt (18)).toInt32 = (nI 18) := by decide +kernel
theorem cb_24 : (Int8.ofInt (24)).toInt32 = (nI 24) := by decide +kernel
theorem cb_28 : (Int8.ofInt (28)).toInt32 = (nI 28) := by decide +kernel
theorem cb_30 : (Int8.ofInt (30)).toInt32 = (nI 30) := by decide +kernel
theorem cb_32 : (Int8.ofInt (32)).toInt32 = (nI 32) := by decide +kernel
theorem cb_33 : (Int8.ofInt (33)).toInt32 = (nI 33) := by decide +kernel
theorem cb_38 : (Int8.ofInt (38)).toInt32 = (nI 38) := by decide +kernel
theorem cb_40 : (Int8.ofInt (40)).toInt32 = (nI 40) := by decide +kernel
theorem cb_41 : (Int8.ofInt (41)).toInt32 = (nI 41) := by decide +kernel
theorem cb_42 : (Int8.ofInt (42)).toInt32 = (nI 42) := by decide +kernel
theorem cb_43 : (Int8.ofInt (43)).toInt32 = (nI 43) := by decide +kernel
theorem cb_45 : (Int8.ofInt (45)).toInt32 = (nI 45) := by decide +kernel
theorem cb_47 : (Int8.ofInt (47)).toInt32 = (nI 47) := by decide +kernel
theorem cb_48 : (Int8.ofInt (48)).toInt32 = (nI 48) := by decide +kernel
theorem cb_50 : (Int8.ofInt (50)).toInt32 = (nI 50) := by decide +kernel
theorem cb_57 : (Int8.ofInt (57)).toInt32 = (nI 57) := by decide +kernel
theorem cb_58 : (Int8.ofInt (58)).toInt32 = (nI 58) := by decide +kernel
theorem cb_60 : (Int8.ofInt (60)).toInt32 = (nI 60) := by decide +kernel
theorem cb_61 : (Int8.ofInt (61)).toInt32 = (nI 61) := by decide +kernel
theorem cb_62 : (Int8.ofInt (62)).toInt32 = (nI 62) := by decide +kernel
theorem cb_63 : (Int8.ofInt (63)).toInt32 = (nI 63) := by decide +kernel
theorem cb_80 : (Int8.ofInt (80)).toInt32 = (nI 80) := by decide +kernel
theorem cb_84 : (Int8.ofInt (84)).toInt32 = (nI 84) := by decide +kernel
theorem cb_96 : (Int8.ofInt (96)).toInt32 = (nI 96) := by decide +kernel
theorem cb_97 : (Int8.ofInt (97)).toInt32 = (nI 97) := by decide +kernel
theorem cb_98 : (Int8.ofInt (98)).toInt32 = (nI 98) := by decide +kernel
theorem cb_99 : (Int8.ofInt (99)).toInt32 = (nI 99) := by decide +kernel
theorem cb_100 : (Int8.ofInt (100)).toInt32 = (nI 100) := by decide +kernel
theorem cb_101 : (Int8.ofInt (101)).toInt32 = (nI 101) := by decide +kernel
theorem cb_102 : (Int8.ofInt (102)).toInt32 = (nI 102) := by decide +kernel
theorem cb_103 : (Int8.ofInt (103)).toInt32 = (nI 103) := by decide +kernel
theorem cb_105 : (Int8.ofInt (105)).toInt32 = (nI 105) := by decide +kernel
theorem cb_107 : (Int8.ofInt (107)).toInt32 = (nI 107) := by decide +kernel
theorem cb_108 : (Int8.ofInt (108)).toInt32 = (nI 108) := by decide +kernel
theorem cb_109 : (Int8.ofInt (109)).toInt32 = (nI 109) := by decide +kernel
theorem cb_110 : (Int8.ofInt (110)).toInt32 = (nI 110) := by decide +kernel
theorem cb_111 : (Int8.ofInt (111)).toInt32 = (nI 111) := by decide +kernel
theorem cb_112 : (Int8.ofInt (112)).toInt32 = (nI 112) := by decide +kernel
theorem cb_115 : (Int8.ofInt (115)).toInt32 = (nI 115) := by decide +kernel
theorem cb_116 : (Int8.ofInt (116)).toInt32 = (nI 116) := by decide +kernel
theorem cb_117 : (Int8.ofInt (117)).toInt32 = (nI 117) := by decide +kernel
theorem cb_119 : (Int8.ofInt (119)).toInt32 = (nI 119) := by decide +kernel
theorem cb_122 : (Int8.ofInt (122)).toInt32 = (nI 122) := by decide +kernel
theorem cb_124 : (Int8.ofInt (124)).toInt32 = (nI 124) := by decide +kernel
theorem cs_m32768 : (Int16.ofInt (-32768)).toInt32 = (-32768) := by decide +kernel
theorem cs_150 : (Int16.ofInt (150)).toInt32 = (nI 150) := by decide +kernel
theorem cs_200 : (Int16.ofInt (200)).toInt32 = (nI 200) := by decide +kernel
theorem cs_255 : (Int16.ofInt (255)).toInt32 = (nI 255) := by decide +kernel
theorem cs_256 : (Int16.ofInt (256)).toInt32 = (nI 256) := by decide +kernel
theorem cs_370 : (Int16.ofInt (370)).toInt32 = (nI 370) := by decide +kernel
theorem cs_850 : (Int16.ofInt (850)).toInt32 = (nI 850) := by decide +kernel
theorem cs_999 : (Int16.ofInt (999)).toInt32 = (nI 999) := by decide +kernel
theorem cs_1000 : (Int16.ofInt (1000)).toInt32 = (nI 1000) := by decide +kernel
theorem cs_3250 : (Int16.ofInt (3250)).toInt32 = (nI 3250) := by decide +kernel
theorem cs_3300 : (Int16.ofInt (3300)).toInt32 = (nI 3300) := by decide +kernel
theorem cs_3350 : (Int16.ofInt (3350)).toInt32 = (nI 3350) := by decide +kernel
theorem cs_3380 : (Int16.ofInt (3380)).toInt32 = (nI 3380) := by decide +kernel
theorem cs_3580 : (Int16.ofInt (3580)).toInt32 = (nI 3580) := by decide +kernel
theorem cs_6999 : (Int16.ofInt (6999)).toInt32 = (nI 6999) := by decide +kernel
theorem cs_9999 : (Int16.ofInt (9999)).toInt32 = (nI 9999) := by decide +kernel
theorem cs_10000 : (Int16.ofInt (10000)).toInt32 = (nI 10000) := by decide +kernel
theorem cs_20000 : (Int16.ofInt (20000)).toInt32 = (nI 20000) := by decide +kernel
theorem lc_0 : Int64.ofNat ((0 : Fin 2) : Nat) = (0 : Int64) := by decide +kernel
theorem lc_1 : Int64.ofNat ((1 : Fin 2) : Nat) = (1 : Int64) := by decide +kernel
theorem nz_3 : ¬ (nI 3) = (0 : Int32) := by decide +kernel
theorem nz_4 : ¬ (nI 4) = (0 : Int32) := by decide +kernel
theorem nz_7 : ¬ (nI 7) = (0 : Int32) := by decide +kernel
theorem nz_12 : ¬ (nI 12) = (0 : Int32) := by decide +kernel
theorem nz_100 : ¬ (nI 100) = (0 : Int32) := by decide +kernel
theorem nzl_100 : ¬ (100 : Int64) = 0 := by decide +kernel
theorem bz_0 : narrow .boolean (.int (nI 0)) = .int (nI 0) ∧ fits .boolean (.int (nI 0)) = true := by decide +kernel
theorem bz_1 : narrow .boolean (.int (nI 1)) = .int (nI 1) ∧ fits .boolean (.int (nI 1)) = true := by decide +kernel
theorem ly_0_0 {X : qX} (hX : q_Lay X) {b : Nat} (hk : q_kd X b = some (2, 3)) : X.1 b 0 = some (b + 1) ∧ q_kd X (b + 1) = some (0, 8) := q_lay_at hX (c := 0) 0 (by decide +kernel) hk
theorem ly_0_1 {X : qX} (hX : q_Lay X) {b : Nat} (hk : q_kd X b = some (2, 3)) : X.1 b 1 = some (b + 2) ∧ q_kd X (b + 2) = some (0, 8) := q_lay_at hX (c := 0) 1 (by decide +kernel) hk
theorem ly_0_2 {X : qX} (hX : q_Lay X) {b : Nat} (hk : q_kd X b = some (2, 3)) : X.1 b 2 = some (b + 3) ∧ q_kd X (b + 3) = some (0, 240) := q_lay_at hX (c := 0) 2 (by decide +kernel) hk
theorem ly_1_0 {X : qX} (hX : q_Lay X) {b : Nat} (hk : q_kd X b = some (3, 9)) : X.1 b 0 = some (b + 1) ∧ q_kd X (b + 1) = some (0, 60) := q_lay_at hX (c := 1) 3 (by decide +kernel) hk
theorem ly_1_1 {X : qX} (hX : q_Lay X) {b : Nat} (hk : q_kd X b = some (3, 9)) : X.1 b 1 = some (b + 2) ∧ q_kd X (b + 2) = some (0, 60) := q_lay_at hX (c := 1) 4 (by decide +kernel) hk
theorem ly_1_2 {X : qX} (hX : q_Lay X) {b : Nat} (hk : q_kd X b = some (3, 9)) : X.1 b 2 = some (b + 3) ∧ q_kd X (b + 3) = some (0, 60) := q_lay_at hX (c := 1) 5 (by decide +kernel) hk
theorem ly_1_3 {X : qX} (hX : q_Lay X) {b : Nat} (hk : q_kd X b = some (3, 9)) : X.1 b 3 = some (b + 4) ∧ q_kd X (b + 4) = some (0, 60) := q_lay_at hX (c := 1) 6 (by decide +kernel) hk
theorem ly_1_4 {X : qX} (hX : q_Lay X) {b : Nat} (hk : q_kd X b = some (3, 9)) : X.1 b 4 = some (b + 5) ∧ q_kd X (b + 5) = some (0, 60) := q_lay_at hX (c := 1) 7 (by decide +kernel) hk
theorem ly_1_5 {X : qX} (hX : q_Lay X) {b : Nat} (hk : q_kd X b = some (3, 9)) : X.1 b 5 = some (b + 6) ∧ q_kd X (b + 6) = some (0, 60) := q_lay_at hX (c := 1) 8 (by decide +kernel) hk
theorem ly_1_6 {X : qX} (hX : q_Lay X) {b : Nat} (hk : q_kd X b = some (3, 9)) : X.1 b 6 = some (b + 7) ∧ q_kd X (b + 7) = some (0, 60) := q_lay_at hX (c := 1) 9 (by decide +kernel) hk
theorem ly_1_7 {X : qX} (hX : q_Lay X) {b : Nat} (hk : q_kd X b = some (3, 9)) : X.1 b 7 = some (b + 8) ∧ q_kd X (b + 8) = some (0, 60) := q_lay_at hX (c := 1) 10 (by decide +kernel) hk
theorem ly_2_0 {X : qX} (hX : q_Lay X) {b : Nat} (hk : q_kd X b = some (4, 15)) : X.1 b 0 = some (b + 1) ∧ q_kd X (b + 1) = some (0, 12) := q_lay_at hX (c := 2) 11 (by decide +kernel) hk
theorem ly_2_1 {X : qX} (hX : q_Lay X) {b : Nat} (hk : q_kd X b = some (4, 15)) : X.1 b 1 = some (b + 2) ∧ q_kd X (b + 2) = some (0, 12) := q_lay_at hX (c := 2) 12 (by decide +kernel) hk
theorem ly_2_2 {X : qX} (hX : q_Lay X) {b : Nat} (hk : q_kd X b = some (4, 15)) : X.1 b 2 = some (b + 3) ∧ q_kd X (b + 3) = some (0, 12) := q_lay_at hX (c := 2) 13 (by decide +kernel) hk
theorem ly_2_3 {X : qX} (hX : q_Lay X) {b : Nat} (hk : q_kd X b = some (4, 15)) : X.1 b 3 = some (b + 4) ∧ q_kd X (b + 4) = some (0, 12) := q_lay_at hX (c := 2) 14 (by decide +kernel) hk
theorem ly_2_4 {X : qX} (hX : q_Lay X) {b : Nat} (hk : q_kd X b = some (4, 15)) : X.1 b 4 = some (b + 5) ∧ q_kd X (b + 5) = some (0, 12) := q_lay_at hX (c := 2) 15 (by decide +kernel) hk
theorem ly_2_5 {X : qX} (hX : q_Lay X) {b : Nat} (hk : q_kd X b = some (4, 15)) : X.1 b 5 = some (b + 6) ∧ q_kd X (b + 6) = some (0, 12) := q_lay_at hX (c := 2) 16 (by decide +kernel) hk
theorem ly_2_6 {X : qX} (hX : q_Lay X) {b : Nat} (hk : q_kd X b = some (4, 15)) : X.1 b 6 = some (b + 7) ∧ q_kd X (b + 7) = some (0, 12) := q_lay_at hX (c := 2) 17 (by decide +kernel) hk
theorem ly_2_7 {X : qX} (hX : q_Lay X) {b : Nat} (hk : q_kd X b = some (4, 15)) : X.1 b 7 = some (b + 8) ∧ q_kd X (b + 8) = some (0, 12) := q_lay_at hX (c := 2) 18 (by decide +kernel) hk
theorem ly_2_8 {X : qX} (hX : q_Lay X) {b : Nat} (hk : q_kd X b = some (4, 15)) : X.1 b 8 = some (b + 9) ∧ q_kd X (b + 9) = some (0, 12) := q_lay_at hX (c := 2) 19 (by decide +kernel) hk
theorem ly_2_9 {X : qX} (hX : q_Lay X) {b : Nat} (hk : q_kd X b = some (4, 15)) : X.1 b 9 = some (b + 10) ∧ q_kd X (b + 10) = some (0, 12) := q_lay_at hX (c := 2) 20 (by decide +kernel) hk
theorem ly_2_10 {X : qX} (hX : q_Lay X) {b : Nat} (hk : q_kd X b = some (4, 15)) : X.1 b 10 = some (b + 11) ∧ q_kd X (b + 11) = some (0, 12) := q_lay_at hX (c := 2) 21 (by decide +kernel) hk
theorem ly_2_11 {X : qX} (hX : q_Lay X) {b : Nat} (hk : q_kd X b = some (4, 15)) : X.1 b 11 = some (b + 12) ∧ q_kd X (b + 12) = some (0, 12) := q_lay_at hX (c := 2) 22 (by decide +kernel) hk
theorem ly_2_12 {X : qX} (hX : q_Lay X) {b : Nat} (hk : q_kd X b = some (4, 15)) : X.1 b 12 = some (b + 13) ∧ q_kd X (b + 13) = some (0, 72) := q_lay_at hX (c := 2) 23 (by decide +kernel) hk
theorem ly_2_13 {X : qX} (hX : q_Lay X) {b : Nat} (hk : q_kd X b = some (4, 15)) : X.1 b 13 = some (b + 14) ∧ q_kd X (b + 14) = some (0, 72) := q_lay_at hX (c := 2) 24 (by decide +kernel) hk
theorem ly_3_0 {X : qX} (hX : q_Lay X) {b : Nat} (hk : q_kd X b = some (5, 5)) : X.1 b 0 = some (b + 1) ∧ q_kd X (b + 1) = some (0, 8) := q_lay_at hX (c := 3) 25 (by decide +kernel) hk
theorem ly_3_1 {X : qX} (hX : q_Lay X) {b : Nat} (hk : q_kd X b = some (5, 5)) : X.1 b 1 = some (b + 2) ∧ q_kd X (b + 2) = some (0, 8) := q_lay_at hX (c := 3) 26 (by decide +kernel) hk
theorem ly_3_2 {X : qX} (hX : q_Lay X) {b : Nat} (hk : q_kd X b = some (5, 5)) : X.1 b 2 = some (b + 3) ∧ q_kd X (b + 3) = some (0, 8) := q_lay_at hX (c := 3) 27 (by decide +kernel) hk
theorem ly_3_3 {X : qX} (hX : q_Lay X) {b : Nat} (hk : q_kd X b = some (5, 5)) : X.1 b 3 = some (b + 4) ∧ q_kd X (b + 4) = some (0, 8) := q_lay_at hX (c := 3) 28 (by decide +kernel) hk
theorem ly_3_4 {X : qX} (hX : q_Lay X) {b : Nat} (hk : q_kd X b = some (5, 5)) : X.1 b 4 = some (b + 5) ∧ q_kd X (b + 5) = some (0, 8) := q_lay_at hX (c := 3) 29 (by decide +kernel) hk
theorem ly_4_0 {X : qX} (hX : q_Lay X) {b : Nat} (hk : q_kd X b = some (6, 10)) : X.1 b 0 = some (b + 1) ∧ q_kd X (b + 1) = some (0, 8) := q_lay_at hX (c := 4) 30 (by decide +kernel) hk
theorem ly_4_1 {X : qX} (hX : q_Lay X) {b : Nat} (hk : q_kd X b = some (6, 10)) : X.1 b 1 = some (b + 2) ∧ q_kd X (b + 2) = some (0, 8) := q_lay_at hX (c := 4) 31 (by decide +kernel) hk
theorem ly_4_2 {X : qX} (hX : q_Lay X) {b : Nat} (hk : q_kd X b = some (6, 10)) : X.1 b 2 = some (b + 3) ∧ q_kd X (b + 3) = some (0, 8) := q_lay_at hX (c := 4) 32 (by decide +kernel) hk
theorem ly_4_3 {X : qX} (hX : q_Lay X) {b : Nat} (hk : q_kd X b = some (6, 10)) : X.1 b 3 = some (b + 4) ∧ q_kd X (b + 4) = some (0, 8) := q_lay_at hX (c := 4) 33 (by decide +kernel) hk
theorem ly_4_4 {X : qX} (hX : q_Lay X) {b : Nat} (hk : q_kd X b = some (6, 10)) : X.1 b 4 = some (b + 5) ∧ q_kd X (b + 5) = some (0, 8) := q_lay_at hX (c := 4) 34 (by decide +kernel) hk
theorem ly_4_5 {X : qX} (hX : q_Lay X) {b : Nat} (hk : q_kd X b = some (6, 10)) : X.1 b 5 = some (b + 6) ∧ q_kd X (b + 6) = some (0, 8) := q_lay_at hX (c := 4) 35 (by decide +kernel) hk
theorem ly_4_6 {X : qX} (hX : q_Lay X) {b : Nat} (hk : q_kd X b = some (6, 10)) : X.1 b 6 = some (b + 7) ∧ q_kd X (b + 7) = some (0, 8) := q_lay_at hX (c := 4) 36 (by decide +kernel) hk
theorem ly_5_0 {X : qX} (hX : q_Lay X) {b : Nat} (hk : q_kd X b = some (7, 9)) : X.1 b 0 = some (b + 1) ∧ q_kd X (b + 1) = some (0, 96) := q_lay_at hX (c := 5) 37 (by decide +kernel) hk
theorem ly_5_1 {X : qX} (hX : q_Lay X) {b : Nat} (hk : q_kd X b = some (7, 9)) : X.1 b 1 = some (b + 2) ∧ q_kd X (b + 2) = some (0, 96) := q_lay_at hX (c := 5) 38 (by decide +kernel) hk
theorem ly_6_0 {X : qX} (hX : q_Lay X) {b : Nat} (hk : q_kd X b = some (8, 9)) : X.1 b 0 = some (b + 1) ∧ q_kd X (b + 1) = some (0, 16) := q_lay_at hX (c := 6) 39 (by decide +kernel) hk
theorem ly_6_1 {X : qX} (hX : q_Lay X) {b : Nat} (hk : q_kd X b = some (8, 9)) : X.1 b 1 = some (b + 2) ∧ q_kd X (b + 2) = some (0, 16) := q_lay_at hX (c := 6) 40 (by decide +kernel) hk
theorem ly_6_2 {X : qX} (hX : q_Lay X) {b : Nat} (hk : q_kd X b = some (8, 9)) : X.1 b 2 = some (b + 3) ∧ q_kd X (b + 3) = some (0, 16) := q_lay_at hX (c := 6) 41 (by decide +kernel) hk
theorem ly_6_3 {X : qX} (hX : q_Lay X) {b : Nat} (hk : q_kd X b = some (8, 9)) : X.1 b 3 = some (b + 4) ∧ q_kd X (b + 4) = some (0, 28) := q_lay_at hX (c := 6) 42 (by decide +kernel) hk
theorem ly_6_4 {X : qX} (hX : q_Lay X) {b : Nat} (hk : q_kd X b = some (8, 9)) : X.1 b 4 = some (b + 5) ∧ q_kd X (b + 5) = some (0, 8) := q_lay_at hX (c := 6) 43 (by decide +kernel) hk
theorem ly_6_5 {X : qX} (hX : q_Lay X) {b : Nat} (hk : q_kd X b = some (8, 9)) : X.1 b 5 = some (b + 6) ∧ q_kd X (b + 6) = some (0, 7) := q_lay_at hX (c := 6) 44 (by decide +kernel) hk
theorem ly_6_6 {X : qX} (hX : q_Lay X) {b : Nat} (hk : q_kd X b = some (8, 9)) : X.1 b 6 = some (b + 7) ∧ q_kd X (b + 7) = some (0, 7) := q_lay_at hX (c := 6) 45 (by decide +kernel) hk
theorem ly_7_0 {X : qX} (hX : q_Lay X) {b : Nat} (hk : q_kd X b = some (9, 6)) : X.1 b 0 = some (b + 1) ∧ q_kd X (b + 1) = some (0, 12) := q_lay_at hX (c := 7) 46 (by decide +kernel) hk
theorem ly_7_1 {X : qX} (hX : q_Lay X) {b : Nat} (hk : q_kd X b = some (9, 6)) : X.1 b 1 = some (b + 2) ∧ q_kd X (b + 2) = some (0, 12) := q_lay_at hX (c := 7) 47 (by decide +kernel) hk
theorem ly_7_2 {X : qX} (hX : q_Lay X) {b : Nat} (hk : q_kd X b = some (9, 6)) : X.1 b 2 = some (b + 3) ∧ q_kd X (b + 3) = some (0, 12) := q_lay_at hX (c := 7) 48 (by decide +kernel) hk
theorem ly_7_3 {X : qX} (hX : q_Lay X) {b : Nat} (hk : q_kd X b = some (9, 6)) : X.1 b 3 = some (b + 4) ∧ q_kd X (b + 4) = some (1, 12) := q_lay_at hX (c := 7) 49 (by decide +kernel) hk
theorem ly_7_4 {X : qX} (hX : q_Lay X) {b : Nat} (hk : q_kd X b = some (9, 6)) : X.1 b 4 = some (b + 5) ∧ q_kd X (b + 5) = some (0, 96) := q_lay_at hX (c := 7) 50 (by decide +kernel) hk
theorem ly_8_0 {X : qX} (hX : q_Lay X) {b : Nat} (hk : q_kd X b = some (10, 5)) : X.1 b 0 = some (b + 1) ∧ q_kd X (b + 1) = some (0, 6) := q_lay_at hX (c := 8) 51 (by decide +kernel) hk
theorem ly_8_1 {X : qX} (hX : q_Lay X) {b : Nat} (hk : q_kd X b = some (10, 5)) : X.1 b 1 = some (b + 2) ∧ q_kd X (b + 2) = some (0, 6) := q_lay_at hX (c := 8) 52 (by decide +kernel) hk
theorem ly_8_2 {X : qX} (hX : q_Lay X) {b : Nat} (hk : q_kd X b = some (10, 5)) : X.1 b 2 = some (b + 3) ∧ q_kd X (b + 3) = some (0, 6) := q_lay_at hX (c := 8) 53 (by decide +kernel) hk
theorem ly_8_3 {X : qX} (hX : q_Lay X) {b : Nat} (hk : q_kd X b = some (10, 5)) : X.1 b 3 = some (b + 4) ∧ q_kd X (b + 4) = some (0, 6) := q_lay_at hX (c := 8) 54 (by decide +kernel) hk
theorem ly_9_0 {X : qX} (hX : q_Lay X) {b : Nat} (hk : q_kd X b = some (11, 14)) : X.1 b 0 = some (b + 1) ∧ q_kd X (b + 1) = some (5, 5) := q_lay_at hX (c := 9) 55 (by decide +kernel) hk
theorem ly_9_1 {X : qX} (hX : q_Lay X) {b : Nat} (hk : q_kd X b = some (11, 14)) : X.1 b 1 = some (b + 7) ∧ q_kd X (b + 7) = some (10, 5) := q_lay_at hX (c := 9) 56 (by decide +kernel) hk
theorem ly_9_2 {X : qX} (hX : q_Lay X) {b : Nat} (hk : q_kd X b = some (11, 14)) : X.1 b 2 = some (b + 12) ∧ q_kd X (b + 12) = some (4, 15) := q_lay_at hX (c := 9) 57 (by decide +kernel) hk
theorem ly_9_3 {X : qX} (hX : q_Lay X) {b : Nat} (hk : q_kd X b = some (11, 14)) : X.1 b 3 = some (b + 27) ∧ q_kd X (b + 27) = some (3, 9) := q_lay_at hX (c := 9) 58 (by decide +kernel) hk
theorem ly_9_4 {X : qX} (hX : q_Lay X) {b : Nat} (hk : q_kd X b = some (11, 14)) : X.1 b 4 = some (b + 36) ∧ q_kd X (b + 36) = some (9, 6) := q_lay_at hX (c := 9) 59 (by decide +kernel) hk
theorem ly_9_5 {X : qX} (hX : q_Lay X) {b : Nat} (hk : q_kd X b = some (11, 14)) : X.1 b 5 = some (b + 42) ∧ q_kd X (b + 42) = some (12, 1) := q_lay_at hX (c := 9) 60 (by decide +kernel) hk
theorem ly_9_6 {X : qX} (hX : q_Lay X) {b : Nat} (hk : q_kd X b = some (11, 14)) : X.1 b 6 = some (b + 44) ∧ q_kd X (b + 44) = some (8, 9) := q_lay_at hX (c := 9) 61 (by decide +kernel) hk
theorem ly_9_7 {X : qX} (hX : q_Lay X) {b : Nat} (hk : q_kd X b = some (11, 14)) : X.1 b 7 = some (b + 52) ∧ q_kd X (b + 52) = some (6, 10) := q_lay_at hX (c := 9) 62 (by decide +kernel) hk
theorem ly_9_8 {X : qX} (hX : q_Lay X) {b : Nat} (hk : q_kd X b = some (11, 14)) : X.1 b 8 = some (b + 60) ∧ q_kd X (b + 60) = some (0, 3) := q_lay_at hX (c := 9) 63 (by decide +kernel) hk
theorem ly_9_9 {X : qX} (hX : q_Lay X) {b : Nat} (hk : q_kd X b = some (11, 14)) : X.1 b 9 = some (b + 61) ∧ q_kd X (b + 61) = some (0, 7) := q_lay_at hX (c := 9) 64 (by decide +kernel) hk
theorem ly_9_10 {X : qX} (hX : q_Lay X) {b : Nat} (hk : q_kd X b = some (11, 14)) : X.1 b 10 = some (b + 62) ∧ q_kd X (b + 62) = some (0, 8) := q_lay_at hX (c := 9) 65 (by decide +kernel) hk
theorem ly_9_11 {X : qX} (hX : q_Lay X) {b : Nat} (hk : q_kd X b = some (11, 14)) : X.1 b 11 = some (b + 63) ∧ q_kd X (b + 63) = some (0, 8) := q_lay_at hX (c := 9) 66 (by decide +kernel) hk
theorem ly_9_12 {X : qX} (hX : q_Lay X) {b : Nat} (hk : q_kd X b = some (11, 14)) : X.1 b 12 = some (b + 64) ∧ q_kd X (b + 64) = some (0, 8) := q_lay_at hX (c := 9) 67 (by decide +kernel) hk
theorem ly_10_0 {X : qX} (hX : q_Lay X) {b : Nat} (hk : q_kd X b = some (12, 1)) : X.1 b 0 = some (b + 1) ∧ q_kd X (b + 1) = some (0, 48) := q_lay_at hX (c := 10) 68 (by decide +kernel) hk
theorem ly_11_0 {X : qX} (hX : q_Lay X) {b : Nat} (hk : q_kd X b = some (13, 9)) : X.1 b 0 = some (b + 1) ∧ q_kd X (b + 1) = some (11, 14) := q_lay_at hX (c := 11) 69 (by decide +kernel) hk
theorem ly_11_3 {X : qX} (hX : q_Lay X) {b : Nat} (hk : q_kd X b = some (13, 9)) : X.1 b 3 = some (b + 196) ∧ q_kd X (b + 196) = some (7, 9) := q_lay_at hX (c := 11) 72 (by decide +kernel) hk
theorem ly_11_4 {X : qX} (hX : q_Lay X) {b : Nat} (hk : q_kd X b = some (13, 9)) : X.1 b 4 = some (b + 199) ∧ q_kd X (b + 199) = some (2, 3) := q_lay_at hX (c := 11) 73 (by decide +kernel) hk
theorem ly_11_5 {X : qX} (hX : q_Lay X) {b : Nat} (hk : q_kd X b = some (13, 9)) : X.1 b 5 = some (b + 203) ∧ q_kd X (b + 203) = some (0, 60) := q_lay_at hX (c := 11) 74 (by decide +kernel) hk
theorem ly_11_6 {X : qX} (hX : q_Lay X) {b : Nat} (hk : q_kd X b = some (13, 9)) : X.1 b 6 = some (b + 204) ∧ q_kd X (b + 204) = some (0, 60) := q_lay_at hX (c := 11) 75 (by decide +kernel) hk
theorem ly_12_0 {X : qX} (hX : q_Lay X) {b : Nat} (hk : q_kd X b = some (14, 42)) : X.1 b 0 = some (b + 1) ∧ q_kd X (b + 1) = some (0, 3580) := q_lay_at hX (c := 12) 76 (by decide +kernel) hk
theorem ly_12_1 {X : qX} (hX : q_Lay X) {b : Nat} (hk : q_kd X b = some (14, 42)) : X.1 b 1 = some (b + 2) ∧ q_kd X (b + 2) = some (0, 3580) := q_lay_at hX (c := 12) 77 (by decide +kernel) hk
theorem ly_12_2 {X : qX} (hX : q_Lay X) {b : Nat} (hk : q_kd X b = some (14, 42)) : X.1 b 2 = some (b + 3) ∧ q_kd X (b + 3) = some (0, 3580) := q_lay_at hX (c := 12) 78 (by decide +kernel) hk
theorem ly_12_4 {X : qX} (hX : q_Lay X) {b : Nat} (hk : q_kd X b = some (14, 42)) : X.1 b 4 = some (b + 4) ∧ q_kd X (b + 4) = some (0, 8) := q_lay_at hX (c := 12) 79 (by decide +kernel) hk
theorem ly_12_5 {X : qX} (hX : q_Lay X) {b : Nat} (hk : q_kd X b = some (14, 42)) : X.1 b 5 = some (b + 5) ∧ q_kd X (b + 5) = some (0, 8) := q_lay_at hX (c := 12) 80 (by decide +kernel) hk
theorem ly_12_6 {X : qX} (hX : q_Lay X) {b : Nat} (hk : q_kd X b = some (14, 42)) : X.1 b 6 = some (b + 6) ∧ q_kd X (b + 6) = some (0, 240) := q_lay_at hX (c := 12) 81 (by decide +kernel) hk
theorem ly_12_13 {X : qX} (hX : q_Lay X) {b : Nat} (hk : q_kd X b = some (14, 42)) : X.1 b 13 = some (b + 7) ∧ q_kd X (b + 7) = some (0, 96) := q_lay_at hX (c := 12) 82 (by decide +kernel) hk
theorem ly_12_26 {X : qX} (hX : q_Lay X) {b : Nat} (hk : q_kd X b = some (14, 42)) : X.1 b 26 = some (b + 8) ∧ q_kd X (b + 8) = some (0, 128) := q_lay_at hX (c := 12) 83 (by decide +kernel) hk
theorem ly_12_27 {X : qX} (hX : q_Lay X) {b : Nat} (hk : q_kd X b = some (14, 42)) : X.1 b 27 = some (b + 9) ∧ q_kd X (b + 9) = some (0, 100) := q_lay_at hX (c := 12) 84 (by decide +kernel) hk
theorem ly_12_28 {X : qX} (hX : q_Lay X) {b : Nat} (hk : q_kd X b = some (14, 42)) : X.1 b 28 = some (b + 10) ∧ q_kd X (b + 10) = some (0, 30) := q_lay_at hX (c := 12) 85 (by decide +kernel) hk
theorem ly_12_29 {X : qX} (hX : q_Lay X) {b : Nat} (hk : q_kd X b = some (14, 42)) : X.1 b 29 = some (b + 11) ∧ q_kd X (b + 11) = some (0, 28) := q_lay_at hX (c := 12) 86 (by decide +kernel) hk
theorem ly_12_31 {X : qX} (hX : q_Lay X) {b : Nat} (hk : q_kd X b = some (14, 42)) : X.1 b 31 = some (b + 12) ∧ q_kd X (b + 12) = some (0, 8) := q_lay_at hX (c := 12) 87 (by decide +kernel) hk
theorem ly_12_32 {X : qX} (hX : q_Lay X) {b : Nat} (hk : q_kd X b = some (14, 42)) : X.1 b 32 = some (b + 13) ∧ q_kd X (b + 13) = some (0, 8) := q_lay_at hX (c := 12) 88 (by decide +kernel) hk
theorem ly_12_33 {X : qX} (hX : q_Lay X) {b : Nat} (hk : q_kd X b = some (14, 42)) : X.1 b 33 = some (b + 14) ∧ q_kd X (b + 14) = some (0, 8) := q_lay_at hX (c := 12) 89 (by decide +kernel) hk
theorem ly_12_34 {X : qX} (hX : q_Lay X) {b : Nat} (hk : q_kd X b = some (14, 42)) : X.1 b 34 = some (b + 15) ∧ q_kd X (b + 15) = some (0, 8) := q_lay_at hX (c := 12) 90 (by decide +kernel) hk
theorem ly_12_38 {X : qX} (hX : q_Lay X) {b : Nat} (hk : q_kd X b = some (14, 42)) : X.1 b 38 = some (b + 16) ∧ q_kd X (b + 16) = some (0, 60) := q_lay_at hX (c := 12) 91 (by decide +kernel) hk
theorem ly_12_40 {X : qX} (hX : q_Lay X) {b : Nat} (hk : q_kd X b = some (14, 42)) : X.1 b 40 = some (b + 17) ∧ q_kd X (b + 17) = some (0, 60) := q_lay_at hX (c := 12) 92 (by decide +kernel) hk
theorem fl_X0_11 : q_fl RX0 11 0 3 0 true := ⟨_, _, rfl, by decide, (q_wt2 (i := 182) (by decide +kernel) rfl), rfl, rfl⟩
theorem fl_X0_17 : q_fl RX0 17 0 3 1 true := ⟨_, _, rfl, by decide, (q_wt2 (i := 184) (by decide +kernel) rfl), rfl, rfl⟩
theorem fl_X0_20 : q_fl RX0 20 0 3 2 true := ⟨_, _, rfl, by decide, (q_wt2 (i := 186) (by decide +kernel) rfl), rfl, rfl⟩
theorem fl_X1_11 : q_fl RX1 11 1 9 0 true := ⟨_, _, rfl, by decide, (q_wt1 (i := 170) (by decide +kernel) rfl), rfl, rfl⟩
theorem fl_X1_15 : q_fl RX1 15 1 9 1 true := ⟨_, _, rfl, by decide, (q_wt1 (i := 173) (by decide +kernel) rfl), rfl, rfl⟩
theorem fl_X1_18 : q_fl RX1 18 1 9 2 true := ⟨_, _, rfl, by decide, (q_wt1 (i := 175) (by decide +kernel) rfl), rfl, rfl⟩
theorem fl_X1_21 : q_fl RX1 21 1 9 3 true := ⟨_, _, rfl, by decide, (q_wt1 (i := 178) (by decide +kernel) rfl), rfl, rfl⟩
theorem fl_X1_24 : q_fl RX1 24 1 9 4 true := ⟨_, _, rfl, by decide, (q_wt1 (i := 180) (by decide +kernel) rfl), rfl, rfl⟩
theorem fl_X1_27 : q_fl RX1 27 1 9 5 true := ⟨_, _, rfl, by decide, (q_wt1 (i := 181) (by decide +kernel) rfl), rfl, rfl⟩
theorem fl_X1_30 : q_fl RX1 30 1 9 6 true := ⟨_, _, rfl, by decide, (q_wt1 (i := 184) (by decide +kernel) rfl), rfl, rfl⟩
theorem fl_X1_33 : q_fl RX1 33 1 9 7 true := ⟨_, _, rfl, by decide, (q_wt1 (i := 186) (by decide +kernel) rfl), rfl, rfl⟩
theorem fl_X1_36 : q_fl RX1 36 1 9 8 false := ⟨_, _, rfl, by decide, (q_wt1 (i := 187) (by decide +kernel) rfl), rfl, rfl⟩
theorem fs_X1_40 : Cond.fieldLink RX1 40 "TokenValley$Dues" "ABOVE" "[I" ∈ q_tbl := (q_wt3 (i := 233) (by decide +kernel) rfl)
theorem fl_X10_9 : q_fl RX10 9 10 1 0 true := ⟨_, _, rfl, by decide, (q_wt2 (i := 4) (by decide +kernel) rfl), rfl, rfl⟩
theorem fl_X11_10 : q_fl RX11 10 11 9 0 true := ⟨_, _, rfl, by decide, (q_wt2 (i := 195) (by decide +kernel) rfl), rfl, rfl⟩
theorem fl_X11_25 : q_fl RX11 25 11 9 3 true := ⟨_, _, rfl, by decide, (q_wt2 (i := 198) (by decide +kernel) rfl), rfl, rfl⟩
theorem fl_X11_32 : q_fl RX11 32 11 9 4 true := ⟨_, _, rfl, by decide, (q_wt2 (i := 199) (by decide +kernel) rfl), rfl, rfl⟩
theorem fl_X11_36 : q_fl RX11 36 11 9 5 true := ⟨_, _, rfl, by decide, (q_wt2 (i := 200) (by decide +kernel) rfl), rfl, rfl⟩
theorem fl_X11_40 : q_fl RX11 40 11 9 6 true := ⟨_, _, rfl, by decide, (q_wt2 (i := 201) (by decide +kernel) rfl), rfl, rfl⟩
theorem fl_X11_43 : q_fl RX11 43 11 9 7 false := ⟨_, _, rfl, by decide, (q_wt2 (i := 202) (by decide +kernel) rfl), rfl, rfl⟩
theorem fl_X11_58 : q_fl RX11 58 9 14 0 true := ⟨_, _, rfl, by decide, (q_wt2 (i := 86) (by decide +kernel) rfl), rfl, rfl⟩
theorem fl_X11_70 : q_fl RX11 70 9 14 2 true := ⟨_, _, rfl, by decide, (q_wt2 (i := 90) (by decide +kernel) rfl), rfl, rfl⟩
theorem fl_X11_87 : q_fl RX11 87 9 14 1 true := ⟨_, _, rfl, by decide, (q_wt2 (i := 88) (by decide +kernel) rfl), rfl, rfl⟩
theorem fl_X11_104 : q_fl RX11 104 2 15 14 false := ⟨_, _, rfl, by decide, (q_wt1 (i := 132) (by decide +kernel) rfl), rfl, rfl⟩
theorem fl_X11_107 : q_fl RX11 107 9 14 3 true := ⟨_, _, rfl, by decide, (q_wt2 (i := 92) (by decide +kernel) rfl), rfl, rfl⟩
theorem fl_X11_111 : q_fl RX11 111 1 9 8 false := ⟨_, _, rfl, by decide, (q_wt1 (i := 188) (by decide +kernel) rfl), rfl, rfl⟩
theorem fl_X11_142 : q_fl RX11 142 9 14 8 true := ⟨_, _, rfl, by decide, (q_wt2 (i := 102) (by decide +kernel) rfl), rfl, rfl⟩
theorem fl_X11_145 : q_fl RX11 145 9 14 13 false := ⟨_, _, rfl, by decide, (q_wt2 (i := 109) (by decide +kernel) rfl), rfl, rfl⟩
theorem fl_X11_161 : q_fl RX11 161 1 9 6 true := ⟨_, _, rfl, by decide, (q_wt1 (i := 185) (by decide +kernel) rfl), rfl, rfl⟩
theorem fl_X11_172 : q_fl RX11 172 1 9 0 true := ⟨_, _, rfl, by decide, (q_wt1 (i := 171) (by decide +kernel) rfl), rfl, rfl⟩
theorem fl_X11_176 : q_fl RX11 176 1 9 5 true := ⟨_, _, rfl, by decide, (q_wt1 (i := 182) (by decide +kernel) rfl), rfl, rfl⟩
theorem fl_X11_179 : q_fl RX11 179 1 9 2 true := ⟨_, _, rfl, by decide, (q_wt1 (i := 177) (by decide +kernel) rfl), rfl, rfl⟩
theorem fl_X11_182 : q_fl RX11 182 2 15 4 true := ⟨_, _, rfl, by decide, (q_wt1 (i := 111) (by decide +kernel) rfl), rfl, rfl⟩
theorem fl_X11_185 : q_fl RX11 185 2 15 5 true := ⟨_, _, rfl, by decide, (q_wt1 (i := 114) (by decide +kernel) rfl), rfl, rfl⟩
theorem fl_X11_200 : q_fl RX11 200 9 14 9 true := ⟨_, _, rfl, by decide, (q_wt2 (i := 104) (by decide +kernel) rfl), rfl, rfl⟩
theorem fl_X11_209 : q_fl RX11 209 3 5 4 true := ⟨_, _, rfl, by decide, (q_wt1 (i := 53) (by decide +kernel) rfl), rfl, rfl⟩
theorem fl_X11_212 : q_fl RX11 212 3 5 3 true := ⟨_, _, rfl, by decide, (q_wt1 (i := 50) (by decide +kernel) rfl), rfl, rfl⟩
theorem fl_X11_239 : q_fl RX11 239 2 15 9 true := ⟨_, _, rfl, by decide, (q_wt1 (i := 123) (by decide +kernel) rfl), rfl, rfl⟩
theorem fl_X11_242 : q_fl RX11 242 5 9 6 false := ⟨_, _, rfl, by decide, (q_wt2 (i := 152) (by decide +kernel) rfl), rfl, rfl⟩
theorem fl_X11_252 : q_fl RX11 252 9 14 4 true := ⟨_, _, rfl, by decide, (q_wt2 (i := 94) (by decide +kernel) rfl), rfl, rfl⟩
theorem fl_X11_284 : q_fl RX11 284 0 3 1 true := ⟨_, _, rfl, by decide, (q_wt2 (i := 185) (by decide +kernel) rfl), rfl, rfl⟩
theorem fl_X11_296 : q_fl RX11 296 0 3 2 true := ⟨_, _, rfl, by decide, (q_wt2 (i := 187) (by decide +kernel) rfl), rfl, rfl⟩
theorem fl_X11_307 : q_fl RX11 307 0 3 0 true := ⟨_, _, rfl, by decide, (q_wt2 (i := 183) (by decide +kernel) rfl), rfl, rfl⟩
theorem fl_X11_324 : q_fl RX11 324 9 14 5 true := ⟨_, _, rfl, by decide, (q_wt2 (i := 96) (by decide +kernel) rfl), rfl, rfl⟩
theorem fl_X11_328 : q_fl RX11 328 10 1 0 true := ⟨_, _, rfl, by decide, (q_wt2 (i := 5) (by decide +kernel) rfl), rfl, rfl⟩
theorem fl_X11_340 : q_fl RX11 340 7 6 0 true := ⟨_, _, rfl, by decide, (q_wt1 (i := 218) (by decide +kernel) rfl), rfl, rfl⟩
theorem fl_X11_350 : q_fl RX11 350 9 14 6 true := ⟨_, _, rfl, by decide, (q_wt2 (i := 98) (by decide +kernel) rfl), rfl, rfl⟩
theorem fl_X11_359 : q_fl RX11 359 6 9 6 true := ⟨_, _, rfl, by decide, (q_wt2 (i := 22) (by decide +kernel) rfl), rfl, rfl⟩
theorem fl_X11_374 : q_fl RX11 374 9 14 7 true := ⟨_, _, rfl, by decide, (q_wt2 (i := 100) (by decide +kernel) rfl), rfl, rfl⟩
theorem fl_X11_387 : q_fl RX11 387 4 10 9 false := ⟨_, _, rfl, by decide, (q_wt2 (i := 63) (by decide +kernel) rfl), rfl, rfl⟩
theorem fl_X11_388 : q_fl RX11 388 4 10 5 true := ⟨_, _, rfl, by decide, (q_wt2 (i := 57) (by decide +kernel) rfl), rfl, rfl⟩
theorem fl_X11_397 : q_fl RX11 397 4 10 6 true := ⟨_, _, rfl, by decide, (q_wt2 (i := 59) (by decide +kernel) rfl), rfl, rfl⟩
theorem fl_X11_406 : q_fl RX11 406 8 5 4 false := ⟨_, _, rfl, by decide, (q_wt1 (i := 82) (by decide +kernel) rfl), rfl, rfl⟩
theorem fl_X11_412 : q_fl RX11 412 7 6 5 false := ⟨_, _, rfl, by decide, (q_wt1 (i := 224) (by decide +kernel) rfl), rfl, rfl⟩
theorem fl_X11_413 : q_fl RX11 413 6 9 8 false := ⟨_, _, rfl, by decide, (q_wt2 (i := 25) (by decide +kernel) rfl), rfl, rfl⟩
theorem fl_X12_7 : q_fl RX12 7 12 42 0 true := ⟨_, _, rfl, by decide, (q_wt6 (i := 195) (by decide +kernel) rfl), rfl, rfl⟩
theorem fl_X12_13 : q_fl RX12 13 12 42 1 true := ⟨_, _, rfl, by decide, (q_wt6 (i := 196) (by decide +kernel) rfl), rfl, rfl⟩
theorem fl_X12_16 : q_fl RX12 16 12 42 2 true := ⟨_, _, rfl, by decide, (q_wt6 (i := 197) (by decide +kernel) rfl), rfl, rfl⟩
theorem fl_X12_19 : q_fl RX12 19 12 42 4 true := ⟨_, _, rfl, by decide, (q_wt6 (i := 199) (by decide +kernel) rfl), rfl, rfl⟩
theorem fl_X12_22 : q_fl RX12 22 12 42 5 true := ⟨_, _, rfl, by decide, (q_wt6 (i := 200) (by decide +kernel) rfl), rfl, rfl⟩
theorem fl_X12_25 : q_fl RX12 25 12 42 6 true := ⟨_, _, rfl, by decide, (q_wt6 (i := 201) (by decide +kernel) rfl), rfl, rfl⟩
theorem fl_X12_28 : q_fl RX12 28 12 42 13 true := ⟨_, _, rfl, by decide, (q_wt6 (i := 208) (by decide +kernel) rfl), rfl, rfl⟩
theorem fl_X12_31 : q_fl RX12 31 12 42 26 true := ⟨_, _, rfl, by decide, (q_wt6 (i := 221) (by decide +kernel) rfl), rfl, rfl⟩
theorem fl_X12_34 : q_fl RX12 34 12 42 27 true := ⟨_, _, rfl, by decide, (q_wt6 (i := 222) (by decide +kernel) rfl), rfl, rfl⟩
theorem fl_X12_37 : q_fl RX12 37 12 42 28 true := ⟨_, _, rfl, by decide, (q_wt6 (i := 223) (by decide +kernel) rfl), rfl, rfl⟩
theorem fl_X12_40 : q_fl RX12 40 12 42 29 true := ⟨_, _, rfl, by decide, (q_wt6 (i := 224) (by decide +kernel) rfl), rfl, rfl⟩
theorem fl_X12_43 : q_fl RX12 43 12 42 31 true := ⟨_, _, rfl, by decide, (q_wt6 (i := 226) (by decide +kernel) rfl), rfl, rfl⟩
theorem fl_X12_46 : q_fl RX12 46 12 42 32 true := ⟨_, _, rfl, by decide, (q_wt6 (i := 227) (by decide +kernel) rfl), rfl, rfl⟩
theorem fl_X12_49 : q_fl RX12 49 12 42 33 true := ⟨_, _, rfl, by decide, (q_wt6 (i := 228) (by decide +kernel) rfl), rfl, rfl⟩
theorem fl_X12_52 : q_fl RX12 52 12 42 34 true := ⟨_, _, rfl, by decide, (q_wt6 (i := 229) (by decide +kernel) rfl), rfl, rfl⟩
theorem fl_X12_55 : q_fl RX12 55 12 42 38 true := ⟨_, _, rfl, by decide, (q_wt6 (i := 233) (by decide +kernel) rfl), rfl, rfl⟩
theorem fl_X12_58 : q_fl RX12 58 12 42 40 true := ⟨_, _, rfl, by decide, (q_wt6 (i := 235) (by decide +kernel) rfl), rfl, rfl⟩
theorem fl_X12_156 : q_fl RX12 156 12 42 7 false := ⟨_, _, rfl, by decide, (q_wt6 (i := 202) (by decide +kernel) rfl), rfl, rfl⟩
theorem fl_X12_163 : q_fl RX12 163 12 42 9 false := ⟨_, _, rfl, by decide, (q_wt6 (i := 204) (by decide +kernel) rfl), rfl, rfl⟩
theorem fl_X12_166 : q_fl RX12 166 12 42 10 false := ⟨_, _, rfl, by decide, (q_wt6 (i := 205) (by decide +kernel) rfl), rfl, rfl⟩
theorem fl_X12_169 : q_fl RX12 169 12 42 11 false := ⟨_, _, rfl, by decide, (q_wt6 (i := 206) (by decide +kernel) rfl), rfl, rfl⟩
theorem fl_X12_172 : q_fl RX12 172 12 42 12 false := ⟨_, _, rfl, by decide, (q_wt6 (i := 207) (by decide +kernel) rfl), rfl, rfl⟩
theorem fl_X12_180 : q_fl RX12 180 12 42 8 false := ⟨_, _, rfl, by decide, (q_wt6 (i := 203) (by decide +kernel) rfl), rfl, rfl⟩
theorem fl_X12_215 : q_fl RX12 215 12 42 14 false := ⟨_, _, rfl, by decide, (q_wt6 (i := 209) (by decide +kernel) rfl), rfl, rfl⟩
theorem fl_X12_226 : q_fl RX12 226 12 42 16 false := ⟨_, _, rfl, by decide, (q_wt6 (i := 211) (by decide +kernel) rfl), rfl, rfl⟩
theorem fl_X12_229 : q_fl RX12 229 12 42 17 false := ⟨_, _, rfl, by decide, (q_wt6 (i := 212) (by decide +kernel) rfl), rfl, rfl⟩
theorem fl_X12_232 : q_fl RX12 232 12 42 15 false := ⟨_, _, rfl, by decide, (q_wt6 (i := 210) (by decide +kernel) rfl), rfl, rfl⟩
theorem fl_X12_238 : q_fl RX12 238 12 42 19 false := ⟨_, _, rfl, by decide, (q_wt6 (i := 214) (by decide +kernel) rfl), rfl, rfl⟩
theorem fl_X12_244 : q_fl RX12 244 12 42 18 false := ⟨_, _, rfl, by decide, (q_wt6 (i := 213) (by decide +kernel) rfl), rfl, rfl⟩
theorem fl_X12_251 : q_fl RX12 251 12 42 23 false := ⟨_, _, rfl, by decide, (q_wt6 (i := 218) (by decide +kernel) rfl), rfl, rfl⟩
theorem fl_X12_254 : q_fl RX12 254 12 42 22 false := ⟨_, _, rfl, by decide, (q_wt6 (i := 217) (by decide +kernel) rfl), rfl, rfl⟩
theorem fl_X12_281 : q_fl RX12 281 12 42 24 false := ⟨_, _, rfl, by decide, (q_wt6 (i := 219) (by decide +kernel) rfl), rfl, rfl⟩
theorem fl_X12_288 : q_fl RX12 288 12 42 21 false := ⟨_, _, rfl, by decide, (q_wt6 (i := 216) (by decide +kernel) rfl), rfl, rfl⟩
theorem fl_X12_291 : q_fl RX12 291 12 42 20 false := ⟨_, _, rfl, by decide, (q_wt6 (i := 215) (by decide +kernel) rfl), rfl, rfl⟩
theorem fl_X12_331 : q_fl RX12 331 12 42 25 false := ⟨_, _, rfl, by decide, (q_wt6 (i := 220) (by decide +kernel) rfl), rfl, rfl⟩
theorem fl_X12_395 : q_fl RX12 395 12 42 30 false := ⟨_, _, rfl, by decide, (q_wt6 (i := 225) (by decide +kernel) rfl), rfl, rfl⟩
theorem fl_X12_409 : q_fl RX12 409 12 42 35 false := ⟨_, _, rfl, by decide, (q_wt6 (i := 230) (by decide +kernel) rfl), rfl, rfl⟩
theorem fl_X12_412 : q_fl RX12 412 12 42 37 false := ⟨_, _, rfl, by decide, (q_wt6 (i := 232) (by decide +kernel) rfl), rfl, rfl⟩
theorem fl_X12_415 : q_fl RX12 415 12 42 36 false := ⟨_, _, rfl, by decide, (q_wt6 (i := 231) (by decide +kernel) rfl), rfl, rfl⟩
theorem fl_X12_431 : q_fl RX12 431 12 42 39 false := ⟨_, _, rfl, by decide, (q_wt6 (i := 234) (by decide +kernel) rfl), rfl, rfl⟩
theorem fl_X12_434 : q_fl RX12 434 12 42 41 false := ⟨_, _, rfl, by decide, (q_wt6 (i := 236) (by decide +kernel) rfl), rfl, rfl⟩
theorem fl_X12_442 : q_fl RX12 442 12 42 3 false := ⟨_, _, rfl, by decide, (q_wt6 (i := 198) (by decide +kernel) rfl), rfl, rfl⟩
theorem fl_X2_11 : q_fl RX2 11 2 15 0 true := ⟨_, _, rfl, by decide, (q_wt1 (i := 100) (by decide +kernel) rfl), rfl, rfl⟩
theorem fl_X2_15 : q_fl RX2 15 2 15 1 true := ⟨_, _, rfl, by decide, (q_wt1 (i := 102) (by decide +kernel) rfl), rfl, rfl⟩
theorem fl_X2_18 : q_fl RX2 18 2 15 2 true := ⟨_, _, rfl, by decide, (q_wt1 (i := 104) (by decide +kernel) rfl), rfl, rfl⟩
theorem fl_X2_21 : q_fl RX2 21 2 15 3 true := ⟨_, _, rfl, by decide, (q_wt1 (i := 106) (by decide +kernel) rfl), rfl, rfl⟩
theorem fl_X2_24 : q_fl RX2 24 2 15 4 true := ⟨_, _, rfl, by decide, (q_wt1 (i := 109) (by decide +kernel) rfl), rfl, rfl⟩
theorem fl_X2_27 : q_fl RX2 27 2 15 5 true := ⟨_, _, rfl, by decide, (q_wt1 (i := 112) (by decide +kernel) rfl), rfl, rfl⟩
theorem fl_X2_30 : q_fl RX2 30 2 15 6 true := ⟨_, _, rfl, by decide, (q_wt1 (i := 115) (by decide +kernel) rfl), rfl, rfl⟩
theorem fl_X2_33 : q_fl RX2 33 2 15 7 true := ⟨_, _, rfl, by decide, (q_wt1 (i := 117) (by decide +kernel) rfl), rfl, rfl⟩
theorem fl_X2_36 : q_fl RX2 36 2 15 8 true := ⟨_, _, rfl, by decide, (q_wt1 (i := 119) (by decide +kernel) rfl), rfl, rfl⟩
theorem fl_X2_39 : q_fl RX2 39 2 15 9 true := ⟨_, _, rfl, by decide, (q_wt1 (i := 121) (by decide +kernel) rfl), rfl, rfl⟩
theorem fl_X2_42 : q_fl RX2 42 2 15 10 true := ⟨_, _, rfl, by decide, (q_wt1 (i := 124) (by decide +kernel) rfl), rfl, rfl⟩
theorem fl_X2_45 : q_fl RX2 45 2 15 11 true := ⟨_, _, rfl, by decide, (q_wt1 (i := 126) (by decide +kernel) rfl), rfl, rfl⟩
theorem fl_X2_50 : q_fl RX2 50 2 15 12 true := ⟨_, _, rfl, by decide, (q_wt1 (i := 128) (by decide +kernel) rfl), rfl, rfl⟩
theorem fl_X2_53 : q_fl RX2 53 2 15 13 true := ⟨_, _, rfl, by decide, (q_wt1 (i := 129) (by decide +kernel) rfl), rfl, rfl⟩
theorem fl_X2_56 : q_fl RX2 56 2 15 14 false := ⟨_, _, rfl, by decide, (q_wt1 (i := 130) (by decide +kernel) rfl), rfl, rfl⟩
theorem fs_X2_60 : Cond.fieldLink RX2 60 "TokenValley$Men" "LEAST_V" "[I" ∈ q_tbl := (q_wt3 (i := 46) (by decide +kernel) rfl)
theorem fs_X2_63 : Cond.fieldLink RX2 63 "TokenValley$Men" "MOST_V" "[I" ∈ q_tbl := (q_wt3 (i := 48) (by decide +kernel) rfl)
theorem fl_X3_9 : q_fl RX3 9 3 5 0 true := ⟨_, _, rfl, by decide, (q_wt1 (i := 42) (by decide +kernel) rfl), rfl, rfl⟩
theorem fl_X3_13 : q_fl RX3 13 3 5 1 true := ⟨_, _, rfl, by decide, (q_wt1 (i := 44) (by decide +kernel) rfl), rfl, rfl⟩
theorem fl_X3_16 : q_fl RX3 16 3 5 2 true := ⟨_, _, rfl, by decide, (q_wt1 (i := 46) (by decide +kernel) rfl), rfl, rfl⟩
theorem fl_X3_19 : q_fl RX3 19 3 5 3 true := ⟨_, _, rfl, by decide, (q_wt1 (i := 48) (by decide +kernel) rfl), rfl, rfl⟩
theorem fl_X3_22 : q_fl RX3 22 3 5 4 true := ⟨_, _, rfl, by decide, (q_wt1 (i := 51) (by decide +kernel) rfl), rfl, rfl⟩
theorem fl_X4_11 : q_fl RX4 11 4 10 0 true := ⟨_, _, rfl, by decide, (q_wt2 (i := 51) (by decide +kernel) rfl), rfl, rfl⟩
theorem fl_X4_15 : q_fl RX4 15 4 10 1 true := ⟨_, _, rfl, by decide, (q_wt2 (i := 52) (by decide +kernel) rfl), rfl, rfl⟩
theorem fl_X4_18 : q_fl RX4 18 4 10 2 true := ⟨_, _, rfl, by decide, (q_wt2 (i := 53) (by decide +kernel) rfl), rfl, rfl⟩
theorem fl_X4_21 : q_fl RX4 21 4 10 3 true := ⟨_, _, rfl, by decide, (q_wt2 (i := 54) (by decide +kernel) rfl), rfl, rfl⟩
theorem fl_X4_24 : q_fl RX4 24 4 10 4 true := ⟨_, _, rfl, by decide, (q_wt2 (i := 55) (by decide +kernel) rfl), rfl, rfl⟩
theorem fl_X4_27 : q_fl RX4 27 4 10 5 true := ⟨_, _, rfl, by decide, (q_wt2 (i := 56) (by decide +kernel) rfl), rfl, rfl⟩
theorem fl_X4_30 : q_fl RX4 30 4 10 6 true := ⟨_, _, rfl, by decide, (q_wt2 (i := 58) (by decide +kernel) rfl), rfl, rfl⟩
theorem fl_X4_33 : q_fl RX4 33 4 10 9 false := ⟨_, _, rfl, by decide, (q_wt2 (i := 62) (by decide +kernel) rfl), rfl, rfl⟩
theorem fl_X4_44 : q_fl RX4 44 4 10 7 false := ⟨_, _, rfl, by decide, (q_wt2 (i := 60) (by decide +kernel) rfl), rfl, rfl⟩
theorem fl_X4_47 : q_fl RX4 47 4 10 8 false := ⟨_, _, rfl, by decide, (q_wt2 (i := 61) (by decide +kernel) rfl), rfl, rfl⟩
theorem fl_X5_9 : q_fl RX5 9 5 9 0 true := ⟨_, _, rfl, by decide, (q_wt2 (i := 145) (by decide +kernel) rfl), rfl, rfl⟩
theorem fl_X5_13 : q_fl RX5 13 5 9 1 true := ⟨_, _, rfl, by decide, (q_wt2 (i := 146) (by decide +kernel) rfl), rfl, rfl⟩
theorem fl_X5_16 : q_fl RX5 16 5 9 6 false := ⟨_, _, rfl, by decide, (q_wt2 (i := 151) (by decide +kernel) rfl), rfl, rfl⟩
theorem fl_X5_20 : q_fl RX5 20 5 9 2 false := ⟨_, _, rfl, by decide, (q_wt2 (i := 147) (by decide +kernel) rfl), rfl, rfl⟩
theorem fl_X5_29 : q_fl RX5 29 5 9 8 false := ⟨_, _, rfl, by decide, (q_wt2 (i := 155) (by decide +kernel) rfl), rfl, rfl⟩
theorem fl_X5_32 : q_fl RX5 32 5 9 3 false := ⟨_, _, rfl, by decide, (q_wt2 (i := 148) (by decide +kernel) rfl), rfl, rfl⟩
theorem fl_X5_35 : q_fl RX5 35 5 9 5 false := ⟨_, _, rfl, by decide, (q_wt2 (i := 150) (by decide +kernel) rfl), rfl, rfl⟩
theorem fl_X5_48 : q_fl RX5 48 5 9 4 false := ⟨_, _, rfl, by decide, (q_wt2 (i := 149) (by decide +kernel) rfl), rfl, rfl⟩
theorem fl_X6_11 : q_fl RX6 11 6 9 0 true := ⟨_, _, rfl, by decide, (q_wt2 (i := 15) (by decide +kernel) rfl), rfl, rfl⟩
theorem fl_X6_15 : q_fl RX6 15 6 9 1 true := ⟨_, _, rfl, by decide, (q_wt2 (i := 16) (by decide +kernel) rfl), rfl, rfl⟩
theorem fl_X6_18 : q_fl RX6 18 6 9 2 true := ⟨_, _, rfl, by decide, (q_wt2 (i := 17) (by decide +kernel) rfl), rfl, rfl⟩
theorem fl_X6_21 : q_fl RX6 21 6 9 3 true := ⟨_, _, rfl, by decide, (q_wt2 (i := 18) (by decide +kernel) rfl), rfl, rfl⟩
theorem fl_X6_24 : q_fl RX6 24 6 9 4 true := ⟨_, _, rfl, by decide, (q_wt2 (i := 19) (by decide +kernel) rfl), rfl, rfl⟩
theorem fl_X6_27 : q_fl RX6 27 6 9 5 true := ⟨_, _, rfl, by decide, (q_wt2 (i := 20) (by decide +kernel) rfl), rfl, rfl⟩
theorem fl_X6_30 : q_fl RX6 30 6 9 6 true := ⟨_, _, rfl, by decide, (q_wt2 (i := 21) (by decide +kernel) rfl), rfl, rfl⟩
theorem fl_X6_33 : q_fl RX6 33 6 9 8 false := ⟨_, _, rfl, by decide, (q_wt2 (i := 24) (by decide +kernel) rfl), rfl, rfl⟩
theorem fl_X6_44 : q_fl RX6 44 6 9 7 false := ⟨_, _, rfl, by decide, (q_wt2 (i := 23) (by decide +kernel) rfl), rfl, rfl⟩
theorem fl_X7_11 : q_fl RX7 11 7 6 0 true := ⟨_, _, rfl, by decide, (q_wt1 (i := 217) (by decide +kernel) rfl), rfl, rfl⟩
theorem fl_X7_15 : q_fl RX7 15 7 6 1 true := ⟨_, _, rfl, by decide, (q_wt1 (i := 219) (by decide +kernel) rfl), rfl, rfl⟩
theorem fl_X7_18 : q_fl RX7 18 7 6 2 true := ⟨_, _, rfl, by decide, (q_wt1 (i := 220) (by decide +kernel) rfl), rfl, rfl⟩
theorem fl_X7_22 : q_fl RX7 22 7 6 3 true := ⟨_, _, rfl, by decide, (q_wt1 (i := 221) (by decide +kernel) rfl), rfl, rfl⟩
theorem fl_X7_28 : q_fl RX7 28 7 6 4 true := ⟨_, _, rfl, by decide, (q_wt1 (i := 222) (by decide +kernel) rfl), rfl, rfl⟩
theorem fl_X7_31 : q_fl RX7 31 7 6 5 false := ⟨_, _, rfl, by decide, (q_wt1 (i := 223) (by decide +kernel) rfl), rfl, rfl⟩
theorem fl_X8_11 : q_fl RX8 11 8 5 0 true := ⟨_, _, rfl, by decide, (q_wt1 (i := 72) (by decide +kernel) rfl), rfl, rfl⟩
theorem fl_X8_15 : q_fl RX8 15 8 5 1 true := ⟨_, _, rfl, by decide, (q_wt1 (i := 74) (by decide +kernel) rfl), rfl, rfl⟩
theorem fl_X8_18 : q_fl RX8 18 8 5 2 true := ⟨_, _, rfl, by decide, (q_wt1 (i := 76) (by decide +kernel) rfl), rfl, rfl⟩
theorem fl_X8_21 : q_fl RX8 21 8 5 3 true := ⟨_, _, rfl, by decide, (q_wt1 (i := 78) (by decide +kernel) rfl), rfl, rfl⟩
theorem fl_X8_24 : q_fl RX8 24 8 5 4 false := ⟨_, _, rfl, by decide, (q_wt1 (i := 80) (by decide +kernel) rfl), rfl, rfl⟩
theorem fl_X9_12 : q_fl RX9 12 9 14 0 true := ⟨_, _, rfl, by decide, (q_wt2 (i := 85) (by decide +kernel) rfl), rfl, rfl⟩
theorem fl_X9_21 : q_fl RX9 21 9 14 1 true := ⟨_, _, rfl, by decide, (q_wt2 (i := 87) (by decide +kernel) rfl), rfl, rfl⟩
theorem fl_X9_28 : q_fl RX9 28 9 14 2 true := ⟨_, _, rfl, by decide, (q_wt2 (i := 89) (by decide +kernel) rfl), rfl, rfl⟩
theorem fl_X9_35 : q_fl RX9 35 9 14 3 true := ⟨_, _, rfl, by decide, (q_wt2 (i := 91) (by decide +kernel) rfl), rfl, rfl⟩
theorem fl_X9_42 : q_fl RX9 42 9 14 4 true := ⟨_, _, rfl, by decide, (q_wt2 (i := 93) (by decide +kernel) rfl), rfl, rfl⟩
theorem fl_X9_67 : q_fl RX9 67 9 14 8 true := ⟨_, _, rfl, by decide, (q_wt2 (i := 101) (by decide +kernel) rfl), rfl, rfl⟩
theorem fl_X9_71 : q_fl RX9 71 9 14 9 true := ⟨_, _, rfl, by decide, (q_wt2 (i := 103) (by decide +kernel) rfl), rfl, rfl⟩
theorem fl_X9_74 : q_fl RX9 74 9 14 10 true := ⟨_, _, rfl, by decide, (q_wt2 (i := 105) (by decide +kernel) rfl), rfl, rfl⟩
theorem fl_X9_77 : q_fl RX9 77 9 14 11 true := ⟨_, _, rfl, by decide, (q_wt2 (i := 106) (by decide +kernel) rfl), rfl, rfl⟩
theorem fl_X9_80 : q_fl RX9 80 9 14 12 true := ⟨_, _, rfl, by decide, (q_wt2 (i := 107) (by decide +kernel) rfl), rfl, rfl⟩
theorem fl_X9_83 : q_fl RX9 83 9 14 13 false := ⟨_, _, rfl, by decide, (q_wt2 (i := 108) (by decide +kernel) rfl), rfl, rfl⟩
theorem fl_X9_122 : q_fl RX9 122 2 15 10 true := ⟨_, _, rfl, by decide, (q_wt1 (i := 125) (by decide +kernel) rfl), rfl, rfl⟩
theorem fl_X9_128 : q_fl RX9 128 2 15 11 true := ⟨_, _, rfl, by decide, (q_wt1 (i := 127) (by decide +kernel) rfl), rfl, rfl⟩
theorem fl_X9_131 : q_fl RX9 131 1 9 2 true := ⟨_, _, rfl, by decide, (q_wt1 (i := 176) (by decide +kernel) rfl), rfl, rfl⟩
theorem fl_X9_134 : q_fl RX9 134 2 15 14 false := ⟨_, _, rfl, by decide, (q_wt1 (i := 131) (by decide +kernel) rfl), rfl, rfl⟩
theorem fl_X9_144 : q_fl RX9 144 8 5 1 true := ⟨_, _, rfl, by decide, (q_wt1 (i := 75) (by decide +kernel) rfl), rfl, rfl⟩
theorem fl_X9_162 : q_fl RX9 162 8 5 4 false := ⟨_, _, rfl, by decide, (q_wt1 (i := 81) (by decide +kernel) rfl), rfl, rfl⟩
theorem fl_X9_170 : q_fl RX9 170 2 15 0 true := ⟨_, _, rfl, by decide, (q_wt1 (i := 101) (by decide +kernel) rfl), rfl, rfl⟩
theorem fl_X9_173 : q_fl RX9 173 2 15 1 true := ⟨_, _, rfl, by decide, (q_wt1 (i := 103) (by decide +kernel) rfl), rfl, rfl⟩
theorem fl_X9_176 : q_fl RX9 176 3 5 0 true := ⟨_, _, rfl, by decide, (q_wt1 (i := 43) (by decide +kernel) rfl), rfl, rfl⟩
theorem fl_X9_179 : q_fl RX9 179 3 5 1 true := ⟨_, _, rfl, by decide, (q_wt1 (i := 45) (by decide +kernel) rfl), rfl, rfl⟩
theorem fl_X9_185 : q_fl RX9 185 2 15 8 true := ⟨_, _, rfl, by decide, (q_wt1 (i := 120) (by decide +kernel) rfl), rfl, rfl⟩
theorem fl_X9_188 : q_fl RX9 188 3 5 2 true := ⟨_, _, rfl, by decide, (q_wt1 (i := 47) (by decide +kernel) rfl), rfl, rfl⟩
theorem fl_X9_191 : q_fl RX9 191 3 5 3 true := ⟨_, _, rfl, by decide, (q_wt1 (i := 49) (by decide +kernel) rfl), rfl, rfl⟩
theorem fl_X9_194 : q_fl RX9 194 3 5 4 true := ⟨_, _, rfl, by decide, (q_wt1 (i := 52) (by decide +kernel) rfl), rfl, rfl⟩
theorem fl_X9_197 : q_fl RX9 197 2 15 2 true := ⟨_, _, rfl, by decide, (q_wt1 (i := 105) (by decide +kernel) rfl), rfl, rfl⟩
theorem fl_X9_206 : q_fl RX9 206 2 15 3 true := ⟨_, _, rfl, by decide, (q_wt1 (i := 107) (by decide +kernel) rfl), rfl, rfl⟩
theorem fl_X9_209 : q_fl RX9 209 2 15 6 true := ⟨_, _, rfl, by decide, (q_wt1 (i := 116) (by decide +kernel) rfl), rfl, rfl⟩
theorem fl_X9_218 : q_fl RX9 218 2 15 9 true := ⟨_, _, rfl, by decide, (q_wt1 (i := 122) (by decide +kernel) rfl), rfl, rfl⟩
theorem fl_X9_221 : q_fl RX9 221 8 5 0 true := ⟨_, _, rfl, by decide, (q_wt1 (i := 73) (by decide +kernel) rfl), rfl, rfl⟩
theorem fl_X9_234 : q_fl RX9 234 2 15 5 true := ⟨_, _, rfl, by decide, (q_wt1 (i := 113) (by decide +kernel) rfl), rfl, rfl⟩
theorem fl_X9_250 : q_fl RX9 250 2 15 4 true := ⟨_, _, rfl, by decide, (q_wt1 (i := 110) (by decide +kernel) rfl), rfl, rfl⟩
theorem fl_X9_253 : q_fl RX9 253 8 5 3 true := ⟨_, _, rfl, by decide, (q_wt1 (i := 79) (by decide +kernel) rfl), rfl, rfl⟩
theorem fl_X9_263 : q_fl RX9 263 8 5 2 true := ⟨_, _, rfl, by decide, (q_wt1 (i := 77) (by decide +kernel) rfl), rfl, rfl⟩
theorem fl_X9_266 : q_fl RX9 266 2 15 7 true := ⟨_, _, rfl, by decide, (q_wt1 (i := 118) (by decide +kernel) rfl), rfl, rfl⟩
theorem fl_X9_296 : q_fl RX9 296 1 9 8 false := ⟨_, _, rfl, by decide, (q_wt1 (i := 189) (by decide +kernel) rfl), rfl, rfl⟩
theorem fl_X9_297 : q_fl RX9 297 1 9 1 true := ⟨_, _, rfl, by decide, (q_wt1 (i := 174) (by decide +kernel) rfl), rfl, rfl⟩
theorem fl_X9_303 : q_fl RX9 303 1 9 5 true := ⟨_, _, rfl, by decide, (q_wt1 (i := 183) (by decide +kernel) rfl), rfl, rfl⟩
theorem fl_X9_306 : q_fl RX9 306 1 9 0 true := ⟨_, _, rfl, by decide, (q_wt1 (i := 172) (by decide +kernel) rfl), rfl, rfl⟩
theorem fl_X9_309 : q_fl RX9 309 1 9 3 true := ⟨_, _, rfl, by decide, (q_wt1 (i := 179) (by decide +kernel) rfl), rfl, rfl⟩
theorem kc_J6_265 : Cond.constant RJ6 265 (nI 1431655765) ∈ q_tbl := (q_wt6 (i := 73) (by decide +kernel) rfl)
theorem kc_J6_266 : Cond.constant RJ6 266 (nI 858993459) ∈ q_tbl := (q_wt6 (i := 74) (by decide +kernel) rfl)
theorem kc_J6_267 : Cond.constant RJ6 267 (nI 252645135) ∈ q_tbl := (q_wt6 (i := 75) (by decide +kernel) rfl)
theorem kc_X0_37 : Cond.constant RX0 37 (-2147483648) ∈ q_tbl := (q_wt5 (i := 221) (by decide +kernel) rfl)
theorem kc_X1_43 : Cond.constant RX1 43 (-1000000003) ∈ q_tbl := (q_wt3 (i := 64) (by decide +kernel) rfl)
theorem kc_X1_44 : Cond.constant RX1 44 (-1000000005) ∈ q_tbl := (q_wt3 (i := 65) (by decide +kernel) rfl)
theorem kc_X11_57 : Cond.constant RX11 57 (-1000000001) ∈ q_tbl := (q_wt2 (i := 230) (by decide +kernel) rfl)
theorem kc_X11_86 : Cond.constant RX11 86 (nI 99999) ∈ q_tbl := (q_wt3 (i := 17) (by decide +kernel) rfl)
theorem kc_X11_114 : Cond.constant RX11 114 (-1000000003) ∈ q_tbl := (q_wt3 (i := 50) (by decide +kernel) rfl)
theorem kc_X11_130 : Cond.constant RX11 130 (-1000000005) ∈ q_tbl := (q_wt3 (i := 98) (by decide +kernel) rfl)
theorem kc_X11_167 : Cond.constant RX11 167 (-1000000002) ∈ q_tbl := (q_wt4 (i := 28) (by decide +kernel) rfl)
theorem kc_X11_175 : Cond.constant RX11 175 (-1000000012) ∈ q_tbl := (q_wt4 (i := 52) (by decide +kernel) rfl)
theorem kc_X11_279 : Cond.constant RX11 279 (-1000000014) ∈ q_tbl := (q_wt5 (i := 181) (by decide +kernel) rfl)
theorem kc_X11_302 : Cond.constant RX11 302 (-1000000011) ∈ q_tbl := (q_wt5 (i := 201) (by decide +kernel) rfl)
theorem kc_X11_306 : Cond.constant RX11 306 (-1000000013) ∈ q_tbl := (q_wt5 (i := 206) (by decide +kernel) rfl)
theorem kc_X12_61 : Cond.constant RX12 61 (-1000000005) ∈ q_tbl := (q_wt7 (i := 174) (by decide +kernel) rfl)
theorem kc_X12_90 : Cond.constant RX12 90 (-1000000001) ∈ q_tbl := (q_wt7 (i := 99) (by decide +kernel) rfl)
theorem kc_X12_98 : Cond.constant RX12 98 (-1000000003) ∈ q_tbl := (q_wt7 (i := 118) (by decide +kernel) rfl)
theorem kc_X12_183 : Cond.constant RX12 183 (nI 99999) ∈ q_tbl := (q_wt8 (i := 52) (by decide +kernel) rfl)
theorem kc_X12_346 : Cond.constant RX12 346 (-1000000002) ∈ q_tbl := (q_wt8 (i := 170) (by decide +kernel) rfl)
theorem kc_X12_356 : Cond.constant RX12 356 (-1000000012) ∈ q_tbl := (q_wt8 (i := 195) (by decide +kernel) rfl)
theorem kc_X12_374 : Cond.constant RX12 374 (-2147483648) ∈ q_tbl := (q_wt9 (i := 33) (by decide +kernel) rfl)
theorem kc_X12_377 : Cond.constant RX12 377 (-1000000014) ∈ q_tbl := (q_wt9 (i := 15) (by decide +kernel) rfl)
theorem kc_X12_378 : Cond.constant RX12 378 (-1000000011) ∈ q_tbl := (q_wt9 (i := 20) (by decide +kernel) rfl)
theorem kc_X12_379 : Cond.constant RX12 379 (-1000000013) ∈ q_tbl := (q_wt9 (i := 21) (by decide +kernel) rfl)
theorem kc_X12_422 : Cond.constant RX12 422 (-1000000004) ∈ q_tbl := (q_wt9 (i := 122) (by decide +kernel) rfl)
theorem kc_X2_66 : Cond.constant RX2 66 (-1000000003) ∈ q_tbl := (q_wt3 (i := 59) (by decide +kernel) rfl)
theorem kc_X2_81 : Cond.constant RX2 81 (nI 99999) ∈ q_tbl := (q_wt4 (i := 9) (by decide +kernel) rfl)
theorem kc_X4_37 : Cond.constant RX4 37 (-1000000003) ∈ q_tbl := (q_wt6 (i := 116) (by decide +kernel) rfl)
theorem kc_X4_54 : Cond.constant RX4 54 (-1000000004) ∈ q_tbl := (q_wt6 (i := 139) (by decide +kernel) rfl)
theorem kc_X4_55 : Cond.constant RX4 55 (-1000000002) ∈ q_tbl := (q_wt6 (i := 140) (by decide +kernel) rfl)
theorem kc_X6_37 : Cond.constant RX6 37 (-1000000003) ∈ q_tbl := (q_wt6 (i := 57) (by decide +kernel) rfl)
theorem kc_X8_28 : Cond.constant RX8 28 (-1000000003) ∈ q_tbl := (q_wt3 (i := 22) (by decide +kernel) rfl)
theorem kc_X9_314 : Cond.constant RX9 314 (-1000000005) ∈ q_tbl := (q_wt4 (i := 125) (by decide +kernel) rfl)
theorem kl_X11_215 : Cond.constantLong RX11 215 (100 : Int64) ∈ q_tbl := (q_wt4 (i := 112) (by decide +kernel) rfl)
theorem kl_X12_62 : Cond.constantLong RX12 62 (7 : Int64) ∈ q_tbl := (q_wt7 (i := 89) (by decide +kernel) rfl)
theorem kl_X12_82 : Cond.constantLong RX12 82 (99 : Int64) ∈ q_tbl := (q_wt7 (i := 93) (by decide +kernel) rfl)
theorem kl_X12_84 : Cond.constantLong RX12 84 (150 : Int64) ∈ q_tbl := (q_wt7 (i := 94) (by decide +kernel) rfl)
theorem kl_X12_91 : Cond.constantLong RX12 91 (5 : Int64) ∈ q_tbl := (q_wt7 (i := 104) (by decide +kernel) rfl)
theorem kl_X12_96 : Cond.constantLong RX12 96 (99999 : Int64) ∈ q_tbl := (q_wt7 (i := 117) (by decide +kernel) rfl)
theorem kl_X12_102 : Cond.constantLong RX12 102 (3 : Int64) ∈ q_tbl := (q_wt7 (i := 135) (by decide +kernel) rfl)
theorem kl_X12_104 : Cond.constantLong RX12 104 (9 : Int64) ∈ q_tbl := (q_wt7 (i := 140) (by decide +kernel) rfl)
theorem kl_X12_113 : Cond.constantLong RX12 113 (13 : Int64) ∈ q_tbl := (q_wt7 (i := 157) (by decide +kernel) rfl)
theorem kl_X12_125 : Cond.constantLong RX12 125 (2 : Int64) ∈ q_tbl := (q_wt7 (i := 187) (by decide +kernel) rfl)
theorem kl_X12_127 : Cond.constantLong RX12 127 (9999 : Int64) ∈ q_tbl := (q_wt7 (i := 188) (by decide +kernel) rfl)
theorem kl_X12_178 : Cond.constantLong RX12 178 (100 : Int64) ∈ q_tbl := (q_wt8 (i := 51) (by decide +kernel) rfl)
theorem kl_X12_210 : Cond.constantLong RX12 210 (60 : Int64) ∈ q_tbl := (q_wt7 (i := 193) (by decide +kernel) rfl)
theorem kl_X12_218 : Cond.constantLong RX12 218 (97 : Int64) ∈ q_tbl := (q_wt8 (i := 82) (by decide +kernel) rfl)
theorem kl_X12_220 : Cond.constantLong RX12 220 (122 : Int64) ∈ q_tbl := (q_wt8 (i := 83) (by decide +kernel) rfl)
theorem kl_X12_222 : Cond.constantLong RX12 222 (48 : Int64) ∈ q_tbl := (q_wt8 (i := 88) (by decide +kernel) rfl)
theorem kl_X12_224 : Cond.constantLong RX12 224 (57 : Int64) ∈ q_tbl := (q_wt8 (i := 89) (by decide +kernel) rfl)
theorem kl_X12_303 : Cond.constantLong RX12 303 (6999 : Int64) ∈ q_tbl := (q_wt8 (i := 69) (by decide +kernel) rfl)
theorem kl_X12_311 : Cond.constantLong RX12 311 (6 : Int64) ∈ q_tbl := (q_wt8 (i := 145) (by decide +kernel) rfl)
theorem kl_X12_344 : Cond.constantLong RX12 344 (999 : Int64) ∈ q_tbl := (q_wt8 (i := 169) (by decide +kernel) rfl)
theorem kl_X12_363 : Cond.constantLong RX12 363 (8 : Int64) ∈ q_tbl := (q_wt8 (i := 229) (by decide +kernel) rfl)
theorem kl_X12_375 : Cond.constantLong RX12 375 (-1 : Int64) ∈ q_tbl := (q_wt9 (i := 14) (by decide +kernel) rfl)
theorem kl_X12_401 : Cond.constantLong RX12 401 (255 : Int64) ∈ q_tbl := (q_wt9 (i := 89) (by decide +kernel) rfl)
theorem kl_X12_426 : Cond.constantLong RX12 426 (20000 : Int64) ∈ q_tbl := (q_wt9 (i := 113) (by decide +kernel) rfl)
theorem kl_X12_440 : Cond.constantLong RX12 440 (28 : Int64) ∈ q_tbl := (q_wt9 (i := 147) (by decide +kernel) rfl)
theorem kl_X9_285 : Cond.constantLong RX9 285 (100 : Int64) ∈ q_tbl := (q_wt4 (i := 0) (by decide +kernel) rfl)
theorem mt_J6_bitCount_0f7a4 : q_mt yJ6_bitCount_0f7a4 cJ6_bitCount_0f7a4 1 (some .int) 1 := ⟨(q_wt6 (i := 72) (by decide +kernel) rfl), (q_wt1 (i := 21) (by decide +kernel) rfl), by decide +kernel, by decide +kernel, by decide +kernel⟩
theorem mt_X0_hasRange : q_mt yX0_hasRange cX0_hasRange 4 (some .boolean) 3 := ⟨(q_wt5 (i := 229) (by decide +kernel) rfl), (q_wt1 (i := 12) (by decide +kernel) rfl), by decide +kernel, by decide +kernel, by decide +kernel⟩
theorem mt_X0_hasWeek : q_mt yX0_hasWeek cX0_hasWeek 3 (some .boolean) 2 := ⟨(q_wt5 (i := 205) (by decide +kernel) rfl), (q_wt1 (i := 12) (by decide +kernel) rfl), by decide +kernel, by decide +kernel, by decide +kernel⟩
theorem mt_X0_isMissing : q_mt yX0_isMissing cX0_isMissing 2 (some .boolean) 1 := ⟨(q_wt5 (i := 200) (by decide +kernel) rfl), (q_wt1 (i := 12) (by decide +kernel) rfl), by decide +kernel, by decide +kernel, by decide +kernel⟩
theorem mt_X0_open : q_mt yX0_open cX0_open 5 none 3 := ⟨(q_wt5 (i := 185) (by decide +kernel) rfl), (q_wt1 (i := 12) (by decide +kernel) rfl), by decide +kernel, by decide +kernel, by decide +kernel⟩
theorem mt_X0_placeOf : q_mt yX0_placeOf cX0_placeOf 5 (some .int) 2 := ⟨(q_wt5 (i := 218) (by decide +kernel) rfl), (q_wt1 (i := 12) (by decide +kernel) rfl), by decide +kernel, by decide +kernel, by decide +kernel⟩
theorem mt_X0_set : q_mt yX0_set cX0_set 4 none 3 := ⟨(q_wt5 (i := 210) (by decide +kernel) rfl), (q_wt1 (i := 12) (by decide +kernel) rfl), by decide +kernel, by decide +kernel, by decide +kernel⟩
theorem mt_X0_start : q_mt yX0_start cX0_start 1 (some .int) 1 := ⟨(q_wt5 (i := 188) (by decide +kernel) rfl), (q_wt1 (i := 12) (by decide +kernel) rfl), by decide +kernel, by decide +kernel, by decide +kernel⟩
theorem mt_X10_isBarred : q_mt yX10_isBarred cX10_isBarred 3 (some .boolean) 3 := ⟨(q_wt6 (i := 43) (by decide +kernel) rfl), (q_wt1 (i := 8) (by decide +kernel) rfl), by decide +kernel, by decide +kernel, by decide +kernel⟩
theorem mt_X10_isOpen : q_mt yX10_isOpen cX10_isOpen 4 (some .boolean) 3 := ⟨(q_wt6 (i := 14) (by decide +kernel) rfl), (q_wt1 (i := 8) (by decide +kernel) rfl), by decide +kernel, by decide +kernel, by decide +kernel⟩
theorem mt_X10_m : q_mt yX10_m cX10_m 1 (some .int) 1 := ⟨(q_wt6 (i := 17) (by decide +kernel) rfl), (q_wt1 (i := 8) (by decide +kernel) rfl), by decide +kernel, by decide +kernel, by decide +kernel⟩
theorem mt_X10_number : q_mt yX10_number cX10_number 3 (some .int) 3 := ⟨(q_wt6 (i := 2) (by decide +kernel) rfl), (q_wt1 (i := 8) (by decide +kernel) rfl), by decide +kernel, by decide +kernel, by decide +kernel⟩
theorem mt_X10_open : q_mt yX10_open cX10_open 5 (some .int) 2 := ⟨(q_wt6 (i := 10) (by decide +kernel) rfl), (q_wt1 (i := 8) (by decide +kernel) rfl), by decide +kernel, by decide +kernel, by decide +kernel⟩
theorem mt_X10_openBarred : q_mt yX10_openBarred cX10_openBarred 6 (some .int) 3 := ⟨(q_wt6 (i := 40) (by decide +kernel) rfl), (q_wt1 (i := 8) (by decide +kernel) rfl), by decide +kernel, by decide +kernel, by decide +kernel⟩
theorem mt_X10_openWay : q_mt yX10_openWay cX10_openWay 6 (some .int) 3 := ⟨(q_wt6 (i := 32) (by decide +kernel) rfl), (q_wt1 (i := 8) (by decide +kernel) rfl), by decide +kernel, by decide +kernel, by decide +kernel⟩
theorem mt_X10_othersBarred : q_mt yX10_othersBarred cX10_othersBarred 5 (some .int) 2 := ⟨(q_wt6 (i := 48) (by decide +kernel) rfl), (q_wt1 (i := 8) (by decide +kernel) rfl), by decide +kernel, by decide +kernel, by decide +kernel⟩
theorem mt_X10_p : q_mt yX10_p cX10_p 1 (some .int) 1 := ⟨(q_wt6 (i := 20) (by decide +kernel) rfl), (q_wt1 (i := 8) (by decide +kernel) rfl), by decide +kernel, by decide +kernel, by decide +kernel⟩
theorem mt_X10_t : q_mt yX10_t cX10_t 1 (some .int) 1 := ⟨(q_wt6 (i := 23) (by decide +kernel) rfl), (q_wt1 (i := 8) (by decide +kernel) rfl), by decide +kernel, by decide +kernel, by decide +kernel⟩
theorem mt_X11_bookFinding : q_mt yX11_bookFinding cX11_bookFinding 3 (some .int) 2 := ⟨(q_wt5 (i := 196) (by decide +kernel) rfl), (q_wt1 (i := 1) (by decide +kernel) rfl), by decide +kernel, by decide +kernel, by decide +kernel⟩
theorem mt_X11_exchanged : q_mt yX11_exchanged cX11_exchanged 4 (some .int) 3 := ⟨(q_wt2 (i := 237) (by decide +kernel) rfl), (q_wt1 (i := 1) (by decide +kernel) rfl), by decide +kernel, by decide +kernel, by decide +kernel⟩
theorem mt_X11_firstWrong : q_mt yX11_firstWrong cX11_firstWrong 4 (some .int) 2 := ⟨(q_wt6 (i := 160) (by decide +kernel) rfl), (q_wt1 (i := 1) (by decide +kernel) rfl), by decide +kernel, by decide +kernel, by decide +kernel⟩
theorem mt_X11_isFunded : q_mt yX11_isFunded cX11_isFunded 2 (some .boolean) 2 := ⟨(q_wt6 (i := 123) (by decide +kernel) rfl), (q_wt1 (i := 1) (by decide +kernel) rfl), by decide +kernel, by decide +kernel, by decide +kernel⟩
theorem mt_X11_looked : q_mt yX11_looked cX11_looked 2 (some .int) 2 := ⟨(q_wt3 (i := 0) (by decide +kernel) rfl), (q_wt1 (i := 1) (by decide +kernel) rfl), by decide +kernel, by decide +kernel, by decide +kernel⟩
theorem mt_X11_newDue : q_mt yX11_newDue cX11_newDue 5 (some .int) 4 := ⟨(q_wt4 (i := 26) (by decide +kernel) rfl), (q_wt1 (i := 1) (by decide +kernel) rfl), by decide +kernel, by decide +kernel, by decide +kernel⟩
theorem mt_X11_within : q_mt yX11_within cX11_within 3 (some .boolean) 3 := ⟨(q_wt2 (i := 229) (by decide +kernel) rfl), (q_wt1 (i := 1) (by decide +kernel) rfl), by decide +kernel, by decide +kernel, by decide +kernel⟩
theorem mt_X12_actBy : q_mt yX12_actBy cX12_actBy 5 (some .int) 4 := ⟨(q_wt8 (i := 160) (by decide +kernel) rfl), (q_wt1 (i := 13) (by decide +kernel) rfl), by decide +kernel, by decide +kernel, by decide +kernel⟩
theorem mt_X12_allEarned : q_mt yX12_allEarned cX12_allEarned 3 (some .int) 0 := ⟨(q_wt9 (i := 151) (by decide +kernel) rfl), (q_wt1 (i := 13) (by decide +kernel) rfl), by decide +kernel, by decide +kernel, by decide +kernel⟩
theorem mt_X12_bars : q_mt yX12_bars cX12_bars 3 (some .boolean) 2 := ⟨(q_wt9 (i := 57) (by decide +kernel) rfl), (q_wt1 (i := 13) (by decide +kernel) rfl), by decide +kernel, by decide +kernel, by decide +kernel⟩
theorem mt_X12_becomes : q_mt yX12_becomes cX12_becomes 4 (some .int) 2 := ⟨(q_wt7 (i := 98) (by decide +kernel) rfl), (q_wt1 (i := 13) (by decide +kernel) rfl), by decide +kernel, by decide +kernel, by decide +kernel⟩
theorem mt_X12_blankOf : q_mt yX12_blankOf cX12_blankOf 1 (some .int) 1 := ⟨(q_wt9 (i := 32) (by decide +kernel) rfl), (q_wt1 (i := 13) (by decide +kernel) rfl), by decide +kernel, by decide +kernel, by decide +kernel⟩
theorem mt_X12_both : q_mt yX12_both cX12_both 2 (some .boolean) 1 := ⟨(q_wt8 (i := 105) (by decide +kernel) rfl), (q_wt1 (i := 13) (by decide +kernel) rfl), by decide +kernel, by decide +kernel, by decide +kernel⟩
theorem mt_X12_buys : q_mt yX12_buys cX12_buys 6 none 1 := ⟨(q_wt7 (i := 231) (by decide +kernel) rfl), (q_wt1 (i := 13) (by decide +kernel) rfl), by decide +kernel, by decide +kernel, by decide +kernel⟩
theorem mt_X12_cheapest : q_mt yX12_cheapest cX12_cheapest 6 (some .int) 1 := ⟨(q_wt8 (i := 14) (by decide +kernel) rfl), (q_wt1 (i := 13) (by decide +kernel) rfl), by decide +kernel, by decide +kernel, by decide +kernel⟩
theorem mt_X12_coinFor : q_mt yX12_coinFor cX12_coinFor 4 (some .int) 2 := ⟨(q_wt8 (i := 50) (by decide +kernel) rfl), (q_wt1 (i := 13) (by decide +kernel) rfl), by decide +kernel, by decide +kernel, by decide +kernel⟩
theorem mt_X12_coinOf : q_mt yX12_coinOf cX12_coinOf 2 (some .int) 1 := ⟨(q_wt8 (i := 46) (by decide +kernel) rfl), (q_wt1 (i := 13) (by decide +kernel) rfl), by decide +kernel, by decide +kernel, by decide +kernel⟩
theorem mt_X12_companyLasts : q_mt yX12_companyLasts cX12_companyLasts 5 (some .int) 1 := ⟨(q_wt9 (i := 97) (by decide +kernel) rfl), (q_wt1 (i := 13) (by decide +kernel) rfl), by decide +kernel, by decide +kernel, by decide +kernel⟩
theorem mt_X12_counts : q_mt yX12_counts cX12_counts 5 (some .int) 1 := ⟨(q_wt7 (i := 209) (by decide +kernel) rfl), (q_wt1 (i := 13) (by decide +kernel) rfl), by decide +kernel, by decide +kernel, by decide +kernel⟩
theorem mt_X12_digs : q_mt yX12_digs cX12_digs 7 none 1 := ⟨(q_wt7 (i := 201) (by decide +kernel) rfl), (q_wt1 (i := 13) (by decide +kernel) rfl), by decide +kernel, by decide +kernel, by decide +kernel⟩
theorem mt_X12_dueAt : q_mt yX12_dueAt cX12_dueAt 2 (some .int) 1 := ⟨(q_wt7 (i := 148) (by decide +kernel) rfl), (q_wt1 (i := 13) (by decide +kernel) rfl), by decide +kernel, by decide +kernel, by decide +kernel⟩
theorem mt_X12_dueFor : q_mt yX12_dueFor cX12_dueFor 3 (some .int) 1 := ⟨(q_wt8 (i := 34) (by decide +kernel) rfl), (q_wt1 (i := 13) (by decide +kernel) rfl), by decide +kernel, by decide +kernel, by decide +kernel⟩
theorem mt_X12_dueIs : q_mt yX12_dueIs cX12_dueIs 3 none 2 := ⟨(q_wt9 (i := 142) (by decide +kernel) rfl), (q_wt1 (i := 13) (by decide +kernel) rfl), by decide +kernel, by decide +kernel, by decide +kernel⟩
theorem mt_X12_dueOf : q_mt yX12_dueOf cX12_dueOf 1 (some .int) 0 := ⟨(q_wt8 (i := 30) (by decide +kernel) rfl), (q_wt1 (i := 13) (by decide +kernel) rfl), by decide +kernel, by decide +kernel, by decide +kernel⟩
theorem mt_X12_earned : q_mt yX12_earned cX12_earned 2 (some .int) 1 := ⟨(q_wt7 (i := 161) (by decide +kernel) rfl), (q_wt1 (i := 13) (by decide +kernel) rfl), by decide +kernel, by decide +kernel, by decide +kernel⟩
theorem mt_X12_eats : q_mt yX12_eats cX12_eats 3 none 1 := ⟨(q_wt7 (i := 227) (by decide +kernel) rfl), (q_wt1 (i := 13) (by decide +kernel) rfl), by decide +kernel, by decide +kernel, by decide +kernel⟩
theorem mt_X12_either : q_mt yX12_either cX12_either 2 (some .boolean) 1 := ⟨(q_wt8 (i := 101) (by decide +kernel) rfl), (q_wt1 (i := 13) (by decide +kernel) rfl), by decide +kernel, by decide +kernel, by decide +kernel⟩
theorem mt_X12_endWeek : q_mt yX12_endWeek cX12_endWeek 3 none 0 := ⟨(q_wt8 (i := 22) (by decide +kernel) rfl), (q_wt1 (i := 13) (by decide +kernel) rfl), by decide +kernel, by decide +kernel, by decide +kernel⟩
theorem mt_X12_findOrder : q_mt yX12_findOrder cX12_findOrder 4 (some .int) 3 := ⟨(q_wt9 (i := 117) (by decide +kernel) rfl), (q_wt1 (i := 13) (by decide +kernel) rfl), by decide +kernel, by decide +kernel, by decide +kernel⟩
theorem mt_X12_findRound : q_mt yX12_findRound cX12_findRound 6 (some .int) 1 := ⟨(q_wt9 (i := 77) (by decide +kernel) rfl), (q_wt1 (i := 13) (by decide +kernel) rfl), by decide +kernel, by decide +kernel, by decide +kernel⟩
theorem mt_X12_fineOf : q_mt yX12_fineOf cX12_fineOf 4 (some .int) 2 := ⟨(q_wt8 (i := 156) (by decide +kernel) rfl), (q_wt1 (i := 13) (by decide +kernel) rfl), by decide +kernel, by decide +kernel, by decide +kernel⟩
theorem mt_X12_gets : q_mt yX12_gets cX12_gets 4 none 3 := ⟨(q_wt8 (i := 174) (by decide +kernel) rfl), (q_wt1 (i := 13) (by decide +kernel) rfl), by decide +kernel, by decide +kernel, by decide +kernel⟩
theorem mt_X12_held : q_mt yX12_held cX12_held 3 (some .int) 3 := ⟨(q_wt7 (i := 223) (by decide +kernel) rfl), (q_wt1 (i := 13) (by decide +kernel) rfl), by decide +kernel, by decide +kernel, by decide +kernel⟩
theorem mt_X12_isDigit : q_mt yX12_isDigit cX12_isDigit 2 (some .boolean) 1 := ⟨(q_wt8 (i := 87) (by decide +kernel) rfl), (q_wt1 (i := 13) (by decide +kernel) rfl), by decide +kernel, by decide +kernel, by decide +kernel⟩
theorem mt_X12_isDue : q_mt yX12_isDue cX12_isDue 2 (some .boolean) 1 := ⟨(q_wt8 (i := 194) (by decide +kernel) rfl), (q_wt1 (i := 13) (by decide +kernel) rfl), by decide +kernel, by decide +kernel, by decide +kernel⟩
theorem mt_X12_isFund : q_mt yX12_isFund cX12_isFund 2 (some .boolean) 2 := ⟨(q_wt9 (i := 112) (by decide +kernel) rfl), (q_wt1 (i := 13) (by decide +kernel) rfl), by decide +kernel, by decide +kernel, by decide +kernel⟩
theorem mt_X12_isGone : q_mt yX12_isGone cX12_isGone 2 (some .boolean) 1 := ⟨(q_wt7 (i := 112) (by decide +kernel) rfl), (q_wt1 (i := 13) (by decide +kernel) rfl), by decide +kernel, by decide +kernel, by decide +kernel⟩
theorem mt_X12_isIn : q_mt yX12_isIn cX12_isIn 6 (some .boolean) 3 := ⟨(q_wt7 (i := 92) (by decide +kernel) rfl), (q_wt1 (i := 13) (by decide +kernel) rfl), by decide +kernel, by decide +kernel, by decide +kernel⟩
theorem mt_X12_isLetter : q_mt yX12_isLetter cX12_isLetter 2 (some .boolean) 1 := ⟨(q_wt8 (i := 81) (by decide +kernel) rfl), (q_wt1 (i := 13) (by decide +kernel) rfl), by decide +kernel, by decide +kernel, by decide +kernel⟩
theorem mt_X12_isMan : q_mt yX12_isMan cX12_isMan 2 (some .boolean) 1 := ⟨(q_wt7 (i := 156) (by decide +kernel) rfl), (q_wt1 (i := 13) (by decide +kernel) rfl), by decide +kernel, by decide +kernel, by decide +kernel⟩
theorem mt_X12_isName : q_mt yX12_isName cX12_isName 2 (some .boolean) 2 := ⟨(q_wt8 (i := 128) (by decide +kernel) rfl), (q_wt1 (i := 13) (by decide +kernel) rfl), by decide +kernel, by decide +kernel, by decide +kernel⟩
theorem mt_X12_isPit : q_mt yX12_isPit cX12_isPit 1 (some .boolean) 1 := ⟨(q_wt7 (i := 88) (by decide +kernel) rfl), (q_wt1 (i := 13) (by decide +kernel) rfl), by decide +kernel, by decide +kernel, by decide +kernel⟩
theorem mt_X12_isRound : q_mt yX12_isRound cX12_isRound 2 (some .boolean) 1 := ⟨(q_wt9 (i := 53) (by decide +kernel) rfl), (q_wt1 (i := 13) (by decide +kernel) rfl), by decide +kernel, by decide +kernel, by decide +kernel⟩
theorem mt_X12_isShop : q_mt yX12_isShop cX12_isShop 2 (some .boolean) 1 := ⟨(q_wt7 (i := 130) (by decide +kernel) rfl), (q_wt1 (i := 13) (by decide +kernel) rfl), by decide +kernel, by decide +kernel, by decide +kernel⟩
theorem mt_X12_isSign : q_mt yX12_isSign cX12_isSign 2 (some .boolean) 1 := ⟨(q_wt8 (i := 132) (by decide +kernel) rfl), (q_wt1 (i := 13) (by decide +kernel) rfl), by decide +kernel, by decide +kernel, by decide +kernel⟩
theorem mt_X12_isText : q_mt yX12_isText cX12_isText 2 (some .boolean) 1 := ⟨(q_wt8 (i := 140) (by decide +kernel) rfl), (q_wt1 (i := 13) (by decide +kernel) rfl), by decide +kernel, by decide +kernel, by decide +kernel⟩
theorem mt_X12_isTown : q_mt yX12_isTown cX12_isTown 2 (some .boolean) 1 := ⟨(q_wt7 (i := 235) (by decide +kernel) rfl), (q_wt1 (i := 13) (by decide +kernel) rfl), by decide +kernel, by decide +kernel, by decide +kernel⟩
theorem mt_X12_isWordAt : q_mt yX12_isWordAt cX12_isWordAt 6 (some .boolean) 4 := ⟨(q_wt8 (i := 97) (by decide +kernel) rfl), (q_wt1 (i := 13) (by decide +kernel) rfl), by decide +kernel, by decide +kernel, by decide +kernel⟩
theorem mt_X12_isWrong : q_mt yX12_isWrong cX12_isWrong 4 (some .boolean) 2 := ⟨(q_wt8 (i := 219) (by decide +kernel) rfl), (q_wt1 (i := 13) (by decide +kernel) rfl), by decide +kernel, by decide +kernel, by decide +kernel⟩
theorem mt_X12_joined : q_mt yX12_joined cX12_joined 3 (some .int) 3 := ⟨(q_wt7 (i := 220) (by decide +kernel) rfl), (q_wt1 (i := 13) (by decide +kernel) rfl), by decide +kernel, by decide +kernel, by decide +kernel⟩
theorem mt_X12_keepOf : q_mt yX12_keepOf cX12_keepOf 4 (some .int) 2 := ⟨(q_wt8 (i := 56) (by decide +kernel) rfl), (q_wt1 (i := 13) (by decide +kernel) rfl), by decide +kernel, by decide +kernel, by decide +kernel⟩
theorem mt_X12_key : q_mt yX12_key cX12_key 1 (some .int) 0 := ⟨(q_wt8 (i := 93) (by decide +kernel) rfl), (q_wt1 (i := 13) (by decide +kernel) rfl), by decide +kernel, by decide +kernel, by decide +kernel⟩
theorem mt_X12_knows : q_mt yX12_knows cX12_knows 3 none 2 := ⟨(q_wt7 (i := 182) (by decide +kernel) rfl), (q_wt1 (i := 13) (by decide +kernel) rfl), by decide +kernel, by decide +kernel, by decide +kernel⟩
theorem mt_X12_lack : q_mt yX12_lack cX12_lack 3 (some .int) 1 := ⟨(q_wt8 (i := 3) (by decide +kernel) rfl), (q_wt1 (i := 13) (by decide +kernel) rfl), by decide +kernel, by decide +kernel, by decide +kernel⟩
theorem mt_X12_least : q_mt yX12_least cX12_least 2 (some .int) 2 := ⟨(q_wt8 (i := 6) (by decide +kernel) rfl), (q_wt1 (i := 13) (by decide +kernel) rfl), by decide +kernel, by decide +kernel, by decide +kernel⟩
theorem mt_X12_loaves : q_mt yX12_loaves cX12_loaves 5 (some .int) 3 := ⟨(q_wt7 (i := 239) (by decide +kernel) rfl), (q_wt1 (i := 13) (by decide +kernel) rfl), by decide +kernel, by decide +kernel, by decide +kernel⟩
theorem mt_X12_manAt : q_mt yX12_manAt cX12_manAt 2 (some .int) 1 := ⟨(q_wt7 (i := 108) (by decide +kernel) rfl), (q_wt1 (i := 13) (by decide +kernel) rfl), by decide +kernel, by decide +kernel, by decide +kernel⟩
theorem mt_X12_menLast : q_mt yX12_menLast cX12_menLast 7 (some .int) 1 := ⟨(q_wt9 (i := 93) (by decide +kernel) rfl), (q_wt1 (i := 13) (by decide +kernel) rfl), by decide +kernel, by decide +kernel, by decide +kernel⟩
theorem mt_X12_newDue : q_mt yX12_newDue cX12_newDue 6 (some .int) 4 := ⟨(q_wt7 (i := 144) (by decide +kernel) rfl), (q_wt1 (i := 13) (by decide +kernel) rfl), by decide +kernel, by decide +kernel, by decide +kernel⟩
theorem mt_X12_news : q_mt yX12_news cX12_news 6 none 2 := ⟨(q_wt8 (i := 18) (by decide +kernel) rfl), (q_wt1 (i := 13) (by decide +kernel) rfl), by decide +kernel, by decide +kernel, by decide +kernel⟩
theorem mt_X12_next : q_mt yX12_next cX12_next 3 none 0 := ⟨(q_wt8 (i := 77) (by decide +kernel) rfl), (q_wt1 (i := 13) (by decide +kernel) rfl), by decide +kernel, by decide +kernel, by decide +kernel⟩
theorem mt_X12_oneDay : q_mt yX12_oneDay cX12_oneDay 3 none 0 := ⟨(q_wt7 (i := 197) (by decide +kernel) rfl), (q_wt1 (i := 13) (by decide +kernel) rfl), by decide +kernel, by decide +kernel, by decide +kernel⟩
theorem mt_X12_ones : q_mt yX12_ones cX12_ones 3 (some .int) 1 := ⟨(q_wt9 (i := 80) (by decide +kernel) rfl), (q_wt1 (i := 13) (by decide +kernel) rfl), by decide +kernel, by decide +kernel, by decide +kernel⟩
theorem mt_X12_orNone : q_mt yX12_orNone cX12_orNone 1 (some .int) 1 := ⟨(q_wt8 (i := 148) (by decide +kernel) rfl), (q_wt1 (i := 13) (by decide +kernel) rfl), by decide +kernel, by decide +kernel, by decide +kernel⟩
theorem mt_X12_owedBy : q_mt yX12_owedBy cX12_owedBy 2 (some .int) 1 := ⟨(q_wt7 (i := 165) (by decide +kernel) rfl), (q_wt1 (i := 13) (by decide +kernel) rfl), by decide +kernel, by decide +kernel, by decide +kernel⟩
theorem mt_X12_parse : q_mt yX12_parse cX12_parse 3 (some .int) 0 := ⟨(q_wt8 (i := 73) (by decide +kernel) rfl), (q_wt1 (i := 13) (by decide +kernel) rfl), by decide +kernel, by decide +kernel, by decide +kernel⟩
theorem mt_X12_part0 : q_mt yX12_part0 cX12_part0 2 (some .boolean) 1 := ⟨(q_wt8 (i := 121) (by decide +kernel) rfl), (q_wt1 (i := 13) (by decide +kernel) rfl), by decide +kernel, by decide +kernel, by decide +kernel⟩
theorem mt_X12_pays : q_mt yX12_pays cX12_pays 7 none 2 := ⟨(q_wt8 (i := 38) (by decide +kernel) rfl), (q_wt1 (i := 13) (by decide +kernel) rfl), by decide +kernel, by decide +kernel, by decide +kernel⟩
theorem mt_X12_readBy : q_mt yX12_readBy cX12_readBy 4 (some .int) 2 := ⟨(q_wt9 (i := 29) (by decide +kernel) rfl), (q_wt1 (i := 13) (by decide +kernel) rfl), by decide +kernel, by decide +kernel, by decide +kernel⟩
theorem mt_X12_refused : q_mt yX12_refused cX12_refused 5 (some .int) 4 := ⟨(q_wt8 (i := 168) (by decide +kernel) rfl), (q_wt1 (i := 13) (by decide +kernel) rfl), by decide +kernel, by decide +kernel, by decide +kernel⟩
theorem mt_X12_rowsOfDays : q_mt yX12_rowsOfDays cX12_rowsOfDays 3 (some .int) 1 := ⟨(q_wt9 (i := 146) (by decide +kernel) rfl), (q_wt1 (i := 13) (by decide +kernel) rfl), by decide +kernel, by decide +kernel, by decide +kernel⟩
theorem mt_X12_rowsOfOrder : q_mt yX12_rowsOfOrder cX12_rowsOfOrder 5 (some .int) 2 := ⟨(q_wt9 (i := 138) (by decide +kernel) rfl), (q_wt1 (i := 13) (by decide +kernel) rfl), by decide +kernel, by decide +kernel, by decide +kernel⟩
theorem mt_X12_seek : q_mt yX12_seek cX12_seek 10 none 5 := ⟨(q_wt9 (i := 121) (by decide +kernel) rfl), (q_wt1 (i := 13) (by decide +kernel) rfl), by decide +kernel, by decide +kernel, by decide +kernel⟩
theorem mt_X12_setAside : q_mt yX12_setAside cX12_setAside 4 none 2 := ⟨(q_wt9 (i := 5) (by decide +kernel) rfl), (q_wt1 (i := 13) (by decide +kernel) rfl), by decide +kernel, by decide +kernel, by decide +kernel⟩
theorem mt_X12_shopAt : q_mt yX12_shopAt cX12_shopAt 2 (some .int) 1 := ⟨(q_wt7 (i := 122) (by decide +kernel) rfl), (q_wt1 (i := 13) (by decide +kernel) rfl), by decide +kernel, by decide +kernel, by decide +kernel⟩
theorem mt_X12_stands : q_mt yX12_stands cX12_stands 4 (some .int) 1 := ⟨(q_wt9 (i := 9) (by decide +kernel) rfl), (q_wt1 (i := 13) (by decide +kernel) rfl), by decide +kernel, by decide +kernel, by decide +kernel⟩
theorem mt_X12_step : q_mt yX12_step cX12_step 3 none 2 := ⟨(q_wt8 (i := 125) (by decide +kernel) rfl), (q_wt1 (i := 13) (by decide +kernel) rfl), by decide +kernel, by decide +kernel, by decide +kernel⟩
theorem mt_X12_stopOf : q_mt yX12_stopOf cX12_stopOf 3 (some .int) 1 := ⟨(q_wt8 (i := 42) (by decide +kernel) rfl), (q_wt1 (i := 13) (by decide +kernel) rfl), by decide +kernel, by decide +kernel, by decide +kernel⟩
theorem mt_X12_sum : q_mt yX12_sum cX12_sum 3 (some .boolean) 1 := ⟨(q_wt8 (i := 113) (by decide +kernel) rfl), (q_wt1 (i := 13) (by decide +kernel) rfl), by decide +kernel, by decide +kernel, by decide +kernel⟩
theorem mt_X12_takes : q_mt yX12_takes cX12_takes 5 none 3 := ⟨(q_wt8 (i := 10) (by decide +kernel) rfl), (q_wt1 (i := 13) (by decide +kernel) rfl), by decide +kernel, by decide +kernel, by decide +kernel⟩
theorem mt_X12_term : q_mt yX12_term cX12_term 3 (some .boolean) 1 := ⟨(q_wt8 (i := 117) (by decide +kernel) rfl), (q_wt1 (i := 13) (by decide +kernel) rfl), by decide +kernel, by decide +kernel, by decide +kernel⟩
theorem mt_X12_test : q_mt yX12_test cX12_test 3 (some .boolean) 1 := ⟨(q_wt8 (i := 109) (by decide +kernel) rfl), (q_wt1 (i := 13) (by decide +kernel) rfl), by decide +kernel, by decide +kernel, by decide +kernel⟩
theorem mt_X12_textAt : q_mt yX12_textAt cX12_textAt 2 (some .int) 1 := ⟨(q_wt7 (i := 213) (by decide +kernel) rfl), (q_wt1 (i := 13) (by decide +kernel) rfl), by decide +kernel, by decide +kernel, by decide +kernel⟩
theorem mt_X12_wageOf : q_mt yX12_wageOf cX12_wageOf 4 (some .int) 2 := ⟨(q_wt7 (i := 205) (by decide +kernel) rfl), (q_wt1 (i := 13) (by decide +kernel) rfl), by decide +kernel, by decide +kernel, by decide +kernel⟩
theorem mt_X12_week : q_mt yX12_week cX12_week 1 (some .int) 0 := ⟨(q_wt8 (i := 26) (by decide +kernel) rfl), (q_wt1 (i := 13) (by decide +kernel) rfl), by decide +kernel, by decide +kernel, by decide +kernel⟩
theorem mt_X12_worked : q_mt yX12_worked cX12_worked 6 (some .int) 1 := ⟨(q_wt7 (i := 217) (by decide +kernel) rfl), (q_wt1 (i := 13) (by decide +kernel) rfl), by decide +kernel, by decide +kernel, by decide +kernel⟩
theorem mt_X12_wrong : q_mt yX12_wrong cX12_wrong 4 (some .int) 1 := ⟨(q_wt8 (i := 215) (by decide +kernel) rfl), (q_wt1 (i := 13) (by decide +kernel) rfl), by decide +kernel, by decide +kernel, by decide +kernel⟩
theorem mt_X1_added : q_mt yX1_added cX1_added 6 (some .int) 5 := ⟨(q_wt3 (i := 63) (by decide +kernel) rfl), (q_wt1 (i := 6) (by decide +kernel) rfl), by decide +kernel, by decide +kernel, by decide +kernel⟩
theorem mt_X1_has : q_mt yX1_has cX1_has 2 (some .boolean) 1 := ⟨(q_wt4 (i := 51) (by decide +kernel) rfl), (q_wt1 (i := 6) (by decide +kernel) rfl), by decide +kernel, by decide +kernel, by decide +kernel⟩
theorem mt_X1_isUnder : q_mt yX1_isUnder cX1_isUnder 4 (some .boolean) 2 := ⟨(q_wt3 (i := 232) (by decide +kernel) rfl), (q_wt1 (i := 6) (by decide +kernel) rfl), by decide +kernel, by decide +kernel, by decide +kernel⟩
theorem mt_X1_open : q_mt yX1_open cX1_open 3 (some .int) 0 := ⟨(q_wt6 (i := 184) (by decide +kernel) rfl), (q_wt1 (i := 6) (by decide +kernel) rfl), by decide +kernel, by decide +kernel, by decide +kernel⟩
theorem mt_X1_out : q_mt yX1_out cX1_out 3 (some .int) 0 := ⟨(q_wt6 (i := 188) (by decide +kernel) rfl), (q_wt1 (i := 6) (by decide +kernel) rfl), by decide +kernel, by decide +kernel, by decide +kernel⟩
theorem mt_X1_row : q_mt yX1_row cX1_row 2 (some (.array .int)) 1 := ⟨(q_wt4 (i := 68) (by decide +kernel) rfl), (q_wt1 (i := 6) (by decide +kernel) rfl), by decide +kernel, by decide +kernel, by decide +kernel⟩
theorem mt_X1_settle : q_mt yX1_settle cX1_settle 3 none 2 := ⟨(q_wt3 (i := 239) (by decide +kernel) rfl), (q_wt1 (i := 6) (by decide +kernel) rfl), by decide +kernel, by decide +kernel, by decide +kernel⟩
theorem mt_X1_taken : q_mt yX1_taken cX1_taken 8 (some .int) 4 := ⟨(q_wt3 (i := 229) (by decide +kernel) rfl), (q_wt1 (i := 6) (by decide +kernel) rfl), by decide +kernel, by decide +kernel, by decide +kernel⟩
theorem mt_X2_added : q_mt yX2_added cX2_added 4 (some .int) 3 := ⟨(q_wt3 (i := 58) (by decide +kernel) rfl), (q_wt1 (i := 5) (by decide +kernel) rfl), by decide +kernel, by decide +kernel, by decide +kernel⟩
theorem mt_X2_dayKnown : q_mt yX2_dayKnown cX2_dayKnown 3 (some .int) 2 := ⟨(q_wt3 (i := 106) (by decide +kernel) rfl), (q_wt1 (i := 5) (by decide +kernel) rfl), by decide +kernel, by decide +kernel, by decide +kernel⟩
theorem mt_X2_getChecks : q_mt yX2_getChecks cX2_getChecks 3 none 2 := ⟨(q_wt4 (i := 14) (by decide +kernel) rfl), (q_wt1 (i := 5) (by decide +kernel) rfl), by decide +kernel, by decide +kernel, by decide +kernel⟩
theorem mt_X2_getCoin : q_mt yX2_getCoin cX2_getCoin 3 none 2 := ⟨(q_wt4 (i := 8) (by decide +kernel) rfl), (q_wt1 (i := 5) (by decide +kernel) rfl), by decide +kernel, by decide +kernel, by decide +kernel⟩
theorem mt_X2_has : q_mt yX2_has cX2_has 2 (some .boolean) 1 := ⟨(q_wt3 (i := 73) (by decide +kernel) rfl), (q_wt1 (i := 5) (by decide +kernel) rfl), by decide +kernel, by decide +kernel, by decide +kernel⟩
theorem mt_X2_inPit : q_mt yX2_inPit cX2_inPit 4 (some .int) 1 := ⟨(q_wt3 (i := 8) (by decide +kernel) rfl), (q_wt1 (i := 5) (by decide +kernel) rfl), by decide +kernel, by decide +kernel, by decide +kernel⟩
theorem mt_X2_isGone : q_mt yX2_isGone cX2_isGone 2 (some .boolean) 1 := ⟨(q_wt3 (i := 12) (by decide +kernel) rfl), (q_wt1 (i := 5) (by decide +kernel) rfl), by decide +kernel, by decide +kernel, by decide +kernel⟩
theorem mt_X2_knows : q_mt yX2_knows cX2_knows 3 (some .boolean) 2 := ⟨(q_wt3 (i := 97) (by decide +kernel) rfl), (q_wt1 (i := 5) (by decide +kernel) rfl), by decide +kernel, by decide +kernel, by decide +kernel⟩
theorem mt_X2_lacks : q_mt yX2_lacks cX2_lacks 2 (some .int) 1 := ⟨(q_wt3 (i := 176) (by decide +kernel) rfl), (q_wt1 (i := 5) (by decide +kernel) rfl), by decide +kernel, by decide +kernel, by decide +kernel⟩
theorem mt_X2_learn : q_mt yX2_learn cX2_learn 5 none 4 := ⟨(q_wt3 (i := 118) (by decide +kernel) rfl), (q_wt1 (i := 5) (by decide +kernel) rfl), by decide +kernel, by decide +kernel, by decide +kernel⟩
theorem mt_X2_mayBe : q_mt yX2_mayBe cX2_mayBe 2 (some .boolean) 2 := ⟨(q_wt3 (i := 45) (by decide +kernel) rfl), (q_wt1 (i := 5) (by decide +kernel) rfl), by decide +kernel, by decide +kernel, by decide +kernel⟩
theorem mt_X2_priceKnown : q_mt yX2_priceKnown cX2_priceKnown 3 (some .int) 2 := ⟨(q_wt3 (i := 102) (by decide +kernel) rfl), (q_wt1 (i := 5) (by decide +kernel) rfl), by decide +kernel, by decide +kernel, by decide +kernel⟩
theorem mt_X2_row : q_mt yX2_row cX2_row 2 (some (.array .int)) 1 := ⟨(q_wt3 (i := 85) (by decide +kernel) rfl), (q_wt1 (i := 5) (by decide +kernel) rfl), by decide +kernel, by decide +kernel, by decide +kernel⟩
theorem mt_X2_sum : q_mt yX2_sum cX2_sum 4 (some .int) 1 := ⟨(q_wt4 (i := 190) (by decide +kernel) rfl), (q_wt1 (i := 5) (by decide +kernel) rfl), by decide +kernel, by decide +kernel, by decide +kernel⟩
theorem mt_X3_row : q_mt yX3_row cX3_row 2 (some (.array .int)) 1 := ⟨(q_wt2 (i := 234) (by decide +kernel) rfl), (q_wt1 (i := 3) (by decide +kernel) rfl), by decide +kernel, by decide +kernel, by decide +kernel⟩
theorem mt_X4_added : q_mt yX4_added cX4_added 4 (some .int) 3 := ⟨(q_wt6 (i := 115) (by decide +kernel) rfl), (q_wt1 (i := 10) (by decide +kernel) rfl), by decide +kernel, by decide +kernel, by decide +kernel⟩
theorem mt_X4_found : q_mt yX4_found cX4_found 4 (some .int) 3 := ⟨(q_wt6 (i := 127) (by decide +kernel) rfl), (q_wt1 (i := 10) (by decide +kernel) rfl), by decide +kernel, by decide +kernel, by decide +kernel⟩
theorem mt_X4_keepOrder : q_mt yX4_keepOrder cX4_keepOrder 2 none 1 := ⟨(q_wt6 (i := 135) (by decide +kernel) rfl), (q_wt1 (i := 10) (by decide +kernel) rfl), by decide +kernel, by decide +kernel, by decide +kernel⟩
theorem mt_X4_putNext : q_mt yX4_putNext cX4_putNext 9 (some .boolean) 5 := ⟨(q_wt6 (i := 131) (by decide +kernel) rfl), (q_wt1 (i := 10) (by decide +kernel) rfl), by decide +kernel, by decide +kernel, by decide +kernel⟩
theorem mt_X4_weeksTill : q_mt yX4_weeksTill cX4_weeksTill 2 (some .int) 2 := ⟨(q_wt6 (i := 138) (by decide +kernel) rfl), (q_wt1 (i := 10) (by decide +kernel) rfl), by decide +kernel, by decide +kernel, by decide +kernel⟩
theorem mt_X5_emit : q_mt yX5_emit cX5_emit 2 none 1 := ⟨(q_wt5 (i := 66) (by decide +kernel) rfl), (q_wt1 (i := 11) (by decide +kernel) rfl), by decide +kernel, by decide +kernel, by decide +kernel⟩
theorem mt_X5_goOn : q_mt yX5_goOn cX5_goOn 2 none 0 := ⟨(q_wt4 (i := 214) (by decide +kernel) rfl), (q_wt1 (i := 11) (by decide +kernel) rfl), by decide +kernel, by decide +kernel, by decide +kernel⟩
theorem mt_X5_isDigit : q_mt yX5_isDigit cX5_isDigit 1 (some .boolean) 1 := ⟨(q_wt4 (i := 220) (by decide +kernel) rfl), (q_wt1 (i := 11) (by decide +kernel) rfl), by decide +kernel, by decide +kernel, by decide +kernel⟩
theorem mt_X5_isLetter : q_mt yX5_isLetter cX5_isLetter 1 (some .boolean) 1 := ⟨(q_wt4 (i := 217) (by decide +kernel) rfl), (q_wt1 (i := 11) (by decide +kernel) rfl), by decide +kernel, by decide +kernel, by decide +kernel⟩
theorem mt_X5_isSign : q_mt yX5_isSign cX5_isSign 2 (some .boolean) 1 := ⟨(q_wt5 (i := 139) (by decide +kernel) rfl), (q_wt1 (i := 11) (by decide +kernel) rfl), by decide +kernel, by decide +kernel, by decide +kernel⟩
theorem mt_X5_put : q_mt yX5_put cX5_put 3 none 1 := ⟨(q_wt4 (i := 198) (by decide +kernel) rfl), (q_wt1 (i := 11) (by decide +kernel) rfl), by decide +kernel, by decide +kernel, by decide +kernel⟩
theorem mt_X6_added : q_mt yX6_added cX6_added 4 (some .int) 3 := ⟨(q_wt6 (i := 56) (by decide +kernel) rfl), (q_wt1 (i := 9) (by decide +kernel) rfl), by decide +kernel, by decide +kernel, by decide +kernel⟩
theorem mt_X6_bestOf : q_mt yX6_bestOf cX6_bestOf 4 (some .int) 1 := ⟨(q_wt6 (i := 65) (by decide +kernel) rfl), (q_wt1 (i := 9) (by decide +kernel) rfl), by decide +kernel, by decide +kernel, by decide +kernel⟩
theorem mt_X6_goRound : q_mt yX6_goRound cX6_goRound 5 none 3 := ⟨(q_wt6 (i := 69) (by decide +kernel) rfl), (q_wt1 (i := 9) (by decide +kernel) rfl), by decide +kernel, by decide +kernel, by decide +kernel⟩
theorem mt_X7_counting : q_mt yX7_counting cX7_counting 5 (some .int) 2 := ⟨(q_wt3 (i := 143) (by decide +kernel) rfl), (q_wt1 (i := 7) (by decide +kernel) rfl), by decide +kernel, by decide +kernel, by decide +kernel⟩
theorem mt_X7_given : q_mt yX7_given cX7_given 7 (some .int) 5 := ⟨(q_wt3 (i := 139) (by decide +kernel) rfl), (q_wt1 (i := 7) (by decide +kernel) rfl), by decide +kernel, by decide +kernel, by decide +kernel⟩
theorem mt_X7_has : q_mt yX7_has cX7_has 2 (some .boolean) 1 := ⟨(q_wt5 (i := 162) (by decide +kernel) rfl), (q_wt1 (i := 7) (by decide +kernel) rfl), by decide +kernel, by decide +kernel, by decide +kernel⟩
theorem mt_X7_held : q_mt yX7_held cX7_held 2 (some .int) 2 := ⟨(q_wt3 (i := 162) (by decide +kernel) rfl), (q_wt1 (i := 7) (by decide +kernel) rfl), by decide +kernel, by decide +kernel, by decide +kernel⟩
theorem mt_X7_joined : q_mt yX7_joined cX7_joined 3 (some .int) 3 := ⟨(q_wt3 (i := 159) (by decide +kernel) rfl), (q_wt1 (i := 7) (by decide +kernel) rfl), by decide +kernel, by decide +kernel, by decide +kernel⟩
theorem mt_X7_named : q_mt yX7_named cX7_named 4 (some .int) 4 := ⟨(q_wt3 (i := 153) (by decide +kernel) rfl), (q_wt1 (i := 7) (by decide +kernel) rfl), by decide +kernel, by decide +kernel, by decide +kernel⟩
theorem mt_X7_row : q_mt yX7_row cX7_row 2 (some (.array .int)) 1 := ⟨(q_wt5 (i := 166) (by decide +kernel) rfl), (q_wt1 (i := 7) (by decide +kernel) rfl), by decide +kernel, by decide +kernel, by decide +kernel⟩
theorem mt_X7_truth : q_mt yX7_truth cX7_truth 1 (some .int) 1 := ⟨(q_wt3 (i := 156) (by decide +kernel) rfl), (q_wt1 (i := 7) (by decide +kernel) rfl), by decide +kernel, by decide +kernel, by decide +kernel⟩
theorem mt_X7_unwritten : q_mt yX7_unwritten cX7_unwritten 2 (some .int) 2 := ⟨(q_wt3 (i := 146) (by decide +kernel) rfl), (q_wt1 (i := 7) (by decide +kernel) rfl), by decide +kernel, by decide +kernel, by decide +kernel⟩
theorem mt_X7_value : q_mt yX7_value cX7_value 9 (some .int) 4 := ⟨(q_wt3 (i := 150) (by decide +kernel) rfl), (q_wt1 (i := 7) (by decide +kernel) rfl), by decide +kernel, by decide +kernel, by decide +kernel⟩
theorem mt_X8_added : q_mt yX8_added cX8_added 5 (some .int) 4 := ⟨(q_wt3 (i := 21) (by decide +kernel) rfl), (q_wt1 (i := 4) (by decide +kernel) rfl), by decide +kernel, by decide +kernel, by decide +kernel⟩
theorem mt_X8_firstCompany : q_mt yX8_firstCompany cX8_firstCompany 2 (some .int) 0 := ⟨(q_wt4 (i := 124) (by decide +kernel) rfl), (q_wt1 (i := 4) (by decide +kernel) rfl), by decide +kernel, by decide +kernel, by decide +kernel⟩
theorem mt_X8_has : q_mt yX8_has cX8_has 2 (some .boolean) 1 := ⟨(q_wt3 (i := 30) (by decide +kernel) rfl), (q_wt1 (i := 4) (by decide +kernel) rfl), by decide +kernel, by decide +kernel, by decide +kernel⟩
theorem mt_X8_leastPrice : q_mt yX8_leastPrice cX8_leastPrice 4 (some .int) 1 := ⟨(q_wt4 (i := 102) (by decide +kernel) rfl), (q_wt1 (i := 4) (by decide +kernel) rfl), by decide +kernel, by decide +kernel, by decide +kernel⟩
theorem mt_X8_loavesFor : q_mt yX8_loavesFor cX8_loavesFor 3 (some .int) 2 := ⟨(q_wt3 (i := 188) (by decide +kernel) rfl), (q_wt1 (i := 4) (by decide +kernel) rfl), by decide +kernel, by decide +kernel, by decide +kernel⟩
theorem mt_X8_loavesOfCompany : q_mt yX8_loavesOfCompany cX8_loavesOfCompany 3 (some .int) 1 := ⟨(q_wt4 (i := 98) (by decide +kernel) rfl), (q_wt1 (i := 4) (by decide +kernel) rfl), by decide +kernel, by decide +kernel, by decide +kernel⟩
theorem mt_X8_loavesOfTown : q_mt yX8_loavesOfTown cX8_loavesOfTown 4 (some .int) 1 := ⟨(q_wt4 (i := 106) (by decide +kernel) rfl), (q_wt1 (i := 4) (by decide +kernel) rfl), by decide +kernel, by decide +kernel, by decide +kernel⟩
theorem mt_X8_row : q_mt yX8_row cX8_row 2 (some (.array .int)) 1 := ⟨(q_wt3 (i := 34) (by decide +kernel) rfl), (q_wt1 (i := 4) (by decide +kernel) rfl), by decide +kernel, by decide +kernel, by decide +kernel⟩
theorem mt_X9_buy : q_mt yX9_buy cX9_buy 3 none 1 := ⟨(q_wt3 (i := 180) (by decide +kernel) rfl), (q_wt1 (i := 2) (by decide +kernel) rfl), by decide +kernel, by decide +kernel, by decide +kernel⟩
theorem mt_X9_buyByChecks : q_mt yX9_buyByChecks cX9_buyByChecks 4 none 2 := ⟨(q_wt3 (i := 184) (by decide +kernel) rfl), (q_wt1 (i := 2) (by decide +kernel) rfl), by decide +kernel, by decide +kernel, by decide +kernel⟩
theorem mt_X9_buyInTown : q_mt yX9_buyInTown cX9_buyInTown 5 none 1 := ⟨(q_wt3 (i := 199) (by decide +kernel) rfl), (q_wt1 (i := 2) (by decide +kernel) rfl), by decide +kernel, by decide +kernel, by decide +kernel⟩
theorem mt_X9_buyOnDebt : q_mt yX9_buyOnDebt cX9_buyOnDebt 4 none 2 := ⟨(q_wt3 (i := 209) (by decide +kernel) rfl), (q_wt1 (i := 2) (by decide +kernel) rfl), by decide +kernel, by decide +kernel, by decide +kernel⟩
theorem mt_X9_companyLasts : q_mt yX9_companyLasts cX9_companyLasts 4 (some .int) 1 := ⟨(q_wt6 (i := 96) (by decide +kernel) rfl), (q_wt1 (i := 2) (by decide +kernel) rfl), by decide +kernel, by decide +kernel, by decide +kernel⟩
theorem mt_X9_dig : q_mt yX9_dig cX9_dig 7 none 1 := ⟨(q_wt3 (i := 135) (by decide +kernel) rfl), (q_wt1 (i := 2) (by decide +kernel) rfl), by decide +kernel, by decide +kernel, by decide +kernel⟩
theorem mt_X9_earned : q_mt yX9_earned cX9_earned 2 (some .int) 1 := ⟨(q_wt3 (i := 77) (by decide +kernel) rfl), (q_wt1 (i := 2) (by decide +kernel) rfl), by decide +kernel, by decide +kernel, by decide +kernel⟩
theorem mt_X9_eat : q_mt yX9_eat cX9_eat 4 none 1 := ⟨(q_wt3 (i := 172) (by decide +kernel) rfl), (q_wt1 (i := 2) (by decide +kernel) rfl), by decide +kernel, by decide +kernel, by decide +kernel⟩
theorem mt_X9_endWeek : q_mt yX9_endWeek cX9_endWeek 5 none 1 := ⟨(q_wt3 (i := 220) (by decide +kernel) rfl), (q_wt1 (i := 2) (by decide +kernel) rfl), by decide +kernel, by decide +kernel, by decide +kernel⟩
theorem mt_X9_goBy : q_mt yX9_goBy cX9_goBy 5 none 2 := ⟨(q_wt3 (i := 130) (by decide +kernel) rfl), (q_wt1 (i := 2) (by decide +kernel) rfl), by decide +kernel, by decide +kernel, by decide +kernel⟩
theorem mt_X9_isKept : q_mt yX9_isKept cX9_isKept 2 (some .boolean) 1 := ⟨(q_wt4 (i := 18) (by decide +kernel) rfl), (q_wt1 (i := 2) (by decide +kernel) rfl), by decide +kernel, by decide +kernel, by decide +kernel⟩
theorem mt_X9_isWrongFine : q_mt yX9_isWrongFine cX9_isWrongFine 2 (some .boolean) 1 := ⟨(q_wt4 (i := 85) (by decide +kernel) rfl), (q_wt1 (i := 2) (by decide +kernel) rfl), by decide +kernel, by decide +kernel, by decide +kernel⟩
theorem mt_X9_learn : q_mt yX9_learn cX9_learn 3 none 2 := ⟨(q_wt3 (i := 114) (by decide +kernel) rfl), (q_wt1 (i := 2) (by decide +kernel) rfl), by decide +kernel, by decide +kernel, by decide +kernel⟩
theorem mt_X9_leastStrike : q_mt yX9_leastStrike cX9_leastStrike 3 (some .int) 0 := ⟨(q_wt6 (i := 104) (by decide +kernel) rfl), (q_wt1 (i := 2) (by decide +kernel) rfl), by decide +kernel, by decide +kernel, by decide +kernel⟩
theorem mt_X9_menLast : q_mt yX9_menLast cX9_menLast 4 (some .int) 1 := ⟨(q_wt6 (i := 92) (by decide +kernel) rfl), (q_wt1 (i := 2) (by decide +kernel) rfl), by decide +kernel, by decide +kernel, by decide +kernel⟩
theorem mt_X9_newMan : q_mt yX9_newMan cX9_newMan 5 (some .int) 3 := ⟨(q_wt3 (i := 54) (by decide +kernel) rfl), (q_wt1 (i := 2) (by decide +kernel) rfl), by decide +kernel, by decide +kernel, by decide +kernel⟩
theorem mt_X9_owed : q_mt yX9_owed cX9_owed 2 (some .int) 1 := ⟨(q_wt3 (i := 81) (by decide +kernel) rfl), (q_wt1 (i := 2) (by decide +kernel) rfl), by decide +kernel, by decide +kernel, by decide +kernel⟩
theorem mt_X9_payOut : q_mt yX9_payOut cX9_payOut 2 none 1 := ⟨(q_wt4 (i := 4) (by decide +kernel) rfl), (q_wt1 (i := 2) (by decide +kernel) rfl), by decide +kernel, by decide +kernel, by decide +kernel⟩
theorem mt_X9_reckon : q_mt yX9_reckon cX9_reckon 8 none 3 := ⟨(q_wt3 (i := 224) (by decide +kernel) rfl), (q_wt1 (i := 2) (by decide +kernel) rfl), by decide +kernel, by decide +kernel, by decide +kernel⟩
theorem mt_X9_spreadNews : q_mt yX9_spreadNews cX9_spreadNews 4 none 1 := ⟨(q_wt3 (i := 215) (by decide +kernel) rfl), (q_wt1 (i := 2) (by decide +kernel) rfl), by decide +kernel, by decide +kernel, by decide +kernel⟩
theorem mt_X9_takeLoaves : q_mt yX9_takeLoaves cX9_takeLoaves 4 none 3 := ⟨(q_wt3 (i := 194) (by decide +kernel) rfl), (q_wt1 (i := 2) (by decide +kernel) rfl), by decide +kernel, by decide +kernel, by decide +kernel⟩
theorem mt_X9_townKnownCheapest : q_mt yX9_townKnownCheapest cX9_townKnownCheapest 7 (some .int) 2 := ⟨(q_wt3 (i := 203) (by decide +kernel) rfl), (q_wt1 (i := 2) (by decide +kernel) rfl), by decide +kernel, by decide +kernel, by decide +kernel⟩
theorem mt_X9_weeksBound : q_mt yX9_weeksBound cX9_weeksBound 8 (some .int) 3 := ⟨(q_wt4 (i := 120) (by decide +kernel) rfl), (q_wt1 (i := 2) (by decide +kernel) rfl), by decide +kernel, by decide +kernel, by decide +kernel⟩
theorem mt_X9_weighStrikes : q_mt yX9_weighStrikes cX9_weighStrikes 6 none 0 := ⟨(q_wt6 (i := 87) (by decide +kernel) rfl), (q_wt1 (i := 2) (by decide +kernel) rfl), by decide +kernel, by decide +kernel, by decide +kernel⟩
theorem mt_X9_wrongFines : q_mt yX9_wrongFines cX9_wrongFines 5 (some .int) 2 := ⟨(q_wt4 (i := 81) (by decide +kernel) rfl), (q_wt1 (i := 2) (by decide +kernel) rfl), by decide +kernel, by decide +kernel, by decide +kernel⟩
theorem ml_X0_23 : Cond.methodLink RX0 23 yX0_start ∈ q_tbl := (q_wt5 (i := 186) (by decide +kernel) rfl)
theorem ml_X0_27 : Cond.methodLink RX0 27 yX0_isMissing ∈ q_tbl := (q_wt5 (i := 219) (by decide +kernel) rfl)
theorem ml_X0_31 : Cond.methodLink RX0 31 yX0_hasWeek ∈ q_tbl := (q_wt5 (i := 220) (by decide +kernel) rfl)
theorem ml_X1_45 : Cond.methodLink RX1 45 yX1_row ∈ q_tbl := (q_wt4 (i := 160) (by decide +kernel) rfl)
theorem ml_X1_55 : Cond.methodLink RX1 55 yX1_isUnder ∈ q_tbl := (q_wt3 (i := 230) (by decide +kernel) rfl)
theorem ml_X1_65 : Cond.methodLink RX1 65 yX1_settle ∈ q_tbl := (q_wt3 (i := 236) (by decide +kernel) rfl)
theorem ml_X10_21 : Cond.methodLink RX10 21 yX10_m ∈ q_tbl := (q_wt6 (i := 15) (by decide +kernel) rfl)
theorem ml_X10_25 : Cond.methodLink RX10 25 yX10_p ∈ q_tbl := (q_wt6 (i := 18) (by decide +kernel) rfl)
theorem ml_X10_28 : Cond.methodLink RX10 28 yX10_t ∈ q_tbl := (q_wt6 (i := 21) (by decide +kernel) rfl)
theorem ml_X10_31 : Cond.methodLink RX10 31 yX7_given ∈ q_tbl := (q_wt6 (i := 24) (by decide +kernel) rfl)
theorem ml_X10_35 : Cond.methodLink RX10 35 yX7_value ∈ q_tbl := (q_wt6 (i := 44) (by decide +kernel) rfl)
theorem ml_X10_39 : Cond.methodLink RX10 39 yX10_isOpen ∈ q_tbl := (q_wt6 (i := 11) (by decide +kernel) rfl)
theorem ml_X10_43 : Cond.methodLink RX10 43 yX10_isBarred ∈ q_tbl := (q_wt6 (i := 41) (by decide +kernel) rfl)
theorem ml_X11_53 : Cond.methodLink RX11 53 yX11_within ∈ q_tbl := (q_wt2 (i := 227) (by decide +kernel) rfl)
theorem ml_X11_62 : Cond.methodLink RX11 62 yX3_row ∈ q_tbl := (q_wt2 (i := 231) (by decide +kernel) rfl)
theorem ml_X11_66 : Cond.methodLink RX11 66 yX11_exchanged ∈ q_tbl := (q_wt2 (i := 235) (by decide +kernel) rfl)
theorem ml_X11_74 : Cond.methodLink RX11 74 yX2_inPit ∈ q_tbl := (q_wt3 (i := 5) (by decide +kernel) rfl)
theorem ml_X11_80 : Cond.methodLink RX11 80 yX11_looked ∈ q_tbl := (q_wt2 (i := 238) (by decide +kernel) rfl)
theorem ml_X11_91 : Cond.methodLink RX11 91 yX8_added ∈ q_tbl := (q_wt3 (i := 18) (by decide +kernel) rfl)
theorem ml_X11_95 : Cond.methodLink RX11 95 yX8_has ∈ q_tbl := (q_wt3 (i := 27) (by decide +kernel) rfl)
theorem ml_X11_99 : Cond.methodLink RX11 99 yX8_row ∈ q_tbl := (q_wt3 (i := 31) (by decide +kernel) rfl)
theorem ml_X11_100 : Cond.methodLink RX11 100 yX2_mayBe ∈ q_tbl := (q_wt3 (i := 43) (by decide +kernel) rfl)
theorem ml_X11_115 : Cond.methodLink RX11 115 yX9_newMan ∈ q_tbl := (q_wt3 (i := 51) (by decide +kernel) rfl)
theorem ml_X11_119 : Cond.methodLink RX11 119 yX2_has ∈ q_tbl := (q_wt3 (i := 70) (by decide +kernel) rfl)
theorem ml_X11_120 : Cond.methodLink RX11 120 yX9_earned ∈ q_tbl := (q_wt3 (i := 74) (by decide +kernel) rfl)
theorem ml_X11_123 : Cond.methodLink RX11 123 yX9_owed ∈ q_tbl := (q_wt3 (i := 78) (by decide +kernel) rfl)
theorem ml_X11_126 : Cond.methodLink RX11 126 yX2_row ∈ q_tbl := (q_wt3 (i := 82) (by decide +kernel) rfl)
theorem ml_X11_127 : Cond.methodLink RX11 127 yX2_knows ∈ q_tbl := (q_wt3 (i := 94) (by decide +kernel) rfl)
theorem ml_X11_131 : Cond.methodLink RX11 131 yX2_priceKnown ∈ q_tbl := (q_wt3 (i := 99) (by decide +kernel) rfl)
theorem ml_X11_135 : Cond.methodLink RX11 135 yX2_dayKnown ∈ q_tbl := (q_wt3 (i := 103) (by decide +kernel) rfl)
theorem ml_X11_138 : Cond.methodLink RX11 138 yX9_learn ∈ q_tbl := (q_wt3 (i := 111) (by decide +kernel) rfl)
theorem ml_X11_148 : Cond.methodLink RX11 148 yX9_goBy ∈ q_tbl := (q_wt3 (i := 127) (by decide +kernel) rfl)
theorem ml_X11_152 : Cond.methodLink RX11 152 yX11_newDue ∈ q_tbl := (q_wt4 (i := 23) (by decide +kernel) rfl)
theorem ml_X11_155 : Cond.methodLink RX11 155 yX2_getChecks ∈ q_tbl := (q_wt4 (i := 30) (by decide +kernel) rfl)
theorem ml_X11_158 : Cond.methodLink RX11 158 yX2_getCoin ∈ q_tbl := (q_wt4 (i := 31) (by decide +kernel) rfl)
theorem ml_X11_164 : Cond.methodLink RX11 164 yX2_isGone ∈ q_tbl := (q_wt4 (i := 27) (by decide +kernel) rfl)
theorem ml_X11_168 : Cond.methodLink RX11 168 yX1_added ∈ q_tbl := (q_wt4 (i := 29) (by decide +kernel) rfl)
theorem ml_X11_171 : Cond.methodLink RX11 171 yX1_has ∈ q_tbl := (q_wt4 (i := 48) (by decide +kernel) rfl)
theorem ml_X11_188 : Cond.methodLink RX11 188 yX1_row ∈ q_tbl := (q_wt4 (i := 65) (by decide +kernel) rfl)
theorem ml_X11_189 : Cond.methodLink RX11 189 yX1_isUnder ∈ q_tbl := (q_wt4 (i := 73) (by decide +kernel) rfl)
theorem ml_X11_192 : Cond.methodLink RX11 192 yX9_wrongFines ∈ q_tbl := (q_wt4 (i := 78) (by decide +kernel) rfl)
theorem ml_X11_196 : Cond.methodLink RX11 196 yX9_reckon ∈ q_tbl := (q_wt4 (i := 94) (by decide +kernel) rfl)
theorem ml_X11_203 : Cond.methodLink RX11 203 yX8_loavesOfCompany ∈ q_tbl := (q_wt4 (i := 95) (by decide +kernel) rfl)
theorem ml_X11_206 : Cond.methodLink RX11 206 yX8_loavesOfTown ∈ q_tbl := (q_wt4 (i := 103) (by decide +kernel) rfl)
theorem ml_X11_217 : Cond.methodLink RX11 217 yX9_weeksBound ∈ q_tbl := (q_wt4 (i := 117) (by decide +kernel) rfl)
theorem ml_X11_235 : Cond.methodLink RX11 235 yX2_sum ∈ q_tbl := (q_wt4 (i := 187) (by decide +kernel) rfl)
theorem ml_X11_245 : Cond.methodLink RX11 245 yX5_put ∈ q_tbl := (q_wt4 (i := 195) (by decide +kernel) rfl)
theorem ml_X11_271 : Cond.methodLink RX11 271 yX7_has ∈ q_tbl := (q_wt5 (i := 159) (by decide +kernel) rfl)
theorem ml_X11_272 : Cond.methodLink RX11 272 yX7_row ∈ q_tbl := (q_wt5 (i := 163) (by decide +kernel) rfl)
theorem ml_X11_273 : Cond.methodLink RX11 273 yX7_counting ∈ q_tbl := (q_wt5 (i := 171) (by decide +kernel) rfl)
theorem ml_X11_276 : Cond.methodLink RX11 276 yX7_given ∈ q_tbl := (q_wt5 (i := 176) (by decide +kernel) rfl)
theorem ml_X11_280 : Cond.methodLink RX11 280 yX0_open ∈ q_tbl := (q_wt5 (i := 182) (by decide +kernel) rfl)
theorem ml_X11_287 : Cond.methodLink RX11 287 yX11_bookFinding ∈ q_tbl := (q_wt5 (i := 193) (by decide +kernel) rfl)
theorem ml_X11_290 : Cond.methodLink RX11 290 yX0_set ∈ q_tbl := (q_wt5 (i := 207) (by decide +kernel) rfl)
theorem ml_X11_293 : Cond.methodLink RX11 293 yX0_placeOf ∈ q_tbl := (q_wt5 (i := 215) (by decide +kernel) rfl)
theorem ml_X11_299 : Cond.methodLink RX11 299 yX0_isMissing ∈ q_tbl := (q_wt5 (i := 197) (by decide +kernel) rfl)
theorem ml_X11_303 : Cond.methodLink RX11 303 yX0_hasWeek ∈ q_tbl := (q_wt5 (i := 202) (by decide +kernel) rfl)
theorem ml_X11_310 : Cond.methodLink RX11 310 yX0_hasRange ∈ q_tbl := (q_wt5 (i := 226) (by decide +kernel) rfl)
theorem ml_X11_313 : Cond.methodLink RX11 313 yX0_start ∈ q_tbl := (q_wt5 (i := 230) (by decide +kernel) rfl)
theorem ml_X11_331 : Cond.methodLink RX11 331 yX10_number ∈ q_tbl := (q_wt6 (i := 0) (by decide +kernel) rfl)
theorem ml_X11_333 : Cond.methodLink RX11 333 yX10_open ∈ q_tbl := (q_wt6 (i := 7) (by decide +kernel) rfl)
theorem ml_X11_336 : Cond.methodLink RX11 336 yX10_openWay ∈ q_tbl := (q_wt6 (i := 29) (by decide +kernel) rfl)
theorem ml_X11_342 : Cond.methodLink RX11 342 yX10_openBarred ∈ q_tbl := (q_wt6 (i := 37) (by decide +kernel) rfl)
theorem ml_X11_345 : Cond.methodLink RX11 345 yX10_othersBarred ∈ q_tbl := (q_wt6 (i := 45) (by decide +kernel) rfl)
theorem ml_X11_354 : Cond.methodLink RX11 354 yX6_added ∈ q_tbl := (q_wt6 (i := 53) (by decide +kernel) rfl)
theorem ml_X11_356 : Cond.methodLink RX11 356 yX6_bestOf ∈ q_tbl := (q_wt6 (i := 62) (by decide +kernel) rfl)
theorem ml_X11_362 : Cond.methodLink RX11 362 yX9_weighStrikes ∈ q_tbl := (q_wt6 (i := 84) (by decide +kernel) rfl)
theorem ml_X11_365 : Cond.methodLink RX11 365 yX9_menLast ∈ q_tbl := (q_wt6 (i := 89) (by decide +kernel) rfl)
theorem ml_X11_368 : Cond.methodLink RX11 368 yX9_companyLasts ∈ q_tbl := (q_wt6 (i := 93) (by decide +kernel) rfl)
theorem ml_X11_371 : Cond.methodLink RX11 371 yX9_leastStrike ∈ q_tbl := (q_wt6 (i := 101) (by decide +kernel) rfl)
theorem ml_X11_378 : Cond.methodLink RX11 378 yX4_added ∈ q_tbl := (q_wt6 (i := 112) (by decide +kernel) rfl)
theorem ml_X11_381 : Cond.methodLink RX11 381 yX11_isFunded ∈ q_tbl := (q_wt6 (i := 121) (by decide +kernel) rfl)
theorem ml_X11_384 : Cond.methodLink RX11 384 yX4_found ∈ q_tbl := (q_wt6 (i := 124) (by decide +kernel) rfl)
theorem ml_X11_400 : Cond.methodLink RX11 400 yX11_firstWrong ∈ q_tbl := (q_wt6 (i := 157) (by decide +kernel) rfl)
theorem ml_X11_407 : Cond.methodLink RX11 407 yX1_open ∈ q_tbl := (q_wt6 (i := 181) (by decide +kernel) rfl)
theorem ml_X11_409 : Cond.methodLink RX11 409 yX1_out ∈ q_tbl := (q_wt6 (i := 185) (by decide +kernel) rfl)
theorem ml_X12_64 : Cond.methodLink RX12 64 yX12_isIn ∈ q_tbl := (q_wt7 (i := 90) (by decide +kernel) rfl)
theorem ml_X12_68 : Cond.methodLink RX12 68 yX12_manAt ∈ q_tbl := (q_wt7 (i := 105) (by decide +kernel) rfl)
theorem ml_X12_72 : Cond.methodLink RX12 72 yX12_shopAt ∈ q_tbl := (q_wt7 (i := 119) (by decide +kernel) rfl)
theorem ml_X12_75 : Cond.methodLink RX12 75 yX12_dueAt ∈ q_tbl := (q_wt7 (i := 145) (by decide +kernel) rfl)
theorem ml_X12_78 : Cond.methodLink RX12 78 yX12_isPit ∈ q_tbl := (q_wt7 (i := 86) (by decide +kernel) rfl)
theorem ml_X12_86 : Cond.methodLink RX12 86 yX12_becomes ∈ q_tbl := (q_wt7 (i := 95) (by decide +kernel) rfl)
theorem ml_X12_93 : Cond.methodLink RX12 93 yX12_isGone ∈ q_tbl := (q_wt7 (i := 109) (by decide +kernel) rfl)
theorem ml_X12_99 : Cond.methodLink RX12 99 yX12_isShop ∈ q_tbl := (q_wt7 (i := 127) (by decide +kernel) rfl)
theorem ml_X12_106 : Cond.methodLink RX12 106 yX12_newDue ∈ q_tbl := (q_wt7 (i := 141) (by decide +kernel) rfl)
theorem ml_X12_110 : Cond.methodLink RX12 110 yX12_isMan ∈ q_tbl := (q_wt7 (i := 153) (by decide +kernel) rfl)
theorem ml_X12_115 : Cond.methodLink RX12 115 yX12_earned ∈ q_tbl := (q_wt7 (i := 158) (by decide +kernel) rfl)
theorem ml_X12_118 : Cond.methodLink RX12 118 yX12_owedBy ∈ q_tbl := (q_wt7 (i := 162) (by decide +kernel) rfl)
theorem ml_X12_121 : Cond.methodLink RX12 121 yX12_knows ∈ q_tbl := (q_wt7 (i := 179) (by decide +kernel) rfl)
theorem ml_X12_129 : Cond.methodLink RX12 129 yX12_wageOf ∈ q_tbl := (q_wt7 (i := 202) (by decide +kernel) rfl)
theorem ml_X12_132 : Cond.methodLink RX12 132 yX12_isTown ∈ q_tbl := (q_wt7 (i := 232) (by decide +kernel) rfl)
theorem ml_X12_135 : Cond.methodLink RX12 135 yX12_lack ∈ q_tbl := (q_wt8 (i := 0) (by decide +kernel) rfl)
theorem ml_X12_138 : Cond.methodLink RX12 138 yX12_least ∈ q_tbl := (q_wt8 (i := 4) (by decide +kernel) rfl)
theorem ml_X12_141 : Cond.methodLink RX12 141 yX12_loaves ∈ q_tbl := (q_wt7 (i := 236) (by decide +kernel) rfl)
theorem ml_X12_145 : Cond.methodLink RX12 145 yX12_takes ∈ q_tbl := (q_wt8 (i := 7) (by decide +kernel) rfl)
theorem ml_X12_149 : Cond.methodLink RX12 149 yX12_cheapest ∈ q_tbl := (q_wt8 (i := 11) (by decide +kernel) rfl)
theorem ml_X12_152 : Cond.methodLink RX12 152 yX12_buys ∈ q_tbl := (q_wt7 (i := 228) (by decide +kernel) rfl)
theorem ml_X12_160 : Cond.methodLink RX12 160 yX12_stopOf ∈ q_tbl := (q_wt8 (i := 39) (by decide +kernel) rfl)
theorem ml_X12_175 : Cond.methodLink RX12 175 yX12_coinOf ∈ q_tbl := (q_wt8 (i := 43) (by decide +kernel) rfl)
theorem ml_X12_184 : Cond.methodLink RX12 184 yX12_week ∈ q_tbl := (q_wt8 (i := 23) (by decide +kernel) rfl)
theorem ml_X12_188 : Cond.methodLink RX12 188 yX12_dueOf ∈ q_tbl := (q_wt8 (i := 27) (by decide +kernel) rfl)
theorem ml_X12_191 : Cond.methodLink RX12 191 yX12_pays ∈ q_tbl := (q_wt8 (i := 35) (by decide +kernel) rfl)
theorem ml_X12_195 : Cond.methodLink RX12 195 yX12_keepOf ∈ q_tbl := (q_wt8 (i := 53) (by decide +kernel) rfl)
theorem ml_X12_198 : Cond.methodLink RX12 198 yX12_digs ∈ q_tbl := (q_wt7 (i := 198) (by decide +kernel) rfl)
theorem ml_X12_201 : Cond.methodLink RX12 201 yX12_eats ∈ q_tbl := (q_wt7 (i := 224) (by decide +kernel) rfl)
theorem ml_X12_204 : Cond.methodLink RX12 204 yX12_news ∈ q_tbl := (q_wt8 (i := 15) (by decide +kernel) rfl)
theorem ml_X12_207 : Cond.methodLink RX12 207 yX12_endWeek ∈ q_tbl := (q_wt8 (i := 19) (by decide +kernel) rfl)
theorem ml_X12_212 : Cond.methodLink RX12 212 yX12_oneDay ∈ q_tbl := (q_wt7 (i := 194) (by decide +kernel) rfl)
theorem ml_X12_235 : Cond.methodLink RX12 235 yX12_isLetter ∈ q_tbl := (q_wt8 (i := 78) (by decide +kernel) rfl)
theorem ml_X12_241 : Cond.methodLink RX12 241 yX12_isDigit ∈ q_tbl := (q_wt8 (i := 84) (by decide +kernel) rfl)
theorem ml_X12_247 : Cond.methodLink RX12 247 yX12_isWordAt ∈ q_tbl := (q_wt8 (i := 94) (by decide +kernel) rfl)
theorem ml_X12_257 : Cond.methodLink RX12 257 yX12_both ∈ q_tbl := (q_wt8 (i := 102) (by decide +kernel) rfl)
theorem ml_X12_260 : Cond.methodLink RX12 260 yX12_isSign ∈ q_tbl := (q_wt8 (i := 129) (by decide +kernel) rfl)
theorem ml_X12_263 : Cond.methodLink RX12 263 yX12_next ∈ q_tbl := (q_wt8 (i := 74) (by decide +kernel) rfl)
theorem ml_X12_266 : Cond.methodLink RX12 266 yX12_step ∈ q_tbl := (q_wt8 (i := 122) (by decide +kernel) rfl)
theorem ml_X12_269 : Cond.methodLink RX12 269 yX12_test ∈ q_tbl := (q_wt8 (i := 106) (by decide +kernel) rfl)
theorem ml_X12_272 : Cond.methodLink RX12 272 yX12_sum ∈ q_tbl := (q_wt8 (i := 110) (by decide +kernel) rfl)
theorem ml_X12_275 : Cond.methodLink RX12 275 yX12_term ∈ q_tbl := (q_wt8 (i := 114) (by decide +kernel) rfl)
theorem ml_X12_278 : Cond.methodLink RX12 278 yX12_part0 ∈ q_tbl := (q_wt8 (i := 118) (by decide +kernel) rfl)
theorem ml_X12_284 : Cond.methodLink RX12 284 yX12_isName ∈ q_tbl := (q_wt8 (i := 126) (by decide +kernel) rfl)
theorem ml_X12_294 : Cond.methodLink RX12 294 yX12_either ∈ q_tbl := (q_wt8 (i := 98) (by decide +kernel) rfl)
theorem ml_X12_297 : Cond.methodLink RX12 297 yX12_textAt ∈ q_tbl := (q_wt7 (i := 210) (by decide +kernel) rfl)
theorem ml_X12_300 : Cond.methodLink RX12 300 yX12_key ∈ q_tbl := (q_wt8 (i := 90) (by decide +kernel) rfl)
theorem ml_X12_305 : Cond.methodLink RX12 305 yX12_parse ∈ q_tbl := (q_wt8 (i := 70) (by decide +kernel) rfl)
theorem ml_X12_308 : Cond.methodLink RX12 308 yX12_isText ∈ q_tbl := (q_wt8 (i := 137) (by decide +kernel) rfl)
theorem ml_X12_313 : Cond.methodLink RX12 313 yX12_counts ∈ q_tbl := (q_wt7 (i := 206) (by decide +kernel) rfl)
theorem ml_X12_316 : Cond.methodLink RX12 316 yX12_orNone ∈ q_tbl := (q_wt8 (i := 146) (by decide +kernel) rfl)
theorem ml_X12_319 : Cond.methodLink RX12 319 yX12_joined ∈ q_tbl := (q_wt7 (i := 218) (by decide +kernel) rfl)
theorem ml_X12_322 : Cond.methodLink RX12 322 yX12_worked ∈ q_tbl := (q_wt7 (i := 214) (by decide +kernel) rfl)
theorem ml_X12_325 : Cond.methodLink RX12 325 yX12_held ∈ q_tbl := (q_wt7 (i := 221) (by decide +kernel) rfl)
theorem ml_X12_328 : Cond.methodLink RX12 328 yX12_dueFor ∈ q_tbl := (q_wt8 (i := 31) (by decide +kernel) rfl)
theorem ml_X12_335 : Cond.methodLink RX12 335 yX12_coinFor ∈ q_tbl := (q_wt8 (i := 47) (by decide +kernel) rfl)
theorem ml_X12_338 : Cond.methodLink RX12 338 yX12_fineOf ∈ q_tbl := (q_wt8 (i := 153) (by decide +kernel) rfl)
theorem ml_X12_341 : Cond.methodLink RX12 341 yX12_actBy ∈ q_tbl := (q_wt8 (i := 157) (by decide +kernel) rfl)
theorem ml_X12_347 : Cond.methodLink RX12 347 yX12_refused ∈ q_tbl := (q_wt8 (i := 165) (by decide +kernel) rfl)
theorem ml_X12_350 : Cond.methodLink RX12 350 yX12_gets ∈ q_tbl := (q_wt8 (i := 171) (by decide +kernel) rfl)
theorem ml_X12_353 : Cond.methodLink RX12 353 yX12_isDue ∈ q_tbl := (q_wt8 (i := 191) (by decide +kernel) rfl)
theorem ml_X12_357 : Cond.methodLink RX12 357 yX12_isWrong ∈ q_tbl := (q_wt8 (i := 216) (by decide +kernel) rfl)
theorem ml_X12_360 : Cond.methodLink RX12 360 yX12_wrong ∈ q_tbl := (q_wt8 (i := 224) (by decide +kernel) rfl)
theorem ml_X12_365 : Cond.methodLink RX12 365 yX12_setAside ∈ q_tbl := (q_wt9 (i := 2) (by decide +kernel) rfl)
theorem ml_X12_369 : Cond.methodLink RX12 369 yX12_stands ∈ q_tbl := (q_wt9 (i := 6) (by decide +kernel) rfl)
theorem ml_X12_380 : Cond.methodLink RX12 380 yX12_blankOf ∈ q_tbl := (q_wt9 (i := 30) (by decide +kernel) rfl)
theorem ml_X12_383 : Cond.methodLink RX12 383 yX12_readBy ∈ q_tbl := (q_wt9 (i := 26) (by decide +kernel) rfl)
theorem ml_X12_386 : Cond.methodLink RX12 386 yX12_bars ∈ q_tbl := (q_wt9 (i := 54) (by decide +kernel) rfl)
theorem ml_X12_389 : Cond.methodLink RX12 389 yX12_isRound ∈ q_tbl := (q_wt9 (i := 50) (by decide +kernel) rfl)
theorem ml_X12_392 : Cond.methodLink RX12 392 yX12_ones ∈ q_tbl := (q_wt9 (i := 78) (by decide +kernel) rfl)
theorem ml_X12_398 : Cond.methodLink RX12 398 yX12_findRound ∈ q_tbl := (q_wt9 (i := 74) (by decide +kernel) rfl)
theorem ml_X12_403 : Cond.methodLink RX12 403 yX12_menLast ∈ q_tbl := (q_wt9 (i := 90) (by decide +kernel) rfl)
theorem ml_X12_406 : Cond.methodLink RX12 406 yX12_companyLasts ∈ q_tbl := (q_wt9 (i := 94) (by decide +kernel) rfl)
theorem ml_X12_418 : Cond.methodLink RX12 418 yX12_seek ∈ q_tbl := (q_wt9 (i := 118) (by decide +kernel) rfl)
theorem ml_X12_423 : Cond.methodLink RX12 423 yX12_isFund ∈ q_tbl := (q_wt9 (i := 110) (by decide +kernel) rfl)
theorem ml_X12_428 : Cond.methodLink RX12 428 yX12_findOrder ∈ q_tbl := (q_wt9 (i := 114) (by decide +kernel) rfl)
theorem ml_X12_437 : Cond.methodLink RX12 437 yX12_dueIs ∈ q_tbl := (q_wt9 (i := 139) (by decide +kernel) rfl)
theorem ml_X12_445 : Cond.methodLink RX12 445 yX12_allEarned ∈ q_tbl := (q_wt9 (i := 148) (by decide +kernel) rfl)
theorem ml_X12_448 : Cond.methodLink RX12 448 yX12_rowsOfOrder ∈ q_tbl := (q_wt9 (i := 135) (by decide +kernel) rfl)
theorem ml_X12_451 : Cond.methodLink RX12 451 yX12_rowsOfDays ∈ q_tbl := (q_wt9 (i := 143) (by decide +kernel) rfl)
theorem ml_X2_67 : Cond.methodLink RX2 67 yX2_row ∈ q_tbl := (q_wt4 (i := 154) (by decide +kernel) rfl)
theorem ml_X2_77 : Cond.methodLink RX2 77 yX2_isGone ∈ q_tbl := (q_wt3 (i := 9) (by decide +kernel) rfl)
theorem ml_X4_50 : Cond.methodLink RX4 50 yX4_putNext ∈ q_tbl := (q_wt6 (i := 128) (by decide +kernel) rfl)
theorem ml_X4_56 : Cond.methodLink RX4 56 yX4_keepOrder ∈ q_tbl := (q_wt6 (i := 132) (by decide +kernel) rfl)
theorem ml_X4_60 : Cond.methodLink RX4 60 yX4_weeksTill ∈ q_tbl := (q_wt6 (i := 136) (by decide +kernel) rfl)
theorem ml_X5_38 : Cond.methodLink RX5 38 yX5_goOn ∈ q_tbl := (q_wt4 (i := 211) (by decide +kernel) rfl)
theorem ml_X5_55 : Cond.methodLink RX5 55 yX5_isLetter ∈ q_tbl := (q_wt4 (i := 215) (by decide +kernel) rfl)
theorem ml_X5_59 : Cond.methodLink RX5 59 yX5_isDigit ∈ q_tbl := (q_wt4 (i := 218) (by decide +kernel) rfl)
theorem ml_X5_115 : Cond.methodLink RX5 115 yX5_emit ∈ q_tbl := (q_wt5 (i := 63) (by decide +kernel) rfl)
theorem ml_X5_119 : Cond.methodLink RX5 119 yX5_isSign ∈ q_tbl := (q_wt5 (i := 136) (by decide +kernel) rfl)
theorem ml_X6_47 : Cond.methodLink RX6 47 yX6_goRound ∈ q_tbl := (q_wt6 (i := 66) (by decide +kernel) rfl)
theorem ml_X6_51 : Cond.methodLink RX6 51 yJ6_bitCount_0f7a4 ∈ q_tbl := (q_wt6 (i := 70) (by decide +kernel) rfl)
theorem ml_X7_42 : Cond.methodLink RX7 42 yX7_counting ∈ q_tbl := (q_wt3 (i := 140) (by decide +kernel) rfl)
theorem ml_X7_46 : Cond.methodLink RX7 46 yX7_unwritten ∈ q_tbl := (q_wt3 (i := 144) (by decide +kernel) rfl)
theorem ml_X7_49 : Cond.methodLink RX7 49 yX7_value ∈ q_tbl := (q_wt3 (i := 147) (by decide +kernel) rfl)
theorem ml_X7_53 : Cond.methodLink RX7 53 yX7_held ∈ q_tbl := (q_wt3 (i := 160) (by decide +kernel) rfl)
theorem ml_X7_64 : Cond.methodLink RX7 64 yX7_named ∈ q_tbl := (q_wt3 (i := 151) (by decide +kernel) rfl)
theorem ml_X7_67 : Cond.methodLink RX7 67 yX7_truth ∈ q_tbl := (q_wt3 (i := 154) (by decide +kernel) rfl)
theorem ml_X7_71 : Cond.methodLink RX7 71 yX7_joined ∈ q_tbl := (q_wt3 (i := 157) (by decide +kernel) rfl)
theorem ml_X8_41 : Cond.methodLink RX8 41 yX8_leastPrice ∈ q_tbl := (q_wt4 (i := 99) (by decide +kernel) rfl)
theorem ml_X9_118 : Cond.methodLink RX9 118 yX2_added ∈ q_tbl := (q_wt3 (i := 55) (by decide +kernel) rfl)
theorem ml_X9_125 : Cond.methodLink RX9 125 yX1_added ∈ q_tbl := (q_wt3 (i := 60) (by decide +kernel) rfl)
theorem ml_X9_137 : Cond.methodLink RX9 137 yX9_earned ∈ q_tbl := (q_wt3 (i := 225) (by decide +kernel) rfl)
theorem ml_X9_141 : Cond.methodLink RX9 141 yX9_owed ∈ q_tbl := (q_wt3 (i := 210) (by decide +kernel) rfl)
theorem ml_X9_147 : Cond.methodLink RX9 147 yX2_learn ∈ q_tbl := (q_wt3 (i := 115) (by decide +kernel) rfl)
theorem ml_X9_151 : Cond.methodLink RX9 151 yX2_isGone ∈ q_tbl := (q_wt3 (i := 131) (by decide +kernel) rfl)
theorem ml_X9_155 : Cond.methodLink RX9 155 yX9_dig ∈ q_tbl := (q_wt3 (i := 132) (by decide +kernel) rfl)
theorem ml_X9_159 : Cond.methodLink RX9 159 yX9_eat ∈ q_tbl := (q_wt3 (i := 169) (by decide +kernel) rfl)
theorem ml_X9_163 : Cond.methodLink RX9 163 yX9_spreadNews ∈ q_tbl := (q_wt3 (i := 212) (by decide +kernel) rfl)
theorem ml_X9_166 : Cond.methodLink RX9 166 yX9_endWeek ∈ q_tbl := (q_wt3 (i := 217) (by decide +kernel) rfl)
theorem ml_X9_182 : Cond.methodLink RX9 182 yX7_given ∈ q_tbl := (q_wt3 (i := 136) (by decide +kernel) rfl)
theorem ml_X9_200 : Cond.methodLink RX9 200 yX2_lacks ∈ q_tbl := (q_wt3 (i := 173) (by decide +kernel) rfl)
theorem ml_X9_203 : Cond.methodLink RX9 203 yX9_buy ∈ q_tbl := (q_wt3 (i := 177) (by decide +kernel) rfl)
theorem ml_X9_224 : Cond.methodLink RX9 224 yX9_buyByChecks ∈ q_tbl := (q_wt3 (i := 181) (by decide +kernel) rfl)
theorem ml_X9_228 : Cond.methodLink RX9 228 yX9_buyInTown ∈ q_tbl := (q_wt3 (i := 196) (by decide +kernel) rfl)
theorem ml_X9_231 : Cond.methodLink RX9 231 yX9_buyOnDebt ∈ q_tbl := (q_wt3 (i := 206) (by decide +kernel) rfl)
theorem ml_X9_237 : Cond.methodLink RX9 237 yX8_loavesFor ∈ q_tbl := (q_wt3 (i := 185) (by decide +kernel) rfl)
theorem ml_X9_243 : Cond.methodLink RX9 243 yX9_takeLoaves ∈ q_tbl := (q_wt3 (i := 191) (by decide +kernel) rfl)
theorem ml_X9_247 : Cond.methodLink RX9 247 yX9_townKnownCheapest ∈ q_tbl := (q_wt3 (i := 200) (by decide +kernel) rfl)
theorem ml_X9_256 : Cond.methodLink RX9 256 yX2_knows ∈ q_tbl := (q_wt3 (i := 204) (by decide +kernel) rfl)
theorem ml_X9_260 : Cond.methodLink RX9 260 yX2_priceKnown ∈ q_tbl := (q_wt3 (i := 205) (by decide +kernel) rfl)
theorem ml_X9_269 : Cond.methodLink RX9 269 yX9_learn ∈ q_tbl := (q_wt3 (i := 195) (by decide +kernel) rfl)
theorem ml_X9_271 : Cond.methodLink RX9 271 yX2_dayKnown ∈ q_tbl := (q_wt3 (i := 216) (by decide +kernel) rfl)
theorem ml_X9_274 : Cond.methodLink RX9 274 yX9_reckon ∈ q_tbl := (q_wt3 (i := 221) (by decide +kernel) rfl)
theorem ml_X9_278 : Cond.methodLink RX9 278 yX9_isKept ∈ q_tbl := (q_wt4 (i := 15) (by decide +kernel) rfl)
theorem ml_X9_281 : Cond.methodLink RX9 281 yX1_taken ∈ q_tbl := (q_wt3 (i := 226) (by decide +kernel) rfl)
theorem ml_X9_287 : Cond.methodLink RX9 287 yX9_payOut ∈ q_tbl := (q_wt4 (i := 1) (by decide +kernel) rfl)
theorem ml_X9_290 : Cond.methodLink RX9 290 yX2_getCoin ∈ q_tbl := (q_wt4 (i := 5) (by decide +kernel) rfl)
theorem ml_X9_293 : Cond.methodLink RX9 293 yX2_getChecks ∈ q_tbl := (q_wt4 (i := 11) (by decide +kernel) rfl)
theorem ml_X9_300 : Cond.methodLink RX9 300 yX9_isWrongFine ∈ q_tbl := (q_wt4 (i := 82) (by decide +kernel) rfl)
theorem ml_X9_310 : Cond.methodLink RX9 310 yX8_firstCompany ∈ q_tbl := (q_wt4 (i := 121) (by decide +kernel) rfl)
theorem ml_X9_315 : Cond.methodLink RX9 315 yX8_leastPrice ∈ q_tbl := (q_wt6 (i := 88) (by decide +kernel) rfl)
theorem ml_X9_318 : Cond.methodLink RX9 318 yJ6_bitCount_0f7a4 ∈ q_tbl := (q_wt6 (i := 105) (by decide +kernel) rfl)
theorem ml_X9_323 : Cond.methodLink RX9 323 yX9_companyLasts ∈ q_tbl := (q_wt6 (i := 106) (by decide +kernel) rfl)
theorem ml_X9_326 : Cond.methodLink RX9 326 yX9_menLast ∈ q_tbl := (q_wt6 (i := 107) (by decide +kernel) rfl)
theorem mst_J6_bitCount_0f7a4 : Cond.static yJ6_bitCount_0f7a4 ∈ q_tbl := (q_wt6 (i := 71) (by decide +kernel) rfl)
theorem mst_X0_start : Cond.static yX0_start ∈ q_tbl := (q_wt5 (i := 187) (by decide +kernel) rfl)
theorem mst_X10_isBarred : Cond.static yX10_isBarred ∈ q_tbl := (q_wt6 (i := 42) (by decide +kernel) rfl)
theorem mst_X10_m : Cond.static yX10_m ∈ q_tbl := (q_wt6 (i := 16) (by decide +kernel) rfl)
theorem mst_X10_number : Cond.static yX10_number ∈ q_tbl := (q_wt6 (i := 1) (by decide +kernel) rfl)
theorem mst_X10_p : Cond.static yX10_p ∈ q_tbl := (q_wt6 (i := 19) (by decide +kernel) rfl)
theorem mst_X10_t : Cond.static yX10_t ∈ q_tbl := (q_wt6 (i := 22) (by decide +kernel) rfl)
theorem mst_X11_exchanged : Cond.static yX11_exchanged ∈ q_tbl := (q_wt2 (i := 236) (by decide +kernel) rfl)
theorem mst_X11_isFunded : Cond.static yX11_isFunded ∈ q_tbl := (q_wt6 (i := 122) (by decide +kernel) rfl)
theorem mst_X11_looked : Cond.static yX11_looked ∈ q_tbl := (q_wt2 (i := 239) (by decide +kernel) rfl)
theorem mst_X11_within : Cond.static yX11_within ∈ q_tbl := (q_wt2 (i := 228) (by decide +kernel) rfl)
theorem mst_X12_blankOf : Cond.static yX12_blankOf ∈ q_tbl := (q_wt9 (i := 31) (by decide +kernel) rfl)
theorem mst_X12_held : Cond.static yX12_held ∈ q_tbl := (q_wt7 (i := 222) (by decide +kernel) rfl)
theorem mst_X12_isFund : Cond.static yX12_isFund ∈ q_tbl := (q_wt9 (i := 111) (by decide +kernel) rfl)
theorem mst_X12_isIn : Cond.static yX12_isIn ∈ q_tbl := (q_wt7 (i := 91) (by decide +kernel) rfl)
theorem mst_X12_isName : Cond.static yX12_isName ∈ q_tbl := (q_wt8 (i := 127) (by decide +kernel) rfl)
theorem mst_X12_isPit : Cond.static yX12_isPit ∈ q_tbl := (q_wt7 (i := 87) (by decide +kernel) rfl)
theorem mst_X12_joined : Cond.static yX12_joined ∈ q_tbl := (q_wt7 (i := 219) (by decide +kernel) rfl)
theorem mst_X12_least : Cond.static yX12_least ∈ q_tbl := (q_wt8 (i := 5) (by decide +kernel) rfl)
theorem mst_X12_ones : Cond.static yX12_ones ∈ q_tbl := (q_wt9 (i := 79) (by decide +kernel) rfl)
theorem mst_X12_orNone : Cond.static yX12_orNone ∈ q_tbl := (q_wt8 (i := 147) (by decide +kernel) rfl)
theorem mst_X1_isUnder : Cond.static yX1_isUnder ∈ q_tbl := (q_wt3 (i := 231) (by decide +kernel) rfl)
theorem mst_X2_mayBe : Cond.static yX2_mayBe ∈ q_tbl := (q_wt3 (i := 44) (by decide +kernel) rfl)
theorem mst_X4_weeksTill : Cond.static yX4_weeksTill ∈ q_tbl := (q_wt6 (i := 137) (by decide +kernel) rfl)
theorem mst_X5_isDigit : Cond.static yX5_isDigit ∈ q_tbl := (q_wt4 (i := 219) (by decide +kernel) rfl)
theorem mst_X5_isLetter : Cond.static yX5_isLetter ∈ q_tbl := (q_wt4 (i := 216) (by decide +kernel) rfl)
theorem mst_X7_held : Cond.static yX7_held ∈ q_tbl := (q_wt3 (i := 161) (by decide +kernel) rfl)
theorem mst_X7_joined : Cond.static yX7_joined ∈ q_tbl := (q_wt3 (i := 158) (by decide +kernel) rfl)
theorem mst_X7_named : Cond.static yX7_named ∈ q_tbl := (q_wt3 (i := 152) (by decide +kernel) rfl)
theorem mst_X7_truth : Cond.static yX7_truth ∈ q_tbl := (q_wt3 (i := 155) (by decide +kernel) rfl)
theorem mst_X7_unwritten : Cond.static yX7_unwritten ∈ q_tbl := (q_wt3 (i := 145) (by decide +kernel) rfl)
theorem mv_X0_hasRange : Cond.instanceMethod yX0_hasRange ∈ q_tbl ∧ Cond.selects yX0_hasRange.cls yX0_hasRange yX0_hasRange ∈ q_tbl ∧ ∃ T : u_T, vwCl[0]? = some (yX0_hasRange.cls, T, 3) := ⟨(q_wt5 (i := 227) (by decide +kernel) rfl), (q_wt5 (i := 228) (by decide +kernel) rfl), _, rfl⟩
theorem mv_X0_hasWeek : Cond.instanceMethod yX0_hasWeek ∈ q_tbl ∧ Cond.selects yX0_hasWeek.cls yX0_hasWeek yX0_hasWeek ∈ q_tbl ∧ ∃ T : u_T, vwCl[0]? = some (yX0_hasWeek.cls, T, 3) := ⟨(q_wt5 (i := 203) (by decide +kernel) rfl), (q_wt5 (i := 204) (by decide +kernel) rfl), _, rfl⟩
theorem mv_X0_isMissing : Cond.instanceMethod yX0_isMissing ∈ q_tbl ∧ Cond.selects yX0_isMissing.cls yX0_isMissing yX0_isMissing ∈ q_tbl ∧ ∃ T : u_T, vwCl[0]? = some (yX0_isMissing.cls, T, 3) := ⟨(q_wt5 (i := 198) (by decide +kernel) rfl), (q_wt5 (i := 199) (by decide +kernel) rfl), _, rfl⟩
theorem mv_X0_open : Cond.instanceMethod yX0_open ∈ q_tbl ∧ Cond.selects yX0_open.cls yX0_open yX0_open ∈ q_tbl ∧ ∃ T : u_T, vwCl[0]? = some (yX0_open.cls, T, 3) := ⟨(q_wt5 (i := 183) (by decide +kernel) rfl), (q_wt5 (i := 184) (by decide +kernel) rfl), _, rfl⟩
theorem mv_X0_placeOf : Cond.instanceMethod yX0_placeOf ∈ q_tbl ∧ Cond.selects yX0_placeOf.cls yX0_placeOf yX0_placeOf ∈ q_tbl ∧ ∃ T : u_T, vwCl[0]? = some (yX0_placeOf.cls, T, 3) := ⟨(q_wt5 (i := 216) (by decide +kernel) rfl), (q_wt5 (i := 217) (by decide +kernel) rfl), _, rfl⟩
theorem mv_X0_set : Cond.instanceMethod yX0_set ∈ q_tbl ∧ Cond.selects yX0_set.cls yX0_set yX0_set ∈ q_tbl ∧ ∃ T : u_T, vwCl[0]? = some (yX0_set.cls, T, 3) := ⟨(q_wt5 (i := 208) (by decide +kernel) rfl), (q_wt5 (i := 209) (by decide +kernel) rfl), _, rfl⟩
theorem mv_X10_isOpen : Cond.instanceMethod yX10_isOpen ∈ q_tbl ∧ Cond.selects yX10_isOpen.cls yX10_isOpen yX10_isOpen ∈ q_tbl ∧ ∃ T : u_T, vwCl[10]? = some (yX10_isOpen.cls, T, 1) := ⟨(q_wt6 (i := 13) (by decide +kernel) rfl), (q_wp2 (i := 12) (n := 1) (by decide +kernel)), _, rfl⟩
theorem mv_X10_open : Cond.instanceMethod yX10_open ∈ q_tbl ∧ Cond.selects yX10_open.cls yX10_open yX10_open ∈ q_tbl ∧ ∃ T : u_T, vwCl[10]? = some (yX10_open.cls, T, 1) := ⟨(q_wt6 (i := 8) (by decide +kernel) rfl), (q_wt6 (i := 9) (by decide +kernel) rfl), _, rfl⟩
theorem mv_X10_openBarred : Cond.instanceMethod yX10_openBarred ∈ q_tbl ∧ Cond.selects yX10_openBarred.cls yX10_openBarred yX10_openBarred ∈ q_tbl ∧ ∃ T : u_T, vwCl[10]? = some (yX10_openBarred.cls, T, 1) := ⟨(q_wt6 (i := 38) (by decide +kernel) rfl), (q_wt6 (i := 39) (by decide +kernel) rfl), _, rfl⟩
theorem mv_X10_openWay : Cond.instanceMethod yX10_openWay ∈ q_tbl ∧ Cond.selects yX10_openWay.cls yX10_openWay yX10_openWay ∈ q_tbl ∧ ∃ T : u_T, vwCl[10]? = some (yX10_openWay.cls, T, 1) := ⟨(q_wt6 (i := 30) (by decide +kernel) rfl), (q_wt6 (i := 31) (by decide +kernel) rfl), _, rfl⟩
theorem mv_X10_othersBarred : Cond.instanceMethod yX10_othersBarred ∈ q_tbl ∧ Cond.selects yX10_othersBarred.cls yX10_othersBarred yX10_othersBarred ∈ q_tbl ∧ ∃ T : u_T, vwCl[10]? = some (yX10_othersBarred.cls, T, 1) := ⟨(q_wt6 (i := 46) (by decide +kernel) rfl), (q_wt6 (i := 47) (by decide +kernel) rfl), _, rfl⟩
theorem mv_X11_bookFinding : Cond.instanceMethod yX11_bookFinding ∈ q_tbl ∧ Cond.selects yX11_bookFinding.cls yX11_bookFinding yX11_bookFinding ∈ q_tbl ∧ ∃ T : u_T, vwCl[11]? = some (yX11_bookFinding.cls, T, 9) := ⟨(q_wt5 (i := 195) (by decide +kernel) rfl), (q_wp2 (i := 11) (n := 9) (by decide +kernel)), _, rfl⟩
theorem mv_X11_firstWrong : Cond.instanceMethod yX11_firstWrong ∈ q_tbl ∧ Cond.selects yX11_firstWrong.cls yX11_firstWrong yX11_firstWrong ∈ q_tbl ∧ ∃ T : u_T, vwCl[11]? = some (yX11_firstWrong.cls, T, 9) := ⟨(q_wt6 (i := 159) (by decide +kernel) rfl), (q_wp3 (i := 1) (n := 9) (by decide +kernel)), _, rfl⟩
theorem mv_X11_newDue : Cond.instanceMethod yX11_newDue ∈ q_tbl ∧ Cond.selects yX11_newDue.cls yX11_newDue yX11_newDue ∈ q_tbl ∧ ∃ T : u_T, vwCl[11]? = some (yX11_newDue.cls, T, 9) := ⟨(q_wt4 (i := 25) (by decide +kernel) rfl), (q_wp1 (i := 13) (n := 9) (by decide +kernel)), _, rfl⟩
theorem mv_X12_actBy : Cond.instanceMethod yX12_actBy ∈ q_tbl ∧ Cond.selects yX12_actBy.cls yX12_actBy yX12_actBy ∈ q_tbl ∧ ∃ T : u_T, vwCl[12]? = some (yX12_actBy.cls, T, 42) := ⟨(q_wt8 (i := 159) (by decide +kernel) rfl), (q_wp6 (i := 5) (n := 42) (by decide +kernel)), _, rfl⟩
theorem mv_X12_allEarned : Cond.instanceMethod yX12_allEarned ∈ q_tbl ∧ Cond.selects yX12_allEarned.cls yX12_allEarned yX12_allEarned ∈ q_tbl ∧ ∃ T : u_T, vwCl[12]? = some (yX12_allEarned.cls, T, 42) := ⟨(q_wt9 (i := 150) (by decide +kernel) rfl), (q_wp7 (i := 7) (n := 42) (by decide +kernel)), _, rfl⟩
theorem mv_X12_bars : Cond.instanceMethod yX12_bars ∈ q_tbl ∧ Cond.selects yX12_bars.cls yX12_bars yX12_bars ∈ q_tbl ∧ ∃ T : u_T, vwCl[12]? = some (yX12_bars.cls, T, 42) := ⟨(q_wt9 (i := 56) (by decide +kernel) rfl), (q_wp6 (i := 14) (n := 42) (by decide +kernel)), _, rfl⟩
theorem mv_X12_becomes : Cond.instanceMethod yX12_becomes ∈ q_tbl ∧ Cond.selects yX12_becomes.cls yX12_becomes yX12_becomes ∈ q_tbl ∧ ∃ T : u_T, vwCl[12]? = some (yX12_becomes.cls, T, 42) := ⟨(q_wt7 (i := 97) (by decide +kernel) rfl), (q_wp3 (i := 3) (n := 42) (by decide +kernel)), _, rfl⟩
theorem mv_X12_both : Cond.instanceMethod yX12_both ∈ q_tbl ∧ Cond.selects yX12_both.cls yX12_both yX12_both ∈ q_tbl ∧ ∃ T : u_T, vwCl[12]? = some (yX12_both.cls, T, 42) := ⟨(q_wt8 (i := 104) (by decide +kernel) rfl), (q_wp5 (i := 12) (n := 42) (by decide +kernel)), _, rfl⟩
theorem mv_X12_buys : Cond.instanceMethod yX12_buys ∈ q_tbl ∧ Cond.selects yX12_buys.cls yX12_buys yX12_buys ∈ q_tbl ∧ ∃ T : u_T, vwCl[12]? = some (yX12_buys.cls, T, 42) := ⟨(q_wt7 (i := 230) (by decide +kernel) rfl), (q_wp4 (i := 5) (n := 42) (by decide +kernel)), _, rfl⟩
theorem mv_X12_cheapest : Cond.instanceMethod yX12_cheapest ∈ q_tbl ∧ Cond.selects yX12_cheapest.cls yX12_cheapest yX12_cheapest ∈ q_tbl ∧ ∃ T : u_T, vwCl[12]? = some (yX12_cheapest.cls, T, 42) := ⟨(q_wt8 (i := 13) (by decide +kernel) rfl), (q_wp4 (i := 10) (n := 42) (by decide +kernel)), _, rfl⟩
theorem mv_X12_coinFor : Cond.instanceMethod yX12_coinFor ∈ q_tbl ∧ Cond.selects yX12_coinFor.cls yX12_coinFor yX12_coinFor ∈ q_tbl ∧ ∃ T : u_T, vwCl[12]? = some (yX12_coinFor.cls, T, 42) := ⟨(q_wt8 (i := 49) (by decide +kernel) rfl), (q_wp5 (i := 3) (n := 42) (by decide +kernel)), _, rfl⟩
theorem mv_X12_coinOf : Cond.instanceMethod yX12_coinOf ∈ q_tbl ∧ Cond.selects yX12_coinOf.cls yX12_coinOf yX12_coinOf ∈ q_tbl ∧ ∃ T : u_T, vwCl[12]? = some (yX12_coinOf.cls, T, 42) := ⟨(q_wt8 (i := 45) (by decide +kernel) rfl), (q_wp5 (i := 2) (n := 42) (by decide +kernel)), _, rfl⟩
theorem mv_X12_companyLasts : Cond.instanceMethod yX12_companyLasts ∈ q_tbl ∧ Cond.selects yX12_companyLasts.cls yX12_companyLasts yX12_companyLasts ∈ q_tbl ∧ ∃ T : u_T, vwCl[12]? = some (yX12_companyLasts.cls, T, 42) := ⟨(q_wt9 (i := 96) (by decide +kernel) rfl), (q_wp7 (i := 1) (n := 42) (by decide +kernel)), _, rfl⟩
theorem mv_X12_counts : Cond.instanceMethod yX12_counts ∈ q_tbl ∧ Cond.selects yX12_counts.cls yX12_counts yX12_counts ∈ q_tbl ∧ ∃ T : u_T, vwCl[12]? = some (yX12_counts.cls, T, 42) := ⟨(q_wt7 (i := 208) (by decide +kernel) rfl), (q_wp4 (i := 1) (n := 42) (by decide +kernel)), _, rfl⟩
theorem mv_X12_digs : Cond.instanceMethod yX12_digs ∈ q_tbl ∧ Cond.selects yX12_digs.cls yX12_digs yX12_digs ∈ q_tbl ∧ ∃ T : u_T, vwCl[12]? = some (yX12_digs.cls, T, 42) := ⟨(q_wt7 (i := 200) (by decide +kernel) rfl), (q_wp3 (i := 15) (n := 42) (by decide +kernel)), _, rfl⟩
theorem mv_X12_dueAt : Cond.instanceMethod yX12_dueAt ∈ q_tbl ∧ Cond.selects yX12_dueAt.cls yX12_dueAt yX12_dueAt ∈ q_tbl ∧ ∃ T : u_T, vwCl[12]? = some (yX12_dueAt.cls, T, 42) := ⟨(q_wt7 (i := 147) (by decide +kernel) rfl), (q_wp3 (i := 9) (n := 42) (by decide +kernel)), _, rfl⟩
theorem mv_X12_dueFor : Cond.instanceMethod yX12_dueFor ∈ q_tbl ∧ Cond.selects yX12_dueFor.cls yX12_dueFor yX12_dueFor ∈ q_tbl ∧ ∃ T : u_T, vwCl[12]? = some (yX12_dueFor.cls, T, 42) := ⟨(q_wt8 (i := 33) (by decide +kernel) rfl), (q_wp4 (i := 15) (n := 42) (by decide +kernel)), _, rfl⟩
theorem mv_X12_dueIs : Cond.instanceMethod yX12_dueIs ∈ q_tbl ∧ Cond.selects yX12_dueIs.cls yX12_dueIs yX12_dueIs ∈ q_tbl ∧ ∃ T : u_T, vwCl[12]? = some (yX12_dueIs.cls, T, 42) := ⟨(q_wt9 (i := 141) (by decide +kernel) rfl), (q_wp7 (i := 5) (n := 42) (by decide +kernel)), _, rfl⟩
theorem mv_X12_dueOf : Cond.instanceMethod yX12_dueOf ∈ q_tbl ∧ Cond.selects yX12_dueOf.cls yX12_dueOf yX12_dueOf ∈ q_tbl ∧ ∃ T : u_T, vwCl[12]? = some (yX12_dueOf.cls, T, 42) := ⟨(q_wt8 (i := 29) (by decide +kernel) rfl), (q_wp4 (i := 14) (n := 42) (by decide +kernel)), _, rfl⟩
theorem mv_X12_earned : Cond.instanceMethod yX12_earned ∈ q_tbl ∧ Cond.selects yX12_earned.cls yX12_earned yX12_earned ∈ q_tbl ∧ ∃ T : u_T, vwCl[12]? = some (yX12_earned.cls, T, 42) := ⟨(q_wt7 (i := 160) (by decide +kernel) rfl), (q_wp3 (i := 11) (n := 42) (by decide +kernel)), _, rfl⟩
theorem mv_X12_eats : Cond.instanceMethod yX12_eats ∈ q_tbl ∧ Cond.selects yX12_eats.cls yX12_eats yX12_eats ∈ q_tbl ∧ ∃ T : u_T, vwCl[12]? = some (yX12_eats.cls, T, 42) := ⟨(q_wt7 (i := 226) (by decide +kernel) rfl), (q_wp4 (i := 4) (n := 42) (by decide +kernel)), _, rfl⟩
theorem mv_X12_either : Cond.instanceMethod yX12_either ∈ q_tbl ∧ Cond.selects yX12_either.cls yX12_either yX12_either ∈ q_tbl ∧ ∃ T : u_T, vwCl[12]? = some (yX12_either.cls, T, 42) := ⟨(q_wt8 (i := 100) (by decide +kernel) rfl), (q_wp5 (i := 11) (n := 42) (by decide +kernel)), _, rfl⟩
theorem mv_X12_endWeek : Cond.instanceMethod yX12_endWeek ∈ q_tbl ∧ Cond.selects yX12_endWeek.cls yX12_endWeek yX12_endWeek ∈ q_tbl ∧ ∃ T : u_T, vwCl[12]? = some (yX12_endWeek.cls, T, 42) := ⟨(q_wt8 (i := 21) (by decide +kernel) rfl), (q_wp4 (i := 12) (n := 42) (by decide +kernel)), _, rfl⟩
theorem mv_X12_findOrder : Cond.instanceMethod yX12_findOrder ∈ q_tbl ∧ Cond.selects yX12_findOrder.cls yX12_findOrder yX12_findOrder ∈ q_tbl ∧ ∃ T : u_T, vwCl[12]? = some (yX12_findOrder.cls, T, 42) := ⟨(q_wt9 (i := 116) (by decide +kernel) rfl), (q_wp7 (i := 2) (n := 42) (by decide +kernel)), _, rfl⟩
theorem mv_X12_findRound : Cond.instanceMethod yX12_findRound ∈ q_tbl ∧ Cond.selects yX12_findRound.cls yX12_findRound yX12_findRound ∈ q_tbl ∧ ∃ T : u_T, vwCl[12]? = some (yX12_findRound.cls, T, 42) := ⟨(q_wt9 (i := 76) (by decide +kernel) rfl), (q_wp6 (i := 15) (n := 42) (by decide +kernel)), _, rfl⟩
theorem mv_X12_fineOf : Cond.instanceMethod yX12_fineOf ∈ q_tbl ∧ Cond.selects yX12_fineOf.cls yX12_fineOf yX12_fineOf ∈ q_tbl ∧ ∃ T : u_T, vwCl[12]? = some (yX12_fineOf.cls, T, 42) := ⟨(q_wt8 (i := 155) (by decide +kernel) rfl), (q_wp6 (i := 4) (n := 42) (by decide +kernel)), _, rfl⟩
theorem mv_X12_gets : Cond.instanceMethod yX12_gets ∈ q_tbl ∧ Cond.selects yX12_gets.cls yX12_gets yX12_gets ∈ q_tbl ∧ ∃ T : u_T, vwCl[12]? = some (yX12_gets.cls, T, 42) := ⟨(q_wt8 (i := 173) (by decide +kernel) rfl), (q_wp6 (i := 7) (n := 42) (by decide +kernel)), _, rfl⟩
theorem mv_X12_isDigit : Cond.instanceMethod yX12_isDigit ∈ q_tbl ∧ Cond.selects yX12_isDigit.cls yX12_isDigit yX12_isDigit ∈ q_tbl ∧ ∃ T : u_T, vwCl[12]? = some (yX12_isDigit.cls, T, 42) := ⟨(q_wt8 (i := 86) (by decide +kernel) rfl), (q_wp5 (i := 8) (n := 42) (by decide +kernel)), _, rfl⟩
theorem mv_X12_isDue : Cond.instanceMethod yX12_isDue ∈ q_tbl ∧ Cond.selects yX12_isDue.cls yX12_isDue yX12_isDue ∈ q_tbl ∧ ∃ T : u_T, vwCl[12]? = some (yX12_isDue.cls, T, 42) := ⟨(q_wt8 (i := 193) (by decide +kernel) rfl), (q_wp6 (i := 8) (n := 42) (by decide +kernel)), _, rfl⟩
theorem mv_X12_isGone : Cond.instanceMethod yX12_isGone ∈ q_tbl ∧ Cond.selects yX12_isGone.cls yX12_isGone yX12_isGone ∈ q_tbl ∧ ∃ T : u_T, vwCl[12]? = some (yX12_isGone.cls, T, 42) := ⟨(q_wt7 (i := 111) (by decide +kernel) rfl), (q_wp3 (i := 5) (n := 42) (by decide +kernel)), _, rfl⟩
theorem mv_X12_isLetter : Cond.instanceMethod yX12_isLetter ∈ q_tbl ∧ Cond.selects yX12_isLetter.cls yX12_isLetter yX12_isLetter ∈ q_tbl ∧ ∃ T : u_T, vwCl[12]? = some (yX12_isLetter.cls, T, 42) := ⟨(q_wt8 (i := 80) (by decide +kernel) rfl), (q_wp5 (i := 7) (n := 42) (by decide +kernel)), _, rfl⟩
theorem mv_X12_isMan : Cond.instanceMethod yX12_isMan ∈ q_tbl ∧ Cond.selects yX12_isMan.cls yX12_isMan yX12_isMan ∈ q_tbl ∧ ∃ T : u_T, vwCl[12]? = some (yX12_isMan.cls, T, 42) := ⟨(q_wt7 (i := 155) (by decide +kernel) rfl), (q_wp3 (i := 10) (n := 42) (by decide +kernel)), _, rfl⟩
theorem mv_X12_isRound : Cond.instanceMethod yX12_isRound ∈ q_tbl ∧ Cond.selects yX12_isRound.cls yX12_isRound yX12_isRound ∈ q_tbl ∧ ∃ T : u_T, vwCl[12]? = some (yX12_isRound.cls, T, 42) := ⟨(q_wt9 (i := 52) (by decide +kernel) rfl), (q_wp6 (i := 13) (n := 42) (by decide +kernel)), _, rfl⟩
theorem mv_X12_isShop : Cond.instanceMethod yX12_isShop ∈ q_tbl ∧ Cond.selects yX12_isShop.cls yX12_isShop yX12_isShop ∈ q_tbl ∧ ∃ T : u_T, vwCl[12]? = some (yX12_isShop.cls, T, 42) := ⟨(q_wt7 (i := 129) (by decide +kernel) rfl), (q_wp3 (i := 7) (n := 42) (by decide +kernel)), _, rfl⟩
theorem mv_X12_isSign : Cond.instanceMethod yX12_isSign ∈ q_tbl ∧ Cond.selects yX12_isSign.cls yX12_isSign yX12_isSign ∈ q_tbl ∧ ∃ T : u_T, vwCl[12]? = some (yX12_isSign.cls, T, 42) := ⟨(q_wt8 (i := 131) (by decide +kernel) rfl), (q_wp6 (i := 2) (n := 42) (by decide +kernel)), _, rfl⟩
theorem mv_X12_isText : Cond.instanceMethod yX12_isText ∈ q_tbl ∧ Cond.selects yX12_isText.cls yX12_isText yX12_isText ∈ q_tbl ∧ ∃ T : u_T, vwCl[12]? = some (yX12_isText.cls, T, 42) := ⟨(q_wt8 (i := 139) (by decide +kernel) rfl), (q_wp6 (i := 3) (n := 42) (by decide +kernel)), _, rfl⟩
theorem mv_X12_isTown : Cond.instanceMethod yX12_isTown ∈ q_tbl ∧ Cond.selects yX12_isTown.cls yX12_isTown yX12_isTown ∈ q_tbl ∧ ∃ T : u_T, vwCl[12]? = some (yX12_isTown.cls, T, 42) := ⟨(q_wt7 (i := 234) (by decide +kernel) rfl), (q_wp4 (i := 6) (n := 42) (by decide +kernel)), _, rfl⟩
theorem mv_X12_isWordAt : Cond.instanceMethod yX12_isWordAt ∈ q_tbl ∧ Cond.selects yX12_isWordAt.cls yX12_isWordAt yX12_isWordAt ∈ q_tbl ∧ ∃ T : u_T, vwCl[12]? = some (yX12_isWordAt.cls, T, 42) := ⟨(q_wt8 (i := 96) (by decide +kernel) rfl), (q_wp5 (i := 10) (n := 42) (by decide +kernel)), _, rfl⟩
theorem mv_X12_isWrong : Cond.instanceMethod yX12_isWrong ∈ q_tbl ∧ Cond.selects yX12_isWrong.cls yX12_isWrong yX12_isWrong ∈ q_tbl ∧ ∃ T : u_T, vwCl[12]? = some (yX12_isWrong.cls, T, 42) := ⟨(q_wt8 (i := 218) (by decide +kernel) rfl), (q_wp6 (i := 9) (n := 42) (by decide +kernel)), _, rfl⟩
theorem mv_X12_keepOf : Cond.instanceMethod yX12_keepOf ∈ q_tbl ∧ Cond.selects yX12_keepOf.cls yX12_keepOf yX12_keepOf ∈ q_tbl ∧ ∃ T : u_T, vwCl[12]? = some (yX12_keepOf.cls, T, 42) := ⟨(q_wt8 (i := 55) (by decide +kernel) rfl), (q_wp5 (i := 4) (n := 42) (by decide +kernel)), _, rfl⟩
theorem mv_X12_key : Cond.instanceMethod yX12_key ∈ q_tbl ∧ Cond.selects yX12_key.cls yX12_key yX12_key ∈ q_tbl ∧ ∃ T : u_T, vwCl[12]? = some (yX12_key.cls, T, 42) := ⟨(q_wt8 (i := 92) (by decide +kernel) rfl), (q_wp5 (i := 9) (n := 42) (by decide +kernel)), _, rfl⟩
theorem mv_X12_knows : Cond.instanceMethod yX12_knows ∈ q_tbl ∧ Cond.selects yX12_knows.cls yX12_knows yX12_knows ∈ q_tbl ∧ ∃ T : u_T, vwCl[12]? = some (yX12_knows.cls, T, 42) := ⟨(q_wt7 (i := 181) (by decide +kernel) rfl), (q_wp3 (i := 13) (n := 42) (by decide +kernel)), _, rfl⟩
theorem mv_X12_lack : Cond.instanceMethod yX12_lack ∈ q_tbl ∧ Cond.selects yX12_lack.cls yX12_lack yX12_lack ∈ q_tbl ∧ ∃ T : u_T, vwCl[12]? = some (yX12_lack.cls, T, 42) := ⟨(q_wt8 (i := 2) (by decide +kernel) rfl), (q_wp4 (i := 8) (n := 42) (by decide +kernel)), _, rfl⟩
theorem mv_X12_loaves : Cond.instanceMethod yX12_loaves ∈ q_tbl ∧ Cond.selects yX12_loaves.cls yX12_loaves yX12_loaves ∈ q_tbl ∧ ∃ T : u_T, vwCl[12]? = some (yX12_loaves.cls, T, 42) := ⟨(q_wt7 (i := 238) (by decide +kernel) rfl), (q_wp4 (i := 7) (n := 42) (by decide +kernel)), _, rfl⟩
theorem mv_X12_manAt : Cond.instanceMethod yX12_manAt ∈ q_tbl ∧ Cond.selects yX12_manAt.cls yX12_manAt yX12_manAt ∈ q_tbl ∧ ∃ T : u_T, vwCl[12]? = some (yX12_manAt.cls, T, 42) := ⟨(q_wt7 (i := 107) (by decide +kernel) rfl), (q_wp3 (i := 4) (n := 42) (by decide +kernel)), _, rfl⟩
theorem mv_X12_menLast : Cond.instanceMethod yX12_menLast ∈ q_tbl ∧ Cond.selects yX12_menLast.cls yX12_menLast yX12_menLast ∈ q_tbl ∧ ∃ T : u_T, vwCl[12]? = some (yX12_menLast.cls, T, 42) := ⟨(q_wt9 (i := 92) (by decide +kernel) rfl), (q_wp7 (i := 0) (n := 42) (by decide +kernel)), _, rfl⟩
theorem mv_X12_newDue : Cond.instanceMethod yX12_newDue ∈ q_tbl ∧ Cond.selects yX12_newDue.cls yX12_newDue yX12_newDue ∈ q_tbl ∧ ∃ T : u_T, vwCl[12]? = some (yX12_newDue.cls, T, 42) := ⟨(q_wt7 (i := 143) (by decide +kernel) rfl), (q_wp3 (i := 8) (n := 42) (by decide +kernel)), _, rfl⟩
theorem mv_X12_news : Cond.instanceMethod yX12_news ∈ q_tbl ∧ Cond.selects yX12_news.cls yX12_news yX12_news ∈ q_tbl ∧ ∃ T : u_T, vwCl[12]? = some (yX12_news.cls, T, 42) := ⟨(q_wt8 (i := 17) (by decide +kernel) rfl), (q_wp4 (i := 11) (n := 42) (by decide +kernel)), _, rfl⟩
theorem mv_X12_next : Cond.instanceMethod yX12_next ∈ q_tbl ∧ Cond.selects yX12_next.cls yX12_next yX12_next ∈ q_tbl ∧ ∃ T : u_T, vwCl[12]? = some (yX12_next.cls, T, 42) := ⟨(q_wt8 (i := 76) (by decide +kernel) rfl), (q_wp5 (i := 6) (n := 42) (by decide +kernel)), _, rfl⟩
theorem mv_X12_oneDay : Cond.instanceMethod yX12_oneDay ∈ q_tbl ∧ Cond.selects yX12_oneDay.cls yX12_oneDay yX12_oneDay ∈ q_tbl ∧ ∃ T : u_T, vwCl[12]? = some (yX12_oneDay.cls, T, 42) := ⟨(q_wt7 (i := 196) (by decide +kernel) rfl), (q_wp3 (i := 14) (n := 42) (by decide +kernel)), _, rfl⟩
theorem mv_X12_owedBy : Cond.instanceMethod yX12_owedBy ∈ q_tbl ∧ Cond.selects yX12_owedBy.cls yX12_owedBy yX12_owedBy ∈ q_tbl ∧ ∃ T : u_T, vwCl[12]? = some (yX12_owedBy.cls, T, 42) := ⟨(q_wt7 (i := 164) (by decide +kernel) rfl), (q_wp3 (i := 12) (n := 42) (by decide +kernel)), _, rfl⟩
theorem mv_X12_parse : Cond.instanceMethod yX12_parse ∈ q_tbl ∧ Cond.selects yX12_parse.cls yX12_parse yX12_parse ∈ q_tbl ∧ ∃ T : u_T, vwCl[12]? = some (yX12_parse.cls, T, 42) := ⟨(q_wt8 (i := 72) (by decide +kernel) rfl), (q_wp5 (i := 5) (n := 42) (by decide +kernel)), _, rfl⟩
theorem mv_X12_part0 : Cond.instanceMethod yX12_part0 ∈ q_tbl ∧ Cond.selects yX12_part0.cls yX12_part0 yX12_part0 ∈ q_tbl ∧ ∃ T : u_T, vwCl[12]? = some (yX12_part0.cls, T, 42) := ⟨(q_wt8 (i := 120) (by decide +kernel) rfl), (q_wp6 (i := 0) (n := 42) (by decide +kernel)), _, rfl⟩
theorem mv_X12_pays : Cond.instanceMethod yX12_pays ∈ q_tbl ∧ Cond.selects yX12_pays.cls yX12_pays yX12_pays ∈ q_tbl ∧ ∃ T : u_T, vwCl[12]? = some (yX12_pays.cls, T, 42) := ⟨(q_wt8 (i := 37) (by decide +kernel) rfl), (q_wp5 (i := 0) (n := 42) (by decide +kernel)), _, rfl⟩
theorem mv_X12_readBy : Cond.instanceMethod yX12_readBy ∈ q_tbl ∧ Cond.selects yX12_readBy.cls yX12_readBy yX12_readBy ∈ q_tbl ∧ ∃ T : u_T, vwCl[12]? = some (yX12_readBy.cls, T, 42) := ⟨(q_wt9 (i := 28) (by decide +kernel) rfl), (q_wp6 (i := 12) (n := 42) (by decide +kernel)), _, rfl⟩
theorem mv_X12_refused : Cond.instanceMethod yX12_refused ∈ q_tbl ∧ Cond.selects yX12_refused.cls yX12_refused yX12_refused ∈ q_tbl ∧ ∃ T : u_T, vwCl[12]? = some (yX12_refused.cls, T, 42) := ⟨(q_wt8 (i := 167) (by decide +kernel) rfl), (q_wp6 (i := 6) (n := 42) (by decide +kernel)), _, rfl⟩
theorem mv_X12_rowsOfDays : Cond.instanceMethod yX12_rowsOfDays ∈ q_tbl ∧ Cond.selects yX12_rowsOfDays.cls yX12_rowsOfDays yX12_rowsOfDays ∈ q_tbl ∧ ∃ T : u_T, vwCl[12]? = some (yX12_rowsOfDays.cls, T, 42) := ⟨(q_wt9 (i := 145) (by decide +kernel) rfl), (q_wp7 (i := 6) (n := 42) (by decide +kernel)), _, rfl⟩
theorem mv_X12_rowsOfOrder : Cond.instanceMethod yX12_rowsOfOrder ∈ q_tbl ∧ Cond.selects yX12_rowsOfOrder.cls yX12_rowsOfOrder yX12_rowsOfOrder ∈ q_tbl ∧ ∃ T : u_T, vwCl[12]? = some (yX12_rowsOfOrder.cls, T, 42) := ⟨(q_wt9 (i := 137) (by decide +kernel) rfl), (q_wp7 (i := 4) (n := 42) (by decide +kernel)), _, rfl⟩
theorem mv_X12_seek : Cond.instanceMethod yX12_seek ∈ q_tbl ∧ Cond.selects yX12_seek.cls yX12_seek yX12_seek ∈ q_tbl ∧ ∃ T : u_T, vwCl[12]? = some (yX12_seek.cls, T, 42) := ⟨(q_wt9 (i := 120) (by decide +kernel) rfl), (q_wp7 (i := 3) (n := 42) (by decide +kernel)), _, rfl⟩
theorem mv_X12_setAside : Cond.instanceMethod yX12_setAside ∈ q_tbl ∧ Cond.selects yX12_setAside.cls yX12_setAside yX12_setAside ∈ q_tbl ∧ ∃ T : u_T, vwCl[12]? = some (yX12_setAside.cls, T, 42) := ⟨(q_wt9 (i := 4) (by decide +kernel) rfl), (q_wp6 (i := 10) (n := 42) (by decide +kernel)), _, rfl⟩
theorem mv_X12_shopAt : Cond.instanceMethod yX12_shopAt ∈ q_tbl ∧ Cond.selects yX12_shopAt.cls yX12_shopAt yX12_shopAt ∈ q_tbl ∧ ∃ T : u_T, vwCl[12]? = some (yX12_shopAt.cls, T, 42) := ⟨(q_wt7 (i := 121) (by decide +kernel) rfl), (q_wp3 (i := 6) (n := 42) (by decide +kernel)), _, rfl⟩
theorem mv_X12_stands : Cond.instanceMethod yX12_stands ∈ q_tbl ∧ Cond.selects yX12_stands.cls yX12_stands yX12_stands ∈ q_tbl ∧ ∃ T : u_T, vwCl[12]? = some (yX12_stands.cls, T, 42) := ⟨(q_wt9 (i := 8) (by decide +kernel) rfl), (q_wp6 (i := 11) (n := 42) (by decide +kernel)), _, rfl⟩
theorem mv_X12_step : Cond.instanceMethod yX12_step ∈ q_tbl ∧ Cond.selects yX12_step.cls yX12_step yX12_step ∈ q_tbl ∧ ∃ T : u_T, vwCl[12]? = some (yX12_step.cls, T, 42) := ⟨(q_wt8 (i := 124) (by decide +kernel) rfl), (q_wp6 (i := 1) (n := 42) (by decide +kernel)), _, rfl⟩
theorem mv_X12_stopOf : Cond.instanceMethod yX12_stopOf ∈ q_tbl ∧ Cond.selects yX12_stopOf.cls yX12_stopOf yX12_stopOf ∈ q_tbl ∧ ∃ T : u_T, vwCl[12]? = some (yX12_stopOf.cls, T, 42) := ⟨(q_wt8 (i := 41) (by decide +kernel) rfl), (q_wp5 (i := 1) (n := 42) (by decide +kernel)), _, rfl⟩
theorem mv_X12_sum : Cond.instanceMethod yX12_sum ∈ q_tbl ∧ Cond.selects yX12_sum.cls yX12_sum yX12_sum ∈ q_tbl ∧ ∃ T : u_T, vwCl[12]? = some (yX12_sum.cls, T, 42) := ⟨(q_wt8 (i := 112) (by decide +kernel) rfl), (q_wp5 (i := 14) (n := 42) (by decide +kernel)), _, rfl⟩
theorem mv_X12_takes : Cond.instanceMethod yX12_takes ∈ q_tbl ∧ Cond.selects yX12_takes.cls yX12_takes yX12_takes ∈ q_tbl ∧ ∃ T : u_T, vwCl[12]? = some (yX12_takes.cls, T, 42) := ⟨(q_wt8 (i := 9) (by decide +kernel) rfl), (q_wp4 (i := 9) (n := 42) (by decide +kernel)), _, rfl⟩
theorem mv_X12_term : Cond.instanceMethod yX12_term ∈ q_tbl ∧ Cond.selects yX12_term.cls yX12_term yX12_term ∈ q_tbl ∧ ∃ T : u_T, vwCl[12]? = some (yX12_term.cls, T, 42) := ⟨(q_wt8 (i := 116) (by decide +kernel) rfl), (q_wp5 (i := 15) (n := 42) (by decide +kernel)), _, rfl⟩
theorem mv_X12_test : Cond.instanceMethod yX12_test ∈ q_tbl ∧ Cond.selects yX12_test.cls yX12_test yX12_test ∈ q_tbl ∧ ∃ T : u_T, vwCl[12]? = some (yX12_test.cls, T, 42) := ⟨(q_wt8 (i := 108) (by decide +kernel) rfl), (q_wp5 (i := 13) (n := 42) (by decide +kernel)), _, rfl⟩
theorem mv_X12_textAt : Cond.instanceMethod yX12_textAt ∈ q_tbl ∧ Cond.selects yX12_textAt.cls yX12_textAt yX12_textAt ∈ q_tbl ∧ ∃ T : u_T, vwCl[12]? = some (yX12_textAt.cls, T, 42) := ⟨(q_wt7 (i := 212) (by decide +kernel) rfl), (q_wp4 (i := 2) (n := 42) (by decide +kernel)), _, rfl⟩
theorem mv_X12_wageOf : Cond.instanceMethod yX12_wageOf ∈ q_tbl ∧ Cond.selects yX12_wageOf.cls yX12_wageOf yX12_wageOf ∈ q_tbl ∧ ∃ T : u_T, vwCl[12]? = some (yX12_wageOf.cls, T, 42) := ⟨(q_wt7 (i := 204) (by decide +kernel) rfl), (q_wp4 (i := 0) (n := 42) (by decide +kernel)), _, rfl⟩
theorem mv_X12_week : Cond.instanceMethod yX12_week ∈ q_tbl ∧ Cond.selects yX12_week.cls yX12_week yX12_week ∈ q_tbl ∧ ∃ T : u_T, vwCl[12]? = some (yX12_week.cls, T, 42) := ⟨(q_wt8 (i := 25) (by decide +kernel) rfl), (q_wp4 (i := 13) (n := 42) (by decide +kernel)), _, rfl⟩
theorem mv_X12_worked : Cond.instanceMethod yX12_worked ∈ q_tbl ∧ Cond.selects yX12_worked.cls yX12_worked yX12_worked ∈ q_tbl ∧ ∃ T : u_T, vwCl[12]? = some (yX12_worked.cls, T, 42) := ⟨(q_wt7 (i := 216) (by decide +kernel) rfl), (q_wp4 (i := 3) (n := 42) (by decide +kernel)), _, rfl⟩
theorem mv_X12_wrong : Cond.instanceMethod yX12_wrong ∈ q_tbl ∧ Cond.selects yX12_wrong.cls yX12_wrong yX12_wrong ∈ q_tbl ∧ ∃ T : u_T, vwCl[12]? = some (yX12_wrong.cls, T, 42) := ⟨(q_wt8 (i := 213) (by decide +kernel) rfl), (q_wt8 (i := 214) (by decide +kernel) rfl), _, rfl⟩
theorem mv_X1_added : Cond.instanceMethod yX1_added ∈ q_tbl ∧ Cond.selects yX1_added.cls yX1_added yX1_added ∈ q_tbl ∧ ∃ T : u_T, vwCl[1]? = some (yX1_added.cls, T, 9) := ⟨(q_wt3 (i := 61) (by decide +kernel) rfl), (q_wt3 (i := 62) (by decide +kernel) rfl), _, rfl⟩
theorem mv_X1_has : Cond.instanceMethod yX1_has ∈ q_tbl ∧ Cond.selects yX1_has.cls yX1_has yX1_has ∈ q_tbl ∧ ∃ T : u_T, vwCl[1]? = some (yX1_has.cls, T, 9) := ⟨(q_wt4 (i := 49) (by decide +kernel) rfl), (q_wt4 (i := 50) (by decide +kernel) rfl), _, rfl⟩
theorem mv_X1_open : Cond.instanceMethod yX1_open ∈ q_tbl ∧ Cond.selects yX1_open.cls yX1_open yX1_open ∈ q_tbl ∧ ∃ T : u_T, vwCl[1]? = some (yX1_open.cls, T, 9) := ⟨(q_wt6 (i := 182) (by decide +kernel) rfl), (q_wt6 (i := 183) (by decide +kernel) rfl), _, rfl⟩
theorem mv_X1_out : Cond.instanceMethod yX1_out ∈ q_tbl ∧ Cond.selects yX1_out.cls yX1_out yX1_out ∈ q_tbl ∧ ∃ T : u_T, vwCl[1]? = some (yX1_out.cls, T, 9) := ⟨(q_wt6 (i := 186) (by decide +kernel) rfl), (q_wt6 (i := 187) (by decide +kernel) rfl), _, rfl⟩
theorem mv_X1_row : Cond.instanceMethod yX1_row ∈ q_tbl ∧ Cond.selects yX1_row.cls yX1_row yX1_row ∈ q_tbl ∧ ∃ T : u_T, vwCl[1]? = some (yX1_row.cls, T, 9) := ⟨(q_wt4 (i := 66) (by decide +kernel) rfl), (q_wt4 (i := 67) (by decide +kernel) rfl), _, rfl⟩
theorem mv_X1_settle : Cond.instanceMethod yX1_settle ∈ q_tbl ∧ Cond.selects yX1_settle.cls yX1_settle yX1_settle ∈ q_tbl ∧ ∃ T : u_T, vwCl[1]? = some (yX1_settle.cls, T, 9) := ⟨(q_wt3 (i := 238) (by decide +kernel) rfl), (q_wp1 (i := 10) (n := 9) (by decide +kernel)), _, rfl⟩
theorem mv_X1_taken : Cond.instanceMethod yX1_taken ∈ q_tbl ∧ Cond.selects yX1_taken.cls yX1_taken yX1_taken ∈ q_tbl ∧ ∃ T : u_T, vwCl[1]? = some (yX1_taken.cls, T, 9) := ⟨(q_wt3 (i := 227) (by decide +kernel) rfl), (q_wt3 (i := 228) (by decide +kernel) rfl), _, rfl⟩
theorem mv_X2_added : Cond.instanceMethod yX2_added ∈ q_tbl ∧ Cond.selects yX2_added.cls yX2_added yX2_added ∈ q_tbl ∧ ∃ T : u_T, vwCl[2]? = some (yX2_added.cls, T, 15) := ⟨(q_wt3 (i := 56) (by decide +kernel) rfl), (q_wt3 (i := 57) (by decide +kernel) rfl), _, rfl⟩
theorem mv_X2_dayKnown : Cond.instanceMethod yX2_dayKnown ∈ q_tbl ∧ Cond.selects yX2_dayKnown.cls yX2_dayKnown yX2_dayKnown ∈ q_tbl ∧ ∃ T : u_T, vwCl[2]? = some (yX2_dayKnown.cls, T, 15) := ⟨(q_wt3 (i := 104) (by decide +kernel) rfl), (q_wt3 (i := 105) (by decide +kernel) rfl), _, rfl⟩
theorem mv_X2_getChecks : Cond.instanceMethod yX2_getChecks ∈ q_tbl ∧ Cond.selects yX2_getChecks.cls yX2_getChecks yX2_getChecks ∈ q_tbl ∧ ∃ T : u_T, vwCl[2]? = some (yX2_getChecks.cls, T, 15) := ⟨(q_wt4 (i := 12) (by decide +kernel) rfl), (q_wt4 (i := 13) (by decide +kernel) rfl), _, rfl⟩
theorem mv_X2_getCoin : Cond.instanceMethod yX2_getCoin ∈ q_tbl ∧ Cond.selects yX2_getCoin.cls yX2_getCoin yX2_getCoin ∈ q_tbl ∧ ∃ T : u_T, vwCl[2]? = some (yX2_getCoin.cls, T, 15) := ⟨(q_wt4 (i := 6) (by decide +kernel) rfl), (q_wt4 (i := 7) (by decide +kernel) rfl), _, rfl⟩
theorem mv_X2_has : Cond.instanceMethod yX2_has ∈ q_tbl ∧ Cond.selects yX2_has.cls yX2_has yX2_has ∈ q_tbl ∧ ∃ T : u_T, vwCl[2]? = some (yX2_has.cls, T, 15) := ⟨(q_wt3 (i := 71) (by decide +kernel) rfl), (q_wt3 (i := 72) (by decide +kernel) rfl), _, rfl⟩
theorem mv_X2_inPit : Cond.instanceMethod yX2_inPit ∈ q_tbl ∧ Cond.selects yX2_inPit.cls yX2_inPit yX2_inPit ∈ q_tbl ∧ ∃ T : u_T, vwCl[2]? = some (yX2_inPit.cls, T, 15) := ⟨(q_wt3 (i := 6) (by decide +kernel) rfl), (q_wt3 (i := 7) (by decide +kernel) rfl), _, rfl⟩
theorem mv_X2_isGone : Cond.instanceMethod yX2_isGone ∈ q_tbl ∧ Cond.selects yX2_isGone.cls yX2_isGone yX2_isGone ∈ q_tbl ∧ ∃ T : u_T, vwCl[2]? = some (yX2_isGone.cls, T, 15) := ⟨(q_wt3 (i := 10) (by decide +kernel) rfl), (q_wt3 (i := 11) (by decide +kernel) rfl), _, rfl⟩
theorem mv_X2_knows : Cond.instanceMethod yX2_knows ∈ q_tbl ∧ Cond.selects yX2_knows.cls yX2_knows yX2_knows ∈ q_tbl ∧ ∃ T : u_T, vwCl[2]? = some (yX2_knows.cls, T, 15) := ⟨(q_wt3 (i := 95) (by decide +kernel) rfl), (q_wt3 (i := 96) (by decide +kernel) rfl), _, rfl⟩
theorem mv_X2_lacks : Cond.instanceMethod yX2_lacks ∈ q_tbl ∧ Cond.selects yX2_lacks.cls yX2_lacks yX2_lacks ∈ q_tbl ∧ ∃ T : u_T, vwCl[2]? = some (yX2_lacks.cls, T, 15) := ⟨(q_wt3 (i := 174) (by decide +kernel) rfl), (q_wt3 (i := 175) (by decide +kernel) rfl), _, rfl⟩
theorem mv_X2_learn : Cond.instanceMethod yX2_learn ∈ q_tbl ∧ Cond.selects yX2_learn.cls yX2_learn yX2_learn ∈ q_tbl ∧ ∃ T : u_T, vwCl[2]? = some (yX2_learn.cls, T, 15) := ⟨(q_wt3 (i := 116) (by decide +kernel) rfl), (q_wt3 (i := 117) (by decide +kernel) rfl), _, rfl⟩
theorem mv_X2_priceKnown : Cond.instanceMethod yX2_priceKnown ∈ q_tbl ∧ Cond.selects yX2_priceKnown.cls yX2_priceKnown yX2_priceKnown ∈ q_tbl ∧ ∃ T : u_T, vwCl[2]? = some (yX2_priceKnown.cls, T, 15) := ⟨(q_wt3 (i := 100) (by decide +kernel) rfl), (q_wt3 (i := 101) (by decide +kernel) rfl), _, rfl⟩
theorem mv_X2_row : Cond.instanceMethod yX2_row ∈ q_tbl ∧ Cond.selects yX2_row.cls yX2_row yX2_row ∈ q_tbl ∧ ∃ T : u_T, vwCl[2]? = some (yX2_row.cls, T, 15) := ⟨(q_wt3 (i := 83) (by decide +kernel) rfl), (q_wt3 (i := 84) (by decide +kernel) rfl), _, rfl⟩
theorem mv_X2_sum : Cond.instanceMethod yX2_sum ∈ q_tbl ∧ Cond.selects yX2_sum.cls yX2_sum yX2_sum ∈ q_tbl ∧ ∃ T : u_T, vwCl[2]? = some (yX2_sum.cls, T, 15) := ⟨(q_wt4 (i := 188) (by decide +kernel) rfl), (q_wt4 (i := 189) (by decide +kernel) rfl), _, rfl⟩
theorem mv_X3_row : Cond.instanceMethod yX3_row ∈ q_tbl ∧ Cond.selects yX3_row.cls yX3_row yX3_row ∈ q_tbl ∧ ∃ T : u_T, vwCl[3]? = some (yX3_row.cls, T, 5) := ⟨(q_wt2 (i := 232) (by decide +kernel) rfl), (q_wt2 (i := 233) (by decide +kernel) rfl), _, rfl⟩
theorem mv_X4_added : Cond.instanceMethod yX4_added ∈ q_tbl ∧ Cond.selects yX4_added.cls yX4_added yX4_added ∈ q_tbl ∧ ∃ T : u_T, vwCl[4]? = some (yX4_added.cls, T, 10) := ⟨(q_wt6 (i := 113) (by decide +kernel) rfl), (q_wt6 (i := 114) (by decide +kernel) rfl), _, rfl⟩
theorem mv_X4_found : Cond.instanceMethod yX4_found ∈ q_tbl ∧ Cond.selects yX4_found.cls yX4_found yX4_found ∈ q_tbl ∧ ∃ T : u_T, vwCl[4]? = some (yX4_found.cls, T, 10) := ⟨(q_wt6 (i := 125) (by decide +kernel) rfl), (q_wt6 (i := 126) (by decide +kernel) rfl), _, rfl⟩
theorem mv_X4_keepOrder : Cond.instanceMethod yX4_keepOrder ∈ q_tbl ∧ Cond.selects yX4_keepOrder.cls yX4_keepOrder yX4_keepOrder ∈ q_tbl ∧ ∃ T : u_T, vwCl[4]? = some (yX4_keepOrder.cls, T, 10) := ⟨(q_wt6 (i := 134) (by decide +kernel) rfl), (q_wp2 (i := 15) (n := 10) (by decide +kernel)), _, rfl⟩
theorem mv_X4_putNext : Cond.instanceMethod yX4_putNext ∈ q_tbl ∧ Cond.selects yX4_putNext.cls yX4_putNext yX4_putNext ∈ q_tbl ∧ ∃ T : u_T, vwCl[4]? = some (yX4_putNext.cls, T, 10) := ⟨(q_wt6 (i := 130) (by decide +kernel) rfl), (q_wp2 (i := 14) (n := 10) (by decide +kernel)), _, rfl⟩
theorem mv_X5_emit : Cond.instanceMethod yX5_emit ∈ q_tbl ∧ Cond.selects yX5_emit.cls yX5_emit yX5_emit ∈ q_tbl ∧ ∃ T : u_T, vwCl[5]? = some (yX5_emit.cls, T, 9) := ⟨(q_wt5 (i := 65) (by decide +kernel) rfl), (q_wp2 (i := 7) (n := 9) (by decide +kernel)), _, rfl⟩
theorem mv_X5_goOn : Cond.instanceMethod yX5_goOn ∈ q_tbl ∧ Cond.selects yX5_goOn.cls yX5_goOn yX5_goOn ∈ q_tbl ∧ ∃ T : u_T, vwCl[5]? = some (yX5_goOn.cls, T, 9) := ⟨(q_wt4 (i := 213) (by decide +kernel) rfl), (q_wp2 (i := 0) (n := 9) (by decide +kernel)), _, rfl⟩
theorem mv_X5_isSign : Cond.instanceMethod yX5_isSign ∈ q_tbl ∧ Cond.selects yX5_isSign.cls yX5_isSign yX5_isSign ∈ q_tbl ∧ ∃ T : u_T, vwCl[5]? = some (yX5_isSign.cls, T, 9) := ⟨(q_wt5 (i := 138) (by decide +kernel) rfl), (q_wp2 (i := 9) (n := 9) (by decide +kernel)), _, rfl⟩
theorem mv_X5_put : Cond.instanceMethod yX5_put ∈ q_tbl ∧ Cond.selects yX5_put.cls yX5_put yX5_put ∈ q_tbl ∧ ∃ T : u_T, vwCl[5]? = some (yX5_put.cls, T, 9) := ⟨(q_wt4 (i := 196) (by decide +kernel) rfl), (q_wt4 (i := 197) (by decide +kernel) rfl), _, rfl⟩
theorem mv_X6_added : Cond.instanceMethod yX6_added ∈ q_tbl ∧ Cond.selects yX6_added.cls yX6_added yX6_added ∈ q_tbl ∧ ∃ T : u_T, vwCl[6]? = some (yX6_added.cls, T, 9) := ⟨(q_wt6 (i := 54) (by decide +kernel) rfl), (q_wt6 (i := 55) (by decide +kernel) rfl), _, rfl⟩
theorem mv_X6_bestOf : Cond.instanceMethod yX6_bestOf ∈ q_tbl ∧ Cond.selects yX6_bestOf.cls yX6_bestOf yX6_bestOf ∈ q_tbl ∧ ∃ T : u_T, vwCl[6]? = some (yX6_bestOf.cls, T, 9) := ⟨(q_wt6 (i := 63) (by decide +kernel) rfl), (q_wt6 (i := 64) (by decide +kernel) rfl), _, rfl⟩
theorem mv_X6_goRound : Cond.instanceMethod yX6_goRound ∈ q_tbl ∧ Cond.selects yX6_goRound.cls yX6_goRound yX6_goRound ∈ q_tbl ∧ ∃ T : u_T, vwCl[6]? = some (yX6_goRound.cls, T, 9) := ⟨(q_wt6 (i := 68) (by decide +kernel) rfl), (q_wp2 (i := 13) (n := 9) (by decide +kernel)), _, rfl⟩
theorem mv_X7_counting : Cond.instanceMethod yX7_counting ∈ q_tbl ∧ Cond.selects yX7_counting.cls yX7_counting yX7_counting ∈ q_tbl ∧ ∃ T : u_T, vwCl[7]? = some (yX7_counting.cls, T, 6) := ⟨(q_wt3 (i := 141) (by decide +kernel) rfl), (q_wt3 (i := 142) (by decide +kernel) rfl), _, rfl⟩
theorem mv_X7_given : Cond.instanceMethod yX7_given ∈ q_tbl ∧ Cond.selects yX7_given.cls yX7_given yX7_given ∈ q_tbl ∧ ∃ T : u_T, vwCl[7]? = some (yX7_given.cls, T, 6) := ⟨(q_wt3 (i := 137) (by decide +kernel) rfl), (q_wt3 (i := 138) (by decide +kernel) rfl), _, rfl⟩
theorem mv_X7_has : Cond.instanceMethod yX7_has ∈ q_tbl ∧ Cond.selects yX7_has.cls yX7_has yX7_has ∈ q_tbl ∧ ∃ T : u_T, vwCl[7]? = some (yX7_has.cls, T, 6) := ⟨(q_wt5 (i := 160) (by decide +kernel) rfl), (q_wt5 (i := 161) (by decide +kernel) rfl), _, rfl⟩
theorem mv_X7_row : Cond.instanceMethod yX7_row ∈ q_tbl ∧ Cond.selects yX7_row.cls yX7_row yX7_row ∈ q_tbl ∧ ∃ T : u_T, vwCl[7]? = some (yX7_row.cls, T, 6) := ⟨(q_wt5 (i := 164) (by decide +kernel) rfl), (q_wt5 (i := 165) (by decide +kernel) rfl), _, rfl⟩
theorem mv_X7_value : Cond.instanceMethod yX7_value ∈ q_tbl ∧ Cond.selects yX7_value.cls yX7_value yX7_value ∈ q_tbl ∧ ∃ T : u_T, vwCl[7]? = some (yX7_value.cls, T, 6) := ⟨(q_wt3 (i := 148) (by decide +kernel) rfl), (q_wt3 (i := 149) (by decide +kernel) rfl), _, rfl⟩
theorem mv_X8_added : Cond.instanceMethod yX8_added ∈ q_tbl ∧ Cond.selects yX8_added.cls yX8_added yX8_added ∈ q_tbl ∧ ∃ T : u_T, vwCl[8]? = some (yX8_added.cls, T, 5) := ⟨(q_wt3 (i := 19) (by decide +kernel) rfl), (q_wt3 (i := 20) (by decide +kernel) rfl), _, rfl⟩
theorem mv_X8_firstCompany : Cond.instanceMethod yX8_firstCompany ∈ q_tbl ∧ Cond.selects yX8_firstCompany.cls yX8_firstCompany yX8_firstCompany ∈ q_tbl ∧ ∃ T : u_T, vwCl[8]? = some (yX8_firstCompany.cls, T, 5) := ⟨(q_wt4 (i := 122) (by decide +kernel) rfl), (q_wt4 (i := 123) (by decide +kernel) rfl), _, rfl⟩
theorem mv_X8_has : Cond.instanceMethod yX8_has ∈ q_tbl ∧ Cond.selects yX8_has.cls yX8_has yX8_has ∈ q_tbl ∧ ∃ T : u_T, vwCl[8]? = some (yX8_has.cls, T, 5) := ⟨(q_wt3 (i := 28) (by decide +kernel) rfl), (q_wt3 (i := 29) (by decide +kernel) rfl), _, rfl⟩
theorem mv_X8_leastPrice : Cond.instanceMethod yX8_leastPrice ∈ q_tbl ∧ Cond.selects yX8_leastPrice.cls yX8_leastPrice yX8_leastPrice ∈ q_tbl ∧ ∃ T : u_T, vwCl[8]? = some (yX8_leastPrice.cls, T, 5) := ⟨(q_wt4 (i := 100) (by decide +kernel) rfl), (q_wt4 (i := 101) (by decide +kernel) rfl), _, rfl⟩
theorem mv_X8_loavesFor : Cond.instanceMethod yX8_loavesFor ∈ q_tbl ∧ Cond.selects yX8_loavesFor.cls yX8_loavesFor yX8_loavesFor ∈ q_tbl ∧ ∃ T : u_T, vwCl[8]? = some (yX8_loavesFor.cls, T, 5) := ⟨(q_wt3 (i := 186) (by decide +kernel) rfl), (q_wt3 (i := 187) (by decide +kernel) rfl), _, rfl⟩
theorem mv_X8_loavesOfCompany : Cond.instanceMethod yX8_loavesOfCompany ∈ q_tbl ∧ Cond.selects yX8_loavesOfCompany.cls yX8_loavesOfCompany yX8_loavesOfCompany ∈ q_tbl ∧ ∃ T : u_T, vwCl[8]? = some (yX8_loavesOfCompany.cls, T, 5) := ⟨(q_wt4 (i := 96) (by decide +kernel) rfl), (q_wt4 (i := 97) (by decide +kernel) rfl), _, rfl⟩
theorem mv_X8_loavesOfTown : Cond.instanceMethod yX8_loavesOfTown ∈ q_tbl ∧ Cond.selects yX8_loavesOfTown.cls yX8_loavesOfTown yX8_loavesOfTown ∈ q_tbl ∧ ∃ T : u_T, vwCl[8]? = some (yX8_loavesOfTown.cls, T, 5) := ⟨(q_wt4 (i := 104) (by decide +kernel) rfl), (q_wt4 (i := 105) (by decide +kernel) rfl), _, rfl⟩
theorem mv_X8_row : Cond.instanceMethod yX8_row ∈ q_tbl ∧ Cond.selects yX8_row.cls yX8_row yX8_row ∈ q_tbl ∧ ∃ T : u_T, vwCl[8]? = some (yX8_row.cls, T, 5) := ⟨(q_wt3 (i := 32) (by decide +kernel) rfl), (q_wt3 (i := 33) (by decide +kernel) rfl), _, rfl⟩
theorem mv_X9_buy : Cond.instanceMethod yX9_buy ∈ q_tbl ∧ Cond.selects yX9_buy.cls yX9_buy yX9_buy ∈ q_tbl ∧ ∃ T : u_T, vwCl[9]? = some (yX9_buy.cls, T, 14) := ⟨(q_wt3 (i := 179) (by decide +kernel) rfl), (q_wp1 (i := 2) (n := 14) (by decide +kernel)), _, rfl⟩
theorem mv_X9_buyByChecks : Cond.instanceMethod yX9_buyByChecks ∈ q_tbl ∧ Cond.selects yX9_buyByChecks.cls yX9_buyByChecks yX9_buyByChecks ∈ q_tbl ∧ ∃ T : u_T, vwCl[9]? = some (yX9_buyByChecks.cls, T, 14) := ⟨(q_wt3 (i := 183) (by decide +kernel) rfl), (q_wp1 (i := 3) (n := 14) (by decide +kernel)), _, rfl⟩
theorem mv_X9_buyInTown : Cond.instanceMethod yX9_buyInTown ∈ q_tbl ∧ Cond.selects yX9_buyInTown.cls yX9_buyInTown yX9_buyInTown ∈ q_tbl ∧ ∃ T : u_T, vwCl[9]? = some (yX9_buyInTown.cls, T, 14) := ⟨(q_wt3 (i := 198) (by decide +kernel) rfl), (q_wp1 (i := 5) (n := 14) (by decide +kernel)), _, rfl⟩
theorem mv_X9_buyOnDebt : Cond.instanceMethod yX9_buyOnDebt ∈ q_tbl ∧ Cond.selects yX9_buyOnDebt.cls yX9_buyOnDebt yX9_buyOnDebt ∈ q_tbl ∧ ∃ T : u_T, vwCl[9]? = some (yX9_buyOnDebt.cls, T, 14) := ⟨(q_wt3 (i := 208) (by decide +kernel) rfl), (q_wp1 (i := 7) (n := 14) (by decide +kernel)), _, rfl⟩
theorem mv_X9_companyLasts : Cond.instanceMethod yX9_companyLasts ∈ q_tbl ∧ Cond.selects yX9_companyLasts.cls yX9_companyLasts yX9_companyLasts ∈ q_tbl ∧ ∃ T : u_T, vwCl[9]? = some (yX9_companyLasts.cls, T, 14) := ⟨(q_wt6 (i := 94) (by decide +kernel) rfl), (q_wt6 (i := 95) (by decide +kernel) rfl), _, rfl⟩
theorem mv_X9_dig : Cond.instanceMethod yX9_dig ∈ q_tbl ∧ Cond.selects yX9_dig.cls yX9_dig yX9_dig ∈ q_tbl ∧ ∃ T : u_T, vwCl[9]? = some (yX9_dig.cls, T, 14) := ⟨(q_wt3 (i := 134) (by decide +kernel) rfl), (q_wp1 (i := 0) (n := 14) (by decide +kernel)), _, rfl⟩
theorem mv_X9_earned : Cond.instanceMethod yX9_earned ∈ q_tbl ∧ Cond.selects yX9_earned.cls yX9_earned yX9_earned ∈ q_tbl ∧ ∃ T : u_T, vwCl[9]? = some (yX9_earned.cls, T, 14) := ⟨(q_wt3 (i := 75) (by decide +kernel) rfl), (q_wt3 (i := 76) (by decide +kernel) rfl), _, rfl⟩
theorem mv_X9_eat : Cond.instanceMethod yX9_eat ∈ q_tbl ∧ Cond.selects yX9_eat.cls yX9_eat yX9_eat ∈ q_tbl ∧ ∃ T : u_T, vwCl[9]? = some (yX9_eat.cls, T, 14) := ⟨(q_wt3 (i := 171) (by decide +kernel) rfl), (q_wp1 (i := 1) (n := 14) (by decide +kernel)), _, rfl⟩
theorem mv_X9_endWeek : Cond.instanceMethod yX9_endWeek ∈ q_tbl ∧ Cond.selects yX9_endWeek.cls yX9_endWeek yX9_endWeek ∈ q_tbl ∧ ∃ T : u_T, vwCl[9]? = some (yX9_endWeek.cls, T, 14) := ⟨(q_wt3 (i := 219) (by decide +kernel) rfl), (q_wp1 (i := 9) (n := 14) (by decide +kernel)), _, rfl⟩
theorem mv_X9_goBy : Cond.instanceMethod yX9_goBy ∈ q_tbl ∧ Cond.selects yX9_goBy.cls yX9_goBy yX9_goBy ∈ q_tbl ∧ ∃ T : u_T, vwCl[9]? = some (yX9_goBy.cls, T, 14) := ⟨(q_wt3 (i := 128) (by decide +kernel) rfl), (q_wt3 (i := 129) (by decide +kernel) rfl), _, rfl⟩
theorem mv_X9_isKept : Cond.instanceMethod yX9_isKept ∈ q_tbl ∧ Cond.selects yX9_isKept.cls yX9_isKept yX9_isKept ∈ q_tbl ∧ ∃ T : u_T, vwCl[9]? = some (yX9_isKept.cls, T, 14) := ⟨(q_wt4 (i := 17) (by decide +kernel) rfl), (q_wp1 (i := 12) (n := 14) (by decide +kernel)), _, rfl⟩
theorem mv_X9_isWrongFine : Cond.instanceMethod yX9_isWrongFine ∈ q_tbl ∧ Cond.selects yX9_isWrongFine.cls yX9_isWrongFine yX9_isWrongFine ∈ q_tbl ∧ ∃ T : u_T, vwCl[9]? = some (yX9_isWrongFine.cls, T, 14) := ⟨(q_wt4 (i := 84) (by decide +kernel) rfl), (q_wp1 (i := 14) (n := 14) (by decide +kernel)), _, rfl⟩
theorem mv_X9_learn : Cond.instanceMethod yX9_learn ∈ q_tbl ∧ Cond.selects yX9_learn.cls yX9_learn yX9_learn ∈ q_tbl ∧ ∃ T : u_T, vwCl[9]? = some (yX9_learn.cls, T, 14) := ⟨(q_wt3 (i := 112) (by decide +kernel) rfl), (q_wt3 (i := 113) (by decide +kernel) rfl), _, rfl⟩
theorem mv_X9_leastStrike : Cond.instanceMethod yX9_leastStrike ∈ q_tbl ∧ Cond.selects yX9_leastStrike.cls yX9_leastStrike yX9_leastStrike ∈ q_tbl ∧ ∃ T : u_T, vwCl[9]? = some (yX9_leastStrike.cls, T, 14) := ⟨(q_wt6 (i := 102) (by decide +kernel) rfl), (q_wt6 (i := 103) (by decide +kernel) rfl), _, rfl⟩
theorem mv_X9_menLast : Cond.instanceMethod yX9_menLast ∈ q_tbl ∧ Cond.selects yX9_menLast.cls yX9_menLast yX9_menLast ∈ q_tbl ∧ ∃ T : u_T, vwCl[9]? = some (yX9_menLast.cls, T, 14) := ⟨(q_wt6 (i := 90) (by decide +kernel) rfl), (q_wt6 (i := 91) (by decide +kernel) rfl), _, rfl⟩
theorem mv_X9_newMan : Cond.instanceMethod yX9_newMan ∈ q_tbl ∧ Cond.selects yX9_newMan.cls yX9_newMan yX9_newMan ∈ q_tbl ∧ ∃ T : u_T, vwCl[9]? = some (yX9_newMan.cls, T, 14) := ⟨(q_wt3 (i := 52) (by decide +kernel) rfl), (q_wt3 (i := 53) (by decide +kernel) rfl), _, rfl⟩
theorem mv_X9_owed : Cond.instanceMethod yX9_owed ∈ q_tbl ∧ Cond.selects yX9_owed.cls yX9_owed yX9_owed ∈ q_tbl ∧ ∃ T : u_T, vwCl[9]? = some (yX9_owed.cls, T, 14) := ⟨(q_wt3 (i := 79) (by decide +kernel) rfl), (q_wt3 (i := 80) (by decide +kernel) rfl), _, rfl⟩
theorem mv_X9_payOut : Cond.instanceMethod yX9_payOut ∈ q_tbl ∧ Cond.selects yX9_payOut.cls yX9_payOut yX9_payOut ∈ q_tbl ∧ ∃ T : u_T, vwCl[9]? = some (yX9_payOut.cls, T, 14) := ⟨(q_wt4 (i := 3) (by decide +kernel) rfl), (q_wp1 (i := 11) (n := 14) (by decide +kernel)), _, rfl⟩
theorem mv_X9_reckon : Cond.instanceMethod yX9_reckon ∈ q_tbl ∧ Cond.selects yX9_reckon.cls yX9_reckon yX9_reckon ∈ q_tbl ∧ ∃ T : u_T, vwCl[9]? = some (yX9_reckon.cls, T, 14) := ⟨(q_wt3 (i := 222) (by decide +kernel) rfl), (q_wt3 (i := 223) (by decide +kernel) rfl), _, rfl⟩
theorem mv_X9_spreadNews : Cond.instanceMethod yX9_spreadNews ∈ q_tbl ∧ Cond.selects yX9_spreadNews.cls yX9_spreadNews yX9_spreadNews ∈ q_tbl ∧ ∃ T : u_T, vwCl[9]? = some (yX9_spreadNews.cls, T, 14) := ⟨(q_wt3 (i := 214) (by decide +kernel) rfl), (q_wp1 (i := 8) (n := 14) (by decide +kernel)), _, rfl⟩
theorem mv_X9_takeLoaves : Cond.instanceMethod yX9_takeLoaves ∈ q_tbl ∧ Cond.selects yX9_takeLoaves.cls yX9_takeLoaves yX9_takeLoaves ∈ q_tbl ∧ ∃ T : u_T, vwCl[9]? = some (yX9_takeLoaves.cls, T, 14) := ⟨(q_wt3 (i := 193) (by decide +kernel) rfl), (q_wp1 (i := 4) (n := 14) (by decide +kernel)), _, rfl⟩
theorem mv_X9_townKnownCheapest : Cond.instanceMethod yX9_townKnownCheapest ∈ q_tbl ∧ Cond.selects yX9_townKnownCheapest.cls yX9_townKnownCheapest yX9_townKnownCheapest ∈ q_tbl ∧ ∃ T : u_T, vwCl[9]? = some (yX9_townKnownCheapest.cls, T, 14) := ⟨(q_wt3 (i := 202) (by decide +kernel) rfl), (q_wp1 (i := 6) (n := 14) (by decide +kernel)), _, rfl⟩
theorem mv_X9_weeksBound : Cond.instanceMethod yX9_weeksBound ∈ q_tbl ∧ Cond.selects yX9_weeksBound.cls yX9_weeksBound yX9_weeksBound ∈ q_tbl ∧ ∃ T : u_T, vwCl[9]? = some (yX9_weeksBound.cls, T, 14) := ⟨(q_wt4 (i := 118) (by decide +kernel) rfl), (q_wt4 (i := 119) (by decide +kernel) rfl), _, rfl⟩
theorem mv_X9_weighStrikes : Cond.instanceMethod yX9_weighStrikes ∈ q_tbl ∧ Cond.selects yX9_weighStrikes.cls yX9_weighStrikes yX9_weighStrikes ∈ q_tbl ∧ ∃ T : u_T, vwCl[9]? = some (yX9_weighStrikes.cls, T, 14) := ⟨(q_wt6 (i := 85) (by decide +kernel) rfl), (q_wt6 (i := 86) (by decide +kernel) rfl), _, rfl⟩
theorem mv_X9_wrongFines : Cond.instanceMethod yX9_wrongFines ∈ q_tbl ∧ Cond.selects yX9_wrongFines.cls yX9_wrongFines yX9_wrongFines ∈ q_tbl ∧ ∃ T : u_T, vwCl[9]? = some (yX9_wrongFines.cls, T, 14) := ⟨(q_wt4 (i := 79) (by decide +kernel) rfl), (q_wt4 (i := 80) (by decide +kernel) rfl), _, rfl⟩
theorem mm_X1_59 : Cond.methodLink RX1 59 Lib.Math.min.name ∈ q_tbl ∧ Cond.static Lib.Math.min.name ∈ q_tbl ∧ Cond.initialized "java/lang/Math" ∈ q_tbl ∧ Cond.code Lib.Math.min.name Lib.Math.min.code 2 (some .int) ∈ q_tbl := ⟨(q_wt3 (i := 235) (by decide +kernel) rfl), (q_wt3 (i := 164) (by decide +kernel) rfl), (q_wt1 (i := 14) (by decide +kernel) rfl), (q_wt3 (i := 165) (by decide +kernel) rfl)⟩
theorem mm_X2_82 : Cond.methodLink RX2 82 Lib.Math.min.name ∈ q_tbl ∧ Cond.static Lib.Math.min.name ∈ q_tbl ∧ Cond.initialized "java/lang/Math" ∈ q_tbl ∧ Cond.code Lib.Math.min.name Lib.Math.min.code 2 (some .int) ∈ q_tbl := ⟨(q_wt4 (i := 10) (by decide +kernel) rfl), (q_wt3 (i := 164) (by decide +kernel) rfl), (q_wt1 (i := 14) (by decide +kernel) rfl), (q_wt3 (i := 165) (by decide +kernel) rfl)⟩
theorem mm_X7_56 : Cond.methodLink RX7 56 Lib.Math.min.name ∈ q_tbl ∧ Cond.static Lib.Math.min.name ∈ q_tbl ∧ Cond.initialized "java/lang/Math" ∈ q_tbl ∧ Cond.code Lib.Math.min.name Lib.Math.min.code 2 (some .int) ∈ q_tbl := ⟨(q_wt3 (i := 163) (by decide +kernel) rfl), (q_wt3 (i := 164) (by decide +kernel) rfl), (q_wt1 (i := 14) (by decide +kernel) rfl), (q_wt3 (i := 165) (by decide +kernel) rfl)⟩
theorem mm_X7_61 : Cond.methodLink RX7 61 Lib.Math.max.name ∈ q_tbl ∧ Cond.static Lib.Math.max.name ∈ q_tbl ∧ Cond.initialized "java/lang/Math" ∈ q_tbl ∧ Cond.code Lib.Math.max.name Lib.Math.max.code 2 (some .int) ∈ q_tbl := ⟨(q_wt3 (i := 166) (by decide +kernel) rfl), (q_wt3 (i := 167) (by decide +kernel) rfl), (q_wt1 (i := 14) (by decide +kernel) rfl), (q_wt3 (i := 168) (by decide +kernel) rfl)⟩
theorem mm_X8_35 : Cond.methodLink RX8 35 Lib.Math.min.name ∈ q_tbl ∧ Cond.static Lib.Math.min.name ∈ q_tbl ∧ Cond.initialized "java/lang/Math" ∈ q_tbl ∧ Cond.code Lib.Math.min.name Lib.Math.min.code 2 (some .int) ∈ q_tbl := ⟨(q_wt3 (i := 189) (by decide +kernel) rfl), (q_wt3 (i := 164) (by decide +kernel) rfl), (q_wt1 (i := 14) (by decide +kernel) rfl), (q_wt3 (i := 165) (by decide +kernel) rfl)⟩
theorem mm_X8_45 : Cond.methodLink RX8 45 Lib.Math.max.name ∈ q_tbl ∧ Cond.static Lib.Math.max.name ∈ q_tbl ∧ Cond.initialized "java/lang/Math" ∈ q_tbl ∧ Cond.code Lib.Math.max.name Lib.Math.max.code 2 (some .int) ∈ q_tbl := ⟨(q_wt4 (i := 107) (by decide +kernel) rfl), (q_wt3 (i := 167) (by decide +kernel) rfl), (q_wt1 (i := 14) (by decide +kernel) rfl), (q_wt3 (i := 168) (by decide +kernel) rfl)⟩
theorem mm_X9_212 : Cond.methodLink RX9 212 Lib.Math.max.name ∈ q_tbl ∧ Cond.static Lib.Math.max.name ∈ q_tbl ∧ Cond.initialized "java/lang/Math" ∈ q_tbl ∧ Cond.code Lib.Math.max.name Lib.Math.max.code 2 (some .int) ∈ q_tbl := ⟨(q_wt3 (i := 211) (by decide +kernel) rfl), (q_wt3 (i := 167) (by decide +kernel) rfl), (q_wt1 (i := 14) (by decide +kernel) rfl), (q_wt3 (i := 168) (by decide +kernel) rfl)⟩
theorem mm_X9_240 : Cond.methodLink RX9 240 Lib.Math.min.name ∈ q_tbl ∧ Cond.static Lib.Math.min.name ∈ q_tbl ∧ Cond.initialized "java/lang/Math" ∈ q_tbl ∧ Cond.code Lib.Math.min.name Lib.Math.min.code 2 (some .int) ∈ q_tbl := ⟨(q_wt3 (i := 190) (by decide +kernel) rfl), (q_wt3 (i := 164) (by decide +kernel) rfl), (q_wt1 (i := 14) (by decide +kernel) rfl), (q_wt3 (i := 165) (by decide +kernel) rfl)⟩
theorem cp_X1_49 : Cond.methodLink RX1 49 arraycopyName ∈ q_tbl ∧ Cond.native arraycopyName ∈ q_tbl ∧ Cond.static arraycopyName ∈ q_tbl ∧ Cond.initialized "java/lang/System" ∈ q_tbl := ⟨(q_wt4 (i := 161) (by decide +kernel) rfl), (q_wt4 (i := 144) (by decide +kernel) rfl), (q_wt4 (i := 143) (by decide +kernel) rfl), (q_wt1 (i := 15) (by decide +kernel) rfl)⟩
theorem cp_X10_13 : Cond.methodLink RX10 13 arraycopyName ∈ q_tbl ∧ Cond.native arraycopyName ∈ q_tbl ∧ Cond.static arraycopyName ∈ q_tbl ∧ Cond.initialized "java/lang/System" ∈ q_tbl := ⟨(q_wt4 (i := 171) (by decide +kernel) rfl), (q_wt4 (i := 144) (by decide +kernel) rfl), (q_wt4 (i := 143) (by decide +kernel) rfl), (q_wt1 (i := 15) (by decide +kernel) rfl)⟩
theorem cp_X11_316 : Cond.methodLink RX11 316 arraycopyName ∈ q_tbl ∧ Cond.native arraycopyName ∈ q_tbl ∧ Cond.static arraycopyName ∈ q_tbl ∧ Cond.initialized "java/lang/System" ∈ q_tbl := ⟨(q_wt5 (i := 231) (by decide +kernel) rfl), (q_wt4 (i := 144) (by decide +kernel) rfl), (q_wt4 (i := 143) (by decide +kernel) rfl), (q_wt1 (i := 15) (by decide +kernel) rfl)⟩
theorem cp_X2_71 : Cond.methodLink RX2 71 arraycopyName ∈ q_tbl ∧ Cond.native arraycopyName ∈ q_tbl ∧ Cond.static arraycopyName ∈ q_tbl ∧ Cond.initialized "java/lang/System" ∈ q_tbl := ⟨(q_wt4 (i := 155) (by decide +kernel) rfl), (q_wt4 (i := 144) (by decide +kernel) rfl), (q_wt4 (i := 143) (by decide +kernel) rfl), (q_wt1 (i := 15) (by decide +kernel) rfl)⟩
theorem cp_X3_25 : Cond.methodLink RX3 25 arraycopyName ∈ q_tbl ∧ Cond.native arraycopyName ∈ q_tbl ∧ Cond.static arraycopyName ∈ q_tbl ∧ Cond.initialized "java/lang/System" ∈ q_tbl := ⟨(q_wt4 (i := 142) (by decide +kernel) rfl), (q_wt4 (i := 144) (by decide +kernel) rfl), (q_wt4 (i := 143) (by decide +kernel) rfl), (q_wt1 (i := 15) (by decide +kernel) rfl)⟩
theorem cp_X4_38 : Cond.methodLink RX4 38 arraycopyName ∈ q_tbl ∧ Cond.native arraycopyName ∈ q_tbl ∧ Cond.static arraycopyName ∈ q_tbl ∧ Cond.initialized "java/lang/System" ∈ q_tbl := ⟨(q_wt4 (i := 181) (by decide +kernel) rfl), (q_wt4 (i := 144) (by decide +kernel) rfl), (q_wt4 (i := 143) (by decide +kernel) rfl), (q_wt1 (i := 15) (by decide +kernel) rfl)⟩
theorem cp_X6_38 : Cond.methodLink RX6 38 arraycopyName ∈ q_tbl ∧ Cond.native arraycopyName ∈ q_tbl ∧ Cond.static arraycopyName ∈ q_tbl ∧ Cond.initialized "java/lang/System" ∈ q_tbl := ⟨(q_wt4 (i := 176) (by decide +kernel) rfl), (q_wt4 (i := 144) (by decide +kernel) rfl), (q_wt4 (i := 143) (by decide +kernel) rfl), (q_wt1 (i := 15) (by decide +kernel) rfl)⟩
theorem cp_X8_29 : Cond.methodLink RX8 29 arraycopyName ∈ q_tbl ∧ Cond.native arraycopyName ∈ q_tbl ∧ Cond.static arraycopyName ∈ q_tbl ∧ Cond.initialized "java/lang/System" ∈ q_tbl := ⟨(q_wt4 (i := 149) (by decide +kernel) rfl), (q_wt4 (i := 144) (by decide +kernel) rfl), (q_wt4 (i := 143) (by decide +kernel) rfl), (q_wt1 (i := 15) (by decide +kernel) rfl)⟩
