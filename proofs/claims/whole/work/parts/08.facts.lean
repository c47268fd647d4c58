theorem q_lgl (vs : List Value) : (lg_sl vs).length = (vs.map fun v => if v.category = 2 then 2 else 1).sum := by
  induction vs with
  | nil => rfl
  | cons v t ih =>
    simp only [lg_sl, List.flatMap_cons, List.length_append, List.map_cons, List.sum_cons] at ih ⊢
    rw [ih]
    congr 1
    by_cases h : v.category = 2 <;> simp [h]
theorem q_cat_rf (r : Option Nat) : (va_rf r).category = 1 := by cases r <;> rfl
def q_on {β : Type} (r : Option Nat) (a : β) (f : Nat → β) : β := match r with
  | none => a
  | some x => f x
def q_min (x y : Int32) : Int32 := if y < x then y else x
def q_max (x y : Int32) : Int32 := if x < y then y else x
def q_ush (x y : Int32) : Int32 := (x.toUInt32 >>> (y.toUInt32 &&& Int32.toUInt32 31)).toInt32
def q_rd0 : Nat := 100
theorem r_ialdC {l : Launch} {Γ : qC} {own : String} {cc : ByteArray} {nL : Nat} {R : Room} {nm : String} {rt : Option FieldType} {g : qG} {cells slots pc n : Nat} {L : List (Nat × Value)} {S : List Value} {I : qI} {X : qX} (hg : q_Ok l Γ own cc nL R nm rt g) {a N : Nat} {f : Nat → Int32} {i v : Int32} (hd : q_at cc pc (.iaload) 1 n) (hk : a < 4) (hl : q_ol Γ a = N) (hf : q_ov Γ a = f) (hv : q_rdO f N i = some v) (k : g cells slots n L (.int v :: S) I X) : g cells slots pc L (.int i :: .ref a :: S) I X := by
  obtain ⟨hin, rfl⟩ := q_rdO_in hv
  refine r_ialdO hg hd hk (by rw [hl]; exact hin) ?_
  rw [hf]
  exact k
theorem r_alenC {l : Launch} {Γ : qC} {own : String} {cc : ByteArray} {nL : Nat} {R : Room} {nm : String} {rt : Option FieldType} {g : qG} {cells slots pc n : Nat} {L : List (Nat × Value)} {S : List Value} {I : qI} {X : qX} (hg : q_Ok l Γ own cc nL R nm rt g) {a N : Nat} (hd : q_at cc pc (.arraylength) 1 n) (hk : a < 4) (hl : q_ol Γ a = N) (k : g cells slots n L (.int (nI N) :: S) I X) : g cells slots pc L (.ref a :: S) I X :=
  r_alenO hg hd hk (by rw [hl]; exact k)
theorem ci_m8 : Int32.ofInt (-8) = (-8) := by decide +kernel
theorem ci_m1 : Int32.ofInt (-1) = (-1) := by decide +kernel
theorem ci_0 : Int32.ofInt (0) = (nI 0) := by decide +kernel
theorem ci_1 : Int32.ofInt (1) = (nI 1) := by decide +kernel
theorem ci_2 : Int32.ofInt (2) = (nI 2) := by decide +kernel
theorem ci_3 : Int32.ofInt (3) = (nI 3) := by decide +kernel
theorem ci_4 : Int32.ofInt (4) = (nI 4) := by decide +kernel
theorem ci_5 : Int32.ofInt (5) = (nI 5) := by decide +kernel
theorem cb_m33 : (Int8.ofInt (-33)).toInt32 = (-33) := by decide +kernel
theorem cb_6 : (Int8.ofInt (6)).toInt32 = (nI 6) := by decide +kernel
theorem cb_7 : (Int8.ofInt (7)).toInt32 = (nI 7) := by decide +kernel
theorem cb_8 : (Int8.ofInt (8)).toInt32 = (nI 8) := by decide +kernel
theorem cb_10 : (Int8.ofInt (10)).toInt32 = (nI 10) := by decide +kernel
theorem cb_12 : (Int8.ofInt (12)).toInt32 = (nI 12) := by decide +kernel
theorem cb_13 : (Int8.ofInt (13)).toInt32 = (nI 13) := by decide +kernel
theorem cb_16 : (Int8.ofInt (16)).toInt32 = (nI 16) := by decide +kernel
theorem cb_24 : (Int8.ofInt (24)).toInt32 = (nI 24) := by decide +kernel
theorem cb_30 : (Int8.ofInt (30)).toInt32 = (nI 30) := by decide +kernel
theorem cb_32 : (Int8.ofInt (32)).toInt32 = (nI 32) := by decide +kernel
theorem cb_38 : (Int8.ofInt (38)).toInt32 = (nI 38) := by decide +kernel
theorem cb_42 : (Int8.ofInt (42)).toInt32 = (nI 42) := by decide +kernel
theorem cb_43 : (Int8.ofInt (43)).toInt32 = (nI 43) := by decide +kernel
theorem cb_45 : (Int8.ofInt (45)).toInt32 = (nI 45) := by decide +kernel
theorem cb_47 : (Int8.ofInt (47)).toInt32 = (nI 47) := by decide +kernel
theorem cb_48 : (Int8.ofInt (48)).toInt32 = (nI 48) := by decide +kernel
theorem cb_57 : (Int8.ofInt (57)).toInt32 = (nI 57) := by decide +kernel
theorem cb_60 : (Int8.ofInt (60)).toInt32 = (nI 60) := by decide +kernel
theorem cb_61 : (Int8.ofInt (61)).toInt32 = (nI 61) := by decide +kernel
theorem cb_62 : (Int8.ofInt (62)).toInt32 = (nI 62) := by decide +kernel
theorem cb_63 : (Int8.ofInt (63)).toInt32 = (nI 63) := by decide +kernel
theorem cb_96 : (Int8.ofInt (96)).toInt32 = (nI 96) := by decide +kernel
theorem cb_97 : (Int8.ofInt (97)).toInt32 = (nI 97) := by decide +kernel
theorem cb_99 : (Int8.ofInt (99)).toInt32 = (nI 99) := by decide +kernel
theorem cb_100 : (Int8.ofInt (100)).toInt32 = (nI 100) := by decide +kernel
theorem cb_122 : (Int8.ofInt (122)).toInt32 = (nI 122) := by decide +kernel
theorem cb_124 : (Int8.ofInt (124)).toInt32 = (nI 124) := by decide +kernel
theorem cs_m32768 : (Int16.ofInt (-32768)).toInt32 = (-32768) := by decide +kernel
theorem cs_255 : (Int16.ofInt (255)).toInt32 = (nI 255) := by decide +kernel
theorem cs_999 : (Int16.ofInt (999)).toInt32 = (nI 999) := by decide +kernel
theorem cs_1000 : (Int16.ofInt (1000)).toInt32 = (nI 1000) := by decide +kernel
theorem cs_9999 : (Int16.ofInt (9999)).toInt32 = (nI 9999) := by decide +kernel
theorem cs_10000 : (Int16.ofInt (10000)).toInt32 = (nI 10000) := by decide +kernel
theorem nz_3 : ¬ (nI 3) = (0 : Int32) := by decide +kernel
theorem nz_4 : ¬ (nI 4) = (0 : Int32) := by decide +kernel
theorem nz_12 : ¬ (nI 12) = (0 : Int32) := by decide +kernel
theorem bz_0 : narrow .boolean (.int (nI 0)) = .int (nI 0) ∧ fits .boolean (.int (nI 0)) = true := by decide +kernel
theorem bz_1 : narrow .boolean (.int (nI 1)) = .int (nI 1) ∧ fits .boolean (.int (nI 1)) = true := by decide +kernel
theorem ly_0_0 {X : qX} (hX : q_Lay X) {b : Nat} (hk : q_kd X b = some (2, 3)) : X.1 b 0 = some (b + 1) ∧ q_kd X (b + 1) = some (0, 8) := q_lay_at hX (c := 0) 0 (by decide +kernel) hk
theorem ly_0_1 {X : qX} (hX : q_Lay X) {b : Nat} (hk : q_kd X b = some (2, 3)) : X.1 b 1 = some (b + 2) ∧ q_kd X (b + 2) = some (0, 8) := q_lay_at hX (c := 0) 1 (by decide +kernel) hk
theorem ly_0_2 {X : qX} (hX : q_Lay X) {b : Nat} (hk : q_kd X b = some (2, 3)) : X.1 b 2 = some (b + 3) ∧ q_kd X (b + 3) = some (0, 240) := q_lay_at hX (c := 0) 2 (by decide +kernel) hk
theorem ly_1_0 {X : qX} (hX : q_Lay X) {b : Nat} (hk : q_kd X b = some (3, 9)) : X.1 b 0 = some (b + 1) ∧ q_kd X (b + 1) = some (0, 60) := q_lay_at hX (c := 1) 3 (by decide +kernel) hk
theorem ly_1_1 {X : qX} (hX : q_Lay X) {b : Nat} (hk : q_kd X b = some (3, 9)) : X.1 b 1 = some (b + 2) ∧ q_kd X (b + 2) = some (0, 60) := q_lay_at hX (c := 1) 4 (by decide +kernel) hk
theorem ly_1_2 {X : qX} (hX : q_Lay X) {b : Nat} (hk : q_kd X b = some (3, 9)) : X.1 b 2 = some (b + 3) ∧ q_kd X (b + 3) = some (0, 60) := q_lay_at hX (c := 1) 5 (by decide +kernel) hk
theorem ly_1_3 {X : qX} (hX : q_Lay X) {b : Nat} (hk : q_kd X b = some (3, 9)) : X.1 b 3 = some (b + 4) ∧ q_kd X (b + 4) = some (0, 60) := q_lay_at hX (c := 1) 6 (by decide +kernel) hk
theorem ly_1_4 {X : qX} (hX : q_Lay X) {b : Nat} (hk : q_kd X b = some (3, 9)) : X.1 b 4 = some (b + 5) ∧ q_kd X (b + 5) = some (0, 60) := q_lay_at hX (c := 1) 7 (by decide +kernel) hk
theorem ly_1_5 {X : qX} (hX : q_Lay X) {b : Nat} (hk : q_kd X b = some (3, 9)) : X.1 b 5 = some (b + 6) ∧ q_kd X (b + 6) = some (0, 60) := q_lay_at hX (c := 1) 8 (by decide +kernel) hk
theorem ly_1_6 {X : qX} (hX : q_Lay X) {b : Nat} (hk : q_kd X b = some (3, 9)) : X.1 b 6 = some (b + 7) ∧ q_kd X (b + 7) = some (0, 60) := q_lay_at hX (c := 1) 9 (by decide +kernel) hk
theorem ly_1_7 {X : qX} (hX : q_Lay X) {b : Nat} (hk : q_kd X b = some (3, 9)) : X.1 b 7 = some (b + 8) ∧ q_kd X (b + 8) = some (0, 60) := q_lay_at hX (c := 1) 10 (by decide +kernel) hk
theorem ly_2_0 {X : qX} (hX : q_Lay X) {b : Nat} (hk : q_kd X b = some (4, 15)) : X.1 b 0 = some (b + 1) ∧ q_kd X (b + 1) = some (0, 12) := q_lay_at hX (c := 2) 11 (by decide +kernel) hk
theorem ly_2_1 {X : qX} (hX : q_Lay X) {b : Nat} (hk : q_kd X b = some (4, 15)) : X.1 b 1 = some (b + 2) ∧ q_kd X (b + 2) = some (0, 12) := q_lay_at hX (c := 2) 12 (by decide +kernel) hk
theorem ly_2_2 {X : qX} (hX : q_Lay X) {b : Nat} (hk : q_kd X b = some (4, 15)) : X.1 b 2 = some (b + 3) ∧ q_kd X (b + 3) = some (0, 12) := q_lay_at hX (c := 2) 13 (by decide +kernel) hk
theorem ly_2_3 {X : qX} (hX : q_Lay X) {b : Nat} (hk : q_kd X b = some (4, 15)) : X.1 b 3 = some (b + 4) ∧ q_kd X (b + 4) = some (0, 12) := q_lay_at hX (c := 2) 14 (by decide +kernel) hk
theorem ly_2_4 {X : qX} (hX : q_Lay X) {b : Nat} (hk : q_kd X b = some (4, 15)) : X.1 b 4 = some (b + 5) ∧ q_kd X (b + 5) = some (0, 12) := q_lay_at hX (c := 2) 15 (by decide +kernel) hk
theorem ly_2_5 {X : qX} (hX : q_Lay X) {b : Nat} (hk : q_kd X b = some (4, 15)) : X.1 b 5 = some (b + 6) ∧ q_kd X (b + 6) = some (0, 12) := q_lay_at hX (c := 2) 16 (by decide +kernel) hk
theorem ly_2_6 {X : qX} (hX : q_Lay X) {b : Nat} (hk : q_kd X b = some (4, 15)) : X.1 b 6 = some (b + 7) ∧ q_kd X (b + 7) = some (0, 12) := q_lay_at hX (c := 2) 17 (by decide +kernel) hk
theorem ly_2_7 {X : qX} (hX : q_Lay X) {b : Nat} (hk : q_kd X b = some (4, 15)) : X.1 b 7 = some (b + 8) ∧ q_kd X (b + 8) = some (0, 12) := q_lay_at hX (c := 2) 18 (by decide +kernel) hk
theorem ly_2_8 {X : qX} (hX : q_Lay X) {b : Nat} (hk : q_kd X b = some (4, 15)) : X.1 b 8 = some (b + 9) ∧ q_kd X (b + 9) = some (0, 12) := q_lay_at hX (c := 2) 19 (by decide +kernel) hk
theorem ly_2_9 {X : qX} (hX : q_Lay X) {b : Nat} (hk : q_kd X b = some (4, 15)) : X.1 b 9 = some (b + 10) ∧ q_kd X (b + 10) = some (0, 12) := q_lay_at hX (c := 2) 20 (by decide +kernel) hk
theorem ly_2_10 {X : qX} (hX : q_Lay X) {b : Nat} (hk : q_kd X b = some (4, 15)) : X.1 b 10 = some (b + 11) ∧ q_kd X (b + 11) = some (0, 12) := q_lay_at hX (c := 2) 21 (by decide +kernel) hk
theorem ly_2_11 {X : qX} (hX : q_Lay X) {b : Nat} (hk : q_kd X b = some (4, 15)) : X.1 b 11 = some (b + 12) ∧ q_kd X (b + 12) = some (0, 12) := q_lay_at hX (c := 2) 22 (by decide +kernel) hk
theorem ly_2_12 {X : qX} (hX : q_Lay X) {b : Nat} (hk : q_kd X b = some (4, 15)) : X.1 b 12 = some (b + 13) ∧ q_kd X (b + 13) = some (0, 72) := q_lay_at hX (c := 2) 23 (by decide +kernel) hk
theorem ly_2_13 {X : qX} (hX : q_Lay X) {b : Nat} (hk : q_kd X b = some (4, 15)) : X.1 b 13 = some (b + 14) ∧ q_kd X (b + 14) = some (0, 72) := q_lay_at hX (c := 2) 24 (by decide +kernel) hk
theorem ly_3_0 {X : qX} (hX : q_Lay X) {b : Nat} (hk : q_kd X b = some (5, 5)) : X.1 b 0 = some (b + 1) ∧ q_kd X (b + 1) = some (0, 8) := q_lay_at hX (c := 3) 25 (by decide +kernel) hk
theorem ly_3_1 {X : qX} (hX : q_Lay X) {b : Nat} (hk : q_kd X b = some (5, 5)) : X.1 b 1 = some (b + 2) ∧ q_kd X (b + 2) = some (0, 8) := q_lay_at hX (c := 3) 26 (by decide +kernel) hk
theorem ly_3_2 {X : qX} (hX : q_Lay X) {b : Nat} (hk : q_kd X b = some (5, 5)) : X.1 b 2 = some (b + 3) ∧ q_kd X (b + 3) = some (0, 8) := q_lay_at hX (c := 3) 27 (by decide +kernel) hk
theorem ly_3_3 {X : qX} (hX : q_Lay X) {b : Nat} (hk : q_kd X b = some (5, 5)) : X.1 b 3 = some (b + 4) ∧ q_kd X (b + 4) = some (0, 8) := q_lay_at hX (c := 3) 28 (by decide +kernel) hk
theorem ly_3_4 {X : qX} (hX : q_Lay X) {b : Nat} (hk : q_kd X b = some (5, 5)) : X.1 b 4 = some (b + 5) ∧ q_kd X (b + 5) = some (0, 8) := q_lay_at hX (c := 3) 29 (by decide +kernel) hk
theorem ly_4_0 {X : qX} (hX : q_Lay X) {b : Nat} (hk : q_kd X b = some (6, 10)) : X.1 b 0 = some (b + 1) ∧ q_kd X (b + 1) = some (0, 8) := q_lay_at hX (c := 4) 30 (by decide +kernel) hk
theorem ly_4_1 {X : qX} (hX : q_Lay X) {b : Nat} (hk : q_kd X b = some (6, 10)) : X.1 b 1 = some (b + 2) ∧ q_kd X (b + 2) = some (0, 8) := q_lay_at hX (c := 4) 31 (by decide +kernel) hk
theorem ly_4_2 {X : qX} (hX : q_Lay X) {b : Nat} (hk : q_kd X b = some (6, 10)) : X.1 b 2 = some (b + 3) ∧ q_kd X (b + 3) = some (0, 8) := q_lay_at hX (c := 4) 32 (by decide +kernel) hk
theorem ly_4_3 {X : qX} (hX : q_Lay X) {b : Nat} (hk : q_kd X b = some (6, 10)) : X.1 b 3 = some (b + 4) ∧ q_kd X (b + 4) = some (0, 8) := q_lay_at hX (c := 4) 33 (by decide +kernel) hk
theorem ly_4_4 {X : qX} (hX : q_Lay X) {b : Nat} (hk : q_kd X b = some (6, 10)) : X.1 b 4 = some (b + 5) ∧ q_kd X (b + 5) = some (0, 8) := q_lay_at hX (c := 4) 34 (by decide +kernel) hk
theorem ly_4_5 {X : qX} (hX : q_Lay X) {b : Nat} (hk : q_kd X b = some (6, 10)) : X.1 b 5 = some (b + 6) ∧ q_kd X (b + 6) = some (0, 8) := q_lay_at hX (c := 4) 35 (by decide +kernel) hk
theorem ly_4_6 {X : qX} (hX : q_Lay X) {b : Nat} (hk : q_kd X b = some (6, 10)) : X.1 b 6 = some (b + 7) ∧ q_kd X (b + 7) = some (0, 8) := q_lay_at hX (c := 4) 36 (by decide +kernel) hk
theorem ly_5_0 {X : qX} (hX : q_Lay X) {b : Nat} (hk : q_kd X b = some (7, 9)) : X.1 b 0 = some (b + 1) ∧ q_kd X (b + 1) = some (0, 96) := q_lay_at hX (c := 5) 37 (by decide +kernel) hk
theorem ly_5_1 {X : qX} (hX : q_Lay X) {b : Nat} (hk : q_kd X b = some (7, 9)) : X.1 b 1 = some (b + 2) ∧ q_kd X (b + 2) = some (0, 96) := q_lay_at hX (c := 5) 38 (by decide +kernel) hk
theorem ly_6_0 {X : qX} (hX : q_Lay X) {b : Nat} (hk : q_kd X b = some (8, 9)) : X.1 b 0 = some (b + 1) ∧ q_kd X (b + 1) = some (0, 16) := q_lay_at hX (c := 6) 39 (by decide +kernel) hk
theorem ly_6_1 {X : qX} (hX : q_Lay X) {b : Nat} (hk : q_kd X b = some (8, 9)) : X.1 b 1 = some (b + 2) ∧ q_kd X (b + 2) = some (0, 16) := q_lay_at hX (c := 6) 40 (by decide +kernel) hk
theorem ly_6_2 {X : qX} (hX : q_Lay X) {b : Nat} (hk : q_kd X b = some (8, 9)) : X.1 b 2 = some (b + 3) ∧ q_kd X (b + 3) = some (0, 16) := q_lay_at hX (c := 6) 41 (by decide +kernel) hk
theorem ly_6_3 {X : qX} (hX : q_Lay X) {b : Nat} (hk : q_kd X b = some (8, 9)) : X.1 b 3 = some (b + 4) ∧ q_kd X (b + 4) = some (0, 28) := q_lay_at hX (c := 6) 42 (by decide +kernel) hk
theorem ly_6_4 {X : qX} (hX : q_Lay X) {b : Nat} (hk : q_kd X b = some (8, 9)) : X.1 b 4 = some (b + 5) ∧ q_kd X (b + 5) = some (0, 8) := q_lay_at hX (c := 6) 43 (by decide +kernel) hk
theorem ly_6_5 {X : qX} (hX : q_Lay X) {b : Nat} (hk : q_kd X b = some (8, 9)) : X.1 b 5 = some (b + 6) ∧ q_kd X (b + 6) = some (0, 7) := q_lay_at hX (c := 6) 44 (by decide +kernel) hk
theorem ly_6_6 {X : qX} (hX : q_Lay X) {b : Nat} (hk : q_kd X b = some (8, 9)) : X.1 b 6 = some (b + 7) ∧ q_kd X (b + 7) = some (0, 7) := q_lay_at hX (c := 6) 45 (by decide +kernel) hk
theorem ly_7_0 {X : qX} (hX : q_Lay X) {b : Nat} (hk : q_kd X b = some (9, 6)) : X.1 b 0 = some (b + 1) ∧ q_kd X (b + 1) = some (0, 12) := q_lay_at hX (c := 7) 46 (by decide +kernel) hk
theorem ly_7_1 {X : qX} (hX : q_Lay X) {b : Nat} (hk : q_kd X b = some (9, 6)) : X.1 b 1 = some (b + 2) ∧ q_kd X (b + 2) = some (0, 12) := q_lay_at hX (c := 7) 47 (by decide +kernel) hk
theorem ly_7_2 {X : qX} (hX : q_Lay X) {b : Nat} (hk : q_kd X b = some (9, 6)) : X.1 b 2 = some (b + 3) ∧ q_kd X (b + 3) = some (0, 12) := q_lay_at hX (c := 7) 48 (by decide +kernel) hk
theorem ly_7_3 {X : qX} (hX : q_Lay X) {b : Nat} (hk : q_kd X b = some (9, 6)) : X.1 b 3 = some (b + 4) ∧ q_kd X (b + 4) = some (1, 12) := q_lay_at hX (c := 7) 49 (by decide +kernel) hk
theorem ly_7_4 {X : qX} (hX : q_Lay X) {b : Nat} (hk : q_kd X b = some (9, 6)) : X.1 b 4 = some (b + 5) ∧ q_kd X (b + 5) = some (0, 96) := q_lay_at hX (c := 7) 50 (by decide +kernel) hk
theorem ly_8_0 {X : qX} (hX : q_Lay X) {b : Nat} (hk : q_kd X b = some (10, 5)) : X.1 b 0 = some (b + 1) ∧ q_kd X (b + 1) = some (0, 6) := q_lay_at hX (c := 8) 51 (by decide +kernel) hk
theorem ly_8_1 {X : qX} (hX : q_Lay X) {b : Nat} (hk : q_kd X b = some (10, 5)) : X.1 b 1 = some (b + 2) ∧ q_kd X (b + 2) = some (0, 6) := q_lay_at hX (c := 8) 52 (by decide +kernel) hk
theorem ly_8_2 {X : qX} (hX : q_Lay X) {b : Nat} (hk : q_kd X b = some (10, 5)) : X.1 b 2 = some (b + 3) ∧ q_kd X (b + 3) = some (0, 6) := q_lay_at hX (c := 8) 53 (by decide +kernel) hk
theorem ly_8_3 {X : qX} (hX : q_Lay X) {b : Nat} (hk : q_kd X b = some (10, 5)) : X.1 b 3 = some (b + 4) ∧ q_kd X (b + 4) = some (0, 6) := q_lay_at hX (c := 8) 54 (by decide +kernel) hk
theorem ly_10_0 {X : qX} (hX : q_Lay X) {b : Nat} (hk : q_kd X b = some (12, 1)) : X.1 b 0 = some (b + 1) ∧ q_kd X (b + 1) = some (0, 48) := q_lay_at hX (c := 10) 68 (by decide +kernel) hk
theorem fl_X0_11 : q_fl RX0 11 0 3 0 true := ⟨_, _, rfl, by decide, (q_wt2 (i := 182) (by decide +kernel) rfl), rfl, rfl⟩
theorem fl_X0_17 : q_fl RX0 17 0 3 1 true := ⟨_, _, rfl, by decide, (q_wt2 (i := 184) (by decide +kernel) rfl), rfl, rfl⟩
theorem fl_X0_20 : q_fl RX0 20 0 3 2 true := ⟨_, _, rfl, by decide, (q_wt2 (i := 186) (by decide +kernel) rfl), rfl, rfl⟩
theorem fl_X1_11 : q_fl RX1 11 1 9 0 true := ⟨_, _, rfl, by decide, (q_wt1 (i := 170) (by decide +kernel) rfl), rfl, rfl⟩
theorem fl_X1_15 : q_fl RX1 15 1 9 1 true := ⟨_, _, rfl, by decide, (q_wt1 (i := 173) (by decide +kernel) rfl), rfl, rfl⟩
theorem fl_X1_18 : q_fl RX1 18 1 9 2 true := ⟨_, _, rfl, by decide, (q_wt1 (i := 175) (by decide +kernel) rfl), rfl, rfl⟩
theorem fl_X1_21 : q_fl RX1 21 1 9 3 true := ⟨_, _, rfl, by decide, (q_wt1 (i := 178) (by decide +kernel) rfl), rfl, rfl⟩
theorem fl_X1_24 : q_fl RX1 24 1 9 4 true := ⟨_, _, rfl, by decide, (q_wt1 (i := 180) (by decide +kernel) rfl), rfl, rfl⟩
theorem fl_X1_27 : q_fl RX1 27 1 9 5 true := ⟨_, _, rfl, by decide, (q_wt1 (i := 181) (by decide +kernel) rfl), rfl, rfl⟩
theorem fl_X1_30 : q_fl RX1 30 1 9 6 true := ⟨_, _, rfl, by decide, (q_wt1 (i := 184) (by decide +kernel) rfl), rfl, rfl⟩
theorem fl_X1_33 : q_fl RX1 33 1 9 7 true := ⟨_, _, rfl, by decide, (q_wt1 (i := 186) (by decide +kernel) rfl), rfl, rfl⟩
theorem fl_X1_36 : q_fl RX1 36 1 9 8 false := ⟨_, _, rfl, by decide, (q_wt1 (i := 187) (by decide +kernel) rfl), rfl, rfl⟩
theorem fs_X1_40 : Cond.fieldLink RX1 40 "TokenValley$Dues" "ABOVE" "[I" ∈ q_tbl := (q_wt3 (i := 233) (by decide +kernel) rfl)
theorem fl_X10_9 : q_fl RX10 9 10 1 0 true := ⟨_, _, rfl, by decide, (q_wt2 (i := 4) (by decide +kernel) rfl), rfl, rfl⟩
theorem fl_X2_11 : q_fl RX2 11 2 15 0 true := ⟨_, _, rfl, by decide, (q_wt1 (i := 100) (by decide +kernel) rfl), rfl, rfl⟩
theorem fl_X2_15 : q_fl RX2 15 2 15 1 true := ⟨_, _, rfl, by decide, (q_wt1 (i := 102) (by decide +kernel) rfl), rfl, rfl⟩
theorem fl_X2_18 : q_fl RX2 18 2 15 2 true := ⟨_, _, rfl, by decide, (q_wt1 (i := 104) (by decide +kernel) rfl), rfl, rfl⟩
theorem fl_X2_21 : q_fl RX2 21 2 15 3 true := ⟨_, _, rfl, by decide, (q_wt1 (i := 106) (by decide +kernel) rfl), rfl, rfl⟩
theorem fl_X2_24 : q_fl RX2 24 2 15 4 true := ⟨_, _, rfl, by decide, (q_wt1 (i := 109) (by decide +kernel) rfl), rfl, rfl⟩
theorem fl_X2_27 : q_fl RX2 27 2 15 5 true := ⟨_, _, rfl, by decide, (q_wt1 (i := 112) (by decide +kernel) rfl), rfl, rfl⟩
theorem fl_X2_30 : q_fl RX2 30 2 15 6 true := ⟨_, _, rfl, by decide, (q_wt1 (i := 115) (by decide +kernel) rfl), rfl, rfl⟩
theorem fl_X2_33 : q_fl RX2 33 2 15 7 true := ⟨_, _, rfl, by decide, (q_wt1 (i := 117) (by decide +kernel) rfl), rfl, rfl⟩
theorem fl_X2_36 : q_fl RX2 36 2 15 8 true := ⟨_, _, rfl, by decide, (q_wt1 (i := 119) (by decide +kernel) rfl), rfl, rfl⟩
theorem fl_X2_39 : q_fl RX2 39 2 15 9 true := ⟨_, _, rfl, by decide, (q_wt1 (i := 121) (by decide +kernel) rfl), rfl, rfl⟩
theorem fl_X2_42 : q_fl RX2 42 2 15 10 true := ⟨_, _, rfl, by decide, (q_wt1 (i := 124) (by decide +kernel) rfl), rfl, rfl⟩
theorem fl_X2_45 : q_fl RX2 45 2 15 11 true := ⟨_, _, rfl, by decide, (q_wt1 (i := 126) (by decide +kernel) rfl), rfl, rfl⟩
theorem fl_X2_50 : q_fl RX2 50 2 15 12 true := ⟨_, _, rfl, by decide, (q_wt1 (i := 128) (by decide +kernel) rfl), rfl, rfl⟩
theorem fl_X2_53 : q_fl RX2 53 2 15 13 true := ⟨_, _, rfl, by decide, (q_wt1 (i := 129) (by decide +kernel) rfl), rfl, rfl⟩
theorem fl_X2_56 : q_fl RX2 56 2 15 14 false := ⟨_, _, rfl, by decide, (q_wt1 (i := 130) (by decide +kernel) rfl), rfl, rfl⟩
theorem fs_X2_60 : Cond.fieldLink RX2 60 "TokenValley$Men" "LEAST_V" "[I" ∈ q_tbl := (q_wt3 (i := 46) (by decide +kernel) rfl)
theorem fs_X2_63 : Cond.fieldLink RX2 63 "TokenValley$Men" "MOST_V" "[I" ∈ q_tbl := (q_wt3 (i := 48) (by decide +kernel) rfl)
theorem fl_X3_9 : q_fl RX3 9 3 5 0 true := ⟨_, _, rfl, by decide, (q_wt1 (i := 42) (by decide +kernel) rfl), rfl, rfl⟩
theorem fl_X3_13 : q_fl RX3 13 3 5 1 true := ⟨_, _, rfl, by decide, (q_wt1 (i := 44) (by decide +kernel) rfl), rfl, rfl⟩
theorem fl_X3_16 : q_fl RX3 16 3 5 2 true := ⟨_, _, rfl, by decide, (q_wt1 (i := 46) (by decide +kernel) rfl), rfl, rfl⟩
theorem fl_X3_19 : q_fl RX3 19 3 5 3 true := ⟨_, _, rfl, by decide, (q_wt1 (i := 48) (by decide +kernel) rfl), rfl, rfl⟩
theorem fl_X3_22 : q_fl RX3 22 3 5 4 true := ⟨_, _, rfl, by decide, (q_wt1 (i := 51) (by decide +kernel) rfl), rfl, rfl⟩
theorem fl_X4_11 : q_fl RX4 11 4 10 0 true := ⟨_, _, rfl, by decide, (q_wt2 (i := 51) (by decide +kernel) rfl), rfl, rfl⟩
theorem fl_X4_15 : q_fl RX4 15 4 10 1 true := ⟨_, _, rfl, by decide, (q_wt2 (i := 52) (by decide +kernel) rfl), rfl, rfl⟩
theorem fl_X4_18 : q_fl RX4 18 4 10 2 true := ⟨_, _, rfl, by decide, (q_wt2 (i := 53) (by decide +kernel) rfl), rfl, rfl⟩
theorem fl_X4_21 : q_fl RX4 21 4 10 3 true := ⟨_, _, rfl, by decide, (q_wt2 (i := 54) (by decide +kernel) rfl), rfl, rfl⟩
theorem fl_X4_24 : q_fl RX4 24 4 10 4 true := ⟨_, _, rfl, by decide, (q_wt2 (i := 55) (by decide +kernel) rfl), rfl, rfl⟩
theorem fl_X4_27 : q_fl RX4 27 4 10 5 true := ⟨_, _, rfl, by decide, (q_wt2 (i := 56) (by decide +kernel) rfl), rfl, rfl⟩
theorem fl_X4_30 : q_fl RX4 30 4 10 6 true := ⟨_, _, rfl, by decide, (q_wt2 (i := 58) (by decide +kernel) rfl), rfl, rfl⟩
theorem fl_X4_33 : q_fl RX4 33 4 10 9 false := ⟨_, _, rfl, by decide, (q_wt2 (i := 62) (by decide +kernel) rfl), rfl, rfl⟩
theorem fl_X4_44 : q_fl RX4 44 4 10 7 false := ⟨_, _, rfl, by decide, (q_wt2 (i := 60) (by decide +kernel) rfl), rfl, rfl⟩
theorem fl_X4_47 : q_fl RX4 47 4 10 8 false := ⟨_, _, rfl, by decide, (q_wt2 (i := 61) (by decide +kernel) rfl), rfl, rfl⟩
theorem fl_X5_9 : q_fl RX5 9 5 9 0 true := ⟨_, _, rfl, by decide, (q_wt2 (i := 145) (by decide +kernel) rfl), rfl, rfl⟩
theorem fl_X5_13 : q_fl RX5 13 5 9 1 true := ⟨_, _, rfl, by decide, (q_wt2 (i := 146) (by decide +kernel) rfl), rfl, rfl⟩
theorem fl_X5_16 : q_fl RX5 16 5 9 6 false := ⟨_, _, rfl, by decide, (q_wt2 (i := 151) (by decide +kernel) rfl), rfl, rfl⟩
theorem fl_X5_20 : q_fl RX5 20 5 9 2 false := ⟨_, _, rfl, by decide, (q_wt2 (i := 147) (by decide +kernel) rfl), rfl, rfl⟩
theorem fl_X5_29 : q_fl RX5 29 5 9 8 false := ⟨_, _, rfl, by decide, (q_wt2 (i := 155) (by decide +kernel) rfl), rfl, rfl⟩
theorem fl_X5_32 : q_fl RX5 32 5 9 3 false := ⟨_, _, rfl, by decide, (q_wt2 (i := 148) (by decide +kernel) rfl), rfl, rfl⟩
theorem fl_X5_35 : q_fl RX5 35 5 9 5 false := ⟨_, _, rfl, by decide, (q_wt2 (i := 150) (by decide +kernel) rfl), rfl, rfl⟩
theorem fl_X5_48 : q_fl RX5 48 5 9 4 false := ⟨_, _, rfl, by decide, (q_wt2 (i := 149) (by decide +kernel) rfl), rfl, rfl⟩
theorem fl_X6_11 : q_fl RX6 11 6 9 0 true := ⟨_, _, rfl, by decide, (q_wt2 (i := 15) (by decide +kernel) rfl), rfl, rfl⟩
theorem fl_X6_15 : q_fl RX6 15 6 9 1 true := ⟨_, _, rfl, by decide, (q_wt2 (i := 16) (by decide +kernel) rfl), rfl, rfl⟩
theorem fl_X6_18 : q_fl RX6 18 6 9 2 true := ⟨_, _, rfl, by decide, (q_wt2 (i := 17) (by decide +kernel) rfl), rfl, rfl⟩
theorem fl_X6_21 : q_fl RX6 21 6 9 3 true := ⟨_, _, rfl, by decide, (q_wt2 (i := 18) (by decide +kernel) rfl), rfl, rfl⟩
theorem fl_X6_24 : q_fl RX6 24 6 9 4 true := ⟨_, _, rfl, by decide, (q_wt2 (i := 19) (by decide +kernel) rfl), rfl, rfl⟩
theorem fl_X6_27 : q_fl RX6 27 6 9 5 true := ⟨_, _, rfl, by decide, (q_wt2 (i := 20) (by decide +kernel) rfl), rfl, rfl⟩
theorem fl_X6_30 : q_fl RX6 30 6 9 6 true := ⟨_, _, rfl, by decide, (q_wt2 (i := 21) (by decide +kernel) rfl), rfl, rfl⟩
theorem fl_X6_33 : q_fl RX6 33 6 9 8 false := ⟨_, _, rfl, by decide, (q_wt2 (i := 24) (by decide +kernel) rfl), rfl, rfl⟩
theorem fl_X6_44 : q_fl RX6 44 6 9 7 false := ⟨_, _, rfl, by decide, (q_wt2 (i := 23) (by decide +kernel) rfl), rfl, rfl⟩
theorem fl_X7_11 : q_fl RX7 11 7 6 0 true := ⟨_, _, rfl, by decide, (q_wt1 (i := 217) (by decide +kernel) rfl), rfl, rfl⟩
theorem fl_X7_15 : q_fl RX7 15 7 6 1 true := ⟨_, _, rfl, by decide, (q_wt1 (i := 219) (by decide +kernel) rfl), rfl, rfl⟩
theorem fl_X7_18 : q_fl RX7 18 7 6 2 true := ⟨_, _, rfl, by decide, (q_wt1 (i := 220) (by decide +kernel) rfl), rfl, rfl⟩
theorem fl_X7_22 : q_fl RX7 22 7 6 3 true := ⟨_, _, rfl, by decide, (q_wt1 (i := 221) (by decide +kernel) rfl), rfl, rfl⟩
theorem fl_X7_28 : q_fl RX7 28 7 6 4 true := ⟨_, _, rfl, by decide, (q_wt1 (i := 222) (by decide +kernel) rfl), rfl, rfl⟩
theorem fl_X7_31 : q_fl RX7 31 7 6 5 false := ⟨_, _, rfl, by decide, (q_wt1 (i := 223) (by decide +kernel) rfl), rfl, rfl⟩
theorem fl_X8_11 : q_fl RX8 11 8 5 0 true := ⟨_, _, rfl, by decide, (q_wt1 (i := 72) (by decide +kernel) rfl), rfl, rfl⟩
theorem fl_X8_15 : q_fl RX8 15 8 5 1 true := ⟨_, _, rfl, by decide, (q_wt1 (i := 74) (by decide +kernel) rfl), rfl, rfl⟩
theorem fl_X8_18 : q_fl RX8 18 8 5 2 true := ⟨_, _, rfl, by decide, (q_wt1 (i := 76) (by decide +kernel) rfl), rfl, rfl⟩
theorem fl_X8_21 : q_fl RX8 21 8 5 3 true := ⟨_, _, rfl, by decide, (q_wt1 (i := 78) (by decide +kernel) rfl), rfl, rfl⟩
theorem fl_X8_24 : q_fl RX8 24 8 5 4 false := ⟨_, _, rfl, by decide, (q_wt1 (i := 80) (by decide +kernel) rfl), rfl, rfl⟩
theorem kc_J6_265 : Cond.constant RJ6 265 (nI 1431655765) ∈ q_tbl := (q_wt6 (i := 73) (by decide +kernel) rfl)
theorem kc_J6_266 : Cond.constant RJ6 266 (nI 858993459) ∈ q_tbl := (q_wt6 (i := 74) (by decide +kernel) rfl)
theorem kc_J6_267 : Cond.constant RJ6 267 (nI 252645135) ∈ q_tbl := (q_wt6 (i := 75) (by decide +kernel) rfl)
theorem kc_X0_37 : Cond.constant RX0 37 (-2147483648) ∈ q_tbl := (q_wt5 (i := 221) (by decide +kernel) rfl)
theorem kc_X1_43 : Cond.constant RX1 43 (-1000000003) ∈ q_tbl := (q_wt3 (i := 64) (by decide +kernel) rfl)
theorem kc_X1_44 : Cond.constant RX1 44 (-1000000005) ∈ q_tbl := (q_wt3 (i := 65) (by decide +kernel) rfl)
theorem kc_X2_66 : Cond.constant RX2 66 (-1000000003) ∈ q_tbl := (q_wt3 (i := 59) (by decide +kernel) rfl)
theorem kc_X2_81 : Cond.constant RX2 81 (nI 99999) ∈ q_tbl := (q_wt4 (i := 9) (by decide +kernel) rfl)
theorem kc_X4_37 : Cond.constant RX4 37 (-1000000003) ∈ q_tbl := (q_wt6 (i := 116) (by decide +kernel) rfl)
theorem kc_X4_54 : Cond.constant RX4 54 (-1000000004) ∈ q_tbl := (q_wt6 (i := 139) (by decide +kernel) rfl)
theorem kc_X4_55 : Cond.constant RX4 55 (-1000000002) ∈ q_tbl := (q_wt6 (i := 140) (by decide +kernel) rfl)
theorem kc_X6_37 : Cond.constant RX6 37 (-1000000003) ∈ q_tbl := (q_wt6 (i := 57) (by decide +kernel) rfl)
theorem kc_X8_28 : Cond.constant RX8 28 (-1000000003) ∈ q_tbl := (q_wt3 (i := 22) (by decide +kernel) rfl)
theorem mt_J6_bitCount_0f7a4 : q_mt yJ6_bitCount_0f7a4 cJ6_bitCount_0f7a4 1 (some .int) 1 := ⟨(q_wt6 (i := 72) (by decide +kernel) rfl), (q_wt1 (i := 21) (by decide +kernel) rfl), by decide +kernel, by decide +kernel, by decide +kernel⟩
theorem mt_X0_hasWeek : q_mt yX0_hasWeek cX0_hasWeek 3 (some .boolean) 2 := ⟨(q_wt5 (i := 205) (by decide +kernel) rfl), (q_wt1 (i := 12) (by decide +kernel) rfl), by decide +kernel, by decide +kernel, by decide +kernel⟩
theorem mt_X0_isMissing : q_mt yX0_isMissing cX0_isMissing 2 (some .boolean) 1 := ⟨(q_wt5 (i := 200) (by decide +kernel) rfl), (q_wt1 (i := 12) (by decide +kernel) rfl), by decide +kernel, by decide +kernel, by decide +kernel⟩
theorem mt_X0_start : q_mt yX0_start cX0_start 1 (some .int) 1 := ⟨(q_wt5 (i := 188) (by decide +kernel) rfl), (q_wt1 (i := 12) (by decide +kernel) rfl), by decide +kernel, by decide +kernel, by decide +kernel⟩
theorem mt_X10_isBarred : q_mt yX10_isBarred cX10_isBarred 3 (some .boolean) 3 := ⟨(q_wt6 (i := 43) (by decide +kernel) rfl), (q_wt1 (i := 8) (by decide +kernel) rfl), by decide +kernel, by decide +kernel, by decide +kernel⟩
theorem mt_X10_isOpen : q_mt yX10_isOpen cX10_isOpen 4 (some .boolean) 3 := ⟨(q_wt6 (i := 14) (by decide +kernel) rfl), (q_wt1 (i := 8) (by decide +kernel) rfl), by decide +kernel, by decide +kernel, by decide +kernel⟩
theorem mt_X10_m : q_mt yX10_m cX10_m 1 (some .int) 1 := ⟨(q_wt6 (i := 17) (by decide +kernel) rfl), (q_wt1 (i := 8) (by decide +kernel) rfl), by decide +kernel, by decide +kernel, by decide +kernel⟩
theorem mt_X10_p : q_mt yX10_p cX10_p 1 (some .int) 1 := ⟨(q_wt6 (i := 20) (by decide +kernel) rfl), (q_wt1 (i := 8) (by decide +kernel) rfl), by decide +kernel, by decide +kernel, by decide +kernel⟩
theorem mt_X10_t : q_mt yX10_t cX10_t 1 (some .int) 1 := ⟨(q_wt6 (i := 23) (by decide +kernel) rfl), (q_wt1 (i := 8) (by decide +kernel) rfl), by decide +kernel, by decide +kernel, by decide +kernel⟩
theorem mt_X1_isUnder : q_mt yX1_isUnder cX1_isUnder 4 (some .boolean) 2 := ⟨(q_wt3 (i := 232) (by decide +kernel) rfl), (q_wt1 (i := 6) (by decide +kernel) rfl), by decide +kernel, by decide +kernel, by decide +kernel⟩
theorem mt_X1_row : q_mt yX1_row cX1_row 2 (some (.array .int)) 1 := ⟨(q_wt4 (i := 68) (by decide +kernel) rfl), (q_wt1 (i := 6) (by decide +kernel) rfl), by decide +kernel, by decide +kernel, by decide +kernel⟩
theorem mt_X1_settle : q_mt yX1_settle cX1_settle 3 none 2 := ⟨(q_wt3 (i := 239) (by decide +kernel) rfl), (q_wt1 (i := 6) (by decide +kernel) rfl), by decide +kernel, by decide +kernel, by decide +kernel⟩
theorem mt_X2_isGone : q_mt yX2_isGone cX2_isGone 2 (some .boolean) 1 := ⟨(q_wt3 (i := 12) (by decide +kernel) rfl), (q_wt1 (i := 5) (by decide +kernel) rfl), by decide +kernel, by decide +kernel, by decide +kernel⟩
theorem mt_X2_row : q_mt yX2_row cX2_row 2 (some (.array .int)) 1 := ⟨(q_wt3 (i := 85) (by decide +kernel) rfl), (q_wt1 (i := 5) (by decide +kernel) rfl), by decide +kernel, by decide +kernel, by decide +kernel⟩
theorem mt_X4_keepOrder : q_mt yX4_keepOrder cX4_keepOrder 2 none 1 := ⟨(q_wt6 (i := 135) (by decide +kernel) rfl), (q_wt1 (i := 10) (by decide +kernel) rfl), by decide +kernel, by decide +kernel, by decide +kernel⟩
theorem mt_X4_putNext : q_mt yX4_putNext cX4_putNext 9 (some .boolean) 5 := ⟨(q_wt6 (i := 131) (by decide +kernel) rfl), (q_wt1 (i := 10) (by decide +kernel) rfl), by decide +kernel, by decide +kernel, by decide +kernel⟩
theorem mt_X4_weeksTill : q_mt yX4_weeksTill cX4_weeksTill 2 (some .int) 2 := ⟨(q_wt6 (i := 138) (by decide +kernel) rfl), (q_wt1 (i := 10) (by decide +kernel) rfl), by decide +kernel, by decide +kernel, by decide +kernel⟩
theorem mt_X5_emit : q_mt yX5_emit cX5_emit 2 none 1 := ⟨(q_wt5 (i := 66) (by decide +kernel) rfl), (q_wt1 (i := 11) (by decide +kernel) rfl), by decide +kernel, by decide +kernel, by decide +kernel⟩
theorem mt_X5_goOn : q_mt yX5_goOn cX5_goOn 2 none 0 := ⟨(q_wt4 (i := 214) (by decide +kernel) rfl), (q_wt1 (i := 11) (by decide +kernel) rfl), by decide +kernel, by decide +kernel, by decide +kernel⟩
theorem mt_X5_isDigit : q_mt yX5_isDigit cX5_isDigit 1 (some .boolean) 1 := ⟨(q_wt4 (i := 220) (by decide +kernel) rfl), (q_wt1 (i := 11) (by decide +kernel) rfl), by decide +kernel, by decide +kernel, by decide +kernel⟩
theorem mt_X5_isLetter : q_mt yX5_isLetter cX5_isLetter 1 (some .boolean) 1 := ⟨(q_wt4 (i := 217) (by decide +kernel) rfl), (q_wt1 (i := 11) (by decide +kernel) rfl), by decide +kernel, by decide +kernel, by decide +kernel⟩
theorem mt_X5_isSign : q_mt yX5_isSign cX5_isSign 2 (some .boolean) 1 := ⟨(q_wt5 (i := 139) (by decide +kernel) rfl), (q_wt1 (i := 11) (by decide +kernel) rfl), by decide +kernel, by decide +kernel, by decide +kernel⟩
theorem mt_X6_goRound : q_mt yX6_goRound cX6_goRound 5 none 3 := ⟨(q_wt6 (i := 69) (by decide +kernel) rfl), (q_wt1 (i := 9) (by decide +kernel) rfl), by decide +kernel, by decide +kernel, by decide +kernel⟩
theorem mt_X7_counting : q_mt yX7_counting cX7_counting 5 (some .int) 2 := ⟨(q_wt3 (i := 143) (by decide +kernel) rfl), (q_wt1 (i := 7) (by decide +kernel) rfl), by decide +kernel, by decide +kernel, by decide +kernel⟩
theorem mt_X7_given : q_mt yX7_given cX7_given 7 (some .int) 5 := ⟨(q_wt3 (i := 139) (by decide +kernel) rfl), (q_wt1 (i := 7) (by decide +kernel) rfl), by decide +kernel, by decide +kernel, by decide +kernel⟩
theorem mt_X7_held : q_mt yX7_held cX7_held 2 (some .int) 2 := ⟨(q_wt3 (i := 162) (by decide +kernel) rfl), (q_wt1 (i := 7) (by decide +kernel) rfl), by decide +kernel, by decide +kernel, by decide +kernel⟩
theorem mt_X7_joined : q_mt yX7_joined cX7_joined 3 (some .int) 3 := ⟨(q_wt3 (i := 159) (by decide +kernel) rfl), (q_wt1 (i := 7) (by decide +kernel) rfl), by decide +kernel, by decide +kernel, by decide +kernel⟩
theorem mt_X7_named : q_mt yX7_named cX7_named 4 (some .int) 4 := ⟨(q_wt3 (i := 153) (by decide +kernel) rfl), (q_wt1 (i := 7) (by decide +kernel) rfl), by decide +kernel, by decide +kernel, by decide +kernel⟩
theorem mt_X7_truth : q_mt yX7_truth cX7_truth 1 (some .int) 1 := ⟨(q_wt3 (i := 156) (by decide +kernel) rfl), (q_wt1 (i := 7) (by decide +kernel) rfl), by decide +kernel, by decide +kernel, by decide +kernel⟩
theorem mt_X7_unwritten : q_mt yX7_unwritten cX7_unwritten 2 (some .int) 2 := ⟨(q_wt3 (i := 146) (by decide +kernel) rfl), (q_wt1 (i := 7) (by decide +kernel) rfl), by decide +kernel, by decide +kernel, by decide +kernel⟩
theorem mt_X7_value : q_mt yX7_value cX7_value 9 (some .int) 4 := ⟨(q_wt3 (i := 150) (by decide +kernel) rfl), (q_wt1 (i := 7) (by decide +kernel) rfl), by decide +kernel, by decide +kernel, by decide +kernel⟩
theorem mt_X8_leastPrice : q_mt yX8_leastPrice cX8_leastPrice 4 (some .int) 1 := ⟨(q_wt4 (i := 102) (by decide +kernel) rfl), (q_wt1 (i := 4) (by decide +kernel) rfl), by decide +kernel, by decide +kernel, by decide +kernel⟩
theorem ml_X0_23 : Cond.methodLink RX0 23 yX0_start ∈ q_tbl := (q_wt5 (i := 186) (by decide +kernel) rfl)
theorem ml_X0_27 : Cond.methodLink RX0 27 yX0_isMissing ∈ q_tbl := (q_wt5 (i := 219) (by decide +kernel) rfl)
theorem ml_X0_31 : Cond.methodLink RX0 31 yX0_hasWeek ∈ q_tbl := (q_wt5 (i := 220) (by decide +kernel) rfl)
theorem ml_X1_45 : Cond.methodLink RX1 45 yX1_row ∈ q_tbl := (q_wt4 (i := 160) (by decide +kernel) rfl)
theorem ml_X1_55 : Cond.methodLink RX1 55 yX1_isUnder ∈ q_tbl := (q_wt3 (i := 230) (by decide +kernel) rfl)
theorem ml_X1_65 : Cond.methodLink RX1 65 yX1_settle ∈ q_tbl := (q_wt3 (i := 236) (by decide +kernel) rfl)
theorem ml_X10_21 : Cond.methodLink RX10 21 yX10_m ∈ q_tbl := (q_wt6 (i := 15) (by decide +kernel) rfl)
theorem ml_X10_25 : Cond.methodLink RX10 25 yX10_p ∈ q_tbl := (q_wt6 (i := 18) (by decide +kernel) rfl)
theorem ml_X10_28 : Cond.methodLink RX10 28 yX10_t ∈ q_tbl := (q_wt6 (i := 21) (by decide +kernel) rfl)
theorem ml_X10_31 : Cond.methodLink RX10 31 yX7_given ∈ q_tbl := (q_wt6 (i := 24) (by decide +kernel) rfl)
theorem ml_X10_35 : Cond.methodLink RX10 35 yX7_value ∈ q_tbl := (q_wt6 (i := 44) (by decide +kernel) rfl)
theorem ml_X10_39 : Cond.methodLink RX10 39 yX10_isOpen ∈ q_tbl := (q_wt6 (i := 11) (by decide +kernel) rfl)
theorem ml_X10_43 : Cond.methodLink RX10 43 yX10_isBarred ∈ q_tbl := (q_wt6 (i := 41) (by decide +kernel) rfl)
theorem ml_X2_67 : Cond.methodLink RX2 67 yX2_row ∈ q_tbl := (q_wt4 (i := 154) (by decide +kernel) rfl)
theorem ml_X2_77 : Cond.methodLink RX2 77 yX2_isGone ∈ q_tbl := (q_wt3 (i := 9) (by decide +kernel) rfl)
theorem ml_X4_50 : Cond.methodLink RX4 50 yX4_putNext ∈ q_tbl := (q_wt6 (i := 128) (by decide +kernel) rfl)
theorem ml_X4_56 : Cond.methodLink RX4 56 yX4_keepOrder ∈ q_tbl := (q_wt6 (i := 132) (by decide +kernel) rfl)
theorem ml_X4_60 : Cond.methodLink RX4 60 yX4_weeksTill ∈ q_tbl := (q_wt6 (i := 136) (by decide +kernel) rfl)
theorem ml_X5_38 : Cond.methodLink RX5 38 yX5_goOn ∈ q_tbl := (q_wt4 (i := 211) (by decide +kernel) rfl)
theorem ml_X5_55 : Cond.methodLink RX5 55 yX5_isLetter ∈ q_tbl := (q_wt4 (i := 215) (by decide +kernel) rfl)
theorem ml_X5_59 : Cond.methodLink RX5 59 yX5_isDigit ∈ q_tbl := (q_wt4 (i := 218) (by decide +kernel) rfl)
theorem ml_X5_115 : Cond.methodLink RX5 115 yX5_emit ∈ q_tbl := (q_wt5 (i := 63) (by decide +kernel) rfl)
theorem ml_X5_119 : Cond.methodLink RX5 119 yX5_isSign ∈ q_tbl := (q_wt5 (i := 136) (by decide +kernel) rfl)
theorem ml_X6_47 : Cond.methodLink RX6 47 yX6_goRound ∈ q_tbl := (q_wt6 (i := 66) (by decide +kernel) rfl)
theorem ml_X6_51 : Cond.methodLink RX6 51 yJ6_bitCount_0f7a4 ∈ q_tbl := (q_wt6 (i := 70) (by decide +kernel) rfl)
theorem ml_X7_42 : Cond.methodLink RX7 42 yX7_counting ∈ q_tbl := (q_wt3 (i := 140) (by decide +kernel) rfl)
theorem ml_X7_46 : Cond.methodLink RX7 46 yX7_unwritten ∈ q_tbl := (q_wt3 (i := 144) (by decide +kernel) rfl)
theorem ml_X7_49 : Cond.methodLink RX7 49 yX7_value ∈ q_tbl := (q_wt3 (i := 147) (by decide +kernel) rfl)
theorem ml_X7_53 : Cond.methodLink RX7 53 yX7_held ∈ q_tbl := (q_wt3 (i := 160) (by decide +kernel) rfl)
theorem ml_X7_64 : Cond.methodLink RX7 64 yX7_named ∈ q_tbl := (q_wt3 (i := 151) (by decide +kernel) rfl)
theorem ml_X7_67 : Cond.methodLink RX7 67 yX7_truth ∈ q_tbl := (q_wt3 (i := 154) (by decide +kernel) rfl)
theorem ml_X7_71 : Cond.methodLink RX7 71 yX7_joined ∈ q_tbl := (q_wt3 (i := 157) (by decide +kernel) rfl)
theorem ml_X8_41 : Cond.methodLink RX8 41 yX8_leastPrice ∈ q_tbl := (q_wt4 (i := 99) (by decide +kernel) rfl)
theorem mst_J6_bitCount_0f7a4 : Cond.static yJ6_bitCount_0f7a4 ∈ q_tbl := (q_wt6 (i := 71) (by decide +kernel) rfl)
theorem mst_X0_start : Cond.static yX0_start ∈ q_tbl := (q_wt5 (i := 187) (by decide +kernel) rfl)
theorem mst_X10_isBarred : Cond.static yX10_isBarred ∈ q_tbl := (q_wt6 (i := 42) (by decide +kernel) rfl)
theorem mst_X10_m : Cond.static yX10_m ∈ q_tbl := (q_wt6 (i := 16) (by decide +kernel) rfl)
theorem mst_X10_p : Cond.static yX10_p ∈ q_tbl := (q_wt6 (i := 19) (by decide +kernel) rfl)
theorem mst_X10_t : Cond.static yX10_t ∈ q_tbl := (q_wt6 (i := 22) (by decide +kernel) rfl)
theorem mst_X1_isUnder : Cond.static yX1_isUnder ∈ q_tbl := (q_wt3 (i := 231) (by decide +kernel) rfl)
theorem mst_X4_weeksTill : Cond.static yX4_weeksTill ∈ q_tbl := (q_wt6 (i := 137) (by decide +kernel) rfl)
theorem mst_X5_isDigit : Cond.static yX5_isDigit ∈ q_tbl := (q_wt4 (i := 219) (by decide +kernel) rfl)
theorem mst_X5_isLetter : Cond.static yX5_isLetter ∈ q_tbl := (q_wt4 (i := 216) (by decide +kernel) rfl)
theorem mst_X7_held : Cond.static yX7_held ∈ q_tbl := (q_wt3 (i := 161) (by decide +kernel) rfl)
theorem mst_X7_joined : Cond.static yX7_joined ∈ q_tbl := (q_wt3 (i := 158) (by decide +kernel) rfl)
theorem mst_X7_named : Cond.static yX7_named ∈ q_tbl := (q_wt3 (i := 152) (by decide +kernel) rfl)
theorem mst_X7_truth : Cond.static yX7_truth ∈ q_tbl := (q_wt3 (i := 155) (by decide +kernel) rfl)
theorem mst_X7_unwritten : Cond.static yX7_unwritten ∈ q_tbl := (q_wt3 (i := 145) (by decide +kernel) rfl)
theorem mv_X0_hasWeek : Cond.instanceMethod yX0_hasWeek ∈ q_tbl ∧ Cond.selects yX0_hasWeek.cls yX0_hasWeek yX0_hasWeek ∈ q_tbl ∧ ∃ T : u_T, vwCl[0]? = some (yX0_hasWeek.cls, T, 3) := ⟨(q_wt5 (i := 203) (by decide +kernel) rfl), (q_wt5 (i := 204) (by decide +kernel) rfl), _, rfl⟩
theorem mv_X0_isMissing : Cond.instanceMethod yX0_isMissing ∈ q_tbl ∧ Cond.selects yX0_isMissing.cls yX0_isMissing yX0_isMissing ∈ q_tbl ∧ ∃ T : u_T, vwCl[0]? = some (yX0_isMissing.cls, T, 3) := ⟨(q_wt5 (i := 198) (by decide +kernel) rfl), (q_wt5 (i := 199) (by decide +kernel) rfl), _, rfl⟩
theorem mv_X10_isOpen : Cond.instanceMethod yX10_isOpen ∈ q_tbl ∧ Cond.selects yX10_isOpen.cls yX10_isOpen yX10_isOpen ∈ q_tbl ∧ ∃ T : u_T, vwCl[10]? = some (yX10_isOpen.cls, T, 1) := ⟨(q_wt6 (i := 13) (by decide +kernel) rfl), (q_wp2 (i := 12) (n := 1) (by decide +kernel)), _, rfl⟩
theorem mv_X1_row : Cond.instanceMethod yX1_row ∈ q_tbl ∧ Cond.selects yX1_row.cls yX1_row yX1_row ∈ q_tbl ∧ ∃ T : u_T, vwCl[1]? = some (yX1_row.cls, T, 9) := ⟨(q_wt4 (i := 66) (by decide +kernel) rfl), (q_wt4 (i := 67) (by decide +kernel) rfl), _, rfl⟩
theorem mv_X1_settle : Cond.instanceMethod yX1_settle ∈ q_tbl ∧ Cond.selects yX1_settle.cls yX1_settle yX1_settle ∈ q_tbl ∧ ∃ T : u_T, vwCl[1]? = some (yX1_settle.cls, T, 9) := ⟨(q_wt3 (i := 238) (by decide +kernel) rfl), (q_wp1 (i := 10) (n := 9) (by decide +kernel)), _, rfl⟩
theorem mv_X2_isGone : Cond.instanceMethod yX2_isGone ∈ q_tbl ∧ Cond.selects yX2_isGone.cls yX2_isGone yX2_isGone ∈ q_tbl ∧ ∃ T : u_T, vwCl[2]? = some (yX2_isGone.cls, T, 15) := ⟨(q_wt3 (i := 10) (by decide +kernel) rfl), (q_wt3 (i := 11) (by decide +kernel) rfl), _, rfl⟩
theorem mv_X2_row : Cond.instanceMethod yX2_row ∈ q_tbl ∧ Cond.selects yX2_row.cls yX2_row yX2_row ∈ q_tbl ∧ ∃ T : u_T, vwCl[2]? = some (yX2_row.cls, T, 15) := ⟨(q_wt3 (i := 83) (by decide +kernel) rfl), (q_wt3 (i := 84) (by decide +kernel) rfl), _, rfl⟩
theorem mv_X4_keepOrder : Cond.instanceMethod yX4_keepOrder ∈ q_tbl ∧ Cond.selects yX4_keepOrder.cls yX4_keepOrder yX4_keepOrder ∈ q_tbl ∧ ∃ T : u_T, vwCl[4]? = some (yX4_keepOrder.cls, T, 10) := ⟨(q_wt6 (i := 134) (by decide +kernel) rfl), (q_wp2 (i := 15) (n := 10) (by decide +kernel)), _, rfl⟩
theorem mv_X4_putNext : Cond.instanceMethod yX4_putNext ∈ q_tbl ∧ Cond.selects yX4_putNext.cls yX4_putNext yX4_putNext ∈ q_tbl ∧ ∃ T : u_T, vwCl[4]? = some (yX4_putNext.cls, T, 10) := ⟨(q_wt6 (i := 130) (by decide +kernel) rfl), (q_wp2 (i := 14) (n := 10) (by decide +kernel)), _, rfl⟩
theorem mv_X5_emit : Cond.instanceMethod yX5_emit ∈ q_tbl ∧ Cond.selects yX5_emit.cls yX5_emit yX5_emit ∈ q_tbl ∧ ∃ T : u_T, vwCl[5]? = some (yX5_emit.cls, T, 9) := ⟨(q_wt5 (i := 65) (by decide +kernel) rfl), (q_wp2 (i := 7) (n := 9) (by decide +kernel)), _, rfl⟩
theorem mv_X5_goOn : Cond.instanceMethod yX5_goOn ∈ q_tbl ∧ Cond.selects yX5_goOn.cls yX5_goOn yX5_goOn ∈ q_tbl ∧ ∃ T : u_T, vwCl[5]? = some (yX5_goOn.cls, T, 9) := ⟨(q_wt4 (i := 213) (by decide +kernel) rfl), (q_wp2 (i := 0) (n := 9) (by decide +kernel)), _, rfl⟩
theorem mv_X5_isSign : Cond.instanceMethod yX5_isSign ∈ q_tbl ∧ Cond.selects yX5_isSign.cls yX5_isSign yX5_isSign ∈ q_tbl ∧ ∃ T : u_T, vwCl[5]? = some (yX5_isSign.cls, T, 9) := ⟨(q_wt5 (i := 138) (by decide +kernel) rfl), (q_wp2 (i := 9) (n := 9) (by decide +kernel)), _, rfl⟩
theorem mv_X6_goRound : Cond.instanceMethod yX6_goRound ∈ q_tbl ∧ Cond.selects yX6_goRound.cls yX6_goRound yX6_goRound ∈ q_tbl ∧ ∃ T : u_T, vwCl[6]? = some (yX6_goRound.cls, T, 9) := ⟨(q_wt6 (i := 68) (by decide +kernel) rfl), (q_wp2 (i := 13) (n := 9) (by decide +kernel)), _, rfl⟩
theorem mv_X7_counting : Cond.instanceMethod yX7_counting ∈ q_tbl ∧ Cond.selects yX7_counting.cls yX7_counting yX7_counting ∈ q_tbl ∧ ∃ T : u_T, vwCl[7]? = some (yX7_counting.cls, T, 6) := ⟨(q_wt3 (i := 141) (by decide +kernel) rfl), (q_wt3 (i := 142) (by decide +kernel) rfl), _, rfl⟩
theorem mv_X7_given : Cond.instanceMethod yX7_given ∈ q_tbl ∧ Cond.selects yX7_given.cls yX7_given yX7_given ∈ q_tbl ∧ ∃ T : u_T, vwCl[7]? = some (yX7_given.cls, T, 6) := ⟨(q_wt3 (i := 137) (by decide +kernel) rfl), (q_wt3 (i := 138) (by decide +kernel) rfl), _, rfl⟩
theorem mv_X7_value : Cond.instanceMethod yX7_value ∈ q_tbl ∧ Cond.selects yX7_value.cls yX7_value yX7_value ∈ q_tbl ∧ ∃ T : u_T, vwCl[7]? = some (yX7_value.cls, T, 6) := ⟨(q_wt3 (i := 148) (by decide +kernel) rfl), (q_wt3 (i := 149) (by decide +kernel) rfl), _, rfl⟩
theorem mv_X8_leastPrice : Cond.instanceMethod yX8_leastPrice ∈ q_tbl ∧ Cond.selects yX8_leastPrice.cls yX8_leastPrice yX8_leastPrice ∈ q_tbl ∧ ∃ T : u_T, vwCl[8]? = some (yX8_leastPrice.cls, T, 5) := ⟨(q_wt4 (i := 100) (by decide +kernel) rfl), (q_wt4 (i := 101) (by decide +kernel) rfl), _, rfl⟩
theorem mm_X1_59 : Cond.methodLink RX1 59 Lib.Math.min.name ∈ q_tbl ∧ Cond.static Lib.Math.min.name ∈ q_tbl ∧ Cond.initialized "java/lang/Math" ∈ q_tbl ∧ Cond.code Lib.Math.min.name Lib.Math.min.code 2 (some .int) ∈ q_tbl := ⟨(q_wt3 (i := 235) (by decide +kernel) rfl), (q_wt3 (i := 164) (by decide +kernel) rfl), (q_wt1 (i := 14) (by decide +kernel) rfl), (q_wt3 (i := 165) (by decide +kernel) rfl)⟩
theorem mm_X2_82 : Cond.methodLink RX2 82 Lib.Math.min.name ∈ q_tbl ∧ Cond.static Lib.Math.min.name ∈ q_tbl ∧ Cond.initialized "java/lang/Math" ∈ q_tbl ∧ Cond.code Lib.Math.min.name Lib.Math.min.code 2 (some .int) ∈ q_tbl := ⟨(q_wt4 (i := 10) (by decide +kernel) rfl), (q_wt3 (i := 164) (by decide +kernel) rfl), (q_wt1 (i := 14) (by decide +kernel) rfl), (q_wt3 (i := 165) (by decide +kernel) rfl)⟩
theorem mm_X7_56 : Cond.methodLink RX7 56 Lib.Math.min.name ∈ q_tbl ∧ Cond.static Lib.Math.min.name ∈ q_tbl ∧ Cond.initialized "java/lang/Math" ∈ q_tbl ∧ Cond.code Lib.Math.min.name Lib.Math.min.code 2 (some .int) ∈ q_tbl := ⟨(q_wt3 (i := 163) (by decide +kernel) rfl), (q_wt3 (i := 164) (by decide +kernel) rfl), (q_wt1 (i := 14) (by decide +kernel) rfl), (q_wt3 (i := 165) (by decide +kernel) rfl)⟩
theorem mm_X7_61 : Cond.methodLink RX7 61 Lib.Math.max.name ∈ q_tbl ∧ Cond.static Lib.Math.max.name ∈ q_tbl ∧ Cond.initialized "java/lang/Math" ∈ q_tbl ∧ Cond.code Lib.Math.max.name Lib.Math.max.code 2 (some .int) ∈ q_tbl := ⟨(q_wt3 (i := 166) (by decide +kernel) rfl), (q_wt3 (i := 167) (by decide +kernel) rfl), (q_wt1 (i := 14) (by decide +kernel) rfl), (q_wt3 (i := 168) (by decide +kernel) rfl)⟩
theorem mm_X8_35 : Cond.methodLink RX8 35 Lib.Math.min.name ∈ q_tbl ∧ Cond.static Lib.Math.min.name ∈ q_tbl ∧ Cond.initialized "java/lang/Math" ∈ q_tbl ∧ Cond.code Lib.Math.min.name Lib.Math.min.code 2 (some .int) ∈ q_tbl := ⟨(q_wt3 (i := 189) (by decide +kernel) rfl), (q_wt3 (i := 164) (by decide +kernel) rfl), (q_wt1 (i := 14) (by decide +kernel) rfl), (q_wt3 (i := 165) (by decide +kernel) rfl)⟩
theorem mm_X8_45 : Cond.methodLink RX8 45 Lib.Math.max.name ∈ q_tbl ∧ Cond.static Lib.Math.max.name ∈ q_tbl ∧ Cond.initialized "java/lang/Math" ∈ q_tbl ∧ Cond.code Lib.Math.max.name Lib.Math.max.code 2 (some .int) ∈ q_tbl := ⟨(q_wt4 (i := 107) (by decide +kernel) rfl), (q_wt3 (i := 167) (by decide +kernel) rfl), (q_wt1 (i := 14) (by decide +kernel) rfl), (q_wt3 (i := 168) (by decide +kernel) rfl)⟩
theorem cp_X1_49 : Cond.methodLink RX1 49 arraycopyName ∈ q_tbl ∧ Cond.native arraycopyName ∈ q_tbl ∧ Cond.static arraycopyName ∈ q_tbl ∧ Cond.initialized "java/lang/System" ∈ q_tbl := ⟨(q_wt4 (i := 161) (by decide +kernel) rfl), (q_wt4 (i := 144) (by decide +kernel) rfl), (q_wt4 (i := 143) (by decide +kernel) rfl), (q_wt1 (i := 15) (by decide +kernel) rfl)⟩
theorem cp_X10_13 : Cond.methodLink RX10 13 arraycopyName ∈ q_tbl ∧ Cond.native arraycopyName ∈ q_tbl ∧ Cond.static arraycopyName ∈ q_tbl ∧ Cond.initialized "java/lang/System" ∈ q_tbl := ⟨(q_wt4 (i := 171) (by decide +kernel) rfl), (q_wt4 (i := 144) (by decide +kernel) rfl), (q_wt4 (i := 143) (by decide +kernel) rfl), (q_wt1 (i := 15) (by decide +kernel) rfl)⟩
theorem cp_X2_71 : Cond.methodLink RX2 71 arraycopyName ∈ q_tbl ∧ Cond.native arraycopyName ∈ q_tbl ∧ Cond.static arraycopyName ∈ q_tbl ∧ Cond.initialized "java/lang/System" ∈ q_tbl := ⟨(q_wt4 (i := 155) (by decide +kernel) rfl), (q_wt4 (i := 144) (by decide +kernel) rfl), (q_wt4 (i := 143) (by decide +kernel) rfl), (q_wt1 (i := 15) (by decide +kernel) rfl)⟩
theorem cp_X3_25 : Cond.methodLink RX3 25 arraycopyName ∈ q_tbl ∧ Cond.native arraycopyName ∈ q_tbl ∧ Cond.static arraycopyName ∈ q_tbl ∧ Cond.initialized "java/lang/System" ∈ q_tbl := ⟨(q_wt4 (i := 142) (by decide +kernel) rfl), (q_wt4 (i := 144) (by decide +kernel) rfl), (q_wt4 (i := 143) (by decide +kernel) rfl), (q_wt1 (i := 15) (by decide +kernel) rfl)⟩
theorem cp_X4_38 : Cond.methodLink RX4 38 arraycopyName ∈ q_tbl ∧ Cond.native arraycopyName ∈ q_tbl ∧ Cond.static arraycopyName ∈ q_tbl ∧ Cond.initialized "java/lang/System" ∈ q_tbl := ⟨(q_wt4 (i := 181) (by decide +kernel) rfl), (q_wt4 (i := 144) (by decide +kernel) rfl), (q_wt4 (i := 143) (by decide +kernel) rfl), (q_wt1 (i := 15) (by decide +kernel) rfl)⟩
theorem cp_X6_38 : Cond.methodLink RX6 38 arraycopyName ∈ q_tbl ∧ Cond.native arraycopyName ∈ q_tbl ∧ Cond.static arraycopyName ∈ q_tbl ∧ Cond.initialized "java/lang/System" ∈ q_tbl := ⟨(q_wt4 (i := 176) (by decide +kernel) rfl), (q_wt4 (i := 144) (by decide +kernel) rfl), (q_wt4 (i := 143) (by decide +kernel) rfl), (q_wt1 (i := 15) (by decide +kernel) rfl)⟩
theorem cp_X8_29 : Cond.methodLink RX8 29 arraycopyName ∈ q_tbl ∧ Cond.native arraycopyName ∈ q_tbl ∧ Cond.static arraycopyName ∈ q_tbl ∧ Cond.initialized "java/lang/System" ∈ q_tbl := ⟨(q_wt4 (i := 149) (by decide +kernel) rfl), (q_wt4 (i := 144) (by decide +kernel) rfl), (q_wt4 (i := 143) (by decide +kernel) rfl), (q_wt1 (i := 15) (by decide +kernel) rfl)⟩
