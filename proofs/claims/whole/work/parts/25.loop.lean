/-! LEVEL B, the loop: with an invariant V that every pair of methods keeps, the law answers 1 -/
theorem u_s1 {α β : Type} (x : α) (f : α → Option β) : q_b1 (some x) f = f x := rfl
theorem u_s2 {α β γ : Type} (x : α) (y : β) (f : α → β → Option γ) : q_b2 (some (x, y)) f = f x y := rfl
theorem u_s3 {α β γ δ : Type} (x : α) (y : β) (z : γ) (f : α → β → γ → Option δ) : q_b3 (some (x, y, z)) f = f x y z := rfl
theorem u_ite {α : Type} {c : Prop} [Decidable c] {x y : α} {P : α → Prop} (h1 : c → P x) (h2 : ¬ c → P y) : P (if c then x else y) := by
  by_cases h : c
  · rw [if_pos h]; exact h1 h
  · rw [if_neg h]; exact h2 h
def Pr_pit (V : qI → qX → Prop) : Prop := ∀ (y1 y2 y3 : Int32) (X : qX) (I : qI), V I X → ∃ (v : Int32) (I8 : qI) (I17 : qI), f_X11_pit 64 y1 y2 y3 X I = some (v, I8) ∧ f_X12_pit 269 y1 y2 y3 I8 = some (v, I17) ∧ V I17 X
theorem br_pit {V : qI → qX → Prop} (hp : Pr_pit V) {L k : Nat} {xs : Nat → Int32} {k18 : Int32 → qX → qI → Option (Int32 × qI × qX)} {X : qX} {I : qI} (hk : k + 6 ≤ L) (hL : L < 2 ^ 31) (hV : V I X) : ∃ (I' : qI) (X' : qX), V I' X' ∧ b_L_law_268 L xs k18 (nI k) X I = k18 (nI (k + 6)) X' I' := by
  obtain ⟨v, I8, I17, e1, e2, hV⟩ := hp (xs (k + 1)) (xs (k + 2)) (xs (k + 3)) X I hV
  refine ⟨I17, X, hV, ?_⟩
  unfold b_L_law_268
  simp only [nI_add, u_rdO (f := xs) (n := L) (k := k + 1) (by omega) hL, u_rdO (f := xs) (n := L) (k := k + 2) (by omega) hL, u_rdO (f := xs) (n := L) (k := k + 3) (by omega) hL, u_s1, u_s2, u_s3, e1, e2, if_true, eq_self_iff_true]
def Pr_dug (V : qI → qX → Prop) : Prop := ∀ (y1 y2 : Int32) (X : qX) (I : qI), V I X → ∃ (v : Int32), f_X11_dug 64 y1 y2 X I = some v ∧ f_X12_dug 269 y1 y2 I = some v ∧ V I X
theorem br_dug {V : qI → qX → Prop} (hp : Pr_dug V) {L k : Nat} {xs : Nat → Int32} {k18 : Int32 → qX → qI → Option (Int32 × qI × qX)} {X : qX} {I : qI} (hk : k + 6 ≤ L) (hL : L < 2 ^ 31) (hV : V I X) : ∃ (I' : qI) (X' : qX), V I' X' ∧ b_L_law_311 L xs k18 (nI k) X I = k18 (nI (k + 6)) X' I' := by
  obtain ⟨v, e1, e2, hV⟩ := hp (xs (k + 1)) (xs (k + 2)) X I hV
  refine ⟨I, X, hV, ?_⟩
  unfold b_L_law_311
  simp only [nI_add, u_rdO (f := xs) (n := L) (k := k + 1) (by omega) hL, u_rdO (f := xs) (n := L) (k := k + 2) (by omega) hL, u_s1, u_s2, u_s3, e1, e2, if_true, eq_self_iff_true]
def Pr_shop (V : qI → qX → Prop) : Prop := ∀ (y1 y2 y3 y4 : Int32) (X : qX) (I : qI), V I X → ∃ (v : Int32) (I10 : qI) (I21 : qI), f_X11_shop 64 y1 y2 y3 y4 I = some (v, I10) ∧ f_X12_shop 269 y1 y2 y3 y4 I10 = some (v, I21) ∧ V I21 X
theorem br_shop {V : qI → qX → Prop} (hp : Pr_shop V) {L k : Nat} {xs : Nat → Int32} {k18 : Int32 → qX → qI → Option (Int32 × qI × qX)} {X : qX} {I : qI} (hk : k + 6 ≤ L) (hL : L < 2 ^ 31) (hV : V I X) : ∃ (I' : qI) (X' : qX), V I' X' ∧ b_L_law_344 L xs k18 (nI k) X I = k18 (nI (k + 6)) X' I' := by
  obtain ⟨v, I10, I21, e1, e2, hV⟩ := hp (xs (k + 1)) (xs (k + 2)) (xs (k + 3)) (xs (k + 4)) X I hV
  refine ⟨I21, X, hV, ?_⟩
  unfold b_L_law_344
  simp only [nI_add, u_rdO (f := xs) (n := L) (k := k + 1) (by omega) hL, u_rdO (f := xs) (n := L) (k := k + 2) (by omega) hL, u_rdO (f := xs) (n := L) (k := k + 3) (by omega) hL, u_rdO (f := xs) (n := L) (k := k + 4) (by omega) hL, u_s1, u_s2, u_s3, e1, e2, if_true, eq_self_iff_true]
def Pr_shelf (V : qI → qX → Prop) : Prop := ∀ (y1 y2 y3 : Int32) (X : qX) (I : qI), V I X → ∃ (v : Int32) (I8 : qI) (I17 : qI), f_X11_shelf 64 y1 y2 y3 X I = some (v, I8) ∧ f_X12_shelf 269 y1 y2 y3 I8 = some (v, I17) ∧ V I17 X
theorem br_shelf {V : qI → qX → Prop} (hp : Pr_shelf V) {L k : Nat} {xs : Nat → Int32} {k18 : Int32 → qX → qI → Option (Int32 × qI × qX)} {X : qX} {I : qI} (hk : k + 6 ≤ L) (hL : L < 2 ^ 31) (hV : V I X) : ∃ (I' : qI) (X' : qX), V I' X' ∧ b_L_law_397 L xs k18 (nI k) X I = k18 (nI (k + 6)) X' I' := by
  obtain ⟨v, I8, I17, e1, e2, hV⟩ := hp (xs (k + 1)) (xs (k + 2)) (xs (k + 3)) X I hV
  refine ⟨I17, X, hV, ?_⟩
  unfold b_L_law_397
  simp only [nI_add, u_rdO (f := xs) (n := L) (k := k + 1) (by omega) hL, u_rdO (f := xs) (n := L) (k := k + 2) (by omega) hL, u_rdO (f := xs) (n := L) (k := k + 3) (by omega) hL, u_s1, u_s2, u_s3, e1, e2, if_true, eq_self_iff_true]
def Pr_sells (V : qI → qX → Prop) : Prop := ∀ (y1 y2 : Int32) (X : qX) (I : qI), V I X → ∃ (v : Int32), f_X11_sells 64 y1 y2 X I = some v ∧ f_X12_sells 269 y1 y2 I = some v ∧ V I X
theorem br_sells {V : qI → qX → Prop} (hp : Pr_sells V) {L k : Nat} {xs : Nat → Int32} {k18 : Int32 → qX → qI → Option (Int32 × qI × qX)} {X : qX} {I : qI} (hk : k + 6 ≤ L) (hL : L < 2 ^ 31) (hV : V I X) : ∃ (I' : qI) (X' : qX), V I' X' ∧ b_L_law_440 L xs k18 (nI k) X I = k18 (nI (k + 6)) X' I' := by
  obtain ⟨v, e1, e2, hV⟩ := hp (xs (k + 1)) (xs (k + 2)) X I hV
  refine ⟨I, X, hV, ?_⟩
  unfold b_L_law_440
  simp only [nI_add, u_rdO (f := xs) (n := L) (k := k + 1) (by omega) hL, u_rdO (f := xs) (n := L) (k := k + 2) (by omega) hL, u_s1, u_s2, u_s3, e1, e2, if_true, eq_self_iff_true]
def Pr_man (V : qI → qX → Prop) : Prop := ∀ (y1 y2 y3 : Int32) (X : qX) (I : qI), V I X → ∃ (v : Int32) (I8 : qI) (I17 : qI), f_X11_man 64 y1 y2 y3 I = some (v, I8) ∧ f_X12_man 269 y1 y2 y3 I8 = some (v, I17) ∧ V I17 X
theorem br_man {V : qI → qX → Prop} (hp : Pr_man V) {L k : Nat} {xs : Nat → Int32} {k18 : Int32 → qX → qI → Option (Int32 × qI × qX)} {X : qX} {I : qI} (hk : k + 6 ≤ L) (hL : L < 2 ^ 31) (hV : V I X) : ∃ (I' : qI) (X' : qX), V I' X' ∧ b_L_law_473 L xs k18 (nI k) X I = k18 (nI (k + 6)) X' I' := by
  obtain ⟨v, I8, I17, e1, e2, hV⟩ := hp (xs (k + 1)) (xs (k + 2)) (xs (k + 3)) X I hV
  refine ⟨I17, X, hV, ?_⟩
  unfold b_L_law_473
  simp only [nI_add, u_rdO (f := xs) (n := L) (k := k + 1) (by omega) hL, u_rdO (f := xs) (n := L) (k := k + 2) (by omega) hL, u_rdO (f := xs) (n := L) (k := k + 3) (by omega) hL, u_s1, u_s2, u_s3, e1, e2, if_true, eq_self_iff_true]
def Pr_is (V : qI → qX → Prop) : Prop := ∀ (y1 y2 : Int32) (X : qX) (I : qI), V I X → ∃ (v : Int32), f_X11_is 64 y1 y2 X I = some v ∧ f_X12_is 269 y1 y2 I = some v ∧ V I X
theorem br_is {V : qI → qX → Prop} (hp : Pr_is V) {L k : Nat} {xs : Nat → Int32} {k18 : Int32 → qX → qI → Option (Int32 × qI × qX)} {X : qX} {I : qI} (hk : k + 6 ≤ L) (hL : L < 2 ^ 31) (hV : V I X) : ∃ (I' : qI) (X' : qX), V I' X' ∧ b_L_law_516 L xs k18 (nI k) X I = k18 (nI (k + 6)) X' I' := by
  obtain ⟨v, e1, e2, hV⟩ := hp (xs (k + 1)) (xs (k + 2)) X I hV
  refine ⟨I, X, hV, ?_⟩
  unfold b_L_law_516
  simp only [nI_add, u_rdO (f := xs) (n := L) (k := k + 1) (by omega) hL, u_rdO (f := xs) (n := L) (k := k + 2) (by omega) hL, u_s1, u_s2, u_s3, e1, e2, if_true, eq_self_iff_true]
def Pr_be (V : qI → qX → Prop) : Prop := ∀ (y1 y2 y3 : Int32) (X : qX) (I : qI), V I X → ∃ (v : Int32) (I8 : qI) (I17 : qI), f_X11_be 64 y1 y2 y3 X I = some (v, I8) ∧ f_X12_be 269 y1 y2 y3 I8 = some (v, I17) ∧ V I17 X
theorem br_be {V : qI → qX → Prop} (hp : Pr_be V) {L k : Nat} {xs : Nat → Int32} {k18 : Int32 → qX → qI → Option (Int32 × qI × qX)} {X : qX} {I : qI} (hk : k + 6 ≤ L) (hL : L < 2 ^ 31) (hV : V I X) : ∃ (I' : qI) (X' : qX), V I' X' ∧ b_L_law_549 L xs k18 (nI k) X I = k18 (nI (k + 6)) X' I' := by
  obtain ⟨v, I8, I17, e1, e2, hV⟩ := hp (xs (k + 1)) (xs (k + 2)) (xs (k + 3)) X I hV
  refine ⟨I17, X, hV, ?_⟩
  unfold b_L_law_549
  simp only [nI_add, u_rdO (f := xs) (n := L) (k := k + 1) (by omega) hL, u_rdO (f := xs) (n := L) (k := k + 2) (by omega) hL, u_rdO (f := xs) (n := L) (k := k + 3) (by omega) hL, u_s1, u_s2, u_s3, e1, e2, if_true, eq_self_iff_true]
def Pr_known (V : qI → qX → Prop) : Prop := ∀ (y1 y2 y3 : Int32) (X : qX) (I : qI), V I X → ∃ (v : Int32), f_X11_known 64 y1 y2 y3 I = some v ∧ f_X12_known 269 y1 y2 y3 I = some v ∧ V I X
theorem br_known {V : qI → qX → Prop} (hp : Pr_known V) {L k : Nat} {xs : Nat → Int32} {k18 : Int32 → qX → qI → Option (Int32 × qI × qX)} {X : qX} {I : qI} (hk : k + 6 ≤ L) (hL : L < 2 ^ 31) (hV : V I X) : ∃ (I' : qI) (X' : qX), V I' X' ∧ b_L_law_592 L xs k18 (nI k) X I = k18 (nI (k + 6)) X' I' := by
  obtain ⟨v, e1, e2, hV⟩ := hp (xs (k + 1)) (xs (k + 2)) (xs (k + 3)) X I hV
  refine ⟨I, X, hV, ?_⟩
  unfold b_L_law_592
  simp only [nI_add, u_rdO (f := xs) (n := L) (k := k + 1) (by omega) hL, u_rdO (f := xs) (n := L) (k := k + 2) (by omega) hL, u_rdO (f := xs) (n := L) (k := k + 3) (by omega) hL, u_s1, u_s2, u_s3, e1, e2, if_true, eq_self_iff_true]
def Pr_hear (V : qI → qX → Prop) : Prop := ∀ (y1 y2 : Int32) (X : qX) (I : qI), V I X → ∃ (v : Int32) (I6 : qI) (I13 : qI), f_X11_hear 64 y1 y2 I = some (v, I6) ∧ f_X12_hear 269 y1 y2 I6 = some (v, I13) ∧ V I13 X
theorem br_hear {V : qI → qX → Prop} (hp : Pr_hear V) {L k : Nat} {xs : Nat → Int32} {k18 : Int32 → qX → qI → Option (Int32 × qI × qX)} {X : qX} {I : qI} (hk : k + 6 ≤ L) (hL : L < 2 ^ 31) (hV : V I X) : ∃ (I' : qI) (X' : qX), V I' X' ∧ b_L_law_635 L xs k18 (nI k) X I = k18 (nI (k + 6)) X' I' := by
  obtain ⟨v, I6, I13, e1, e2, hV⟩ := hp (xs (k + 1)) (xs (k + 2)) X I hV
  refine ⟨I13, X, hV, ?_⟩
  unfold b_L_law_635
  simp only [nI_add, u_rdO (f := xs) (n := L) (k := k + 1) (by omega) hL, u_rdO (f := xs) (n := L) (k := k + 2) (by omega) hL, u_s1, u_s2, u_s3, e1, e2, if_true, eq_self_iff_true]
def Pr_rule (V : qI → qX → Prop) : Prop := ∀ (y1 y2 : Int32) (X : qX) (I : qI), V I X → ∃ (v : Int32) (I6 : qI) (I13 : qI), f_X11_rule 64 y1 y2 X I = some (v, I6) ∧ f_X12_rule 269 y1 y2 I6 = some (v, I13) ∧ V I13 X
theorem br_rule {V : qI → qX → Prop} (hp : Pr_rule V) {L k : Nat} {xs : Nat → Int32} {k18 : Int32 → qX → qI → Option (Int32 × qI × qX)} {X : qX} {I : qI} (hk : k + 6 ≤ L) (hL : L < 2 ^ 31) (hV : V I X) : ∃ (I' : qI) (X' : qX), V I' X' ∧ b_L_law_668 L xs k18 (nI k) X I = k18 (nI (k + 6)) X' I' := by
  obtain ⟨v, I6, I13, e1, e2, hV⟩ := hp (xs (k + 1)) (xs (k + 2)) X I hV
  refine ⟨I13, X, hV, ?_⟩
  unfold b_L_law_668
  simp only [nI_add, u_rdO (f := xs) (n := L) (k := k + 1) (by omega) hL, u_rdO (f := xs) (n := L) (k := k + 2) (by omega) hL, u_s1, u_s2, u_s3, e1, e2, if_true, eq_self_iff_true]
def Pr_run (V : qI → qX → Prop) : Prop := ∀ (y1 : Int32) (X : qX) (I : qI), V I X → ∃ (v : Int32) (I4 : qI) (I9 : qI), f_X11_run 64 y1 X I = some (v, I4) ∧ f_X12_run 269 y1 I4 = some (v, I9) ∧ V I9 X
theorem br_run {V : qI → qX → Prop} (hp : Pr_run V) {L k : Nat} {xs : Nat → Int32} {k18 : Int32 → qX → qI → Option (Int32 × qI × qX)} {X : qX} {I : qI} (hk : k + 6 ≤ L) (hL : L < 2 ^ 31) (hV : V I X) : ∃ (I' : qI) (X' : qX), V I' X' ∧ b_L_law_701 L xs k18 (nI k) X I = k18 (nI (k + 6)) X' I' := by
  obtain ⟨v, I4, I9, e1, e2, hV⟩ := hp (xs (k + 1)) X I hV
  refine ⟨I9, X, hV, ?_⟩
  unfold b_L_law_701
  simp only [nI_add, u_rdO (f := xs) (n := L) (k := k + 1) (by omega) hL, u_s1, u_s2, u_s3, e1, e2, if_true, eq_self_iff_true]
def Pr_draw (V : qI → qX → Prop) : Prop := ∀ (y1 y2 y3 : Int32) (X : qX) (I : qI), V I X → ∃ (v : Int32) (I8 : qI) (I17 : qI), f_X11_draw 64 y1 y2 y3 I = some (v, I8) ∧ f_X12_draw 269 y1 y2 y3 I8 = some (v, I17) ∧ V I17 X
theorem br_draw {V : qI → qX → Prop} (hp : Pr_draw V) {L k : Nat} {xs : Nat → Int32} {k18 : Int32 → qX → qI → Option (Int32 × qI × qX)} {X : qX} {I : qI} (hk : k + 6 ≤ L) (hL : L < 2 ^ 31) (hV : V I X) : ∃ (I' : qI) (X' : qX), V I' X' ∧ b_L_law_724 L xs k18 (nI k) X I = k18 (nI (k + 6)) X' I' := by
  obtain ⟨v, I8, I17, e1, e2, hV⟩ := hp (xs (k + 1)) (xs (k + 2)) (xs (k + 3)) X I hV
  refine ⟨I17, X, hV, ?_⟩
  unfold b_L_law_724
  simp only [nI_add, u_rdO (f := xs) (n := L) (k := k + 1) (by omega) hL, u_rdO (f := xs) (n := L) (k := k + 2) (by omega) hL, u_rdO (f := xs) (n := L) (k := k + 3) (by omega) hL, u_s1, u_s2, u_s3, e1, e2, if_true, eq_self_iff_true]
def Pr_strike (V : qI → qX → Prop) : Prop := ∀ (y1 y2 : Int32) (X : qX) (I : qI), V I X → ∃ (v : Int32) (I6 : qI) (I13 : qI), f_X11_strike 64 y1 y2 I = some (v, I6) ∧ f_X12_strike 269 y1 y2 I6 = some (v, I13) ∧ V I13 X
theorem br_strike {V : qI → qX → Prop} (hp : Pr_strike V) {L k : Nat} {xs : Nat → Int32} {k18 : Int32 → qX → qI → Option (Int32 × qI × qX)} {X : qX} {I : qI} (hk : k + 6 ≤ L) (hL : L < 2 ^ 31) (hV : V I X) : ∃ (I' : qI) (X' : qX), V I' X' ∧ b_L_law_767 L xs k18 (nI k) X I = k18 (nI (k + 6)) X' I' := by
  obtain ⟨v, I6, I13, e1, e2, hV⟩ := hp (xs (k + 1)) (xs (k + 2)) X I hV
  refine ⟨I13, X, hV, ?_⟩
  unfold b_L_law_767
  simp only [nI_add, u_rdO (f := xs) (n := L) (k := k + 1) (by omega) hL, u_rdO (f := xs) (n := L) (k := k + 2) (by omega) hL, u_s1, u_s2, u_s3, e1, e2, if_true, eq_self_iff_true]
def Pr_fine (V : qI → qX → Prop) : Prop := ∀ (y1 y2 y3 : Int32) (X : qX) (I : qI), V I X → ∃ (v : Int32) (I8 : qI) (I17 : qI), f_X11_fine 64 y1 y2 y3 I = some (v, I8) ∧ f_X12_fine 269 y1 y2 y3 I8 = some (v, I17) ∧ V I17 X
theorem br_fine {V : qI → qX → Prop} (hp : Pr_fine V) {L k : Nat} {xs : Nat → Int32} {k18 : Int32 → qX → qI → Option (Int32 × qI × qX)} {X : qX} {I : qI} (hk : k + 6 ≤ L) (hL : L < 2 ^ 31) (hV : V I X) : ∃ (I' : qI) (X' : qX), V I' X' ∧ b_L_law_800 L xs k18 (nI k) X I = k18 (nI (k + 6)) X' I' := by
  obtain ⟨v, I8, I17, e1, e2, hV⟩ := hp (xs (k + 1)) (xs (k + 2)) (xs (k + 3)) X I hV
  refine ⟨I17, X, hV, ?_⟩
  unfold b_L_law_800
  simp only [nI_add, u_rdO (f := xs) (n := L) (k := k + 1) (by omega) hL, u_rdO (f := xs) (n := L) (k := k + 2) (by omega) hL, u_rdO (f := xs) (n := L) (k := k + 3) (by omega) hL, u_s1, u_s2, u_s3, e1, e2, if_true, eq_self_iff_true]
def Pr_stop (V : qI → qX → Prop) : Prop := ∀ (y1 y2 y3 : Int32) (X : qX) (I : qI), V I X → ∃ (v : Int32) (I8 : qI) (I17 : qI), f_X11_stop 64 y1 y2 y3 I = some (v, I8) ∧ f_X12_stop 269 y1 y2 y3 I8 = some (v, I17) ∧ V I17 X
theorem br_stop {V : qI → qX → Prop} (hp : Pr_stop V) {L k : Nat} {xs : Nat → Int32} {k18 : Int32 → qX → qI → Option (Int32 × qI × qX)} {X : qX} {I : qI} (hk : k + 6 ≤ L) (hL : L < 2 ^ 31) (hV : V I X) : ∃ (I' : qI) (X' : qX), V I' X' ∧ b_L_law_843 L xs k18 (nI k) X I = k18 (nI (k + 6)) X' I' := by
  obtain ⟨v, I8, I17, e1, e2, hV⟩ := hp (xs (k + 1)) (xs (k + 2)) (xs (k + 3)) X I hV
  refine ⟨I17, X, hV, ?_⟩
  unfold b_L_law_843
  simp only [nI_add, u_rdO (f := xs) (n := L) (k := k + 1) (by omega) hL, u_rdO (f := xs) (n := L) (k := k + 2) (by omega) hL, u_rdO (f := xs) (n := L) (k := k + 3) (by omega) hL, u_s1, u_s2, u_s3, e1, e2, if_true, eq_self_iff_true]
def Pr_let (V : qI → qX → Prop) : Prop := ∀ (y1 : Int32) (X : qX) (I : qI), V I X → ∃ (v : Int32) (I4 : qI) (I9 : qI), f_X11_let 64 y1 I = some (v, I4) ∧ f_X12_let 269 y1 I4 = some (v, I9) ∧ V I9 X
theorem br_let {V : qI → qX → Prop} (hp : Pr_let V) {L k : Nat} {xs : Nat → Int32} {k18 : Int32 → qX → qI → Option (Int32 × qI × qX)} {X : qX} {I : qI} (hk : k + 6 ≤ L) (hL : L < 2 ^ 31) (hV : V I X) : ∃ (I' : qI) (X' : qX), V I' X' ∧ b_L_law_886 L xs k18 (nI k) X I = k18 (nI (k + 6)) X' I' := by
  obtain ⟨v, I4, I9, e1, e2, hV⟩ := hp (xs (k + 1)) X I hV
  refine ⟨I9, X, hV, ?_⟩
  unfold b_L_law_886
  simp only [nI_add, u_rdO (f := xs) (n := L) (k := k + 1) (by omega) hL, u_s1, u_s2, u_s3, e1, e2, if_true, eq_self_iff_true]
def Pr_sell (V : qI → qX → Prop) : Prop := ∀ (y1 y2 y3 : Int32) (X : qX) (I : qI), V I X → ∃ (v : Int32) (I8 : qI) (I17 : qI), f_X11_sell 64 y1 y2 y3 I = some (v, I8) ∧ f_X12_sell 269 y1 y2 y3 I8 = some (v, I17) ∧ V I17 X
theorem br_sell {V : qI → qX → Prop} (hp : Pr_sell V) {L k : Nat} {xs : Nat → Int32} {k18 : Int32 → qX → qI → Option (Int32 × qI × qX)} {X : qX} {I : qI} (hk : k + 6 ≤ L) (hL : L < 2 ^ 31) (hV : V I X) : ∃ (I' : qI) (X' : qX), V I' X' ∧ b_L_law_909 L xs k18 (nI k) X I = k18 (nI (k + 6)) X' I' := by
  obtain ⟨v, I8, I17, e1, e2, hV⟩ := hp (xs (k + 1)) (xs (k + 2)) (xs (k + 3)) X I hV
  refine ⟨I17, X, hV, ?_⟩
  unfold b_L_law_909
  simp only [nI_add, u_rdO (f := xs) (n := L) (k := k + 1) (by omega) hL, u_rdO (f := xs) (n := L) (k := k + 2) (by omega) hL, u_rdO (f := xs) (n := L) (k := k + 3) (by omega) hL, u_s1, u_s2, u_s3, e1, e2, if_true, eq_self_iff_true]
def Pr_melt (V : qI → qX → Prop) : Prop := ∀ (y1 : Int32) (X : qX) (I : qI), V I X → ∃ (v : Int32) (I4 : qI) (I9 : qI), f_X11_melt 64 y1 I = some (v, I4) ∧ f_X12_melt 269 y1 I4 = some (v, I9) ∧ V I9 X
theorem br_melt {V : qI → qX → Prop} (hp : Pr_melt V) {L k : Nat} {xs : Nat → Int32} {k18 : Int32 → qX → qI → Option (Int32 × qI × qX)} {X : qX} {I : qI} (hk : k + 6 ≤ L) (hL : L < 2 ^ 31) (hV : V I X) : ∃ (I' : qI) (X' : qX), V I' X' ∧ b_L_law_952 L xs k18 (nI k) X I = k18 (nI (k + 6)) X' I' := by
  obtain ⟨v, I4, I9, e1, e2, hV⟩ := hp (xs (k + 1)) X I hV
  refine ⟨I9, X, hV, ?_⟩
  unfold b_L_law_952
  simp only [nI_add, u_rdO (f := xs) (n := L) (k := k + 1) (by omega) hL, u_s1, u_s2, u_s3, e1, e2, if_true, eq_self_iff_true]
def Pr_told (V : qI → qX → Prop) : Prop := ∀ (y1 y2 : Int32) (X : qX) (I : qI), V I X → ∃ (v : Int32), f_X11_told 64 y1 y2 X I = some v ∧ f_X12_told 269 y1 y2 I = some v ∧ V I X
theorem br_told {V : qI → qX → Prop} (hp : Pr_told V) {L k : Nat} {xs : Nat → Int32} {k18 : Int32 → qX → qI → Option (Int32 × qI × qX)} {X : qX} {I : qI} (hk : k + 6 ≤ L) (hL : L < 2 ^ 31) (hV : V I X) : ∃ (I' : qI) (X' : qX), V I' X' ∧ b_L_law_975 L xs k18 (nI k) X I = k18 (nI (k + 6)) X' I' := by
  obtain ⟨v, e1, e2, hV⟩ := hp (xs (k + 1)) (xs (k + 2)) X I hV
  refine ⟨I, X, hV, ?_⟩
  unfold b_L_law_975
  simp only [nI_add, u_rdO (f := xs) (n := L) (k := k + 1) (by omega) hL, u_rdO (f := xs) (n := L) (k := k + 2) (by omega) hL, u_s1, u_s2, u_s3, e1, e2, if_true, eq_self_iff_true]
def Pr_as (V : qI → qX → Prop) : Prop := ∀ (y1 y2 : Int32) (X : qX) (I : qI), V I X → ∃ (v : Int32), f_X11_as 64 y1 y2 I = some v ∧ f_X12_as 269 y1 y2 I = some v ∧ V I X
theorem br_as {V : qI → qX → Prop} (hp : Pr_as V) {L k : Nat} {xs : Nat → Int32} {k18 : Int32 → qX → qI → Option (Int32 × qI × qX)} {X : qX} {I : qI} (hk : k + 6 ≤ L) (hL : L < 2 ^ 31) (hV : V I X) : ∃ (I' : qI) (X' : qX), V I' X' ∧ b_L_law_1008 L xs k18 (nI k) X I = k18 (nI (k + 6)) X' I' := by
  obtain ⟨v, e1, e2, hV⟩ := hp (xs (k + 1)) (xs (k + 2)) X I hV
  refine ⟨I, X, hV, ?_⟩
  unfold b_L_law_1008
  simp only [nI_add, u_rdO (f := xs) (n := L) (k := k + 1) (by omega) hL, u_rdO (f := xs) (n := L) (k := k + 2) (by omega) hL, u_s1, u_s2, u_s3, e1, e2, if_true, eq_self_iff_true]
def Pr_wrong (V : qI → qX → Prop) : Prop := ∀ (y1 : Int32) (X : qX) (I : qI), V I X → ∃ (v : Int32) (I4 : qI) (I9 : qI), f_X11_wrong 64 y1 X I = some (v, I4) ∧ f_X12_wrong 269 y1 I4 = some (v, I9) ∧ V I9 X
theorem br_wrong {V : qI → qX → Prop} (hp : Pr_wrong V) {L k : Nat} {xs : Nat → Int32} {k18 : Int32 → qX → qI → Option (Int32 × qI × qX)} {X : qX} {I : qI} (hk : k + 6 ≤ L) (hL : L < 2 ^ 31) (hV : V I X) : ∃ (I' : qI) (X' : qX), V I' X' ∧ b_L_law_1041 L xs k18 (nI k) X I = k18 (nI (k + 6)) X' I' := by
  obtain ⟨v, I4, I9, e1, e2, hV⟩ := hp (xs (k + 1)) X I hV
  refine ⟨I9, X, hV, ?_⟩
  unfold b_L_law_1041
  simp only [nI_add, u_rdO (f := xs) (n := L) (k := k + 1) (by omega) hL, u_s1, u_s2, u_s3, e1, e2, if_true, eq_self_iff_true]
def Pr_give (V : qI → qX → Prop) : Prop := ∀ (y1 : Int32) (X : qX) (I : qI), V I X → ∃ (v : Int32) (I4 : qI) (I9 : qI), f_X11_give 64 y1 X I = some (v, I4) ∧ f_X12_give 269 y1 I4 = some (v, I9) ∧ V I9 X
theorem br_give {V : qI → qX → Prop} (hp : Pr_give V) {L k : Nat} {xs : Nat → Int32} {k18 : Int32 → qX → qI → Option (Int32 × qI × qX)} {X : qX} {I : qI} (hk : k + 6 ≤ L) (hL : L < 2 ^ 31) (hV : V I X) : ∃ (I' : qI) (X' : qX), V I' X' ∧ b_L_law_1064 L xs k18 (nI k) X I = k18 (nI (k + 6)) X' I' := by
  obtain ⟨v, I4, I9, e1, e2, hV⟩ := hp (xs (k + 1)) X I hV
  refine ⟨I9, X, hV, ?_⟩
  unfold b_L_law_1064
  simp only [nI_add, u_rdO (f := xs) (n := L) (k := k + 1) (by omega) hL, u_s1, u_s2, u_s3, e1, e2, if_true, eq_self_iff_true]
def Pr_worth (V : qI → qX → Prop) : Prop := ∀ (y1 y2 : Int32) (X : qX) (I : qI), V I X → ∃ (v : Int32) (I6 : qI) (I13 : qI), f_X11_worth 64 y1 y2 X I = some (v, I6) ∧ f_X12_worth 269 y1 y2 I6 = some (v, I13) ∧ V I13 X
theorem br_worth {V : qI → qX → Prop} (hp : Pr_worth V) {L k : Nat} {xs : Nat → Int32} {k18 : Int32 → qX → qI → Option (Int32 × qI × qX)} {X : qX} {I : qI} (hk : k + 6 ≤ L) (hL : L < 2 ^ 31) (hV : V I X) : ∃ (I' : qI) (X' : qX), V I' X' ∧ b_L_law_1087 L xs k18 (nI k) X I = k18 (nI (k + 6)) X' I' := by
  obtain ⟨v, I6, I13, e1, e2, hV⟩ := hp (xs (k + 1)) (xs (k + 2)) X I hV
  refine ⟨I13, X, hV, ?_⟩
  unfold b_L_law_1087
  simp only [nI_add, u_rdO (f := xs) (n := L) (k := k + 1) (by omega) hL, u_rdO (f := xs) (n := L) (k := k + 2) (by omega) hL, u_s1, u_s2, u_s3, e1, e2, if_true, eq_self_iff_true]
def Pr_prove (V : qI → qX → Prop) : Prop := ∀ (y1 y2 y3 y4 : Int32) (X : qX) (I : qI), V I X → ∃ (v : Int32), f_X11_prove 64 y1 y2 y3 y4 I = some v ∧ f_X12_prove 269 y1 y2 y3 y4 I = some v ∧ V I X
theorem br_prove {V : qI → qX → Prop} (hp : Pr_prove V) {L k : Nat} {xs : Nat → Int32} {k18 : Int32 → qX → qI → Option (Int32 × qI × qX)} {X : qX} {I : qI} (hk : k + 6 ≤ L) (hL : L < 2 ^ 31) (hV : V I X) : ∃ (I' : qI) (X' : qX), V I' X' ∧ b_L_law_1120 L xs k18 (nI k) X I = k18 (nI (k + 6)) X' I' := by
  obtain ⟨v, e1, e2, hV⟩ := hp (xs (k + 1)) (xs (k + 2)) (xs (k + 3)) (xs (k + 4)) X I hV
  refine ⟨I, X, hV, ?_⟩
  unfold b_L_law_1120
  simp only [nI_add, u_rdO (f := xs) (n := L) (k := k + 1) (by omega) hL, u_rdO (f := xs) (n := L) (k := k + 2) (by omega) hL, u_rdO (f := xs) (n := L) (k := k + 3) (by omega) hL, u_rdO (f := xs) (n := L) (k := k + 4) (by omega) hL, u_s1, u_s2, u_s3, e1, e2, if_true, eq_self_iff_true]
def Pr_bound (V : qI → qX → Prop) : Prop := ∀ (y1 y2 y3 : Int32) (X : qX) (I : qI), V I X → ∃ (v : Int32), f_X11_bound 64 y1 y2 y3 I = some v ∧ f_X12_bound 269 y1 y2 y3 I = some v ∧ V I X
theorem br_bound {V : qI → qX → Prop} (hp : Pr_bound V) {L k : Nat} {xs : Nat → Int32} {k18 : Int32 → qX → qI → Option (Int32 × qI × qX)} {X : qX} {I : qI} (hk : k + 6 ≤ L) (hL : L < 2 ^ 31) (hV : V I X) : ∃ (I' : qI) (X' : qX), V I' X' ∧ b_L_law_1173 L xs k18 (nI k) X I = k18 (nI (k + 6)) X' I' := by
  obtain ⟨v, e1, e2, hV⟩ := hp (xs (k + 1)) (xs (k + 2)) (xs (k + 3)) X I hV
  refine ⟨I, X, hV, ?_⟩
  unfold b_L_law_1173
  simp only [nI_add, u_rdO (f := xs) (n := L) (k := k + 1) (by omega) hL, u_rdO (f := xs) (n := L) (k := k + 2) (by omega) hL, u_rdO (f := xs) (n := L) (k := k + 3) (by omega) hL, u_s1, u_s2, u_s3, e1, e2, if_true, eq_self_iff_true]
def Pr_beside (V : qI → qX → Prop) : Prop := ∀ (y1 y2 : Int32) (X : qX) (I : qI), V I X → ∃ (v : Int32) (I6 : qI) (X7 : qX) (I16 : qI), f_X11_beside 64 y1 y2 X I = some (v, I6, X7) ∧ f_X12_beside 269 y1 y2 X7 I6 = some (v, I16) ∧ V I16 X7
theorem br_beside {V : qI → qX → Prop} (hp : Pr_beside V) {L k : Nat} {xs : Nat → Int32} {k18 : Int32 → qX → qI → Option (Int32 × qI × qX)} {X : qX} {I : qI} (hk : k + 6 ≤ L) (hL : L < 2 ^ 31) (hV : V I X) : ∃ (I' : qI) (X' : qX), V I' X' ∧ b_L_law_1216 L xs k18 (nI k) X I = k18 (nI (k + 6)) X' I' := by
  obtain ⟨v, I6, X7, I16, e1, e2, hV⟩ := hp (xs (k + 1)) (xs (k + 2)) X I hV
  refine ⟨I16, X7, hV, ?_⟩
  unfold b_L_law_1216
  simp only [nI_add, u_rdO (f := xs) (n := L) (k := k + 1) (by omega) hL, u_rdO (f := xs) (n := L) (k := k + 2) (by omega) hL, u_s1, u_s2, u_s3, e1, e2, if_true, eq_self_iff_true]
def Pr_feed (V : qI → qX → Prop) : Prop := ∀ (y1 y2 y3 : Int32) (X : qX) (I : qI), V I X → ∃ (v : Int32) (I8 : qI) (I17 : qI), f_X11_feed 64 y1 y2 y3 I = some (v, I8) ∧ f_X12_feed 269 y1 y2 y3 I8 = some (v, I17) ∧ V I17 X
theorem br_feed {V : qI → qX → Prop} (hp : Pr_feed V) {L k : Nat} {xs : Nat → Int32} {k18 : Int32 → qX → qI → Option (Int32 × qI × qX)} {X : qX} {I : qI} (hk : k + 6 ≤ L) (hL : L < 2 ^ 31) (hV : V I X) : ∃ (I' : qI) (X' : qX), V I' X' ∧ b_L_law_1249 L xs k18 (nI k) X I = k18 (nI (k + 6)) X' I' := by
  obtain ⟨v, I8, I17, e1, e2, hV⟩ := hp (xs (k + 1)) (xs (k + 2)) (xs (k + 3)) X I hV
  refine ⟨I17, X, hV, ?_⟩
  unfold b_L_law_1249
  simp only [nI_add, u_rdO (f := xs) (n := L) (k := k + 1) (by omega) hL, u_rdO (f := xs) (n := L) (k := k + 2) (by omega) hL, u_rdO (f := xs) (n := L) (k := k + 3) (by omega) hL, u_s1, u_s2, u_s3, e1, e2, if_true, eq_self_iff_true]
def Pr_trim (V : qI → qX → Prop) : Prop := ∀ (y1 : Int32) (X : qX) (I : qI), V I X → ∃ (v : Int32) (I4 : qI) (I9 : qI), f_X11_trim 64 y1 I = some (v, I4) ∧ f_X12_trim 269 y1 I4 = some (v, I9) ∧ V I9 X
theorem br_trim {V : qI → qX → Prop} (hp : Pr_trim V) {L k : Nat} {xs : Nat → Int32} {k18 : Int32 → qX → qI → Option (Int32 × qI × qX)} {X : qX} {I : qI} (hk : k + 6 ≤ L) (hL : L < 2 ^ 31) (hV : V I X) : ∃ (I' : qI) (X' : qX), V I' X' ∧ b_L_law_1292 L xs k18 (nI k) X I = k18 (nI (k + 6)) X' I' := by
  obtain ⟨v, I4, I9, e1, e2, hV⟩ := hp (xs (k + 1)) X I hV
  refine ⟨I9, X, hV, ?_⟩
  unfold b_L_law_1292
  simp only [nI_add, u_rdO (f := xs) (n := L) (k := k + 1) (by omega) hL, u_s1, u_s2, u_s3, e1, e2, if_true, eq_self_iff_true]
def Pr_text (V : qI → qX → Prop) : Prop := ∀ (y1 : Int32) (X : qX) (I : qI), V I X → ∃ (v : Int32) (I4 : qI) (X5 : qX) (I12 : qI), f_X11_text 64 y1 X I = some (v, I4, X5) ∧ f_X12_text 269 y1 I4 = some (v, I12) ∧ V I12 X5
theorem br_text {V : qI → qX → Prop} (hp : Pr_text V) {L k : Nat} {xs : Nat → Int32} {k18 : Int32 → qX → qI → Option (Int32 × qI × qX)} {X : qX} {I : qI} (hk : k + 6 ≤ L) (hL : L < 2 ^ 31) (hV : V I X) : ∃ (I' : qI) (X' : qX), V I' X' ∧ b_L_law_1315 L xs k18 (nI k) X I = k18 (nI (k + 6)) X' I' := by
  obtain ⟨v, I4, X5, I12, e1, e2, hV⟩ := hp (xs (k + 1)) X I hV
  refine ⟨I12, X5, hV, ?_⟩
  unfold b_L_law_1315
  simp only [nI_add, u_rdO (f := xs) (n := L) (k := k + 1) (by omega) hL, u_s1, u_s2, u_s3, e1, e2, if_true, eq_self_iff_true]
def Pr_of (V : qI → qX → Prop) : Prop := ∀ (y1 y2 : Int32) (X : qX) (I : qI), V I X → ∃ (v : Int32), f_X11_of 64 y1 y2 X I = some v ∧ f_X12_of 269 y1 y2 I = some v ∧ V I X
theorem br_of {V : qI → qX → Prop} (hp : Pr_of V) {L k : Nat} {xs : Nat → Int32} {k18 : Int32 → qX → qI → Option (Int32 × qI × qX)} {X : qX} {I : qI} (hk : k + 6 ≤ L) (hL : L < 2 ^ 31) (hV : V I X) : ∃ (I' : qI) (X' : qX), V I' X' ∧ b_L_law_1338 L xs k18 (nI k) X I = k18 (nI (k + 6)) X' I' := by
  obtain ⟨v, e1, e2, hV⟩ := hp (xs (k + 1)) (xs (k + 2)) X I hV
  refine ⟨I, X, hV, ?_⟩
  unfold b_L_law_1338
  simp only [nI_add, u_rdO (f := xs) (n := L) (k := k + 1) (by omega) hL, u_rdO (f := xs) (n := L) (k := k + 2) (by omega) hL, u_s1, u_s2, u_s3, e1, e2, if_true, eq_self_iff_true]
def Pr_why (V : qI → qX → Prop) : Prop := ∀ (y1 : Int32) (X : qX) (I : qI), V I X → ∃ (v : Int32), f_X11_why 64 y1 I = some v ∧ f_X12_why 269 y1 I = some v ∧ V I X
theorem br_why {V : qI → qX → Prop} (hp : Pr_why V) {L k : Nat} {xs : Nat → Int32} {k18 : Int32 → qX → qI → Option (Int32 × qI × qX)} {X : qX} {I : qI} (hk : k + 6 ≤ L) (hL : L < 2 ^ 31) (hV : V I X) : ∃ (I' : qI) (X' : qX), V I' X' ∧ b_L_law_1371 L xs k18 (nI k) X I = k18 (nI (k + 6)) X' I' := by
  obtain ⟨v, e1, e2, hV⟩ := hp (xs (k + 1)) X I hV
  refine ⟨I, X, hV, ?_⟩
  unfold b_L_law_1371
  simp only [nI_add, u_rdO (f := xs) (n := L) (k := k + 1) (by omega) hL, u_s1, u_s2, u_s3, e1, e2, if_true, eq_self_iff_true]
def Pr_rules (V : qI → qX → Prop) : Prop := ∀ (y1 y2 y3 y4 : Int32) (X : qX) (I : qI), V I X → ∃ (v : Int32) (I10 : qI) (I21 : qI), f_X11_rules 64 y1 y2 y3 y4 X I = some (v, I10) ∧ f_X12_rules 269 y1 y2 y3 y4 I10 = some (v, I21) ∧ V I21 X
theorem br_rules {V : qI → qX → Prop} (hp : Pr_rules V) {L k : Nat} {xs : Nat → Int32} {k18 : Int32 → qX → qI → Option (Int32 × qI × qX)} {X : qX} {I : qI} (hk : k + 6 ≤ L) (hL : L < 2 ^ 31) (hV : V I X) : ∃ (I' : qI) (X' : qX), V I' X' ∧ b_L_law_1394 L xs k18 (nI k) X I = k18 (nI (k + 6)) X' I' := by
  obtain ⟨v, I10, I21, e1, e2, hV⟩ := hp (xs (k + 1)) (xs (k + 2)) (xs (k + 3)) (xs (k + 4)) X I hV
  refine ⟨I21, X, hV, ?_⟩
  unfold b_L_law_1394
  simp only [nI_add, u_rdO (f := xs) (n := L) (k := k + 1) (by omega) hL, u_rdO (f := xs) (n := L) (k := k + 2) (by omega) hL, u_rdO (f := xs) (n := L) (k := k + 3) (by omega) hL, u_rdO (f := xs) (n := L) (k := k + 4) (by omega) hL, u_s1, u_s2, u_s3, e1, e2, if_true, eq_self_iff_true]
def Pr_book (V : qI → qX → Prop) : Prop := ∀ (y1 y2 y3 : Int32) (X : qX) (I : qI), V I X → ∃ (v : Int32) (I8 : qI) (I17 : qI), f_X11_book 64 y1 y2 y3 I = some (v, I8) ∧ f_X12_book 269 y1 y2 y3 I8 = some (v, I17) ∧ V I17 X
theorem br_book {V : qI → qX → Prop} (hp : Pr_book V) {L k : Nat} {xs : Nat → Int32} {k18 : Int32 → qX → qI → Option (Int32 × qI × qX)} {X : qX} {I : qI} (hk : k + 6 ≤ L) (hL : L < 2 ^ 31) (hV : V I X) : ∃ (I' : qI) (X' : qX), V I' X' ∧ b_L_law_1447 L xs k18 (nI k) X I = k18 (nI (k + 6)) X' I' := by
  obtain ⟨v, I8, I17, e1, e2, hV⟩ := hp (xs (k + 1)) (xs (k + 2)) (xs (k + 3)) X I hV
  refine ⟨I17, X, hV, ?_⟩
  unfold b_L_law_1447
  simp only [nI_add, u_rdO (f := xs) (n := L) (k := k + 1) (by omega) hL, u_rdO (f := xs) (n := L) (k := k + 2) (by omega) hL, u_rdO (f := xs) (n := L) (k := k + 3) (by omega) hL, u_s1, u_s2, u_s3, e1, e2, if_true, eq_self_iff_true]
def Pr_note (V : qI → qX → Prop) : Prop := ∀ (y1 y2 y3 : Int32) (X : qX) (I : qI), V I X → ∃ (v : Int32) (I8 : qI) (I17 : qI), f_X11_note 64 y1 y2 y3 I = some (v, I8) ∧ f_X12_note 269 y1 y2 y3 I8 = some (v, I17) ∧ V I17 X
theorem br_note {V : qI → qX → Prop} (hp : Pr_note V) {L k : Nat} {xs : Nat → Int32} {k18 : Int32 → qX → qI → Option (Int32 × qI × qX)} {X : qX} {I : qI} (hk : k + 6 ≤ L) (hL : L < 2 ^ 31) (hV : V I X) : ∃ (I' : qI) (X' : qX), V I' X' ∧ b_L_law_1490 L xs k18 (nI k) X I = k18 (nI (k + 6)) X' I' := by
  obtain ⟨v, I8, I17, e1, e2, hV⟩ := hp (xs (k + 1)) (xs (k + 2)) (xs (k + 3)) X I hV
  refine ⟨I17, X, hV, ?_⟩
  unfold b_L_law_1490
  simp only [nI_add, u_rdO (f := xs) (n := L) (k := k + 1) (by omega) hL, u_rdO (f := xs) (n := L) (k := k + 2) (by omega) hL, u_rdO (f := xs) (n := L) (k := k + 3) (by omega) hL, u_s1, u_s2, u_s3, e1, e2, if_true, eq_self_iff_true]
def Pr_read (V : qI → qX → Prop) : Prop := ∀ (y1 y2 : Int32) (X : qX) (I : qI), V I X → ∃ (v : Int32), f_X11_read 64 y1 y2 I = some v ∧ f_X12_read 269 y1 y2 I = some v ∧ V I X
theorem br_read {V : qI → qX → Prop} (hp : Pr_read V) {L k : Nat} {xs : Nat → Int32} {k18 : Int32 → qX → qI → Option (Int32 × qI × qX)} {X : qX} {I : qI} (hk : k + 6 ≤ L) (hL : L < 2 ^ 31) (hV : V I X) : ∃ (I' : qI) (X' : qX), V I' X' ∧ b_L_law_1533 L xs k18 (nI k) X I = k18 (nI (k + 6)) X' I' := by
  obtain ⟨v, e1, e2, hV⟩ := hp (xs (k + 1)) (xs (k + 2)) X I hV
  refine ⟨I, X, hV, ?_⟩
  unfold b_L_law_1533
  simp only [nI_add, u_rdO (f := xs) (n := L) (k := k + 1) (by omega) hL, u_rdO (f := xs) (n := L) (k := k + 2) (by omega) hL, u_s1, u_s2, u_s3, e1, e2, if_true, eq_self_iff_true]
def Pr_copy (V : qI → qX → Prop) : Prop := ∀ (y1 y2 y3 y4 y5 : Int32) (X : qX) (I : qI), V I X → ∃ (v : Int32) (I12 : qI) (I25 : qI), f_X11_copy 64 y1 y2 y3 y4 y5 I = some (v, I12) ∧ f_X12_copy 269 y1 y2 y3 y4 y5 I12 = some (v, I25) ∧ V I25 X
theorem br_copy {V : qI → qX → Prop} (hp : Pr_copy V) {L k : Nat} {xs : Nat → Int32} {k18 : Int32 → qX → qI → Option (Int32 × qI × qX)} {X : qX} {I : qI} (hk : k + 6 ≤ L) (hL : L < 2 ^ 31) (hV : V I X) : ∃ (I' : qI) (X' : qX), V I' X' ∧ b_L_law_1566 L xs k18 (nI k) X I = k18 (nI (k + 6)) X' I' := by
  obtain ⟨v, I12, I25, e1, e2, hV⟩ := hp (xs (k + 1)) (xs (k + 2)) (xs (k + 3)) (xs (k + 4)) (xs (k + 5)) X I hV
  refine ⟨I25, X, hV, ?_⟩
  unfold b_L_law_1566
  simp only [nI_add, u_rdO (f := xs) (n := L) (k := k + 1) (by omega) hL, u_rdO (f := xs) (n := L) (k := k + 2) (by omega) hL, u_rdO (f := xs) (n := L) (k := k + 3) (by omega) hL, u_rdO (f := xs) (n := L) (k := k + 4) (by omega) hL, u_rdO (f := xs) (n := L) (k := k + 5) (by omega) hL, u_s1, u_s2, u_s3, e1, e2, if_true, eq_self_iff_true]
def Pr_all (V : qI → qX → Prop) : Prop := ∀ (y1 y2 : Int32) (X : qX) (I : qI), V I X → ∃ (v : Int32), f_X11_all 64 y1 y2 I = some v ∧ f_X12_all 269 y1 y2 I = some v ∧ V I X
theorem br_all {V : qI → qX → Prop} (hp : Pr_all V) {L k : Nat} {xs : Nat → Int32} {k18 : Int32 → qX → qI → Option (Int32 × qI × qX)} {X : qX} {I : qI} (hk : k + 6 ≤ L) (hL : L < 2 ^ 31) (hV : V I X) : ∃ (I' : qI) (X' : qX), V I' X' ∧ b_L_law_1629 L xs k18 (nI k) X I = k18 (nI (k + 6)) X' I' := by
  obtain ⟨v, e1, e2, hV⟩ := hp (xs (k + 1)) (xs (k + 2)) X I hV
  refine ⟨I, X, hV, ?_⟩
  unfold b_L_law_1629
  simp only [nI_add, u_rdO (f := xs) (n := L) (k := k + 1) (by omega) hL, u_rdO (f := xs) (n := L) (k := k + 2) (by omega) hL, u_s1, u_s2, u_s3, e1, e2, if_true, eq_self_iff_true]
def Pr_end (V : qI → qX → Prop) : Prop := ∀ (y1 y2 y3 y4 : Int32) (X : qX) (I : qI), V I X → ∃ (v : Int32) (I10 : qI) (I21 : qI), f_X11_end 64 y1 y2 y3 y4 X I = some (v, I10) ∧ f_X12_end 269 y1 y2 y3 y4 I10 = some (v, I21) ∧ V I21 X
theorem br_end {V : qI → qX → Prop} (hp : Pr_end V) {L k : Nat} {xs : Nat → Int32} {k18 : Int32 → qX → qI → Option (Int32 × qI × qX)} {X : qX} {I : qI} (hk : k + 6 ≤ L) (hL : L < 2 ^ 31) (hV : V I X) : ∃ (I' : qI) (X' : qX), V I' X' ∧ b_L_law_1662 L xs k18 (nI k) X I = k18 (nI (k + 6)) X' I' := by
  obtain ⟨v, I10, I21, e1, e2, hV⟩ := hp (xs (k + 1)) (xs (k + 2)) (xs (k + 3)) (xs (k + 4)) X I hV
  refine ⟨I21, X, hV, ?_⟩
  unfold b_L_law_1662
  simp only [nI_add, u_rdO (f := xs) (n := L) (k := k + 1) (by omega) hL, u_rdO (f := xs) (n := L) (k := k + 2) (by omega) hL, u_rdO (f := xs) (n := L) (k := k + 3) (by omega) hL, u_rdO (f := xs) (n := L) (k := k + 4) (by omega) hL, u_s1, u_s2, u_s3, e1, e2, if_true, eq_self_iff_true]
def Pr_round (V : qI → qX → Prop) : Prop := ∀ (X : qX) (I : qI), V I X → ∃ (v : Int32) (I2 : qI) (I5 : qI), f_X11_round 64 X I = some (v, I2) ∧ f_X12_round 269 I2 = some (v, I5) ∧ V I5 X
theorem br_round {V : qI → qX → Prop} (hp : Pr_round V) {L k : Nat} {xs : Nat → Int32} {k18 : Int32 → qX → qI → Option (Int32 × qI × qX)} {X : qX} {I : qI} (hk : k + 6 ≤ L) (hL : L < 2 ^ 31) (hV : V I X) : ∃ (I' : qI) (X' : qX), V I' X' ∧ b_L_law_1715 L xs k18 (nI k) X I = k18 (nI (k + 6)) X' I' := by
  obtain ⟨v, I2, I5, e1, e2, hV⟩ := hp X I hV
  refine ⟨I5, X, hV, ?_⟩
  unfold b_L_law_1715
  simp only [nI_add, u_s1, u_s2, u_s3, e1, e2, if_true, eq_self_iff_true]
def Pr_way (V : qI → qX → Prop) : Prop := ∀ (y1 : Int32) (X : qX) (I : qI), V I X → ∃ (v : Int32) (I4 : qI) (I9 : qI), f_X11_way 64 y1 X I = some (v, I4) ∧ f_X12_way 269 y1 I4 = some (v, I9) ∧ V I9 X
theorem br_way {V : qI → qX → Prop} (hp : Pr_way V) {L k : Nat} {xs : Nat → Int32} {k18 : Int32 → qX → qI → Option (Int32 × qI × qX)} {X : qX} {I : qI} (hk : k + 6 ≤ L) (hL : L < 2 ^ 31) (hV : V I X) : ∃ (I' : qI) (X' : qX), V I' X' ∧ b_L_law_1728 L xs k18 (nI k) X I = k18 (nI (k + 6)) X' I' := by
  obtain ⟨v, I4, I9, e1, e2, hV⟩ := hp (xs (k + 1)) X I hV
  refine ⟨I9, X, hV, ?_⟩
  unfold b_L_law_1728
  simp only [nI_add, u_rdO (f := xs) (n := L) (k := k + 1) (by omega) hL, u_s1, u_s2, u_s3, e1, e2, if_true, eq_self_iff_true]
def Pr_would (V : qI → qX → Prop) : Prop := ∀ (y1 y2 : Int32) (X : qX) (I : qI), V I X → ∃ (v : Int32) (I6 : qI) (I13 : qI), f_X11_would 64 y1 y2 X I = some (v, I6) ∧ f_X12_would 269 y1 y2 I6 = some (v, I13) ∧ V I13 X
theorem br_would {V : qI → qX → Prop} (hp : Pr_would V) {L k : Nat} {xs : Nat → Int32} {k18 : Int32 → qX → qI → Option (Int32 × qI × qX)} {X : qX} {I : qI} (hk : k + 6 ≤ L) (hL : L < 2 ^ 31) (hV : V I X) : ∃ (I' : qI) (X' : qX), V I' X' ∧ b_L_law_1751 L xs k18 (nI k) X I = k18 (nI (k + 6)) X' I' := by
  obtain ⟨v, I6, I13, e1, e2, hV⟩ := hp (xs (k + 1)) (xs (k + 2)) X I hV
  refine ⟨I13, X, hV, ?_⟩
  unfold b_L_law_1751
  simp only [nI_add, u_rdO (f := xs) (n := L) (k := k + 1) (by omega) hL, u_rdO (f := xs) (n := L) (k := k + 2) (by omega) hL, u_s1, u_s2, u_s3, e1, e2, if_true, eq_self_iff_true]
def Pr_breach (V : qI → qX → Prop) : Prop := ∀ (y1 y2 y3 : Int32) (X : qX) (I : qI), V I X → ∃ (v : Int32) (I8 : qI) (I17 : qI), f_X11_breach 64 y1 y2 y3 I = some (v, I8) ∧ f_X12_breach 269 y1 y2 y3 I8 = some (v, I17) ∧ V I17 X
theorem br_breach {V : qI → qX → Prop} (hp : Pr_breach V) {L k : Nat} {xs : Nat → Int32} {k18 : Int32 → qX → qI → Option (Int32 × qI × qX)} {X : qX} {I : qI} (hk : k + 6 ≤ L) (hL : L < 2 ^ 31) (hV : V I X) : ∃ (I' : qI) (X' : qX), V I' X' ∧ b_L_law_1784 L xs k18 (nI k) X I = k18 (nI (k + 6)) X' I' := by
  obtain ⟨v, I8, I17, e1, e2, hV⟩ := hp (xs (k + 1)) (xs (k + 2)) (xs (k + 3)) X I hV
  refine ⟨I17, X, hV, ?_⟩
  unfold b_L_law_1784
  simp only [nI_add, u_rdO (f := xs) (n := L) (k := k + 1) (by omega) hL, u_rdO (f := xs) (n := L) (k := k + 2) (by omega) hL, u_rdO (f := xs) (n := L) (k := k + 3) (by omega) hL, u_s1, u_s2, u_s3, e1, e2, if_true, eq_self_iff_true]
def Pr_seen (V : qI → qX → Prop) : Prop := ∀ (y1 : Int32) (X : qX) (I : qI), V I X → ∃ (v : Int32) (I4 : qI) (I9 : qI), f_X11_seen 64 y1 I = some (v, I4) ∧ f_X12_seen 269 y1 I4 = some (v, I9) ∧ V I9 X
theorem br_seen {V : qI → qX → Prop} (hp : Pr_seen V) {L k : Nat} {xs : Nat → Int32} {k18 : Int32 → qX → qI → Option (Int32 × qI × qX)} {X : qX} {I : qI} (hk : k + 6 ≤ L) (hL : L < 2 ^ 31) (hV : V I X) : ∃ (I' : qI) (X' : qX), V I' X' ∧ b_L_law_1827 L xs k18 (nI k) X I = k18 (nI (k + 6)) X' I' := by
  obtain ⟨v, I4, I9, e1, e2, hV⟩ := hp (xs (k + 1)) X I hV
  refine ⟨I9, X, hV, ?_⟩
  unfold b_L_law_1827
  simp only [nI_add, u_rdO (f := xs) (n := L) (k := k + 1) (by omega) hL, u_s1, u_s2, u_s3, e1, e2, if_true, eq_self_iff_true]
def Pr_at (V : qI → qX → Prop) : Prop := ∀ (y1 y2 : Int32) (X : qX) (I : qI), V I X → ∃ (v : Int32) (I6 : qI) (I13 : qI), f_X11_at 64 y1 y2 X I = some (v, I6) ∧ f_X12_at 269 y1 y2 I6 = some (v, I13) ∧ V I13 X
theorem br_at {V : qI → qX → Prop} (hp : Pr_at V) {L k : Nat} {xs : Nat → Int32} {k18 : Int32 → qX → qI → Option (Int32 × qI × qX)} {X : qX} {I : qI} (hk : k + 6 ≤ L) (hL : L < 2 ^ 31) (hV : V I X) : ∃ (I' : qI) (X' : qX), V I' X' ∧ b_L_law_1850 L xs k18 (nI k) X I = k18 (nI (k + 6)) X' I' := by
  obtain ⟨v, I6, I13, e1, e2, hV⟩ := hp (xs (k + 1)) (xs (k + 2)) X I hV
  refine ⟨I13, X, hV, ?_⟩
  unfold b_L_law_1850
  simp only [nI_add, u_rdO (f := xs) (n := L) (k := k + 1) (by omega) hL, u_rdO (f := xs) (n := L) (k := k + 2) (by omega) hL, u_s1, u_s2, u_s3, e1, e2, if_true, eq_self_iff_true]
def Pr_last (V : qI → qX → Prop) : Prop := ∀ (y1 y2 : Int32) (X : qX) (I : qI), V I X → ∃ (v : Int32) (I6 : qI), f_X11_last 64 y1 y2 I = some (v, I6) ∧ f_X12_last 269 y1 y2 I6 = some v ∧ V I6 X
theorem br_last {V : qI → qX → Prop} (hp : Pr_last V) {L k : Nat} {xs : Nat → Int32} {k18 : Int32 → qX → qI → Option (Int32 × qI × qX)} {X : qX} {I : qI} (hk : k + 6 ≤ L) (hL : L < 2 ^ 31) (hV : V I X) : ∃ (I' : qI) (X' : qX), V I' X' ∧ b_L_law_1883 L xs k18 (nI k) X I = k18 (nI (k + 6)) X' I' := by
  obtain ⟨v, I6, e1, e2, hV⟩ := hp (xs (k + 1)) (xs (k + 2)) X I hV
  refine ⟨I6, X, hV, ?_⟩
  unfold b_L_law_1883
  simp only [nI_add, u_rdO (f := xs) (n := L) (k := k + 1) (by omega) hL, u_rdO (f := xs) (n := L) (k := k + 2) (by omega) hL, u_s1, u_s2, u_s3, e1, e2, if_true, eq_self_iff_true]
def Pr_least (V : qI → qX → Prop) : Prop := ∀ (X : qX) (I : qI), V I X → ∃ (v : Int32) (I2 : qI), f_X11_least 64 I = some (v, I2) ∧ f_X12_least_ 269 I2 = some v ∧ V I2 X
theorem br_least {V : qI → qX → Prop} (hp : Pr_least V) {L k : Nat} {xs : Nat → Int32} {k18 : Int32 → qX → qI → Option (Int32 × qI × qX)} {X : qX} {I : qI} (hk : k + 6 ≤ L) (hL : L < 2 ^ 31) (hV : V I X) : ∃ (I' : qI) (X' : qX), V I' X' ∧ b_L_law_1916 L xs k18 (nI k) X I = k18 (nI (k + 6)) X' I' := by
  obtain ⟨v, I2, e1, e2, hV⟩ := hp X I hV
  refine ⟨I2, X, hV, ?_⟩
  unfold b_L_law_1916
  simp only [nI_add, u_s1, u_s2, u_s3, e1, e2, if_true, eq_self_iff_true]
def Pr_choice (V : qI → qX → Prop) : Prop := ∀ (y1 y2 y3 : Int32) (X : qX) (I : qI), V I X → ∃ (v : Int32) (I8 : qI) (I17 : qI), f_X11_choice 64 y1 y2 y3 I = some (v, I8) ∧ f_X12_choice 269 y1 y2 y3 I8 = some (v, I17) ∧ V I17 X
theorem br_choice {V : qI → qX → Prop} (hp : Pr_choice V) {L k : Nat} {xs : Nat → Int32} {k18 : Int32 → qX → qI → Option (Int32 × qI × qX)} {X : qX} {I : qI} (hk : k + 6 ≤ L) (hL : L < 2 ^ 31) (hV : V I X) : ∃ (I' : qI) (X' : qX), V I' X' ∧ b_L_law_1929 L xs k18 (nI k) X I = k18 (nI (k + 6)) X' I' := by
  obtain ⟨v, I8, I17, e1, e2, hV⟩ := hp (xs (k + 1)) (xs (k + 2)) (xs (k + 3)) X I hV
  refine ⟨I17, X, hV, ?_⟩
  unfold b_L_law_1929
  simp only [nI_add, u_rdO (f := xs) (n := L) (k := k + 1) (by omega) hL, u_rdO (f := xs) (n := L) (k := k + 2) (by omega) hL, u_rdO (f := xs) (n := L) (k := k + 3) (by omega) hL, u_s1, u_s2, u_s3, e1, e2, if_true, eq_self_iff_true]
def Pr_plan (V : qI → qX → Prop) : Prop := ∀ (y1 y2 y3 : Int32) (X : qX) (I : qI), V I X → ∃ (v : Int32) (I8 : qI) (I17 : qI), f_X11_plan 64 y1 y2 y3 I = some (v, I8) ∧ f_X12_plan 269 y1 y2 y3 I8 = some (v, I17) ∧ V I17 X
theorem br_plan {V : qI → qX → Prop} (hp : Pr_plan V) {L k : Nat} {xs : Nat → Int32} {k18 : Int32 → qX → qI → Option (Int32 × qI × qX)} {X : qX} {I : qI} (hk : k + 6 ≤ L) (hL : L < 2 ^ 31) (hV : V I X) : ∃ (I' : qI) (X' : qX), V I' X' ∧ b_L_law_1972 L xs k18 (nI k) X I = k18 (nI (k + 6)) X' I' := by
  obtain ⟨v, I8, I17, e1, e2, hV⟩ := hp (xs (k + 1)) (xs (k + 2)) (xs (k + 3)) X I hV
  refine ⟨I17, X, hV, ?_⟩
  unfold b_L_law_1972
  simp only [nI_add, u_rdO (f := xs) (n := L) (k := k + 1) (by omega) hL, u_rdO (f := xs) (n := L) (k := k + 2) (by omega) hL, u_rdO (f := xs) (n := L) (k := k + 3) (by omega) hL, u_s1, u_s2, u_s3, e1, e2, if_true, eq_self_iff_true]
def Pr_planned (V : qI → qX → Prop) : Prop := ∀ (y1 y2 y3 : Int32) (X : qX) (I : qI), V I X → ∃ (v : Int32) (I8 : qI) (I17 : qI), f_X11_planned 64 y1 y2 y3 X I = some (v, I8) ∧ f_X12_planned 269 y1 y2 y3 I8 = some (v, I17) ∧ V I17 X
theorem br_planned {V : qI → qX → Prop} (hp : Pr_planned V) {L k : Nat} {xs : Nat → Int32} {k18 : Int32 → qX → qI → Option (Int32 × qI × qX)} {X : qX} {I : qI} (hk : k + 6 ≤ L) (hL : L < 2 ^ 31) (hV : V I X) : ∃ (I' : qI) (X' : qX), V I' X' ∧ b_L_law_2015 L xs k18 (nI k) X I = k18 (nI (k + 6)) X' I' := by
  obtain ⟨v, I8, I17, e1, e2, hV⟩ := hp (xs (k + 1)) (xs (k + 2)) (xs (k + 3)) X I hV
  refine ⟨I17, X, hV, ?_⟩
  unfold b_L_law_2015
  simp only [nI_add, u_rdO (f := xs) (n := L) (k := k + 1) (by omega) hL, u_rdO (f := xs) (n := L) (k := k + 2) (by omega) hL, u_rdO (f := xs) (n := L) (k := k + 3) (by omega) hL, u_s1, u_s2, u_s3, e1, e2, if_true, eq_self_iff_true]
def Pr_tell (V : qI → qX → Prop) : Prop := ∀ (y1 : Int32) (X : qX) (I : qI), V I X → ∃ (v : Int32) (I4 : qI) (I9 : qI), f_X11_tell 64 y1 I = some (v, I4) ∧ f_X12_tell 269 y1 I4 = some (v, I9) ∧ V I9 X
theorem br_tell {V : qI → qX → Prop} (hp : Pr_tell V) {L k : Nat} {xs : Nat → Int32} {k18 : Int32 → qX → qI → Option (Int32 × qI × qX)} {X : qX} {I : qI} (hk : k + 6 ≤ L) (hL : L < 2 ^ 31) (hV : V I X) : ∃ (I' : qI) (X' : qX), V I' X' ∧ b_L_law_2058 L xs k18 (nI k) X I = k18 (nI (k + 6)) X' I' := by
  obtain ⟨v, I4, I9, e1, e2, hV⟩ := hp (xs (k + 1)) X I hV
  refine ⟨I9, X, hV, ?_⟩
  unfold b_L_law_2058
  simp only [nI_add, u_rdO (f := xs) (n := L) (k := k + 1) (by omega) hL, u_s1, u_s2, u_s3, e1, e2, if_true, eq_self_iff_true]
def Pr_check (V : qI → qX → Prop) : Prop := ∀ (y1 y2 y3 : Int32) (X : qX) (I : qI), V I X → ∃ (v : Int32) (I8 : qI) (X9 : qX) (I20 : qI), f_X11_check 64 y1 y2 y3 X I = some (v, I8, X9) ∧ f_X12_check 269 y1 y2 y3 X9 I8 = some (v, I20) ∧ V I20 X9
theorem br_check {V : qI → qX → Prop} (hp : Pr_check V) {L k : Nat} {xs : Nat → Int32} {k18 : Int32 → qX → qI → Option (Int32 × qI × qX)} {X : qX} {I : qI} (hk : k + 6 ≤ L) (hL : L < 2 ^ 31) (hV : V I X) : ∃ (I' : qI) (X' : qX), V I' X' ∧ b_L_law_2081 L xs k18 (nI k) X I = k18 (nI (k + 6)) X' I' := by
  obtain ⟨v, I8, X9, I20, e1, e2, hV⟩ := hp (xs (k + 1)) (xs (k + 2)) (xs (k + 3)) X I hV
  refine ⟨I20, X9, hV, ?_⟩
  unfold b_L_law_2081
  simp only [nI_add, u_rdO (f := xs) (n := L) (k := k + 1) (by omega) hL, u_rdO (f := xs) (n := L) (k := k + 2) (by omega) hL, u_rdO (f := xs) (n := L) (k := k + 3) (by omega) hL, u_s1, u_s2, u_s3, e1, e2, if_true, eq_self_iff_true]
def Pr_keep (V : qI → qX → Prop) : Prop := ∀ (X : qX) (I : qI), V I X → ∃ (v : Int32) (I2 : qI) (X3 : qX) (I8 : qI), f_X11_keep 64 X I = some (v, I2, X3) ∧ f_X12_keep 269 X3 I2 = some (v, I8) ∧ V I8 X3
theorem br_keep {V : qI → qX → Prop} (hp : Pr_keep V) {L k : Nat} {xs : Nat → Int32} {k18 : Int32 → qX → qI → Option (Int32 × qI × qX)} {X : qX} {I : qI} (hk : k + 6 ≤ L) (hL : L < 2 ^ 31) (hV : V I X) : ∃ (I' : qI) (X' : qX), V I' X' ∧ b_L_law_2124 L xs k18 (nI k) X I = k18 (nI (k + 6)) X' I' := by
  obtain ⟨v, I2, X3, I8, e1, e2, hV⟩ := hp X I hV
  refine ⟨I8, X3, hV, ?_⟩
  unfold b_L_law_2124
  simp only [nI_add, u_s1, u_s2, u_s3, e1, e2, if_true, eq_self_iff_true]
def Pr_back (V : qI → qX → Prop) : Prop := ∀ (X : qX) (I : qI), V I X → ∃ (v : Int32) (I2 : qI) (X3 : qX) (I8 : qI), f_X11_back 64 X I = some (v, I2, X3) ∧ f_X12_back 269 X3 I2 = some (v, I8) ∧ V I8 X3
theorem br_back {V : qI → qX → Prop} (hp : Pr_back V) {L k : Nat} {xs : Nat → Int32} {k18 : Int32 → qX → qI → Option (Int32 × qI × qX)} {X : qX} {I : qI} (hk : k + 6 ≤ L) (hL : L < 2 ^ 31) (hV : V I X) : ∃ (I' : qI) (X' : qX), V I' X' ∧ b_L_law_2137 L xs k18 (nI k) X I = k18 (nI (k + 6)) X' I' := by
  obtain ⟨v, I2, X3, I8, e1, e2, hV⟩ := hp X I hV
  refine ⟨I8, X3, hV, ?_⟩
  unfold b_L_law_2137
  simp only [nI_add, u_s1, u_s2, u_s3, e1, e2, if_true, eq_self_iff_true]
def Pr_count (V : qI → qX → Prop) : Prop := ∀ (y1 : Int32) (X : qX) (I : qI), V I X → ∃ (v : Int32), f_X11_count 64 y1 X I = some v ∧ f_X12_count 269 y1 I = some v ∧ V I X
theorem br_count {V : qI → qX → Prop} (hp : Pr_count V) {L k : Nat} {xs : Nat → Int32} {k18 : Int32 → qX → qI → Option (Int32 × qI × qX)} {X : qX} {I : qI} (hk : k + 6 ≤ L) (hL : L < 2 ^ 31) (hV : V I X) : ∃ (I' : qI) (X' : qX), V I' X' ∧ b_L_law_2150 L xs k18 (nI k) X I = k18 (nI (k + 6)) X' I' := by
  obtain ⟨v, e1, e2, hV⟩ := hp (xs (k + 1)) X I hV
  refine ⟨I, X, hV, ?_⟩
  unfold b_L_law_2150
  simp only [nI_add, u_rdO (f := xs) (n := L) (k := k + 1) (by omega) hL, u_s1, u_s2, u_s3, e1, e2, if_true, eq_self_iff_true]
def q_Prs (V : qI → qX → Prop) : Prop := Pr_pit V ∧ Pr_dug V ∧ Pr_shop V ∧ Pr_shelf V ∧ Pr_sells V ∧ Pr_man V ∧ Pr_is V ∧ Pr_be V ∧ Pr_known V ∧ Pr_hear V ∧ Pr_rule V ∧ Pr_run V ∧ Pr_draw V ∧ Pr_strike V ∧ Pr_fine V ∧ Pr_stop V ∧ Pr_let V ∧ Pr_sell V ∧ Pr_melt V ∧ Pr_told V ∧ Pr_as V ∧ Pr_wrong V ∧ Pr_give V ∧ Pr_worth V ∧ Pr_prove V ∧ Pr_bound V ∧ Pr_beside V ∧ Pr_feed V ∧ Pr_trim V ∧ Pr_text V ∧ Pr_of V ∧ Pr_why V ∧ Pr_rules V ∧ Pr_book V ∧ Pr_note V ∧ Pr_read V ∧ Pr_copy V ∧ Pr_all V ∧ Pr_end V ∧ Pr_round V ∧ Pr_way V ∧ Pr_would V ∧ Pr_breach V ∧ Pr_seen V ∧ Pr_at V ∧ Pr_last V ∧ Pr_least V ∧ Pr_choice V ∧ Pr_plan V ∧ Pr_planned V ∧ Pr_tell V ∧ Pr_check V ∧ Pr_keep V ∧ Pr_back V ∧ Pr_count V
theorem q_turn {V : qI → qX → Prop} (hp : q_Prs V) {L k : Nat} {xs : Nat → Int32} {k18 : Int32 → qX → qI → Option (Int32 × qI × qX)} {X : qX} {I : qI} (hk : k + 6 ≤ L) (hL : L < 2 ^ 31) (hV : V I X) : ∃ (I' : qI) (X' : qX), V I' X' ∧ b_L_law_18 L xs k18 (nI k) X I = k18 (nI (k + 6)) X' I' := by
  obtain ⟨p_pit, p_dug, p_shop, p_shelf, p_sells, p_man, p_is, p_be, p_known, p_hear, p_rule, p_run, p_draw, p_strike, p_fine, p_stop, p_let, p_sell, p_melt, p_told, p_as, p_wrong, p_give, p_worth, p_prove, p_bound, p_beside, p_feed, p_trim, p_text, p_of, p_why, p_rules, p_book, p_note, p_read, p_copy, p_all, p_end, p_round, p_way, p_would, p_breach, p_seen, p_at, p_last, p_least, p_choice, p_plan, p_planned, p_tell, p_check, p_keep, p_back, p_count⟩ := hp
  unfold b_L_law_18
  rw [u_sub (by omega), if_neg (nI_nlt (by omega) (by omega)), u_rdO (by omega) hL, u_s1]
  refine u_ite (P := fun o => ∃ (I' : qI) (X' : qX), V I' X' ∧ o = k18 (nI (k + 6)) X' I') (fun _ => br_pit p_pit hk hL hV) (fun _ => ?_)
  refine u_ite (P := fun o => ∃ (I' : qI) (X' : qX), V I' X' ∧ o = k18 (nI (k + 6)) X' I') (fun _ => br_dug p_dug hk hL hV) (fun _ => ?_)
  refine u_ite (P := fun o => ∃ (I' : qI) (X' : qX), V I' X' ∧ o = k18 (nI (k + 6)) X' I') (fun _ => br_shop p_shop hk hL hV) (fun _ => ?_)
  refine u_ite (P := fun o => ∃ (I' : qI) (X' : qX), V I' X' ∧ o = k18 (nI (k + 6)) X' I') (fun _ => br_shelf p_shelf hk hL hV) (fun _ => ?_)
  refine u_ite (P := fun o => ∃ (I' : qI) (X' : qX), V I' X' ∧ o = k18 (nI (k + 6)) X' I') (fun _ => br_sells p_sells hk hL hV) (fun _ => ?_)
  refine u_ite (P := fun o => ∃ (I' : qI) (X' : qX), V I' X' ∧ o = k18 (nI (k + 6)) X' I') (fun _ => br_man p_man hk hL hV) (fun _ => ?_)
  refine u_ite (P := fun o => ∃ (I' : qI) (X' : qX), V I' X' ∧ o = k18 (nI (k + 6)) X' I') (fun _ => br_is p_is hk hL hV) (fun _ => ?_)
  refine u_ite (P := fun o => ∃ (I' : qI) (X' : qX), V I' X' ∧ o = k18 (nI (k + 6)) X' I') (fun _ => br_be p_be hk hL hV) (fun _ => ?_)
  refine u_ite (P := fun o => ∃ (I' : qI) (X' : qX), V I' X' ∧ o = k18 (nI (k + 6)) X' I') (fun _ => br_known p_known hk hL hV) (fun _ => ?_)
  refine u_ite (P := fun o => ∃ (I' : qI) (X' : qX), V I' X' ∧ o = k18 (nI (k + 6)) X' I') (fun _ => br_hear p_hear hk hL hV) (fun _ => ?_)
  refine u_ite (P := fun o => ∃ (I' : qI) (X' : qX), V I' X' ∧ o = k18 (nI (k + 6)) X' I') (fun _ => br_rule p_rule hk hL hV) (fun _ => ?_)
  refine u_ite (P := fun o => ∃ (I' : qI) (X' : qX), V I' X' ∧ o = k18 (nI (k + 6)) X' I') (fun _ => br_run p_run hk hL hV) (fun _ => ?_)
  refine u_ite (P := fun o => ∃ (I' : qI) (X' : qX), V I' X' ∧ o = k18 (nI (k + 6)) X' I') (fun _ => br_draw p_draw hk hL hV) (fun _ => ?_)
  refine u_ite (P := fun o => ∃ (I' : qI) (X' : qX), V I' X' ∧ o = k18 (nI (k + 6)) X' I') (fun _ => br_strike p_strike hk hL hV) (fun _ => ?_)
  refine u_ite (P := fun o => ∃ (I' : qI) (X' : qX), V I' X' ∧ o = k18 (nI (k + 6)) X' I') (fun _ => br_fine p_fine hk hL hV) (fun _ => ?_)
  refine u_ite (P := fun o => ∃ (I' : qI) (X' : qX), V I' X' ∧ o = k18 (nI (k + 6)) X' I') (fun _ => br_stop p_stop hk hL hV) (fun _ => ?_)
  refine u_ite (P := fun o => ∃ (I' : qI) (X' : qX), V I' X' ∧ o = k18 (nI (k + 6)) X' I') (fun _ => br_let p_let hk hL hV) (fun _ => ?_)
  refine u_ite (P := fun o => ∃ (I' : qI) (X' : qX), V I' X' ∧ o = k18 (nI (k + 6)) X' I') (fun _ => br_sell p_sell hk hL hV) (fun _ => ?_)
  refine u_ite (P := fun o => ∃ (I' : qI) (X' : qX), V I' X' ∧ o = k18 (nI (k + 6)) X' I') (fun _ => br_melt p_melt hk hL hV) (fun _ => ?_)
  refine u_ite (P := fun o => ∃ (I' : qI) (X' : qX), V I' X' ∧ o = k18 (nI (k + 6)) X' I') (fun _ => br_told p_told hk hL hV) (fun _ => ?_)
  refine u_ite (P := fun o => ∃ (I' : qI) (X' : qX), V I' X' ∧ o = k18 (nI (k + 6)) X' I') (fun _ => br_as p_as hk hL hV) (fun _ => ?_)
  refine u_ite (P := fun o => ∃ (I' : qI) (X' : qX), V I' X' ∧ o = k18 (nI (k + 6)) X' I') (fun _ => br_wrong p_wrong hk hL hV) (fun _ => ?_)
  refine u_ite (P := fun o => ∃ (I' : qI) (X' : qX), V I' X' ∧ o = k18 (nI (k + 6)) X' I') (fun _ => br_give p_give hk hL hV) (fun _ => ?_)
  refine u_ite (P := fun o => ∃ (I' : qI) (X' : qX), V I' X' ∧ o = k18 (nI (k + 6)) X' I') (fun _ => br_worth p_worth hk hL hV) (fun _ => ?_)
  refine u_ite (P := fun o => ∃ (I' : qI) (X' : qX), V I' X' ∧ o = k18 (nI (k + 6)) X' I') (fun _ => br_prove p_prove hk hL hV) (fun _ => ?_)
  refine u_ite (P := fun o => ∃ (I' : qI) (X' : qX), V I' X' ∧ o = k18 (nI (k + 6)) X' I') (fun _ => br_bound p_bound hk hL hV) (fun _ => ?_)
  refine u_ite (P := fun o => ∃ (I' : qI) (X' : qX), V I' X' ∧ o = k18 (nI (k + 6)) X' I') (fun _ => br_beside p_beside hk hL hV) (fun _ => ?_)
  refine u_ite (P := fun o => ∃ (I' : qI) (X' : qX), V I' X' ∧ o = k18 (nI (k + 6)) X' I') (fun _ => br_feed p_feed hk hL hV) (fun _ => ?_)
  refine u_ite (P := fun o => ∃ (I' : qI) (X' : qX), V I' X' ∧ o = k18 (nI (k + 6)) X' I') (fun _ => br_trim p_trim hk hL hV) (fun _ => ?_)
  refine u_ite (P := fun o => ∃ (I' : qI) (X' : qX), V I' X' ∧ o = k18 (nI (k + 6)) X' I') (fun _ => br_text p_text hk hL hV) (fun _ => ?_)
  refine u_ite (P := fun o => ∃ (I' : qI) (X' : qX), V I' X' ∧ o = k18 (nI (k + 6)) X' I') (fun _ => br_of p_of hk hL hV) (fun _ => ?_)
  refine u_ite (P := fun o => ∃ (I' : qI) (X' : qX), V I' X' ∧ o = k18 (nI (k + 6)) X' I') (fun _ => br_why p_why hk hL hV) (fun _ => ?_)
  refine u_ite (P := fun o => ∃ (I' : qI) (X' : qX), V I' X' ∧ o = k18 (nI (k + 6)) X' I') (fun _ => br_rules p_rules hk hL hV) (fun _ => ?_)
  refine u_ite (P := fun o => ∃ (I' : qI) (X' : qX), V I' X' ∧ o = k18 (nI (k + 6)) X' I') (fun _ => br_book p_book hk hL hV) (fun _ => ?_)
  refine u_ite (P := fun o => ∃ (I' : qI) (X' : qX), V I' X' ∧ o = k18 (nI (k + 6)) X' I') (fun _ => br_note p_note hk hL hV) (fun _ => ?_)
  refine u_ite (P := fun o => ∃ (I' : qI) (X' : qX), V I' X' ∧ o = k18 (nI (k + 6)) X' I') (fun _ => br_read p_read hk hL hV) (fun _ => ?_)
  refine u_ite (P := fun o => ∃ (I' : qI) (X' : qX), V I' X' ∧ o = k18 (nI (k + 6)) X' I') (fun _ => br_copy p_copy hk hL hV) (fun _ => ?_)
  refine u_ite (P := fun o => ∃ (I' : qI) (X' : qX), V I' X' ∧ o = k18 (nI (k + 6)) X' I') (fun _ => br_all p_all hk hL hV) (fun _ => ?_)
  refine u_ite (P := fun o => ∃ (I' : qI) (X' : qX), V I' X' ∧ o = k18 (nI (k + 6)) X' I') (fun _ => br_end p_end hk hL hV) (fun _ => ?_)
  refine u_ite (P := fun o => ∃ (I' : qI) (X' : qX), V I' X' ∧ o = k18 (nI (k + 6)) X' I') (fun _ => br_round p_round hk hL hV) (fun _ => ?_)
  refine u_ite (P := fun o => ∃ (I' : qI) (X' : qX), V I' X' ∧ o = k18 (nI (k + 6)) X' I') (fun _ => br_way p_way hk hL hV) (fun _ => ?_)
  refine u_ite (P := fun o => ∃ (I' : qI) (X' : qX), V I' X' ∧ o = k18 (nI (k + 6)) X' I') (fun _ => br_would p_would hk hL hV) (fun _ => ?_)
  refine u_ite (P := fun o => ∃ (I' : qI) (X' : qX), V I' X' ∧ o = k18 (nI (k + 6)) X' I') (fun _ => br_breach p_breach hk hL hV) (fun _ => ?_)
  refine u_ite (P := fun o => ∃ (I' : qI) (X' : qX), V I' X' ∧ o = k18 (nI (k + 6)) X' I') (fun _ => br_seen p_seen hk hL hV) (fun _ => ?_)
  refine u_ite (P := fun o => ∃ (I' : qI) (X' : qX), V I' X' ∧ o = k18 (nI (k + 6)) X' I') (fun _ => br_at p_at hk hL hV) (fun _ => ?_)
  refine u_ite (P := fun o => ∃ (I' : qI) (X' : qX), V I' X' ∧ o = k18 (nI (k + 6)) X' I') (fun _ => br_last p_last hk hL hV) (fun _ => ?_)
  refine u_ite (P := fun o => ∃ (I' : qI) (X' : qX), V I' X' ∧ o = k18 (nI (k + 6)) X' I') (fun _ => br_least p_least hk hL hV) (fun _ => ?_)
  refine u_ite (P := fun o => ∃ (I' : qI) (X' : qX), V I' X' ∧ o = k18 (nI (k + 6)) X' I') (fun _ => br_choice p_choice hk hL hV) (fun _ => ?_)
  refine u_ite (P := fun o => ∃ (I' : qI) (X' : qX), V I' X' ∧ o = k18 (nI (k + 6)) X' I') (fun _ => br_plan p_plan hk hL hV) (fun _ => ?_)
  refine u_ite (P := fun o => ∃ (I' : qI) (X' : qX), V I' X' ∧ o = k18 (nI (k + 6)) X' I') (fun _ => br_planned p_planned hk hL hV) (fun _ => ?_)
  refine u_ite (P := fun o => ∃ (I' : qI) (X' : qX), V I' X' ∧ o = k18 (nI (k + 6)) X' I') (fun _ => br_tell p_tell hk hL hV) (fun _ => ?_)
  refine u_ite (P := fun o => ∃ (I' : qI) (X' : qX), V I' X' ∧ o = k18 (nI (k + 6)) X' I') (fun _ => br_check p_check hk hL hV) (fun _ => ?_)
  refine u_ite (P := fun o => ∃ (I' : qI) (X' : qX), V I' X' ∧ o = k18 (nI (k + 6)) X' I') (fun _ => br_keep p_keep hk hL hV) (fun _ => ?_)
  refine u_ite (P := fun o => ∃ (I' : qI) (X' : qX), V I' X' ∧ o = k18 (nI (k + 6)) X' I') (fun _ => br_back p_back hk hL hV) (fun _ => ?_)
  refine u_ite (P := fun o => ∃ (I' : qI) (X' : qX), V I' X' ∧ o = k18 (nI (k + 6)) X' I') (fun _ => br_count p_count hk hL hV) (fun _ => ?_)
  exact ⟨I, X, hV, by rw [nI_add]⟩
theorem q_done {L k : Nat} {xs : Nat → Int32} {k18 : Int32 → qX → qI → Option (Int32 × qI × qX)} {X : qX} {I : qI} (hk : L < k + 6) (hL : L < 2 ^ 20) (hk2 : k < 2 ^ 20) : b_L_law_18 L xs k18 (nI k) X I = some (nI 1, I, X) := by
  unfold b_L_law_18
  rw [if_pos]
  by_cases h : 6 ≤ L
  · rw [u_sub h]; exact nI_lt (by omega) (by omega)
  · have h0 : nI L - nI 6 < 0 := by
      rcases (show L = 0 ∨ L = 1 ∨ L = 2 ∨ L = 3 ∨ L = 4 ∨ L = 5 by omega) with rfl | rfl | rfl | rfl | rfl | rfl <;> decide +kernel
    exact Int32.lt_of_lt_of_le h0 (nI_pos' (by omega))
theorem q_loop {V : qI → qX → Prop} (hp : q_Prs V) {L : Nat} {xs : Nat → Int32} (hL : L ≤ 3072) : ∀ (n k : Nat) (X : qX) (I : qI), k ≤ L → L + 6 ≤ k + 6 * n → V I X → ∃ z, q_fix (fun _ _ _ => none) (b_L_law_18 L xs) n (nI k) X I = some z ∧ z.1 = 1 := by
  intro n
  induction n with
  | zero => intro k X I h1 h2 _; omega
  | succ n ih =>
    intro k X I h1 h2 hV
    show ∃ z, b_L_law_18 L xs (q_fix (fun _ _ _ => none) (b_L_law_18 L xs) n) (nI k) X I = some z ∧ z.1 = 1
    by_cases hk : k + 6 ≤ L
    · obtain ⟨I', X', hV', e⟩ := q_turn (xs := xs) (k18 := q_fix (fun _ _ _ => none) (b_L_law_18 L xs) n) hp hk (by omega) hV
      rw [e]
      exact ih (k + 6) X' I' hk (by omega) hV'
    · rw [q_done (by omega) (by omega) (by omega)]
      exact ⟨_, rfl, show nI 1 = 1 by decide +kernel⟩
/-- LEVEL B: an invariant that holds at the start and that every pair keeps -/
theorem q_levelB {V : qI → qX → Prop} (hp : q_Prs V) (h0 : V q_z2.1 q_z2.2) (L : Nat) (xs : Nat → Int32) (hL : L ≤ 3072) : q_good L xs := by
  obtain ⟨z, h1, h2⟩ := q_loop (xs := xs) hp hL (L / 6 + 2) 0 q_z2.2 q_z2.1 (Nat.zero_le _) (by omega) h0
  exact q_good_of ⟨L / 6 + 2, z, by omega, by rw [← nI_0]; exact h1, h2⟩
