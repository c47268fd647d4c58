/-! LEVEL B: two heaps: I the class's, J the model's; a Valley at v in I against a row t -/
def inR (lo hi : Nat) (x : Int32) : Prop := ∃ k, x = nI k ∧ lo ≤ k ∧ k ≤ hi
def cn (t : Nat → Int32) (i : Nat) : Nat := (t i).toNatClampNeg
/-- ranges of the places of a row; true: -1 may stand there, too -/
def rgT (n : Nat) : Option (Bool × Nat × Nat) :=
  if n < 10 then ([(false, 0, 7099), (false, 0, 6), (false, 0, 12), (false, 0, 60), (false, 0, 12), (false, 0, 16), (false, 0, 8), (false, 0, 9999), (false, 0, 99999), (false, 0, 9999)] : List (Bool × Nat × Nat))[n]?
  else if n < 50 then if (n - 10) % 5 = 0 then some (false, 1, 99) else if (n - 10) % 5 = 1 then some (false, 1, 150) else none
  else if n < 74 then ([(false, 0, 1), (false, 0, 99), (false, 0, 99999), (false, 0, 99)] : List (Bool × Nat × Nat))[(n - 50) % 4]?
  else if n < 80 then none
  else if n < 368 then
    if (n - 80) % 24 < 12 then ([some (false, 0, 7), some (false, 0, 9), some (false, 0, 9), some (false, 0, 99999), some (false, 0, 99999), some (false, 0, 99999), some (false, 0, 9), none, none, some (false, 0, 1), some (false, 0, 59), some (false, 0, 59)] : List (Option (Bool × Nat × Nat))).getD ((n - 80) % 24) none
    else if (n - 80) % 24 < 18 then none else some (true, 0, 7099)
  else if n < 370 then none
  else if n < 850 then if (n - 370) % 8 = 0 then some (false, 0, 6) else if (n - 370) % 8 = 6 then some (true, 0, 11) else none
  else if n < 3250 then if (n - 850) % 200 = 0 then some (false, 0, 6) else if (n - 850) % 200 = 1 then some (false, 0, 6999) else none
  else if n < 3298 then some (false, 0, 1)
  else if n < 3300 then none
  else if n < 3348 then ([(false, 0, 3), (false, 0, 6), (false, 0, 6)] : List (Bool × Nat × Nat))[(n - 3300) % 3]?
  else if n < 3350 then none
  else if n < 3374 then ([(false, 0, 999), (false, 0, 99), (false, 0, 255)] : List (Bool × Nat × Nat))[(n - 3350) % 3]?
  else none
def rgS (n : Nat) (x : Int32) : Prop := match rgT n with
  | some (b, lo, hi) => (b = true ∧ x = -1) ∨ inR lo hi x
  | none => True
theorem rgS_f {n lo hi : Nat} {x : Int32} (h : rgT n = some (false, lo, hi)) : rgS n x ↔ inR lo hi x := by
  unfold rgS; rw [h]; simp
theorem rgS_t {n lo hi : Nat} {x : Int32} (h : rgT n = some (true, lo, hi)) : rgS n x ↔ x = -1 ∨ inR lo hi x := by
  unfold rgS; rw [h]; simp
theorem rgS_n {n : Nat} {x : Int32} (h : rgT n = none) : rgS n x := by
  unfold rgS; rw [h]; trivial
theorem rg_sc : rgT 0 = some (false, 0, 7099) ∧ rgT 1 = some (false, 0, 6) ∧ rgT 2 = some (false, 0, 12) ∧ rgT 3 = some (false, 0, 60) ∧ rgT 4 = some (false, 0, 12) ∧ rgT 5 = some (false, 0, 16) ∧ rgT 6 = some (false, 0, 8) ∧ rgT 7 = some (false, 0, 9999) ∧ rgT 8 = some (false, 0, 99999) ∧ rgT 9 = some (false, 0, 9999) := ⟨rfl, rfl, rfl, rfl, rfl, rfl, rfl, rfl, rfl, rfl⟩
/-- the places that bind others: what hangs together -/
def dr (n : Nat) : Bool := decide (n < 4) || decide (10 ≤ n ∧ n < 50 ∧ (n - 10) % 5 = 4) || decide (50 ≤ n ∧ n < 74 ∧ (n - 50) % 4 ≠ 2) || decide (80 ≤ n ∧ n < 368 ∧ ((n - 80) % 24 = 2 ∨ (n - 80) % 24 = 6 ∨ (n - 80) % 24 = 9 ∨ (n - 80) % 24 = 10 ∨ (n - 80) % 24 = 11)) || decide (370 ≤ n ∧ n < 850 ∧ ((n - 370) % 8 = 0 ∨ (n - 370) % 8 = 2 ∨ (n - 370) % 8 = 6))
def DD (t : Nat → Int32) (j : Nat) : Prop :=
  (cn t 1 ≤ 6 ∧ cn t 2 ≤ 12 ∧ cn t 3 ≤ 60) ∧
  (∀ m, m < cn t 2 → t (80 + 24 * m + 2) ≠ 0 ∧ cn t (80 + 24 * m + 10) < cn t 3 ∧ cn t (80 + 24 * m + 11) < cn t 3 ∧ t (370 + 8 * cn t (80 + 24 * m + 10)) = nI 1 ∧ t (370 + 8 * cn t (80 + 24 * m + 11)) = nI 6 ∧ (t (80 + 24 * m + 9) = 0 → cn t (80 + 24 * m + 6) ≤ 8)) ∧
  (∀ k, k < cn t 1 → t (50 + 4 * k + 1) ≠ 0 ∧ (t (50 + 4 * k) = 0 → t (50 + 4 * k + 3) = 0)) ∧
  (∀ d, d < cn t 3 → t (370 + 8 * d) ≠ 0 ∧ (t (370 + 8 * d + 6) ≠ -1 → cn t (370 + 8 * d + 6) < cn t 2) ∧ inR 0 (100000 + 120000 * cn t 0 + 10000 * j) (t (370 + 8 * d + 2)) ∧ (t (370 + 8 * d) = nI 1 ∨ t (370 + 8 * d) = nI 6 ∨ inR 0 999 (t (370 + 8 * d + 2)))) ∧
  (∀ p, p < 8 → inR 0 (108 * cn t 0 + 9 * j) (t (10 + 5 * p + 4)))
theorem upd_s {t : Nat → Int32} {n : Nat} {x : Int32} : upd t n x n = x := by simp [upd]
theorem upd_o {t : Nat → Int32} {n m : Nat} {x : Int32} (h : m ≠ n) : upd t n x m = t m := by simp [upd, h]
theorem cn_o {t : Nat → Int32} {n m : Nat} {x : Int32} (h : m ≠ n) : cn (upd t n x) m = cn t m := by unfold cn; rw [upd_o h]
theorem inR.le {lo hi hi' : Nat} {x : Int32} (h : inR lo hi x) (hh : hi ≤ hi') : inR lo hi' x := by
  obtain ⟨k, a, b, c⟩ := h
  exact ⟨k, a, b, Nat.le_trans c hh⟩
/-- a write where nothing else hangs -/
theorem DD.up {t : Nat → Int32} {j n : Nat} (h : DD t j) (hn : dr n = false) (x : Int32) : DD (upd t n x) j := by
  have key : ∀ m, dr m = true → m ≠ n := fun m h1 h2 => by subst h2; rw [hn] at h1; cases h1
  have q0 : 0 ≠ n := key 0 (by decide)
  have q1 : 1 ≠ n := key 1 (by decide)
  have q2 : 2 ≠ n := key 2 (by decide)
  have q3 : 3 ≠ n := key 3 (by decide)
  obtain ⟨h0, h1, h2, h3, h4⟩ := h
  unfold DD
  rw [cn_o q0, cn_o q1, cn_o q2, cn_o q3]
  refine ⟨h0, fun m hm => ?_, fun k hk => ?_, fun d hd => ?_, fun p hp => ?_⟩
  · have q := h1 m hm
    rw [upd_o (key _ (by simp [dr]; omega)), cn_o (key _ (by simp [dr]; omega)), cn_o (key _ (by simp [dr]; omega)), upd_o (key _ (by simp [dr]; omega)), upd_o (key _ (by simp [dr]; omega)), upd_o (key _ (by simp [dr]; omega)), cn_o (key _ (by simp [dr]; omega))]
    exact q
  · rw [upd_o (key _ (by simp [dr]; omega)), upd_o (key _ (by simp [dr]; omega)), upd_o (key _ (by simp [dr]; omega))]
    exact h2 k hk
  · rw [upd_o (key _ (by simp [dr]; omega)), upd_o (key _ (by simp [dr]; omega)), cn_o (key _ (by simp [dr]; omega)), upd_o (key _ (by simp [dr]; omega))]
    exact h3 d hd
  · rw [upd_o (key _ (by simp [dr]; omega))]
    exact h4 p hp
theorem DD.slack {t : Nat → Int32} {j j' : Nat} (h : DD t j) (hj : j ≤ j') : DD t j' := by
  obtain ⟨h0, h1, h2, h3, h4⟩ := h
  exact ⟨h0, h1, h2, fun d hd => ⟨(h3 d hd).1, (h3 d hd).2.1, (h3 d hd).2.2.1.le (by omega), (h3 d hd).2.2.2⟩, fun p hp => (h4 p hp).le (by omega)⟩
theorem DD.need {t : Nat → Int32} {j m : Nat} (h : DD t j) (hm : m < 12) (x : Int32) (hx : x ≠ 0) : DD (upd t (80 + 24 * m + 2) x) j := by
  obtain ⟨h0, h1, h2, h3, h4⟩ := h
  unfold DD
  rw [cn_o (by omega), cn_o (by omega), cn_o (by omega), cn_o (by omega)]
  refine ⟨h0, fun i hi => ⟨?_, ?_⟩, fun k hk => ?_, fun d hd => ?_, fun p hp => ?_⟩
  · by_cases e : i = m
    · rw [e, upd_s]; exact hx
    · rw [upd_o (by omega)]; exact (h1 i hi).1
  · have q := h1 i hi
    rw [cn_o (by omega), cn_o (by omega), upd_o (by omega), upd_o (by omega), upd_o (by omega), cn_o (by omega)]; exact q.2
  · rw [upd_o (by omega), upd_o (by omega), upd_o (by omega)]; exact h2 k hk
  · rw [upd_o (by omega), upd_o (by omega), cn_o (by omega), upd_o (by omega)]; exact h3 d hd
  · rw [upd_o (by omega)]; exact h4 p hp
theorem DD.hung {t : Nat → Int32} {j m : Nat} (h : DD t j) (hm : m < 12) (x : Int32) (hx : t (80 + 24 * m + 9) = 0 → x.toNatClampNeg ≤ 8) : DD (upd t (80 + 24 * m + 6) x) j := by
  obtain ⟨h0, h1, h2, h3, h4⟩ := h
  unfold DD
  rw [cn_o (by omega), cn_o (by omega), cn_o (by omega), cn_o (by omega)]
  refine ⟨h0, fun i hi => ?_, fun k hk => ?_, fun d hd => ?_, fun p hp => ?_⟩
  · have q := h1 i hi
    rw [upd_o (by omega), cn_o (by omega), cn_o (by omega), upd_o (by omega), upd_o (by omega), upd_o (by omega)]
    refine ⟨q.1, q.2.1, q.2.2.1, q.2.2.2.1, q.2.2.2.2.1, fun z => ?_⟩
    by_cases e : i = m
    · subst e
      unfold cn
      rw [upd_s]
      exact hx z
    · rw [cn_o (by omega)]; exact q.2.2.2.2.2 z
  · rw [upd_o (by omega), upd_o (by omega), upd_o (by omega)]; exact h2 k hk
  · rw [upd_o (by omega), upd_o (by omega), cn_o (by omega), upd_o (by omega)]; exact h3 d hd
  · rw [upd_o (by omega)]; exact h4 p hp
theorem DD.gone1 {t : Nat → Int32} {j m : Nat} (h : DD t j) (hm : m < 12) (x : Int32) (hx : x ≠ 0) : DD (upd t (80 + 24 * m + 9) x) j := by
  obtain ⟨h0, h1, h2, h3, h4⟩ := h
  unfold DD
  rw [cn_o (by omega), cn_o (by omega), cn_o (by omega), cn_o (by omega)]
  refine ⟨h0, fun i hi => ?_, fun k hk => ?_, fun d hd => ?_, fun p hp => ?_⟩
  · have q := h1 i hi
    rw [upd_o (by omega), cn_o (by omega), cn_o (by omega), upd_o (by omega), upd_o (by omega), cn_o (by omega)]
    refine ⟨q.1, q.2.1, q.2.2.1, q.2.2.2.1, q.2.2.2.2.1, fun z => ?_⟩
    by_cases e : i = m
    · subst e
      rw [upd_s] at z
      exact absurd z hx
    · rw [upd_o (by omega)] at z; exact q.2.2.2.2.2 z
  · rw [upd_o (by omega), upd_o (by omega), upd_o (by omega)]; exact h2 k hk
  · rw [upd_o (by omega), upd_o (by omega), cn_o (by omega), upd_o (by omega)]; exact h3 d hd
  · rw [upd_o (by omega)]; exact h4 p hp
theorem DD.price {t : Nat → Int32} {j q : Nat} (h : DD t j) (hq : q < 6) (x : Int32) (hx : x ≠ 0) : DD (upd t (50 + 4 * q + 1) x) j := by
  obtain ⟨h0, h1, h2, h3, h4⟩ := h
  unfold DD
  rw [cn_o (by omega), cn_o (by omega), cn_o (by omega), cn_o (by omega)]
  refine ⟨h0, fun i hi => ?_, fun k hk => ⟨?_, ?_⟩, fun d hd => ?_, fun p hp => ?_⟩
  · have z := h1 i hi
    rw [upd_o (by omega), cn_o (by omega), cn_o (by omega), upd_o (by omega), upd_o (by omega), upd_o (by omega), cn_o (by omega)]; exact z
  · by_cases e : k = q
    · rw [e, upd_s]; exact hx
    · rw [upd_o (by omega)]; exact (h2 k hk).1
  · rw [upd_o (by omega), upd_o (by omega)]; exact (h2 k hk).2
  · rw [upd_o (by omega), upd_o (by omega), cn_o (by omega), upd_o (by omega)]; exact h3 d hd
  · rw [upd_o (by omega)]; exact h4 p hp
theorem DD.amount {t : Nat → Int32} {j q : Nat} (h : DD t j) (hq : q < 60) (x : Int32) (hx : inR 0 (100000 + 120000 * cn t 0 + 10000 * j) x) (hx9 : t (370 + 8 * q) = nI 1 ∨ t (370 + 8 * q) = nI 6 ∨ inR 0 999 x) : DD (upd t (370 + 8 * q + 2) x) j := by
  obtain ⟨h0, h1, h2, h3, h4⟩ := h
  unfold DD
  rw [cn_o (by omega), cn_o (by omega), cn_o (by omega), cn_o (by omega)]
  refine ⟨h0, fun i hi => ?_, fun k hk => ?_, fun d hd => ⟨?_, ?_, ?_, ?_⟩, fun p hp => ?_⟩
  · have z := h1 i hi
    rw [upd_o (by omega), cn_o (by omega), cn_o (by omega), upd_o (by omega), upd_o (by omega), upd_o (by omega), cn_o (by omega)]; exact z
  · rw [upd_o (by omega), upd_o (by omega), upd_o (by omega)]; exact h2 k hk
  · rw [upd_o (by omega)]; exact (h3 d hd).1
  · rw [upd_o (by omega), cn_o (by omega)]; exact (h3 d hd).2.1
  · by_cases e : d = q
    · rw [e, upd_s]; exact hx
    · rw [upd_o (by omega)]; exact (h3 d hd).2.2.1
  · rw [upd_o (show 370 + 8 * d ≠ 370 + 8 * q + 2 by omega)]
    by_cases e : d = q
    · rw [e, upd_s]; exact hx9
    · rw [upd_o (by omega)]; exact (h3 d hd).2.2.2
  · rw [upd_o (by omega)]; exact h4 p hp
theorem DD.tubs {t : Nat → Int32} {j q : Nat} (h : DD t j) (hq : q < 8) (x : Int32) (hx : inR 0 (108 * cn t 0 + 9 * j) x) : DD (upd t (10 + 5 * q + 4) x) j := by
  obtain ⟨h0, h1, h2, h3, h4⟩ := h
  unfold DD
  rw [cn_o (by omega), cn_o (by omega), cn_o (by omega), cn_o (by omega)]
  refine ⟨h0, fun i hi => ?_, fun k hk => ?_, fun d hd => ?_, fun p hp => ?_⟩
  · have z := h1 i hi
    rw [upd_o (by omega), cn_o (by omega), cn_o (by omega), upd_o (by omega), upd_o (by omega), upd_o (by omega), cn_o (by omega)]; exact z
  · rw [upd_o (by omega), upd_o (by omega), upd_o (by omega)]; exact h2 k hk
  · rw [upd_o (by omega), upd_o (by omega), cn_o (by omega), upd_o (by omega)]; exact h3 d hd
  · by_cases e : p = q
    · rw [e, upd_s]; exact hx
    · rw [upd_o (by omega)]; exact h4 p hp
/-- places of a due that is not there yet -/
theorem DD.newDue {t : Nat → Int32} {j n : Nat} (h : DD t j) (h1 : 370 + 8 * cn t 3 ≤ n) (h2 : n < 850) (x : Int32) : DD (upd t n x) j := by
  obtain ⟨h0, k1, k2, k3, k4⟩ := h
  unfold DD
  rw [cn_o (by omega), cn_o (by omega), cn_o (by omega), cn_o (by omega)]
  refine ⟨h0, fun i hi => ?_, fun k hk => ?_, fun d hd => ?_, fun p hp => ?_⟩
  · have q := k1 i hi
    rw [upd_o (by omega), cn_o (by omega), cn_o (by omega), upd_o (by omega), upd_o (by omega), upd_o (by omega), cn_o (by omega)]; exact q
  · rw [upd_o (by omega), upd_o (by omega), upd_o (by omega)]; exact k2 k hk
  · rw [upd_o (by omega), upd_o (by omega), cn_o (by omega), upd_o (by omega)]; exact k3 d hd
  · rw [upd_o (by omega)]; exact k4 p hp
/-- places of a shop, a man that is not there yet -/
theorem DD.newShop {t : Nat → Int32} {j n : Nat} (h : DD t j) (h1 : 50 + 4 * cn t 1 ≤ n) (h2 : n < 80) (x : Int32) : DD (upd t n x) j := by
  obtain ⟨h0, k1, k2, k3, k4⟩ := h
  unfold DD
  rw [cn_o (by omega), cn_o (by omega), cn_o (by omega), cn_o (by omega)]
  refine ⟨h0, fun i hi => ?_, fun k hk => ?_, fun d hd => ?_, fun p hp => ?_⟩
  · have q := k1 i hi
    rw [upd_o (by omega), cn_o (by omega), cn_o (by omega), upd_o (by omega), upd_o (by omega), upd_o (by omega), cn_o (by omega)]; exact q
  · rw [upd_o (by omega), upd_o (by omega), upd_o (by omega)]; exact k2 k hk
  · rw [upd_o (by omega), upd_o (by omega), cn_o (by omega), upd_o (by omega)]; exact k3 d hd
  · rw [upd_o (by omega)]; exact k4 p hp
theorem DD.newMan {t : Nat → Int32} {j n : Nat} (h : DD t j) (h1 : 80 + 24 * cn t 2 ≤ n) (h2 : n < 370) (x : Int32) : DD (upd t n x) j := by
  obtain ⟨h0, k1, k2, k3, k4⟩ := h
  unfold DD
  rw [cn_o (by omega), cn_o (by omega), cn_o (by omega), cn_o (by omega)]
  refine ⟨h0, fun i hi => ?_, fun k hk => ?_, fun d hd => ?_, fun p hp => ?_⟩
  · have q := k1 i hi
    rw [upd_o (by omega), cn_o (by omega), cn_o (by omega), upd_o (by omega), upd_o (by omega), upd_o (by omega), cn_o (by omega)]; exact q
  · rw [upd_o (by omega), upd_o (by omega), upd_o (by omega)]; exact k2 k hk
  · rw [upd_o (by omega), upd_o (by omega), cn_o (by omega), upd_o (by omega)]; exact k3 d hd
  · rw [upd_o (by omega)]; exact k4 p hp
/-- holders: the class says NONE where the model says -1 -/
def HL (v : Nat) (I : qI) (t : Nat → Int32) : Prop := ∀ d, d < cn t 3 → I (v + 34) d = if t (370 + 8 * d + 6) = -1 then -1000000005 else t (370 + 8 * d + 6)
def FR (v : Nat) (I : qI) (t : Nat → Int32) : Prop := ∀ m, cn t 2 ≤ m → m < 12 → (∀ w, w < 24 → t (80 + 24 * m + w) = 0) ∧ ∀ k, k < 6 → I (v + 26) (6 * m + k) = -1
/-- the letters of a key's names -/
def nmL (key i : Nat) : Nat := (([[116, 115], [101], [119], [108, 119], [97, 98], [98, 100], [109, 112, 116]] : List (List Nat)).getD key []).getD i 0
def nmN (key : Nat) : Nat := ([2, 1, 1, 2, 2, 2, 3] : List Nat).getD key 0
def isOp (y : Nat) : Prop := y = 124 ∨ y = 38 ∨ y = 60 ∨ y = 61 ∨ y = 62 ∨ y = 43 ∨ y = 45 ∨ y = 42 ∨ y = 47
/-- an op of the class's code (x), a step of the model's (w, y); the depth goes from d to e -/
def stR (key : Nat) (x w y : Int32) (d e : Nat) : Prop :=
  (∃ k, k ≤ 9999 ∧ x = nI k ∧ w = nI 0 ∧ y = nI k ∧ e = d + 1) ∨
  (∃ i, i < nmN key ∧ x = nI (10000 + i) ∧ w = nI 1 ∧ y = nI (nmL key i) ∧ e = d + 1) ∨
  (x = -33 ∧ w = nI 2 ∧ y = nI 33 ∧ 1 ≤ d ∧ e = d) ∨
  (∃ s, isOp s ∧ x = - nI s ∧ w = nI 2 ∧ y = nI s ∧ 2 ≤ d ∧ e + 1 = d)
/-- a code of L ops against the steps, well formed -/
def wfc (key L : Nat) (c s : Nat → Int32) (d : Nat → Nat) : Prop := d 0 = 0 ∧ ∀ k, k < L → stR key (c k) (s (2 * k)) (s (2 * k + 1)) (d k) (d (k + 1))
def TX (X : qX) (v : Nat) (I : qI) (t : Nat → Int32) : Prop := ∀ i, i < cn t 4 → ∃ a L d, X.1 (v + 40) i = some a ∧ 287 ≤ a ∧ q_kd X a = some (0, L) ∧ L ≤ 96 ∧ t (850 + 200 * i + 3) = nI L ∧ d L = 1 ∧ wfc (cn t (850 + 200 * i)) L (I a) (fun k => t (850 + 200 * i + 4 + k)) d
/-- the trial alone may go past day 6999 -/
def rgV (v n : Nat) (x : Int32) : Prop := rgS n x ∧ (n = 0 → v ≤ 130 → inR 0 6999 x)
def RV (X : qX) (v : Nat) (I : qI) (t : Nat → Int32) (j : Nat) : Prop := VA (Ph (cn t 2)) v t I ∧ FR v I t ∧ (∀ n, rgV v n (t n)) ∧ DD t j ∧ HL v I t ∧ TX X v I t
def vq_34b (n : Nat) : Bool := match vq n with
  | some (o, _) => o != 34 && o != 40 && o != 41
  | none => true
theorem vq_34a : (List.range 3580).all vq_34b = true := by decide +kernel
theorem vq_34 {n o j : Nat} (h : vq n = some (o, j)) : o ≠ 34 ∧ o ≠ 40 ∧ o ≠ 41 := by
  by_cases hn : n < 3580
  · have h1 := List.all_eq_true.mp vq_34a n (List.mem_range.mpr hn)
    unfold vq_34b at h1
    rw [h] at h1
    simp at h1
    exact ⟨h1.1.1, h1.1.2, h1.2⟩
  · rw [vq_hi hn] at h; cases h
def vq_6b (n : Nat) : Bool := match vq n with
  | some _ => !decide (370 ≤ n ∧ n < 850 ∧ (n - 370) % 8 = 6)
  | none => true
theorem vq_6a : (List.range 3580).all vq_6b = true := by decide +kernel
theorem vq_6 {n o j : Nat} (h : vq n = some (o, j)) : ¬ (370 ≤ n ∧ n < 850 ∧ (n - 370) % 8 = 6) := by
  by_cases hn : n < 3580
  · have h1 := List.all_eq_true.mp vq_6a n (List.mem_range.mpr hn)
    unfold vq_6b at h1
    rw [h] at h1
    intro q
    rw [decide_eq_true q] at h1
    cases h1
  · omega
/-- a paired write at a plain place -/
theorem RV.up {X : qX} {v : Nat} {I : qI} {t : Nat → Int32} {j j' : Nat} (h : RV X v I t j) (hv : v ≤ 195) {n o i : Nat} {x : Int32} (hn : vq n = some (o, i)) (hr : rgS n x) (hD : DD (upd t n x) j') (h2 : n ≠ 2 ∧ n ≠ 3 ∧ n ≠ 4) (ht : n < 850 ∨ 3250 ≤ n) (hm : ∀ m, cn t 2 ≤ m → m < 12 → n < 80 + 24 * m ∨ 80 + 24 * m + 24 ≤ n) (h0 : n = 0 → v ≤ 130 → inR 0 6999 x := by omega) : RV X v (q_up I (v + o) i x) (upd t n x) j' := by
  obtain ⟨hA, hF, hR, hD0, hH, hT⟩ := h
  have hc2 : cn (upd t n x) 2 = cn t 2 := cn_o (Ne.symm h2.1)
  have hc3 : cn (upd t n x) 3 = cn t 3 := cn_o (Ne.symm h2.2.1)
  have hc4 : cn (upd t n x) 4 = cn t 4 := cn_o (Ne.symm h2.2.2)
  have ho := (vq_c hn).2
  obtain ⟨o34, -, -⟩ := vq_34 hn
  have n6 := vq_6 hn
  refine ⟨?_, ?_, ?_, hD, ?_, ?_⟩
  · rw [hc2]; exact hA.up hn x
  · intro m h1 h3
    rw [hc2] at h1
    refine ⟨fun w hw => ?_, fun k hk => ?_⟩
    · rw [← (hF m h1 h3).1 w hw]
      exact upd_o (by have := hm m h1 h3; omega)
    · rw [← (hF m h1 h3).2 k hk]
      by_cases e : v + 26 = v + o
      · have eo : o = 26 := by omega
        subst eo
        refine u_up_j ?_
        intro e2
        subst e2
        have q1 := vq_heard m h3 k hk
        have := vq_inj hn q1
        have := hm m h1 h3
        omega
      · exact u_up_a e
  · intro m
    by_cases e : m = n
    · rw [e, upd_s]; exact ⟨hr, h0⟩
    · rw [upd_o e]; exact hR m
  · intro d hd
    rw [hc3] at hd
    have : d < 60 := Nat.lt_of_lt_of_le hd hD0.1.2.2
    rw [upd_o (show 370 + 8 * d + 6 ≠ n by omega), u_up_a (show v + 34 ≠ v + o by omega)]
    exact hH d hd
  · intro k hk
    rw [hc4] at hk
    obtain ⟨a, L, d, e1, e2, e3, e4, e5, e6, e7⟩ := hT k hk
    have e8 := (hR 4).1
    rw [rgS_f rg_sc.2.2.2.2.1] at e8
    obtain ⟨c, e9, -, e10⟩ := e8
    have e11 : cn t 4 = c := by unfold cn; rw [e9]; exact nI_clamp (by omega)
    refine ⟨a, L, d, e1, e2, e3, e4, ?_, e6, ?_⟩
    · rw [upd_o (by omega)]; exact e5
    · rw [cn_o (show 850 + 200 * k ≠ n by omega)]
      refine ⟨e7.1, fun q hq => ?_⟩
      have := e7.2 q hq
      rw [u_up_a (show a ≠ v + o by omega)]
      simp only at this ⊢
      rw [upd_o (by omega), upd_o (by omega)]
      exact this
