/-! LEVEL B: last, least: pits that strike -/
def om : Option Nat → Option Nat → Option Nat
  | none, y => y
  | some a, none => some a
  | some a, some b => some (min a b)
theorem om_n (x : Option Nat) : om x none = x := by cases x <;> rfl
theorem om_ac (a b c : Option Nat) : om (om a b) c = om (om a c) b := by
  cases a <;> cases b <;> cases c <;> simp [om, Nat.min_comm, Nat.min_assoc, Nat.min_left_comm]
def enc : Option Nat → Int32
  | none => -1
  | some d => nI d
def dys (t : Nat → Int32) (P m : Nat) : Nat := (cn t (80 + 24 * m + 3) + (if P = 0 then 0 else cn t (80 + 24 * m + 4) / P)) / cn t (80 + 24 * m + 2)
def pL (t : Nat → Int32) (P : Nat) : Nat → Nat → Option Nat
  | 0, _ => none
  | c + 1, p => if t (80 + 24 * c + 9) = 0 ∧ cn t (80 + 24 * c) = p then om (pL t P c p) (some (dys t P c)) else pL t P c p
def pD (t : Nat → Int32) : Nat → Nat → Nat
  | 0, _ => 0
  | c + 1, p => if t (80 + 24 * c + 9) = 0 ∧ cn t (80 + 24 * c) = p then pD t c p + cn t (80 + 24 * c + 1) * cn t (10 + 5 * p) else pD t c p
def fL (t : Nat → Int32) (P s c : Nat) : Nat → Option Nat
  | 0 => none
  | i + 1 => if s.testBit i = true then om (fL t P s c i) (pL t P c i) else fL t P s c i
def fD (t : Nat → Int32) (s c : Nat) : Nat → Nat
  | 0 => 0
  | i + 1 => if s.testBit i = true then fD t s c i else fD t s c i + pD t c i
def mL (t : Nat → Int32) (P s : Nat) : Nat → Option Nat
  | 0 => none
  | c + 1 => if t (80 + 24 * c + 9) = 0 ∧ s.testBit (cn t (80 + 24 * c)) = true then om (mL t P s c) (some (dys t P c)) else mL t P s c
def mD (t : Nat → Int32) (s : Nat) : Nat → Nat
  | 0 => 0
  | c + 1 => if t (80 + 24 * c + 9) = 0 ∧ s.testBit (cn t (80 + 24 * c)) = false then mD t s c + cn t (80 + 24 * c + 1) * cn t (10 + 5 * cn t (80 + 24 * c)) else mD t s c
theorem fL_0 (t : Nat → Int32) (P s : Nat) : ∀ i, fL t P s 0 i = none := by
  intro i
  induction i with
  | zero => rfl
  | succ i ih =>
    show (if _ then om (fL t P s 0 i) none else fL t P s 0 i) = none
    rw [ih]
    split <;> rfl
theorem fD_0 (t : Nat → Int32) (s : Nat) : ∀ i, fD t s 0 i = 0 := by
  intro i
  induction i with
  | zero => rfl
  | succ i ih =>
    show (if _ then fD t s 0 i else fD t s 0 i + 0) = 0
    rw [ih]
    split <;> rfl
theorem fL_s (t : Nat → Int32) (P s c : Nat) : ∀ i, fL t P s (c + 1) i = if t (80 + 24 * c + 9) = 0 ∧ s.testBit (cn t (80 + 24 * c)) = true ∧ cn t (80 + 24 * c) < i then om (fL t P s c i) (some (dys t P c)) else fL t P s c i := by
  intro i
  induction i with
  | zero => rw [if_neg (by omega)]; rfl
  | succ i ih =>
    show (if s.testBit i = true then om (fL t P s (c + 1) i) (if t (80 + 24 * c + 9) = 0 ∧ cn t (80 + 24 * c) = i then om (pL t P c i) (some (dys t P c)) else pL t P c i) else fL t P s (c + 1) i) = if _ then om (if s.testBit i = true then om (fL t P s c i) (pL t P c i) else fL t P s c i) (some (dys t P c)) else (if s.testBit i = true then om (fL t P s c i) (pL t P c i) else fL t P s c i)
    rw [ih]
    by_cases g : t (80 + 24 * c + 9) = 0
    rotate_left
    · simp [g]
    by_cases e : cn t (80 + 24 * c) = i
    · rw [if_pos (show t (80 + 24 * c + 9) = 0 ∧ cn t (80 + 24 * c) = i from ⟨g, e⟩), if_neg (show ¬ (t (80 + 24 * c + 9) = 0 ∧ s.testBit (cn t (80 + 24 * c)) = true ∧ cn t (80 + 24 * c) < i) from fun q => by omega)]
      by_cases b : s.testBit i = true
      · rw [if_pos b, if_pos b, if_pos (show t (80 + 24 * c + 9) = 0 ∧ s.testBit (cn t (80 + 24 * c)) = true ∧ cn t (80 + 24 * c) < i + 1 from ⟨g, by rw [e]; exact b, by omega⟩)]
        cases fL t P s c i <;> cases pL t P c i <;> simp [om, Nat.min_assoc]
      · rw [if_neg b, if_neg b, if_neg (fun q => b (e ▸ q.2.1))]
    · rw [if_neg (show ¬ (t (80 + 24 * c + 9) = 0 ∧ cn t (80 + 24 * c) = i) from fun q => e q.2)]
      by_cases l : s.testBit (cn t (80 + 24 * c)) = true ∧ cn t (80 + 24 * c) < i
      · rw [if_pos (show t (80 + 24 * c + 9) = 0 ∧ s.testBit (cn t (80 + 24 * c)) = true ∧ cn t (80 + 24 * c) < i from ⟨g, l⟩), if_pos (show t (80 + 24 * c + 9) = 0 ∧ s.testBit (cn t (80 + 24 * c)) = true ∧ cn t (80 + 24 * c) < i + 1 from ⟨g, l.1, by omega⟩)]
        by_cases b : s.testBit i = true
        · rw [if_pos b, if_pos b, om_ac]
        · rw [if_neg b, if_neg b]
      · rw [if_neg (show ¬ (t (80 + 24 * c + 9) = 0 ∧ s.testBit (cn t (80 + 24 * c)) = true ∧ cn t (80 + 24 * c) < i) from fun q => l q.2), if_neg (show ¬ (t (80 + 24 * c + 9) = 0 ∧ s.testBit (cn t (80 + 24 * c)) = true ∧ cn t (80 + 24 * c) < i + 1) from fun q => l ⟨q.2.1, by omega⟩)]
theorem fD_s (t : Nat → Int32) (s c : Nat) : ∀ i, fD t s (c + 1) i = if t (80 + 24 * c + 9) = 0 ∧ s.testBit (cn t (80 + 24 * c)) = false ∧ cn t (80 + 24 * c) < i then fD t s c i + cn t (80 + 24 * c + 1) * cn t (10 + 5 * cn t (80 + 24 * c)) else fD t s c i := by
  intro i
  induction i with
  | zero => rw [if_neg (by omega)]; rfl
  | succ i ih =>
    show (if s.testBit i = true then fD t s (c + 1) i else fD t s (c + 1) i + (if t (80 + 24 * c + 9) = 0 ∧ cn t (80 + 24 * c) = i then pD t c i + cn t (80 + 24 * c + 1) * cn t (10 + 5 * i) else pD t c i)) = if _ then (if s.testBit i = true then fD t s c i else fD t s c i + pD t c i) + _ else (if s.testBit i = true then fD t s c i else fD t s c i + pD t c i)
    rw [ih]
    by_cases g : t (80 + 24 * c + 9) = 0
    rotate_left
    · simp [g]
    by_cases e : cn t (80 + 24 * c) = i
    · rw [if_pos (show t (80 + 24 * c + 9) = 0 ∧ cn t (80 + 24 * c) = i from ⟨g, e⟩), if_neg (show ¬ (t (80 + 24 * c + 9) = 0 ∧ s.testBit (cn t (80 + 24 * c)) = false ∧ cn t (80 + 24 * c) < i) from fun q => by omega), e]
      by_cases b : s.testBit i = true
      · rw [if_pos b, if_pos b, if_neg (fun q => by rw [b] at q; exact absurd q.2.1 (by decide))]
      · rw [if_neg b, if_neg b, if_pos (show t (80 + 24 * c + 9) = 0 ∧ s.testBit i = false ∧ i < i + 1 from ⟨g, by simpa using b, by omega⟩)]; omega
    · rw [if_neg (show ¬ (t (80 + 24 * c + 9) = 0 ∧ cn t (80 + 24 * c) = i) from fun q => e q.2)]
      by_cases l : s.testBit (cn t (80 + 24 * c)) = false ∧ cn t (80 + 24 * c) < i
      · rw [if_pos (show t (80 + 24 * c + 9) = 0 ∧ s.testBit (cn t (80 + 24 * c)) = false ∧ cn t (80 + 24 * c) < i from ⟨g, l⟩), if_pos (show t (80 + 24 * c + 9) = 0 ∧ s.testBit (cn t (80 + 24 * c)) = false ∧ cn t (80 + 24 * c) < i + 1 from ⟨g, l.1, by omega⟩)]
        by_cases b : s.testBit i = true
        · rw [if_pos b, if_pos b]
        · rw [if_neg b, if_neg b]; omega
      · rw [if_neg (show ¬ (t (80 + 24 * c + 9) = 0 ∧ s.testBit (cn t (80 + 24 * c)) = false ∧ cn t (80 + 24 * c) < i) from fun q => l q.2), if_neg (show ¬ (t (80 + 24 * c + 9) = 0 ∧ s.testBit (cn t (80 + 24 * c)) = false ∧ cn t (80 + 24 * c) < i + 1) from fun q => l ⟨q.2.1, by omega⟩)]
theorem fL_m {X : qX} {v j : Nat} {I : qI} {t : Nat → Int32} (h : RV X v I t j) (P s : Nat) : ∀ c, c ≤ 12 → fL t P s c 8 = mL t P s c ∧ fD t s c 8 = mD t s c := by
  intro c
  induction c with
  | zero => exact fun _ => ⟨fL_0 t P s 8, fD_0 t s 8⟩
  | succ c ih =>
    intro hc
    obtain ⟨i1, i2⟩ := ih (by omega)
    have := (h.r_m0 (m := c) (by omega)).2.2
    rw [fL_s, fD_s, i1, i2]
    refine ⟨?_, ?_⟩
    · show _ = if _ then _ else _
      by_cases q : t (80 + 24 * c + 9) = 0 ∧ s.testBit (cn t (80 + 24 * c)) = true
      · rw [if_pos q, if_pos ⟨q.1, q.2, by omega⟩]
      · rw [if_neg q, if_neg (fun z => q ⟨z.1, z.2.1⟩)]
    · show _ = if _ then _ else _
      by_cases q : t (80 + 24 * c + 9) = 0 ∧ s.testBit (cn t (80 + 24 * c)) = false
      · rw [if_pos q, if_pos ⟨q.1, q.2, by omega⟩]
      · rw [if_neg q, if_neg (fun z => q ⟨z.1, z.2.1⟩)]
theorem dys_le {X : qX} {v j : Nat} {I : qI} {t : Nat → Int32} (h : RV X v I t j) {P m : Nat} (hm : m < 12) : dys t P m ≤ 199998 := by
  have a := (h.r_m3 (m := m) hm).2.2
  have b := (h.r_m4 (m := m) hm).2.2
  unfold dys
  refine Nat.le_trans (Nat.div_le_self _ _) ?_
  by_cases e : P = 0
  · rw [if_pos e]; omega
  · rw [if_neg e]
    have := Nat.div_le_self (cn t (80 + 24 * m + 4)) P
    omega
def sm (x : Option Nat) : Prop := ∀ d, x = some d → d ≤ 199998
theorem sm_om {x y : Option Nat} (hx : sm x) (hy : sm y) : sm (om x y) := by
  intro d hd
  cases x with
  | none => exact hy d hd
  | some a =>
    cases y with
    | none => exact hx d hd
    | some b =>
      have := hx a rfl
      have e : min a b = d := Option.some.inj hd
      omega
theorem pL_sm {X : qX} {v j : Nat} {I : qI} {t : Nat → Int32} (h : RV X v I t j) (P p : Nat) : ∀ c, c ≤ 12 → sm (pL t P c p) := by
  intro c
  induction c with
  | zero => intro _ d hd; cases hd
  | succ c ih =>
    intro hc
    show sm (if _ then _ else _)
    by_cases q : t (80 + 24 * c + 9) = 0 ∧ cn t (80 + 24 * c) = p
    · rw [if_pos q]
      exact sm_om (ih (by omega)) (fun d hd => by rw [← Option.some.inj hd]; exact dys_le h (by omega))
    · rw [if_neg q]; exact ih (by omega)
theorem mL_sm {X : qX} {v j : Nat} {I : qI} {t : Nat → Int32} (h : RV X v I t j) (P s : Nat) : ∀ c, c ≤ 12 → sm (mL t P s c) := by
  intro c
  induction c with
  | zero => intro _ d hd; cases hd
  | succ c ih =>
    intro hc
    show sm (if _ then _ else _)
    by_cases q : t (80 + 24 * c + 9) = 0 ∧ s.testBit (cn t (80 + 24 * c)) = true
    · rw [if_pos q]
      exact sm_om (ih (by omega)) (fun d hd => by rw [← Option.some.inj hd]; exact dys_le h (by omega))
    · rw [if_neg q]; exact ih (by omega)
theorem enc_neg {x : Option Nat} (h : sm x) : (0 ≤ enc x ↔ x ≠ none) ∧ (enc x < 0 ↔ x = none) := by
  cases x with
  | none => exact ⟨⟨fun q => absurd q (by decide), fun q => absurd rfl q⟩, fun _ => rfl, fun _ => by decide⟩
  | some a =>
    have := h a rfl
    refine ⟨⟨fun _ q => (by cases q), fun _ => ?_⟩, fun q => absurd q (nI_pos (by omega)), fun q => (by cases q)⟩
    show 0 ≤ nI a
    rw [← nI_0]; exact nI_le (Nat.zero_le _) (by omega)
theorem bts : ∀ s, s < 256 → ∀ p, p < 8 → ((nI s >>> (nI p &&& 31)) &&& nI 1) = if s.testBit p = true then nI 1 else nI 0 := by decide +kernel
