/-! LEVEL B: the tape's tokens, in both -/
theorem up_up {I : qI} {a j : Nat} {x y : Int32} : q_up (q_up I a j x) a j y = q_up I a j y := by
  funext b k
  by_cases e : b = a
  · subst e
    by_cases e2 : k = j
    · subst e2; rw [u_up_same, u_up_same]
    · rw [u_up_j e2, u_up_j e2, u_up_j e2]
  · rw [u_up_a e, u_up_a e, u_up_a e]
/-- the end of a run -/
def sk (P : Int32 → Bool) (T : Nat → Int32) : Nat → Nat → Nat
  | 0, i => i
  | r + 1, i => if P (T i) = true then sk P T r (i + 1) else i
theorem sk_le {P : Int32 → Bool} {T : Nat → Int32} : ∀ r i, i ≤ sk P T r i ∧ sk P T r i ≤ i + r := by
  intro r
  induction r with
  | zero => intro i; exact ⟨Nat.le_refl _, Nat.le_refl _⟩
  | succ r ih =>
    intro i
    show i ≤ (if P (T i) = true then sk P T r (i + 1) else i) ∧ (if P (T i) = true then sk P T r (i + 1) else i) ≤ i + (r + 1)
    have := ih (i + 1)
    by_cases c : P (T i) = true
    · rw [if_pos c]; omega
    · rw [if_neg c]; omega
theorem sk_all {P : Int32 → Bool} {T : Nat → Int32} : ∀ r i j, i ≤ j → j < sk P T r i → P (T j) = true := by
  intro r
  induction r with
  | zero => intro i j h1 h2; exact absurd (show j < i from h2) (by omega)
  | succ r ih =>
    intro i j h1 h2
    have h3 : j < (if P (T i) = true then sk P T r (i + 1) else i) := h2
    by_cases c : P (T i) = true
    · rw [if_pos c] at h3
      by_cases e : j = i
      · rw [e]; exact c
      · exact ih (i + 1) j (by omega) h3
    · rw [if_neg c] at h3; omega
theorem sk_1 {P : Int32 → Bool} {T : Nat → Int32} {r i : Nat} (h : P (T i) = true) : i < sk P T (r + 1) i := by
  show i < (if P (T i) = true then sk P T r (i + 1) else i)
  rw [if_pos h]
  have := sk_le (P := P) (T := T) r (i + 1)
  omega
def isSp (x : Int32) : Bool := decide (x = nI 32)
def isLt (x : Int32) : Bool := decide (nI 97 ≤ x ∧ x ≤ nI 122)
def isDg (x : Int32) : Bool := decide (nI 48 ≤ x ∧ x ≤ nI 57)
theorem cLet (x : Int32) : f_X5_isLetter x = some (if isLt x = true then nI 1 else nI 0) := by
  unfold f_X5_isLetter isLt
  by_cases a : x < nI 97
  · rw [if_pos a, if_neg (fun q => by have := of_decide_eq_true q; exact absurd a (Int32.not_lt.mpr this.1))]
  by_cases b : nI 122 < x
  · rw [if_neg a, if_pos b, if_neg (fun q => by have := of_decide_eq_true q; exact absurd b (Int32.not_lt.mpr this.2))]
  · rw [if_neg a, if_neg b, if_pos (decide_eq_true ⟨Int32.not_lt.mp a, Int32.not_lt.mp b⟩)]
theorem cDig (x : Int32) : f_X5_isDigit x = some (if isDg x = true then nI 1 else nI 0) := by
  unfold f_X5_isDigit isDg
  by_cases a : x < nI 48
  · rw [if_pos a, if_neg (fun q => by have := of_decide_eq_true q; exact absurd a (Int32.not_lt.mpr this.1))]
  by_cases b : nI 57 < x
  · rw [if_neg a, if_pos b, if_neg (fun q => by have := of_decide_eq_true q; exact absurd b (Int32.not_lt.mpr this.2))]
  · rw [if_neg a, if_neg b, if_pos (decide_eq_true ⟨Int32.not_lt.mp a, Int32.not_lt.mp b⟩)]
theorem mLet {J : qI} {n i : Nat} (hn : n ≤ 96) (h14 : J 269 14 = nI n) (hi : i < n) : f_X12_isLetter 269 (nI i) J = some (if isLt (J 276 i) = true then nI 1 else nI 0) := by
  unfold f_X12_isLetter isLt
  rw [h14, if_neg (nI_ge hi (by omega)), u_rd (show i < 96 by omega) (by decide), u_s1, ii_97_122, u_s1, show J (269 + 7) i = J 276 i from rfl]
  by_cases c : nI 97 ≤ J 276 i ∧ J 276 i ≤ nI 122
  · rw [if_pos c, if_neg u_one, if_pos (decide_eq_true c)]
  · rw [if_neg c, if_pos rfl, if_neg (fun q => c (of_decide_eq_true q))]
theorem mDig {J : qI} {n i : Nat} (hn : n ≤ 96) (h14 : J 269 14 = nI n) (hi : i < n) : f_X12_isDigit 269 (nI i) J = some (if isDg (J 276 i) = true then nI 1 else nI 0) := by
  unfold f_X12_isDigit isDg
  rw [h14, if_neg (nI_ge hi (by omega)), u_rd (show i < 96 by omega) (by decide), u_s1, ii_48_57, u_s1, show J (269 + 7) i = J 276 i from rfl]
  by_cases c : nI 48 ≤ J 276 i ∧ J 276 i ≤ nI 57
  · rw [if_pos c, if_neg u_one, if_pos (decide_eq_true c)]
  · rw [if_neg c, if_pos rfl, if_neg (fun q => c (of_decide_eq_true q))]
theorem mLet0 {J : qI} {n : Nat} (h14 : J 269 14 = nI n) : f_X12_isLetter 269 (nI n) J = some (nI 0) := by
  unfold f_X12_isLetter
  rw [h14, if_pos (Int32.le_refl _)]
theorem mDig0 {J : qI} {n : Nat} (h14 : J 269 14 = nI n) : f_X12_isDigit 269 (nI n) J = some (nI 0) := by
  unfold f_X12_isDigit
  rw [h14, if_pos (Int32.le_refl _)]
theorem nI1 : ¬ nI 1 = (0 : Int32) := by decide +kernel
/-- spaces, in the class -/
theorem c33 {T : Nat → Int32} {I : qI} {n : Nat} {x1 : Int32} (hn : n ≤ 96) (hT : I 261 = T) (h6 : I 260 6 = nI n) : ∀ r f i, i + r = n → r < f → q_fix (fun _ _ => none) (b_X5_goOn_33 260) f x1 (q_up I 260 4 (nI i)) = b_X5_goOn_71 260 x1 (q_up I 260 4 (nI (sk isSp T r i))) := by
  intro r
  induction r with
  | zero =>
    intro f i h1 h2
    obtain ⟨f, rfl⟩ : ∃ z, f = z + 1 := ⟨f - 1, by omega⟩
    have e : i = n := by omega
    subst e
    show b_X5_goOn_33 260 (q_fix (fun _ _ => none) (b_X5_goOn_33 260) f) x1 (q_up I 260 4 (nI i)) = b_X5_goOn_71 260 x1 (q_up I 260 4 (nI i))
    unfold b_X5_goOn_33
    rw [u_up_j (by decide), h6, u_up_same, if_pos (Int32.le_refl _)]
  | succ r ih =>
    intro f i h1 h2
    obtain ⟨f, rfl⟩ : ∃ z, f = z + 1 := ⟨f - 1, by omega⟩
    have ih' := ih f (i + 1) (by omega) (by omega)
    show b_X5_goOn_33 260 (q_fix (fun _ _ => none) (b_X5_goOn_33 260) f) x1 (q_up I 260 4 (nI i)) = b_X5_goOn_71 260 x1 (q_up I 260 4 (nI (if isSp (T i) = true then sk isSp T r (i + 1) else i)))
    generalize q_fix (fun _ _ => none) (b_X5_goOn_33 260) f = KC at ih' ⊢
    unfold b_X5_goOn_33
    rw [u_up_j (by decide), h6, u_up_same, if_neg (nI_ge (by omega) (by omega)), u_rd (show i < 96 by omega) (by decide), u_s1, u_up_a (by decide), show I (260 + 1) i = T i by rw [← hT], u_s1, up_up, nI_add]
    by_cases c : T i = nI 32
    · rw [if_pos c, if_pos (show isSp (T i) = true from decide_eq_true c)]; exact ih'
    · rw [if_neg c, if_neg (show ¬ isSp (T i) = true from fun q => c (of_decide_eq_true q))]
theorem c113 {T : Nat → Int32} {I : qI} {n : Nat} {x1 : Int32} (hn : n ≤ 96) (hT : I 261 = T) (h6 : I 260 6 = nI n) : ∀ r f i, i + r = n → r < f → q_fix (fun _ _ => none) (b_X5_goOn_113 260) f x1 (q_up I 260 5 (nI i)) = b_X5_goOn_152 260 x1 (q_up I 260 5 (nI (sk isLt T r i))) := by
  intro r
  induction r with
  | zero =>
    intro f i h1 h2
    obtain ⟨f, rfl⟩ : ∃ z, f = z + 1 := ⟨f - 1, by omega⟩
    have e : i = n := by omega
    subst e
    show b_X5_goOn_113 260 (q_fix (fun _ _ => none) (b_X5_goOn_113 260) f) x1 (q_up I 260 5 (nI i)) = b_X5_goOn_152 260 x1 (q_up I 260 5 (nI i))
    unfold b_X5_goOn_113
    rw [u_up_j (by decide), h6, u_up_same, if_pos (Int32.le_refl _)]
  | succ r ih =>
    intro f i h1 h2
    obtain ⟨f, rfl⟩ : ∃ z, f = z + 1 := ⟨f - 1, by omega⟩
    have ih' := ih f (i + 1) (by omega) (by omega)
    show b_X5_goOn_113 260 (q_fix (fun _ _ => none) (b_X5_goOn_113 260) f) x1 (q_up I 260 5 (nI i)) = b_X5_goOn_152 260 x1 (q_up I 260 5 (nI (if isLt (T i) = true then sk isLt T r (i + 1) else i)))
    generalize q_fix (fun _ _ => none) (b_X5_goOn_113 260) f = KC at ih' ⊢
    unfold b_X5_goOn_113
    rw [u_up_j (by decide), h6, u_up_same, if_neg (nI_ge (by omega) (by omega)), u_rd (show i < 96 by omega) (by decide), u_s1, u_up_a (by decide), show I (260 + 1) i = T i by rw [← hT], cLet, u_s1, u_s1, up_up, nI_add]
    by_cases c : isLt (T i) = true
    · rw [if_pos c, if_neg nI1, if_pos c]; exact ih'
    · rw [if_neg c, if_pos nI_0, if_neg c]
theorem c175 {T : Nat → Int32} {I : qI} {n : Nat} {x1 : Int32} (hn : n ≤ 96) (hT : I 261 = T) (h6 : I 260 6 = nI n) : ∀ r f i, i + r = n → r < f → q_fix (fun _ _ => none) (b_X5_goOn_175 260) f x1 (q_up I 260 5 (nI i)) = b_X5_goOn_214 260 x1 (q_up I 260 5 (nI (sk isDg T r i))) := by
  intro r
  induction r with
  | zero =>
    intro f i h1 h2
    obtain ⟨f, rfl⟩ : ∃ z, f = z + 1 := ⟨f - 1, by omega⟩
    have e : i = n := by omega
    subst e
    show b_X5_goOn_175 260 (q_fix (fun _ _ => none) (b_X5_goOn_175 260) f) x1 (q_up I 260 5 (nI i)) = b_X5_goOn_214 260 x1 (q_up I 260 5 (nI i))
    unfold b_X5_goOn_175
    rw [u_up_j (by decide), h6, u_up_same, if_pos (Int32.le_refl _)]
  | succ r ih =>
    intro f i h1 h2
    obtain ⟨f, rfl⟩ : ∃ z, f = z + 1 := ⟨f - 1, by omega⟩
    have ih' := ih f (i + 1) (by omega) (by omega)
    show b_X5_goOn_175 260 (q_fix (fun _ _ => none) (b_X5_goOn_175 260) f) x1 (q_up I 260 5 (nI i)) = b_X5_goOn_214 260 x1 (q_up I 260 5 (nI (if isDg (T i) = true then sk isDg T r (i + 1) else i)))
    generalize q_fix (fun _ _ => none) (b_X5_goOn_175 260) f = KC at ih' ⊢
    unfold b_X5_goOn_175
    rw [u_up_j (by decide), h6, u_up_same, if_neg (nI_ge (by omega) (by omega)), u_rd (show i < 96 by omega) (by decide), u_s1, u_up_a (by decide), show I (260 + 1) i = T i by rw [← hT], cDig, u_s1, u_s1, up_up, nI_add]
    by_cases c : isDg (T i) = true
    · rw [if_pos c, if_neg nI1, if_pos c]; exact ih'
    · rw [if_neg c, if_pos nI_0, if_neg c]
/-- where the next token begins, where it ends, its kind (b: it hangs on the one before) -/
def lxP (T : Nat → Int32) (n q : Nat) : Nat := sk isSp T (n - q) q
def lxE (T : Nat → Int32) (n p : Nat) : Nat := if n ≤ p then p else if isLt (T p) = true then sk isLt T (n - p) p else if isDg (T p) = true then sk isDg T (n - p) p else p + 1
def lxK (T : Nat → Int32) (n p : Nat) (b : Prop) [Decidable b] : Nat := if n ≤ p then 0 else if isLt (T p) = true then (if b then 4 else 1) else if isDg (T p) = true then (if b ∨ 4 < lxE T n p - p then 4 else 2) else 3
theorem lxP_le {T : Nat → Int32} {n q : Nat} (h : q ≤ n) : q ≤ lxP T n q ∧ lxP T n q ≤ n := by
  have := sk_le (P := isSp) (T := T) (n - q) q
  unfold lxP
  omega
theorem lxE_le {T : Nat → Int32} {n p : Nat} (h : p ≤ n) : p ≤ lxE T n p ∧ lxE T n p ≤ n ∧ (p < n → p < lxE T n p) := by
  unfold lxE
  by_cases c : n ≤ p
  · rw [if_pos c]; omega
  rw [if_neg c]
  obtain ⟨r, hr⟩ : ∃ r, n - p = r + 1 := ⟨n - p - 1, by omega⟩
  by_cases c1 : isLt (T p) = true
  · rw [if_pos c1, hr]
    have := sk_le (P := isLt) (T := T) (r + 1) p
    have := sk_1 (r := r) c1
    omega
  rw [if_neg c1]
  by_cases c2 : isDg (T p) = true
  · rw [if_pos c2, hr]
    have := sk_le (P := isDg) (T := T) (r + 1) p
    have := sk_1 (r := r) c2
    omega
  rw [if_neg c2]
  omega
/-- what the class's goOn leaves -/
def gI (I : qI) (p e k : Nat) : qI := q_up (q_up (q_up I 260 4 (nI p)) 260 5 (nI e)) 260 3 (nI k)
theorem gI_o {I : qI} {p e k : Nat} : (∀ a, a ≠ 260 → gI I p e k a = I a) ∧ (∀ i, (i < 3 ∨ 5 < i) → gI I p e k 260 i = I 260 i) ∧ gI I p e k 260 4 = nI p ∧ gI I p e k 260 5 = nI e ∧ gI I p e k 260 3 = nI k := by
  unfold gI
  refine ⟨fun a ha => ?_, fun i hi => ?_, ?_, ?_, ?_⟩
  · funext i; rw [u_up_a ha, u_up_a ha, u_up_a ha]
  · rw [u_up_j (by omega), u_up_j (by omega), u_up_j (by omega)]
  · rw [u_up_j (by decide), u_up_j (by decide), u_up_same]
  · rw [u_up_j (by decide), u_up_same]
  · rw [u_up_same]
theorem c254 {I : qI} {p e k : Nat} {x1 : Int32} {b : Prop} [Decidable b] (hb : nI p = x1 ↔ b) (hk : k ≤ 4) : b_X5_goOn_254 260 x1 (gI I p e k) = some (gI I p e (if b ∧ (k = 1 ∨ k = 2) then 4 else k)) := by
  unfold b_X5_goOn_254 b_X5_goOn_278
  obtain ⟨-, -, h4, -, h3⟩ := gI_o (I := I) (p := p) (e := e) (k := k)
  rw [h4, h3]
  have ee : q_up (gI I p e k) 260 3 (nI 4) = gI I p e 4 := up_up
  by_cases c : b
  · rw [if_pos (hb.mpr c)]
    by_cases c1 : k = 1
    · rw [if_pos (by rw [c1]), if_pos ⟨c, Or.inl c1⟩, u_s1, ee]
    rw [if_neg (fun q => c1 ((nI_eq (by omega) (by omega)).mp q))]
    by_cases c2 : k = 2
    · rw [if_pos (by rw [c2]), if_pos ⟨c, Or.inr c2⟩, u_s1, ee]
    rw [if_neg (fun q => c2 ((nI_eq (by omega) (by omega)).mp q)), if_neg (by omega)]
  · rw [if_neg (fun q => c (hb.mp q)), if_neg (fun q => c q.1)]
theorem goOn_ev {T : Nat → Int32} {I : qI} {n q k : Nat} (hn : n ≤ 96) (hq : q ≤ n) (hT : I 261 = T) (h6 : I 260 6 = nI n) (h5 : I 260 5 = nI q) (h3 : I 260 3 = nI k) (hk : k ≤ 4) : f_X5_goOn 260 I = some (gI I (lxP T n q) (lxE T n (lxP T n q)) (lxK T n (lxP T n q) ((k = 1 ∨ k = 2) ∧ lxP T n q = q))) := by
  have fu := q_fu1
  have hp := lxP_le (T := T) hq
  have he := lxE_le (T := T) hp.2
  have main : ∀ x1 (b : Prop) [Decidable b], (nI (lxP T n q) = x1 ↔ b) → b_X5_goOn_24 260 x1 I = some (gI I (lxP T n q) (lxE T n (lxP T n q)) (lxK T n (lxP T n q) b)) := by
    intro x1 b _ hb
    unfold b_X5_goOn_24
    rw [u_s1, h5, c33 hn hT h6 (n - q) q_fu q (by omega) (by omega)]
    change b_X5_goOn_71 260 x1 (q_up I 260 4 (nI (lxP T n q))) = _
    generalize hP : lxP T n q = p at *
    unfold b_X5_goOn_71
    rw [u_s1, u_up_same]
    have a4 : q_up (q_up I 260 4 (nI p)) 260 5 (nI p) 260 4 = nI p := by rw [u_up_j (by decide), u_up_same]
    have a6 : q_up (q_up I 260 4 (nI p)) 260 5 (nI p) 260 6 = nI n := by rw [u_up_j (by decide), u_up_j (by decide), h6]
    have a1 : q_up (q_up I 260 4 (nI p)) 260 5 (nI p) (260 + 1) p = T p := by rw [u_up_a (by decide), u_up_a (by decide), ← hT]
    rw [a4, a6]
    unfold lxE lxK
    by_cases c : n ≤ p
    · rw [if_neg (Int32.not_lt.mpr (nI_le c (by omega))), if_pos c, if_pos c, u_s1]
      have := c254 (I := I) (p := p) (e := p) (k := 0) hb (by omega)
      rw [if_neg (by omega)] at this
      exact this
    rw [if_pos (nI_lt (by omega) (by omega)), if_neg c, if_neg c, u_rd (show p < 96 by omega) (by decide), u_s1, a1, cLet, u_s1]
    have g1 : q_up I 260 4 (nI p) 261 = T := by funext i; rw [u_up_a (by decide), hT]
    have g6 : q_up I 260 4 (nI p) 260 6 = nI n := by rw [u_up_j (by decide), h6]
    by_cases c1 : isLt (T p) = true
    · rw [if_pos c1, if_neg nI1, if_pos c1, if_pos c1, c113 hn g1 g6 (n - p) q_fu p (by omega) (by omega)]
      unfold b_X5_goOn_152
      rw [u_s1]
      have := c254 (I := I) (p := p) (e := sk isLt T (n - p) p) (k := 1) hb (by omega)
      rw [show (if b ∧ (1 = 1 ∨ 1 = 2) then 4 else 1) = (if b then 4 else 1) by simp] at this
      exact this
    rw [if_neg c1, if_pos nI_0, if_neg c1, if_neg c1, u_s1, cDig, u_s1]
    by_cases c2 : isDg (T p) = true
    · rw [if_pos c2, if_neg nI1, if_pos c2, if_pos c2, c175 hn g1 g6 (n - p) q_fu p (by omega) (by omega)]
      have hE : lxE T n p = sk isDg T (n - p) p := by unfold lxE; rw [if_neg c, if_neg c1, if_pos c2]
      rw [hE]
      have sl := sk_le (P := isDg) (T := T) (n - p) p
      generalize sk isDg T (n - p) p = e at *
      unfold b_X5_goOn_214 b_X5_goOn_233
      rw [u_up_same, u_up_j (by decide), u_up_same, u_sub (by omega), u_s1, u_s1]
      by_cases c3 : 4 < e - p
      · rw [if_neg (nI_ge c3 (by omega)), if_pos (Or.inr c3)]
        have := c254 (I := I) (p := p) (e := e) (k := 4) hb (by omega)
        rw [if_neg (by omega)] at this
        exact this
      · rw [if_pos (nI_le (by omega) (by decide))]
        have := c254 (I := I) (p := p) (e := e) (k := 2) hb (by omega)
        rw [show (if b ∧ (2 = 1 ∨ 2 = 2) then 4 else 2) = (if b ∨ 4 < e - p then 4 else 2) by simp [c3]] at this
        exact this
    · rw [if_neg c2, if_pos nI_0, if_neg c2, if_neg c2, u_s1, u_s1, up_up, nI_add]
      have := c254 (I := I) (p := p) (e := p + 1) (k := 3) hb (by omega)
      rw [if_neg (by omega)] at this
      exact this
  unfold f_X5_goOn b_X5_goOn_16
  rw [h3, h5]
  by_cases c1 : k = 1
  · rw [if_pos (by rw [c1])]
    exact main _ _ ⟨fun z => ⟨Or.inl c1, (nI_eq (by omega) (by omega)).mp z⟩, fun z => by rw [z.2]⟩
  rw [if_neg (fun z => c1 ((nI_eq (by omega) (by omega)).mp z))]
  by_cases c2 : k = 2
  · rw [if_pos (by rw [c2])]
    exact main _ _ ⟨fun z => ⟨Or.inr c2, (nI_eq (by omega) (by omega)).mp z⟩, fun z => by rw [z.2]⟩
  rw [if_neg (fun z => c2 ((nI_eq (by omega) (by omega)).mp z))]
  refine main _ _ ⟨fun z => ?_, fun z => absurd z.1 (by omega)⟩
  have := nI_pos (n := lxP T n q) (by omega)
  rw [z] at this
  exact absurd (by decide) this
