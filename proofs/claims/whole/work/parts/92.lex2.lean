/-! LEVEL B: the tape's tokens: the model's -/
/-- the number that m digits say -/
def nv (T : Nat → Int32) (p : Nat) : Nat → Nat
  | 0 => 0
  | m + 1 => 10 * nv T p m + ((T (p + m)).toNatClampNeg - 48)
theorem dg_v {x : Int32} (h : isDg x = true) : ∃ k, k ≤ 9 ∧ x = nI (48 + k) ∧ x.toNatClampNeg - 48 = k := by
  have h' := of_decide_eq_true h
  obtain ⟨z, e1, e2, e3⟩ := u_range (by decide) h'.1 h'.2 (by decide)
  refine ⟨z - 48, by omega, by rw [e1, show 48 + (z - 48) = z by omega], ?_⟩
  rw [e1, nI_clamp (by omega)]
theorem nv_lt {T : Nat → Int32} {p : Nat} : ∀ m, (∀ i, i < m → isDg (T (p + i)) = true) → nv T p m < 10 ^ m := by
  intro m
  induction m with
  | zero => intro _; show 0 < 1; decide
  | succ m ih =>
    intro h
    have := ih (fun i hi => h i (by omega))
    obtain ⟨k, k1, -, k3⟩ := dg_v (h m (by omega))
    show 10 * nv T p m + ((T (p + m)).toNatClampNeg - 48) < 10 ^ (m + 1)
    rw [k3, Nat.pow_succ]
    omega
/-- only the fields of the token changed -/
def LM (J J' : qI) : Prop := (∀ b, b ≠ 269 → J' b = J b) ∧ ∀ k, (k < 15 ∨ 19 < k) → J' 269 k = J 269 k
theorem LM.rf {J : qI} : LM J J := ⟨fun _ _ => rfl, fun _ _ => rfl⟩
theorem LM.tr {J J' J'' : qI} (h : LM J J') (h' : LM J' J'') : LM J J'' := ⟨fun b hb => (h'.1 b hb).trans (h.1 b hb), fun k hk => (h'.2 k hk).trans (h.2 k hk)⟩
theorem LM.up {J J' : qI} (h : LM J J') {k : Nat} {x : Int32} (hk : 15 ≤ k ∧ k ≤ 19) : LM J (q_up J' 269 k x) := by
  refine ⟨fun b hb => ?_, fun i hi => ?_⟩
  · funext i; rw [u_up_a hb, h.1 b hb]
  · rw [u_up_j (by omega), h.2 i hi]
theorem m34 {T : Nat → Int32} {J : qI} {n : Nat} {s0 x2 : Int32} (hn : n ≤ 96) (hT : J 276 = T) (h14 : J 269 14 = nI n) : ∀ r f i, i + r = n → r < f → q_fix (fun _ _ _ => none) (b_X12_next_34 269) f s0 x2 (q_up J 269 16 (nI i)) = b_X12_next_72 269 s0 x2 (q_up J 269 16 (nI (sk isSp T r i))) := by
  intro r
  induction r with
  | zero =>
    intro f i h1 h2
    obtain ⟨f, rfl⟩ : ∃ z, f = z + 1 := ⟨f - 1, by omega⟩
    have e : i = n := by omega
    subst e
    show b_X12_next_34 269 (q_fix (fun _ _ _ => none) (b_X12_next_34 269) f) s0 x2 (q_up J 269 16 (nI i)) = b_X12_next_72 269 s0 x2 (q_up J 269 16 (nI i))
    unfold b_X12_next_34
    rw [u_up_j (by decide), h14, u_up_same, if_pos (Int32.le_refl _)]
  | succ r ih =>
    intro f i h1 h2
    obtain ⟨f, rfl⟩ : ∃ z, f = z + 1 := ⟨f - 1, by omega⟩
    have ih' := ih f (i + 1) (by omega) (by omega)
    show b_X12_next_34 269 (q_fix (fun _ _ _ => none) (b_X12_next_34 269) f) s0 x2 (q_up J 269 16 (nI i)) = b_X12_next_72 269 s0 x2 (q_up J 269 16 (nI (if isSp (T i) = true then sk isSp T r (i + 1) else i)))
    generalize q_fix (fun _ _ _ => none) (b_X12_next_34 269) f = KC at ih' ⊢
    unfold b_X12_next_34
    rw [u_up_j (by decide), h14, u_up_same, if_neg (nI_ge (by omega) (by omega)), u_rd (show i < 96 by omega) (by decide), u_s1, u_up_a (by decide), show J (269 + 7) i = T i by rw [← hT], u_s1, up_up, nI_add]
    by_cases c : T i = nI 32
    · rw [if_pos c, if_pos (show isSp (T i) = true from decide_eq_true c)]; exact ih'
    · rw [if_neg c, if_neg (show ¬ isSp (T i) = true from fun q => c (of_decide_eq_true q))]
theorem m128 {T : Nat → Int32} {J : qI} {n : Nat} {s0 : Int32} (hn : n ≤ 96) (hT : J 276 = T) (h14 : J 269 14 = nI n) : ∀ r f i, i + r = n → r < f → q_fix (fun _ _ => none) (b_X12_next_128 269) f s0 (q_up J 269 16 (nI i)) = if s0 = 0 then b_X12_next_162 269 (nI 1) (q_up J 269 16 (nI (sk isLt T r i))) else b_X12_next_162 269 (nI 4) (q_up J 269 16 (nI (sk isLt T r i))) := by
  intro r
  induction r with
  | zero =>
    intro f i h1 h2
    obtain ⟨f, rfl⟩ : ∃ z, f = z + 1 := ⟨f - 1, by omega⟩
    have e : i = n := by omega
    subst e
    show b_X12_next_128 269 (q_fix (fun _ _ => none) (b_X12_next_128 269) f) s0 (q_up J 269 16 (nI i)) = if s0 = 0 then b_X12_next_162 269 (nI 1) (q_up J 269 16 (nI i)) else b_X12_next_162 269 (nI 4) (q_up J 269 16 (nI i))
    unfold b_X12_next_128
    rw [u_up_same, mLet0 (by rw [u_up_j (by decide), h14]), u_s1, if_pos nI_0]
  | succ r ih =>
    intro f i h1 h2
    obtain ⟨f, rfl⟩ : ∃ z, f = z + 1 := ⟨f - 1, by omega⟩
    have ih' := ih f (i + 1) (by omega) (by omega)
    show b_X12_next_128 269 (q_fix (fun _ _ => none) (b_X12_next_128 269) f) s0 (q_up J 269 16 (nI i)) = if s0 = 0 then b_X12_next_162 269 (nI 1) (q_up J 269 16 (nI (if isLt (T i) = true then sk isLt T r (i + 1) else i))) else b_X12_next_162 269 (nI 4) (q_up J 269 16 (nI (if isLt (T i) = true then sk isLt T r (i + 1) else i)))
    generalize q_fix (fun _ _ => none) (b_X12_next_128 269) f = KC at ih' ⊢
    unfold b_X12_next_128
    rw [u_up_same, mLet hn (by rw [u_up_j (by decide), h14]) (show i < n by omega), u_s1, u_up_a (by decide), show J 276 i = T i by rw [← hT], u_s1, up_up, nI_add]
    by_cases c : isLt (T i) = true
    · simp only [if_pos c]; rw [if_neg nI1]; exact ih'
    · simp only [if_neg c]; rw [if_pos nI_0]
theorem m214 {T : Nat → Int32} {n p : Nat} {s0 : Int32} (hn : n ≤ 96) : ∀ r f i J, i + r = n → r < f → p ≤ i → (∀ j, p ≤ j → j < i → isDg (T j) = true) → J 276 = T → J 269 14 = nI n → J 269 15 = nI p → J 269 16 = nI i → (i - p ≤ 4 → J 269 18 = nI (nv T p (i - p))) → ∃ J', q_fix (fun _ _ => none) (b_X12_next_214 269) f s0 J = some (q_up J' 269 17 (if s0 = 0 ∧ sk isDg T r i - p ≤ 4 then nI 2 else nI 4)) ∧ LM J J' ∧ J' 269 15 = nI p ∧ J' 269 16 = nI (sk isDg T r i) ∧ (sk isDg T r i - p ≤ 4 → J' 269 18 = nI (nv T p (sk isDg T r i - p))) := by
  intro r
  have fin : ∀ (KC : Int32 → qI → Option qI) i J, i ≤ n → p ≤ i → J 269 15 = nI p → J 269 16 = nI i → f_X12_isDigit 269 (nI i) J = some (nI 0) → b_X12_next_214 269 KC s0 J = some (q_up J 269 17 (if s0 = 0 ∧ i - p ≤ 4 then nI 2 else nI 4)) := by
    intro KC i J h0 h1 h2 h3 h4
    unfold b_X12_next_214 b_X12_next_300 b_X12_next_305
    rw [h3, h4, u_s1, if_pos nI_0, h2, u_sub h1, u_s1, u_s1]
    by_cases c : s0 = 0
    · rw [if_pos c]
      by_cases c2 : i - p ≤ 4
      · rw [if_pos (nI_le c2 (by decide)), if_pos ⟨c, c2⟩]
      · rw [if_neg (nI_ge (by omega) (by omega)), if_neg (fun q => c2 q.2)]
    · rw [if_neg c, if_neg (fun q => c q.1)]
  induction r with
  | zero =>
    intro f i J h1 h2 h3 hd hT h14 h15 h16 h18
    obtain ⟨f, rfl⟩ : ∃ z, f = z + 1 := ⟨f - 1, by omega⟩
    have e : i = n := by omega
    refine ⟨J, fin _ i J (by omega) h3 h15 h16 ?_, LM.rf, h15, h16, h18⟩
    rw [e]; exact mDig0 h14
  | succ r ih =>
    intro f i J h1 h2 h3 hd hT h14 h15 h16 h18
    obtain ⟨f, rfl⟩ : ∃ z, f = z + 1 := ⟨f - 1, by omega⟩
    have hsk : sk isDg T (r + 1) i = if isDg (T i) = true then sk isDg T r (i + 1) else i := rfl
    by_cases c : isDg (T i) = true
    rotate_left
    · rw [hsk, if_neg c]
      refine ⟨J, fin _ i J (by omega) h3 h15 h16 ?_, LM.rf, h15, h16, h18⟩
      rw [mDig hn h14 (by omega), hT, if_neg c]
    rw [hsk, if_pos c]
    obtain ⟨k, k1, k2, k3⟩ := dg_v c
    have step : ∀ s1, (i + 1 - p ≤ 4 → s1 = nI (nv T p (i + 1 - p))) → ∃ J', q_fix (fun _ _ => none) (b_X12_next_214 269) f s0 (q_up (q_up J 269 18 s1) 269 16 (nI (i + 1))) = some (q_up J' 269 17 (if s0 = 0 ∧ sk isDg T r (i + 1) - p ≤ 4 then nI 2 else nI 4)) ∧ LM J J' ∧ J' 269 15 = nI p ∧ J' 269 16 = nI (sk isDg T r (i + 1)) ∧ (sk isDg T r (i + 1) - p ≤ 4 → J' 269 18 = nI (nv T p (sk isDg T r (i + 1) - p))) := by
      intro s1 hs
      obtain ⟨J', z1, z2, z3⟩ := ih f (i + 1) (q_up (q_up J 269 18 s1) 269 16 (nI (i + 1))) (by omega) (by omega) (by omega) (fun j a b => by
        by_cases e : j = i
        · rw [e]; exact c
        · exact hd j a (by omega)) (by funext j; rw [u_up_a (by decide), u_up_a (by decide), hT]) (by rw [u_up_j (by decide), u_up_j (by decide), h14]) (by rw [u_up_j (by decide), u_up_j (by decide), h15]) u_up_same (fun z => by rw [u_up_j (by decide), u_up_same]; exact hs z)
      exact ⟨J', z1, ((LM.rf.up (by decide)).up (by decide)).tr z2, z3⟩
    have body : ∃ s1, (i + 1 - p ≤ 4 → s1 = nI (nv T p (i + 1 - p))) ∧ q_fix (fun _ _ => none) (b_X12_next_214 269) (f + 1) s0 J = q_fix (fun _ _ => none) (b_X12_next_214 269) f s0 (q_up (q_up J 269 18 s1) 269 16 (nI (i + 1))) := by
      show ∃ s1, _ ∧ b_X12_next_214 269 (q_fix (fun _ _ => none) (b_X12_next_214 269) f) s0 J = _
      generalize q_fix (fun _ _ => none) (b_X12_next_214 269) f = KC
      unfold b_X12_next_214 b_X12_next_266
      rw [h16, mDig hn h14 (by omega), hT, if_pos c, u_s1, if_neg nI1, h15, u_sub h3]
      by_cases c4 : 4 ≤ i - p
      · rw [if_pos (nI_le c4 (by omega)), u_s1, u_s1, u_up_j (by decide), h16, nI_add]
        exact ⟨_, fun z => absurd z (by omega), rfl⟩
      · rw [if_neg (nI_ge (by omega) (by decide)), u_rd (show i < 96 by omega) (by decide), u_s1, show J (269 + 7) i = T i by rw [← hT], u_s1, u_s1, u_up_j (by decide), h16, nI_add]
        refine ⟨_, fun _ => ?_, rfl⟩
        rw [h18 (by omega), k2, u_mul, nI_add, u_sub (by omega), show i + 1 - p = (i - p) + 1 by omega]
        show nI (10 * nv T p (i - p) + (48 + k) - 48) = nI (10 * nv T p (i - p) + ((T (p + (i - p))).toNatClampNeg - 48))
        rw [show p + (i - p) = i by omega, k3, show 10 * nv T p (i - p) + (48 + k) - 48 = 10 * nv T p (i - p) + k by omega]
    obtain ⟨s1, b1, b2⟩ := body
    rw [b2]
    exact step s1 b1
theorem next_ev {T : Nat → Int32} {J : qI} {n q k : Nat} (hn : n ≤ 96) (hq : q ≤ n) (hT : J 276 = T) (h14 : J 269 14 = nI n) (h16 : J 269 16 = nI q) (h17 : J 269 17 = nI k) (hk : k ≤ 4) (hk0 : k = 1 ∨ k = 2 → 0 < q) : ∃ J', f_X12_next 269 J = some J' ∧ LM J J' ∧ J' 269 15 = nI (lxP T n q) ∧ J' 269 16 = nI (lxE T n (lxP T n q)) ∧ J' 269 17 = nI (lxK T n (lxP T n q) ((k = 1 ∨ k = 2) ∧ lxP T n q = q)) ∧ (lxK T n (lxP T n q) ((k = 1 ∨ k = 2) ∧ lxP T n q = q) = 3 → J' 269 19 = T (lxP T n q)) ∧ (lxK T n (lxP T n q) ((k = 1 ∨ k = 2) ∧ lxP T n q = q) = 1 → J' 269 19 = if lxE T n (lxP T n q) - lxP T n q = 1 then T (lxP T n q) else nI 0) ∧ (lxK T n (lxP T n q) ((k = 1 ∨ k = 2) ∧ lxP T n q = q) = 2 → J' 269 18 = nI (nv T (lxP T n q) (lxE T n (lxP T n q) - lxP T n q))) := by
  have fu := q_fu1
  have hp := lxP_le (T := T) hq
  have main : ∀ s (b : Prop) [Decidable b], (s = 0 ↔ ¬ b) → ∃ J', b_X12_next_89 269 s (q_up J 269 16 (nI (lxP T n q))) = some J' ∧ LM J J' ∧ J' 269 15 = nI (lxP T n q) ∧ J' 269 16 = nI (lxE T n (lxP T n q)) ∧ J' 269 17 = nI (lxK T n (lxP T n q) b) ∧ (lxK T n (lxP T n q) b = 3 → J' 269 19 = T (lxP T n q)) ∧ (lxK T n (lxP T n q) b = 1 → J' 269 19 = if lxE T n (lxP T n q) - lxP T n q = 1 then T (lxP T n q) else nI 0) ∧ (lxK T n (lxP T n q) b = 2 → J' 269 18 = nI (nv T (lxP T n q) (lxE T n (lxP T n q) - lxP T n q))) := by
    intro s b _ hb
    generalize lxP T n q = p at *
    unfold b_X12_next_89
    have a14 : q_up (q_up J 269 16 (nI p)) 269 15 (nI p) 269 14 = nI n := by rw [u_up_j (by decide), u_up_j (by decide), h14]
    have aT : q_up (q_up J 269 16 (nI p)) 269 15 (nI p) 276 = T := by funext i; rw [u_up_a (by decide), u_up_a (by decide), hT]
    rw [u_s1, u_up_same, u_up_same, a14, u_s1]
    have l1 : LM J (q_up (q_up J 269 16 (nI p)) 269 15 (nI p)) := (LM.rf.up (by decide)).up (by decide)
    have x15 : q_up (q_up J 269 16 (nI p)) 269 15 (nI p) 269 15 = nI p := u_up_same
    have x16 : q_up (q_up J 269 16 (nI p)) 269 15 (nI p) 269 16 = nI p := by rw [u_up_j (by decide), u_up_same]
    by_cases c : n ≤ p
    · have e : p = n := by omega
      have k0 : lxK T n p b = 0 := by unfold lxK; rw [if_pos c]
      have e0 : lxE T n p = p := by unfold lxE; rw [if_pos c]
      rw [if_pos (by rw [e]), k0, e0]
      exact ⟨_, rfl, l1.up (by decide), by rw [u_up_j (by decide), x15], by rw [u_up_j (by decide), x16], u_up_same, fun z => absurd z (by decide), fun z => absurd z (by decide), fun z => absurd z (by decide)⟩
    rw [if_neg (fun z => by have := (nI_eq (by omega) (by omega)).mp z; omega), mLet hn a14 (by omega), u_s1, aT]
    by_cases c1 : isLt (T p) = true
    · have k0 : lxK T n p b = if b then 4 else 1 := by unfold lxK; rw [if_neg c, if_pos c1]
      have e0 : lxE T n p = sk isLt T (n - p) p := by unfold lxE; rw [if_neg c, if_pos c1]
      have hsl := sk_le (P := isLt) (T := T) (n - p) p
      rw [if_pos c1, if_neg nI1]
      -- the loop begins at a row that says its own place
      have hw : q_up (q_up J 269 16 (nI p)) 269 15 (nI p) = q_up (q_up (q_up J 269 16 (nI p)) 269 15 (nI p)) 269 16 (nI p) := by
        funext a i
        by_cases ea : a = 269
        · subst ea
          by_cases ei : i = 16
          · subst ei; rw [u_up_same, x16]
          · rw [u_up_j (i := i) (j := 16) ei]
        · rw [u_up_a (a := 269) (j := 16) ea]
      rw [hw, m128 hn aT a14 (n - p) q_fu p (by omega) (by omega), k0, e0]
      generalize sk isLt T (n - p) p = e at *
      have w15 : q_up (q_up (q_up J 269 16 (nI p)) 269 15 (nI p)) 269 16 (nI e) 269 15 = nI p := by rw [u_up_j (by decide), x15]
      have wk : ∀ kk : Nat, b_X12_next_162 269 (nI kk) (q_up (q_up (q_up J 269 16 (nI p)) 269 15 (nI p)) 269 16 (nI e)) = some (q_up (q_up (q_up (q_up (q_up J 269 16 (nI p)) 269 15 (nI p)) 269 16 (nI e)) 269 17 (nI kk)) 269 19 (if e - p = 1 then T p else nI 0)) := by
        intro kk
        unfold b_X12_next_162 b_X12_next_192
        rw [u_s1, u_up_j (by decide), u_up_same, u_up_j (by decide), w15, u_sub (by omega)]
        by_cases c3 : e - p = 1
        · rw [if_pos (by rw [c3]), if_pos c3, u_rd (show p < 96 by omega) (by decide), u_s1, u_s1, u_up_a (by decide), u_up_a (by decide), show (269 + 7 : Nat) = 276 from rfl, aT]
        · rw [if_neg (fun z => c3 ((nI_eq (by omega) (by omega)).mp z)), if_neg c3, u_s1]
      have fin : ∀ kk : Nat, (kk = 1 ∨ kk = 4) → ∃ J', some (q_up (q_up (q_up (q_up (q_up J 269 16 (nI p)) 269 15 (nI p)) 269 16 (nI e)) 269 17 (nI kk)) 269 19 (if e - p = 1 then T p else nI 0)) = some J' ∧ LM J J' ∧ J' 269 15 = nI p ∧ J' 269 16 = nI e ∧ J' 269 17 = nI kk ∧ (kk = 3 → J' 269 19 = T p) ∧ (kk = 1 → J' 269 19 = if e - p = 1 then T p else nI 0) ∧ (kk = 2 → J' 269 18 = nI (nv T p (e - p))) := by
        intro kk hkk
        exact ⟨_, rfl, ((l1.up (by decide)).up (by decide)).up (by decide), by rw [u_up_j (by decide), u_up_j (by decide), w15], by rw [u_up_j (by decide), u_up_j (by decide), u_up_same], by rw [u_up_j (by decide), u_up_same], fun z => by omega, fun _ => u_up_same, fun z => by omega⟩
      by_cases cb : b
      · rw [if_neg (fun z => hb.mp z cb), if_pos cb, wk]; exact fin 4 (Or.inr rfl)
      · rw [if_pos (hb.mpr cb), if_neg cb, wk]; exact fin 1 (Or.inl rfl)
    rw [if_neg c1, if_pos nI_0, mDig hn a14 (by omega), u_s1, aT]
    by_cases c2 : isDg (T p) = true
    · have e0 : lxE T n p = sk isDg T (n - p) p := by unfold lxE; rw [if_neg c, if_neg c1, if_pos c2]
      have k0 : lxK T n p b = if b ∨ 4 < sk isDg T (n - p) p - p then 4 else 2 := by unfold lxK; rw [if_neg c, if_neg c1, if_pos c2, e0]
      rw [if_pos c2, if_neg nI1, k0, e0, u_s1]
      obtain ⟨J', z1, z2, z3, z4, z5⟩ := m214 (T := T) (p := p) (s0 := s) hn (n - p) q_fu p (q_up (q_up (q_up J 269 16 (nI p)) 269 15 (nI p)) 269 18 (nI 0)) (by omega) (by omega) (Nat.le_refl _) (fun j a b => by omega) (by funext i; rw [u_up_a (by decide), aT]) (by rw [u_up_j (by decide), a14]) (by rw [u_up_j (by decide), x15]) (by rw [u_up_j (by decide), x16]) (fun _ => by rw [u_up_same, Nat.sub_self]; rfl)
      generalize sk isDg T (n - p) p = e at *
      refine ⟨_, z1, ((l1.up (by decide)).tr z2).up (by decide), by rw [u_up_j (by decide), z3], by rw [u_up_j (by decide), z4], ?_, fun z => ?_, fun z => ?_, fun z => ?_⟩
      · rw [u_up_same]
        by_cases cc : b ∨ 4 < e - p
        · rw [if_pos cc, if_neg (fun w => cc.elim (hb.mp w.1) (fun v => by omega))]
        · rw [if_neg cc, if_pos ⟨hb.mpr (fun w => cc (Or.inl w)), by omega⟩]
      · by_cases cc : b ∨ 4 < e - p
        · rw [if_pos cc] at z; omega
        · rw [if_neg cc] at z; omega
      · by_cases cc : b ∨ 4 < e - p
        · rw [if_pos cc] at z; omega
        · rw [if_neg cc] at z; omega
      · by_cases cc : b ∨ 4 < e - p
        · rw [if_pos cc] at z; omega
        · rw [u_up_j (by decide)]; exact z5 (by omega)
    · have e0 : lxE T n p = p + 1 := by unfold lxE; rw [if_neg c, if_neg c1, if_neg c2]
      have k0 : lxK T n p b = 3 := by unfold lxK; rw [if_neg c, if_neg c1, if_neg c2]
      rw [if_neg c2, if_pos nI_0, k0, e0, u_s1, u_up_j (by decide), x15, u_rd (show p < 96 by omega) (by decide), u_s1, u_s1, u_s1, u_up_j (by decide), u_up_j (by decide), x16, nI_add]
      exact ⟨_, rfl, ((l1.up (by decide)).up (by decide)).up (by decide), by rw [u_up_j (by decide), u_up_j (by decide), u_up_j (by decide), x15], u_up_same, by rw [u_up_j (by decide), u_up_j (by decide), u_up_same], fun _ => by rw [u_up_j (by decide), u_up_same, u_up_a (by decide), show (269 + 7 : Nat) = 276 from rfl, aT], fun z => absurd z (by decide), fun z => absurd z (by decide)⟩
  have st : ∀ s0 : Int32, (s0 = 0 ↔ ¬ (k = 1 ∨ k = 2)) → ∃ J', b_X12_next_28 269 s0 J = some J' ∧ LM J J' ∧ J' 269 15 = nI (lxP T n q) ∧ J' 269 16 = nI (lxE T n (lxP T n q)) ∧ J' 269 17 = nI (lxK T n (lxP T n q) ((k = 1 ∨ k = 2) ∧ lxP T n q = q)) ∧ (lxK T n (lxP T n q) ((k = 1 ∨ k = 2) ∧ lxP T n q = q) = 3 → J' 269 19 = T (lxP T n q)) ∧ (lxK T n (lxP T n q) ((k = 1 ∨ k = 2) ∧ lxP T n q = q) = 1 → J' 269 19 = if lxE T n (lxP T n q) - lxP T n q = 1 then T (lxP T n q) else nI 0) ∧ (lxK T n (lxP T n q) ((k = 1 ∨ k = 2) ∧ lxP T n q = q) = 2 → J' 269 18 = nI (nv T (lxP T n q) (lxE T n (lxP T n q) - lxP T n q))) := by
    intro s0 hs
    have e34 : b_X12_next_28 269 s0 J = b_X12_next_72 269 s0 (nI q) (q_up J 269 16 (nI (lxP T n q))) := by
      unfold b_X12_next_28
      have hw : J = q_up J 269 16 (nI q) := by
        funext a i
        by_cases ea : a = 269
        · subst ea
          by_cases ei : i = 16
          · subst ei; rw [u_up_same, h16]
          · rw [u_up_j ei]
        · rw [u_up_a ea]
      rw [h16]
      conv => lhs; rw [hw]
      exact m34 hn hT h14 (n - q) q_fu q (by omega) (by omega)
    rw [e34]
    unfold b_X12_next_72 b_X12_next_88
    rw [u_up_same]
    by_cases c : s0 = 0
    · rw [if_pos c]
      exact main _ _ ⟨fun _ w => hs.mp c w.1, fun _ => nI_0⟩
    · rw [if_neg c]
      have c' : k = 1 ∨ k = 2 := Classical.not_not.mp (fun w => c (hs.mpr w))
      by_cases c2 : q = lxP T n q
      · rw [if_pos (congrArg nI c2)]
        exact main _ _ ⟨fun z => absurd z nI1, fun z => absurd ⟨c', c2.symm⟩ z⟩
      · rw [if_neg (fun z => c2 ((nI_eq (by omega) (by omega)).mp z))]
        exact main _ _ ⟨fun _ w => c2 w.2.symm, fun _ => nI_0⟩
  unfold f_X12_next b_X12_next_23 b_X12_next_27
  rw [h16, h17]
  by_cases c0 : nI q ≤ 0
  · rw [if_pos c0]
    refine st _ ⟨fun _ w => ?_, fun _ => nI_0⟩
    have := hk0 w
    rw [← nI_0] at c0
    exact nI_ge this (by omega) c0
  rw [if_neg c0]
  by_cases c1 : k = 1
  · rw [if_pos (by rw [c1])]
    exact st _ ⟨fun z => absurd z nI1, fun z => absurd (Or.inl c1) z⟩
  rw [if_neg (fun z => c1 ((nI_eq (by omega) (by omega)).mp z))]
  by_cases c2 : k = 2
  · rw [if_pos (by rw [c2])]
    exact st _ ⟨fun z => absurd z nI1, fun z => absurd (Or.inr c2) z⟩
  rw [if_neg (fun z => c2 ((nI_eq (by omega) (by omega)).mp z))]
  exact st _ ⟨fun _ w => by omega, fun _ => nI_0⟩
