/-! LEVEL B: the token that both stand at -/
def LC (I I' : qI) : Prop := (∀ b, b ≠ 260 → I' b = I b) ∧ ∀ k, (k < 3 ∨ 5 < k) → I' 260 k = I 260 k
def LX (T : Nat → Int32) (n p e k : Nat) (I J : qI) : Prop := (p ≤ e ∧ e ≤ n ∧ k ≤ 4 ∧ (k ≠ 0 → p < e)) ∧ (I 260 4 = nI p ∧ I 260 5 = nI e ∧ I 260 3 = nI k) ∧ (J 269 15 = nI p ∧ J 269 16 = nI e ∧ J 269 17 = nI k) ∧ (k = 3 → J 269 19 = T p) ∧ (k = 1 → (∀ i, p ≤ i → i < e → isLt (T i) = true) ∧ J 269 19 = if e - p = 1 then T p else nI 0) ∧ (k = 2 → e - p ≤ 4 ∧ (∀ i, p ≤ i → i < e → isDg (T i) = true) ∧ J 269 18 = nI (nv T p (e - p)))
/-- both tapes -/
def TT (T : Nat → Int32) (n : Nat) (I J : qI) : Prop := n ≤ 96 ∧ I 260 6 = nI n ∧ J 269 14 = nI n ∧ ∀ i, i < n → I 261 i = T i ∧ J 276 i = T i
theorem sk_cg {P : Int32 → Bool} {T T' : Nat → Int32} : ∀ r i, (∀ j, i ≤ j → j < i + r → T' j = T j) → sk P T' r i = sk P T r i := by
  intro r
  induction r with
  | zero => intro i _; rfl
  | succ r ih =>
    intro i h
    show (if P (T' i) = true then sk P T' r (i + 1) else i) = (if P (T i) = true then sk P T r (i + 1) else i)
    rw [h i (by omega) (by omega), ih (i + 1) (fun j a b => h j (by omega) (by omega))]
theorem lxP_cg {T T' : Nat → Int32} {n q : Nat} (h : ∀ i, i < n → T' i = T i) : lxP T' n q = lxP T n q := by
  unfold lxP
  by_cases c : q ≤ n
  · exact sk_cg _ _ (fun j a b => h j (by omega))
  · rw [show n - q = 0 by omega]; rfl
theorem lxE_cg {T T' : Nat → Int32} {n p : Nat} (h : ∀ i, i < n → T' i = T i) : lxE T' n p = lxE T n p := by
  unfold lxE
  by_cases c : n ≤ p
  · rw [if_pos c, if_pos c]
  rw [if_neg c, if_neg c, h p (by omega), sk_cg (P := isLt) _ _ (fun j a b => h j (by omega)), sk_cg (P := isDg) _ _ (fun j a b => h j (by omega))]
theorem lxK_cg {T T' : Nat → Int32} {n p : Nat} {b : Prop} [Decidable b] (h : ∀ i, i < n → T' i = T i) : lxK T' n p b = lxK T n p b := by
  unfold lxK
  by_cases c : n ≤ p
  · rw [if_pos c, if_pos c]
  rw [if_neg c, if_neg c, h p (by omega), lxE_cg h]
theorem nv_cg {T T' : Nat → Int32} {p : Nat} : ∀ m, (∀ i, i < m → T' (p + i) = T (p + i)) → nv T' p m = nv T p m := by
  intro m
  induction m with
  | zero => intro _; rfl
  | succ m ih =>
    intro h
    show 10 * nv T' p m + ((T' (p + m)).toNatClampNeg - 48) = 10 * nv T p m + ((T (p + m)).toNatClampNeg - 48)
    rw [ih (fun i hi => h i (by omega)), h m (by omega)]
theorem lxK_f {T : Nat → Int32} {n p : Nat} {b : Prop} [Decidable b] : (lxK T n p b ≠ 0 → p < n) ∧ lxK T n p b ≤ 4 ∧ (lxK T n p b = 1 → isLt (T p) = true) ∧ (lxK T n p b = 2 → ¬ isLt (T p) = true ∧ isDg (T p) = true ∧ lxE T n p - p ≤ 4) := by
  unfold lxK
  by_cases c : n ≤ p
  · rw [if_pos c]; refine ⟨fun z => absurd rfl z, by decide, fun z => absurd z (by decide), fun z => absurd z (by decide)⟩
  rw [if_neg c]
  refine ⟨fun _ => by omega, ?_⟩
  by_cases c1 : isLt (T p) = true
  · rw [if_pos c1]
    split
    · exact ⟨by decide, fun _ => c1, fun z => absurd z (by decide)⟩
    · exact ⟨by decide, fun _ => c1, fun z => absurd z (by decide)⟩
  rw [if_neg c1]
  by_cases c2 : isDg (T p) = true
  · rw [if_pos c2]
    split
    · exact ⟨by decide, fun z => absurd z (by decide), fun z => absurd z (by decide)⟩
    · rename_i w
      exact ⟨by decide, fun z => absurd z (by decide), fun _ => ⟨c1, c2, by omega⟩⟩
  rw [if_neg c2]
  exact ⟨by decide, fun z => absurd z (by decide), fun z => absurd z (by decide)⟩
theorem nx0 {T : Nat → Int32} {n e kC kM : Nat} {I J : qI} (hT : TT T n I J) (he : e ≤ n) (h5 : I 260 5 = nI e) (h3 : I 260 3 = nI kC) (h16 : J 269 16 = nI e) (h17 : J 269 17 = nI kM) (hC : kC ≤ 4) (hM : kM ≤ 4) (hk : (kC = 1 ∨ kC = 2) ↔ (kM = 1 ∨ kM = 2)) (h0 : kM = 1 ∨ kM = 2 → 0 < e) : ∃ I' J' p' e' k', f_X5_goOn 260 I = some I' ∧ f_X12_next 269 J = some J' ∧ LX T n p' e' k' I' J' ∧ e ≤ p' ∧ LC I I' ∧ LM J J' := by
  obtain ⟨hn, t6, t14, tt⟩ := hT
  have g1 := goOn_ev (T := I 261) hn he rfl t6 h5 h3 hC
  obtain ⟨J', z1, z2, z3, z4, z5, z6, z7, z8⟩ := next_ev (T := J 276) hn he rfl t14 h16 h17 hM h0
  have cI : ∀ i, i < n → I 261 i = T i := fun i hi => (tt i hi).1
  have cJ : ∀ i, i < n → J 276 i = T i := fun i hi => (tt i hi).2
  rw [lxP_cg cI, lxE_cg cI, lxK_cg cI] at g1
  rw [lxP_cg cJ] at z3 z4 z5 z6 z7 z8
  rw [lxE_cg cJ] at z4 z7 z8
  rw [lxK_cg cJ] at z5 z6 z7 z8
  have kk : lxK T n (lxP T n e) ((kC = 1 ∨ kC = 2) ∧ lxP T n e = e) = lxK T n (lxP T n e) ((kM = 1 ∨ kM = 2) ∧ lxP T n e = e) := by
    by_cases c : (kM = 1 ∨ kM = 2) ∧ lxP T n e = e
    · unfold lxK; simp only [if_pos c, if_pos (show (kC = 1 ∨ kC = 2) ∧ lxP T n e = e from ⟨hk.mpr c.1, c.2⟩)]
      simp only [c, hk.mpr c.1, true_or, and_self]
    · unfold lxK
      have c' : ¬ ((kC = 1 ∨ kC = 2) ∧ lxP T n e = e) := fun q => c ⟨hk.mp q.1, q.2⟩
      simp only [if_neg c, if_neg c']
      simp only [eq_false c, eq_false c']
  rw [kk] at g1
  have hp := lxP_le (T := T) he
  have hE := lxE_le (T := T) hp.2
  have hK := lxK_f (T := T) (n := n) (p := lxP T n e) (b := (kM = 1 ∨ kM = 2) ∧ lxP T n e = e)
  generalize lxK T n (lxP T n e) ((kM = 1 ∨ kM = 2) ∧ lxP T n e = e) = k at *
  clear kk
  have hE1 : isLt (T (lxP T n e)) = true → lxP T n e < n → ∀ i, lxP T n e ≤ i → i < lxE T n (lxP T n e) → isLt (T i) = true := by
    intro a b i h1 h2
    unfold lxE at h2
    rw [if_neg (by omega), if_pos a] at h2
    exact sk_all _ _ _ h1 h2
  have hE2 : ¬ isLt (T (lxP T n e)) = true → isDg (T (lxP T n e)) = true → lxP T n e < n → ∀ i, lxP T n e ≤ i → i < lxE T n (lxP T n e) → isDg (T i) = true := by
    intro a a' b i h1 h2
    unfold lxE at h2
    rw [if_neg (by omega), if_neg a, if_pos a'] at h2
    exact sk_all _ _ _ h1 h2
  generalize lxE T n (lxP T n e) = e' at *
  generalize lxP T n e = p at *
  obtain ⟨o1, o2, o3, o4, o5⟩ := gI_o (I := I) (p := p) (e := e') (k := k)
  refine ⟨_, J', p, e', k, g1, z1, ⟨⟨hE.1, hE.2.1, hK.2.1, fun z => hE.2.2 (hK.1 z)⟩, ⟨o3, o4, o5⟩, ⟨z3, z4, z5⟩, fun z => ?_, fun z => ?_, fun z => ?_⟩, hp.1, ⟨o1, o2⟩, z2⟩
  · rw [z6 z, cJ p (hK.1 (by omega))]
  · have pn := hK.1 (by omega)
    refine ⟨hE1 (hK.2.2.1 z) pn, ?_⟩
    rw [z7 z, cJ p pn]
  · have pn := hK.1 (by omega)
    obtain ⟨w1, w2, w3⟩ := hK.2.2.2 z
    refine ⟨w3, hE2 w1 w2 pn, ?_⟩
    rw [z8 z, nv_cg _ (fun i hi => cJ _ (by omega))]
theorem LX.nx {T : Nat → Int32} {n p e k : Nat} {I J : qI} (h : LX T n p e k I J) (hT : TT T n I J) : ∃ I' J' p' e' k', f_X5_goOn 260 I = some I' ∧ f_X12_next 269 J = some J' ∧ LX T n p' e' k' I' J' ∧ e ≤ p' ∧ LC I I' ∧ LM J J' := by
  obtain ⟨⟨a1, a2, a3, a4⟩, ⟨b1, b2, b3⟩, ⟨c1, c2, c3⟩, -⟩ := h
  exact nx0 hT a2 b2 b3 c2 c3 a3 a3 Iff.rfl (fun z => by have := a4 (by omega); omega)
theorem TT.cg {T : Nat → Int32} {n : Nat} {I J I' J' : qI} (h : TT T n I J) (h1 : I' 260 6 = I 260 6) (h2 : J' 269 14 = J 269 14) (h3 : I' 261 = I 261) (h4 : J' 276 = J 276) : TT T n I' J' := by
  obtain ⟨a, b, c, d⟩ := h
  exact ⟨a, by rw [h1]; exact b, by rw [h2]; exact c, fun i hi => by rw [h3, h4]; exact d i hi⟩
/-- signs -/
theorem LX.sg {T : Nat → Int32} {n p e k : Nat} {I J : qI} (h : LX T n p e k I J) (hT : TT T n I J) (c : Nat) : f_X5_isSign 260 (nI c) I = some (if k = 3 ∧ T p = nI c then nI 1 else nI 0) ∧ f_X12_isSign 269 (nI c) J = some (if k = 3 ∧ T p = nI c then nI 1 else nI 0) := by
  obtain ⟨⟨a1, a2, a3, a4⟩, ⟨b1, b2, b3⟩, ⟨c1, c2, c3⟩, d1, -⟩ := h
  unfold f_X5_isSign f_X12_isSign
  rw [b3, c3, b1]
  by_cases z : k = 3
  · have := a4 (by omega)
    have hn := hT.1
    have e3 : nI k = nI 3 := by rw [z]
    rw [if_pos e3, if_pos e3, u_rd (show p < 96 by omega) (by decide), u_s1, show I (260 + 1) p = T p from (hT.2.2.2 p (by omega)).1, d1 z]
    by_cases y : T p = nI c
    · rw [if_pos y, if_pos ⟨z, y⟩]; exact ⟨rfl, rfl⟩
    · rw [if_neg y, if_neg (show ¬ (k = 3 ∧ T p = nI c) from fun q => y q.2)]; exact ⟨rfl, rfl⟩
  · have e3 : ¬ nI k = nI 3 := fun q => z ((nI_eq (by omega) (by omega)).mp q)
    rw [if_neg e3, if_neg (show ¬ (k = 3 ∧ T p = nI c) from fun q => z q.1), if_neg e3]
    exact ⟨rfl, rfl⟩
/-- the number that the token says -/
theorem num_ev {T : Nat → Int32} {n p e k : Nat} {I J : qI} (h : LX T n p e k I J) (hT : TT T n I J) (hk : k = 2) : f_X5_number 260 I = some (nI (nv T p (e - p))) ∧ nv T p (e - p) ≤ 9999 := by
  obtain ⟨⟨a1, a2, a3, a4⟩, ⟨b1, b2, b3⟩, -, -, -, d⟩ := h
  obtain ⟨d1, d2, -⟩ := d hk
  have hn := hT.1
  have lp : ∀ r f i, i + r = e → p ≤ i → r < f → q_fix (fun _ _ => none) (b_X5_number_7 260 I) f (nI (nv T p (i - p))) (nI i) = some (nI (nv T p (e - p))) := by
    intro r
    induction r with
    | zero =>
      intro f i h1 h2 h3
      obtain ⟨f, rfl⟩ : ∃ z, f = z + 1 := ⟨f - 1, by omega⟩
      have ee : i = e := by omega
      subst ee
      show b_X5_number_7 260 I (q_fix (fun _ _ => none) (b_X5_number_7 260 I) f) (nI (nv T p (i - p))) (nI i) = _
      unfold b_X5_number_7
      rw [b2, if_pos (Int32.le_refl _)]
    | succ r ih =>
      intro f i h1 h2 h3
      obtain ⟨f, rfl⟩ : ∃ z, f = z + 1 := ⟨f - 1, by omega⟩
      have ih' := ih f (i + 1) (by omega) (by omega) (by omega)
      show b_X5_number_7 260 I (q_fix (fun _ _ => none) (b_X5_number_7 260 I) f) (nI (nv T p (i - p))) (nI i) = _
      generalize q_fix (fun _ _ => none) (b_X5_number_7 260 I) f = K at ih' ⊢
      unfold b_X5_number_7
      obtain ⟨z, z1, z2, z3⟩ := dg_v (d2 i h2 (by omega))
      rw [b2, if_neg (nI_ge (by omega) (by omega)), u_rd (show i < 96 by omega) (by decide), u_s1, show I (260 + 1) i = T i from (hT.2.2.2 i (by omega)).1, z2, u_mul, nI_add, u_sub (by omega), nI_add]
      have : nv T p (i + 1 - p) = nv T p (i - p) * 10 + (48 + z) - 48 := by
        rw [show i + 1 - p = (i - p) + 1 by omega]
        show 10 * nv T p (i - p) + ((T (p + (i - p))).toNatClampNeg - 48) = _
        rw [show p + (i - p) = i by omega, z3]; omega
      rw [← this]
      exact ih'
  refine ⟨?_, ?_⟩
  · unfold f_X5_number
    rw [b1]
    have := lp (e - p) q_fu p (by omega) (Nat.le_refl _) (by have := q_fu1; omega)
    rw [Nat.sub_self] at this
    exact this
  · have := nv_lt (T := T) (p := p) (e - p) (fun i hi => d2 _ (by omega) (by omega))
    have h10 : 10 ^ (e - p) ≤ 10 ^ 4 := Nat.pow_le_pow_right (by decide) d1
    omega
