/-! LEVEL B: texts: the key's word -/
def wdL (key i : Nat) : Nat := (([[119, 97, 103, 101], [115, 116, 111, 112], [100, 117, 101], [99, 111, 105, 110], [102, 105, 110, 101], [107, 101, 101, 112], [97, 99, 116]] : List (List Nat)).getD key []).getD i 0
def wdN (key : Nat) : Nat := ([4, 4, 3, 4, 4, 4, 3] : List Nat).getD key 0
theorem wd_len : ∀ key, key < 7 → f_J0_length_8abf5 key = some (nI (wdN key)) := by decide +kernel
theorem wd_chr : ∀ key, key < 7 → ∀ i, i < wdN key → f_J0_charAt_5068e key (nI i) = some (nI (wdL key i)) := by decide +kernel
theorem wd_le : ∀ key, key < 7 → 3 ≤ wdN key ∧ wdN key ≤ 4 := by decide
def mt (T : Nat → Int32) (p key : Nat) : Nat → Nat → Bool
  | 0, _ => true
  | r + 1, i => decide (T (p + i) = nI (wdL key i)) && mt T p key r (i + 1)
def wm (T : Nat → Int32) (p e key : Nat) : Bool := decide (e - p = wdN key) && mt T p key (wdN key) 0
theorem wordC {T : Nat → Int32} {n p e k key : Nat} {I J : qI} (h : LX T n p e k I J) (hT : TT T n I J) (hk : key < 7) : f_X5_isWord 260 key I = some (if wm T p e key = true then nI 1 else nI 0) := by
  obtain ⟨⟨a1, a2, a3, a4⟩, ⟨b1, b2, b3⟩, -⟩ := h
  have hn := hT.1
  have wl := wd_le key hk
  unfold f_X5_isWord wm
  rw [wd_len key hk, u_s1, b1, b2, u_sub a1]
  by_cases c : e - p = wdN key
  rotate_left
  · rw [if_neg (fun q => c ((nI_eq (by omega) (by omega)).mp q).symm), if_neg (fun q => by rw [decide_eq_false c] at q; cases q)]
  rw [if_pos (by rw [c]), decide_eq_true c, Bool.true_and]
  have lp : ∀ r f i, i + r = wdN key → r < f → q_fix (fun _ => none) (b_X5_isWord_20 260 key I) f (nI i) = some (if mt T p key r i = true then nI 1 else nI 0) := by
    intro r
    induction r with
    | zero =>
      intro f i h1 h2
      obtain ⟨f, rfl⟩ : ∃ z, f = z + 1 := ⟨f - 1, by omega⟩
      show b_X5_isWord_20 260 key I (q_fix (fun _ => none) (b_X5_isWord_20 260 key I) f) (nI i) = _
      unfold b_X5_isWord_20
      rw [wd_len key hk, u_s1, if_pos (nI_le (by omega) (by omega)), show mt T p key 0 i = true from rfl, if_pos rfl]
    | succ r ih =>
      intro f i h1 h2
      obtain ⟨f, rfl⟩ : ∃ z, f = z + 1 := ⟨f - 1, by omega⟩
      have ih' := ih f (i + 1) (by omega) (by omega)
      show b_X5_isWord_20 260 key I (q_fix (fun _ => none) (b_X5_isWord_20 260 key I) f) (nI i) = _
      generalize q_fix (fun _ => none) (b_X5_isWord_20 260 key I) f = K at ih' ⊢
      unfold b_X5_isWord_20
      rw [wd_len key hk, u_s1, if_neg (nI_ge (by omega) (by omega)), b1, nI_add, u_rd (show p + i < 96 by omega) (by decide), u_s1, wd_chr key hk i (by omega), u_s1, show I (260 + 1) (p + i) = T (p + i) from (hT.2.2.2 _ (by omega)).1, show mt T p key (r + 1) i = (decide (T (p + i) = nI (wdL key i)) && mt T p key r (i + 1)) from rfl, nI_add]
      by_cases z : T (p + i) = nI (wdL key i)
      · rw [if_pos z, decide_eq_true z, Bool.true_and]; exact ih'
      · rw [if_neg z, decide_eq_false z, Bool.false_and, if_neg (by decide)]
  exact lp (wdN key) q_fu 0 (Nat.zero_add _) (by have := q_fu1; omega)
theorem wordM4 {T : Nat → Int32} {n p e k key : Nat} {I J : qI} (h : LX T n p e k I J) (hT : TT T n I J) (hk : key < 7) (h4 : wdN key = 4) (hz : ¬ nI (wdL key 3) = (0 : Int32)) : f_X12_isWordAt 269 (nI (wdL key 0)) (nI (wdL key 1)) (nI (wdL key 2)) (nI (wdL key 3)) J = some (if k = 1 ∧ wm T p e key = true then nI 1 else nI 0) := by
  obtain ⟨⟨a1, a2, a3, a4⟩, -, ⟨c1, c2, c3⟩, -⟩ := h
  have hn := hT.1
  unfold f_X12_isWordAt b_X12_isWordAt_10
  rw [if_neg hz, c1, c2, c3, u_sub a1, if_neg hz]
  by_cases k1 : k = 1
  rotate_left
  · rw [if_neg (fun q => k1 ((nI_eq (by omega) (by omega)).mp q)), if_neg (fun q => k1 q.1)]
  rw [if_pos (by rw [k1])]
  have ew : wm T p e key = (decide (e - p = 4) && (decide (T p = nI (wdL key 0)) && (decide (T (p + 1) = nI (wdL key 1)) && (decide (T (p + 2) = nI (wdL key 2)) && (decide (T (p + 3) = nI (wdL key 3)) && true))))) := by
    unfold wm; rw [h4]; rfl
  rw [ew]
  by_cases c : e - p = 4
  rotate_left
  · rw [if_neg (fun q => c ((nI_eq (by omega) (by omega)).mp q)), if_neg (fun q => by have := q.2; rw [decide_eq_false c] at this; cases this)]
  rw [if_pos (by rw [c]), decide_eq_true c, nI_add, nI_add, nI_add, u_rd (show p < 96 by omega) (by decide), u_rd (show p + 1 < 96 by omega) (by decide), u_rd (show p + 2 < 96 by omega) (by decide), u_rd (show p + 3 < 96 by omega) (by decide), u_s1, u_s1, u_s1, u_s1, show J (269 + 7) p = T p from (hT.2.2.2 _ (by omega)).2, show J (269 + 7) (p + 1) = T (p + 1) from (hT.2.2.2 _ (by omega)).2, show J (269 + 7) (p + 2) = T (p + 2) from (hT.2.2.2 _ (by omega)).2, show J (269 + 7) (p + 3) = T (p + 3) from (hT.2.2.2 _ (by omega)).2]
  by_cases z0 : T p = nI (wdL key 0)
  rotate_left
  · rw [if_neg z0, if_neg (fun q => by have := q.2; rw [decide_eq_false z0] at this; cases this)]
  by_cases z1 : T (p + 1) = nI (wdL key 1)
  rotate_left
  · rw [if_pos z0, if_neg z1, if_neg (fun q => by have := q.2; rw [decide_eq_true z0, decide_eq_false z1] at this; cases this)]
  by_cases z2 : T (p + 2) = nI (wdL key 2)
  rotate_left
  · rw [if_pos z0, if_pos z1, if_neg z2, if_neg (fun q => by have := q.2; rw [decide_eq_true z0, decide_eq_true z1, decide_eq_false z2] at this; cases this)]
  by_cases z3 : T (p + 3) = nI (wdL key 3)
  rotate_left
  · rw [if_pos z0, if_pos z1, if_pos z2, if_neg z3, if_neg (fun q => by have := q.2; rw [decide_eq_true z0, decide_eq_true z1, decide_eq_true z2, decide_eq_false z3] at this; cases this)]
  rw [if_pos z0, if_pos z1, if_pos z2, if_pos z3, if_pos ⟨k1, by rw [decide_eq_true z0, decide_eq_true z1, decide_eq_true z2, decide_eq_true z3]; rfl⟩]
theorem wordM3 {T : Nat → Int32} {n p e k key : Nat} {I J : qI} (h : LX T n p e k I J) (hT : TT T n I J) (hk : key < 7) (h4 : wdN key = 3) : f_X12_isWordAt 269 (nI (wdL key 0)) (nI (wdL key 1)) (nI (wdL key 2)) (nI 0) J = some (if k = 1 ∧ wm T p e key = true then nI 1 else nI 0) := by
  obtain ⟨⟨a1, a2, a3, a4⟩, -, ⟨c1, c2, c3⟩, -⟩ := h
  have hn := hT.1
  unfold f_X12_isWordAt b_X12_isWordAt_10
  rw [if_pos nI_0, c1, c2, c3, u_sub a1, if_pos nI_0]
  by_cases k1 : k = 1
  rotate_left
  · rw [if_neg (fun q => k1 ((nI_eq (by omega) (by omega)).mp q)), if_neg (fun q => k1 q.1)]
  rw [if_pos (by rw [k1])]
  have ew : wm T p e key = (decide (e - p = 3) && (decide (T p = nI (wdL key 0)) && (decide (T (p + 1) = nI (wdL key 1)) && (decide (T (p + 2) = nI (wdL key 2)) && true)))) := by
    unfold wm; rw [h4]; rfl
  rw [ew]
  by_cases c : e - p = 3
  rotate_left
  · rw [if_neg (fun q => c ((nI_eq (by omega) (by omega)).mp q)), if_neg (fun q => by have := q.2; rw [decide_eq_false c] at this; cases this)]
  rw [if_pos (by rw [c]), decide_eq_true c, nI_add, nI_add, u_rd (show p < 96 by omega) (by decide), u_rd (show p + 1 < 96 by omega) (by decide), u_rd (show p + 2 < 96 by omega) (by decide), u_s1, u_s1, u_s1, show J (269 + 7) p = T p from (hT.2.2.2 _ (by omega)).2, show J (269 + 7) (p + 1) = T (p + 1) from (hT.2.2.2 _ (by omega)).2, show J (269 + 7) (p + 2) = T (p + 2) from (hT.2.2.2 _ (by omega)).2]
  by_cases z0 : T p = nI (wdL key 0)
  rotate_left
  · rw [if_neg z0, if_neg (fun q => by have := q.2; rw [decide_eq_false z0] at this; cases this)]
  by_cases z1 : T (p + 1) = nI (wdL key 1)
  rotate_left
  · rw [if_pos z0, if_neg z1, if_neg (fun q => by have := q.2; rw [decide_eq_true z0, decide_eq_false z1] at this; cases this)]
  by_cases z2 : T (p + 2) = nI (wdL key 2)
  rotate_left
  · rw [if_pos z0, if_pos z1, if_neg z2, if_neg (fun q => by have := q.2; rw [decide_eq_true z0, decide_eq_true z1, decide_eq_false z2] at this; cases this)]
  rw [if_pos z0, if_pos z1, if_pos z2, if_pos ⟨k1, by rw [decide_eq_true z0, decide_eq_true z1, decide_eq_true z2]; rfl⟩]
/-- the first key whose word it is -/
def kf (W : Nat → Bool) : Nat → Nat → Int32
  | 0, _ => -1
  | r + 1, i => if W i = true then nI i else kf W r (i + 1)
theorem kf_r {W : Nat → Bool} : ∀ r i, kf W r i = -1 ∨ ∃ key, key < i + r ∧ kf W r i = nI key := by
  intro r
  induction r with
  | zero => intro i; exact Or.inl rfl
  | succ r ih =>
    intro i
    show (if W i = true then nI i else kf W r (i + 1)) = -1 ∨ ∃ key, key < i + (r + 1) ∧ (if W i = true then nI i else kf W r (i + 1)) = nI key
    by_cases c : W i = true
    · rw [if_pos c]; exact Or.inr ⟨i, by omega, rfl⟩
    · rw [if_neg c]
      rcases ih (i + 1) with z | ⟨key, z1, z2⟩
      · exact Or.inl z
      · exact Or.inr ⟨key, by omega, z2⟩
theorem word_ev : ∀ key, key < 7 → f_X5_word (nI key) = some key := by decide +kernel
theorem key_ev {T : Nat → Int32} {n p e k : Nat} {I J : qI} (h : LX T n p e k I J) (hT : TT T n I J) : ∃ v, f_X5_keyHere 260 I = some v ∧ f_X12_key 269 J = some v ∧ (v = -1 ∨ ∃ key, key < 7 ∧ v = nI key) := by
  have k3 : I 260 3 = nI k := h.2.1.2.2
  have hk4 := h.1.2.2.1
  have m0 := wordM4 h hT (key := 0) (by decide) rfl (by decide +kernel)
  have m1 := wordM4 h hT (key := 1) (by decide) rfl (by decide +kernel)
  have m2 := wordM3 h hT (key := 2) (by decide) rfl
  have m3 := wordM4 h hT (key := 3) (by decide) rfl (by decide +kernel)
  have m4 := wordM4 h hT (key := 4) (by decide) rfl (by decide +kernel)
  have m5 := wordM4 h hT (key := 5) (by decide) rfl (by decide +kernel)
  have m6 := wordM3 h hT (key := 6) (by decide) rfl
  have eM : f_X12_key 269 J = some (kf (fun i => decide (k = 1) && wm T p e i) 7 0) := by
    unfold f_X12_key
    rw [show f_X12_isWordAt 269 (nI 119) (nI 97) (nI 103) (nI 101) J = _ from m0, show f_X12_isWordAt 269 (nI 115) (nI 116) (nI 111) (nI 112) J = _ from m1, show f_X12_isWordAt 269 (nI 100) (nI 117) (nI 101) (nI 0) J = _ from m2, show f_X12_isWordAt 269 (nI 99) (nI 111) (nI 105) (nI 110) J = _ from m3, show f_X12_isWordAt 269 (nI 102) (nI 105) (nI 110) (nI 101) J = _ from m4, show f_X12_isWordAt 269 (nI 107) (nI 101) (nI 101) (nI 112) J = _ from m5, show f_X12_isWordAt 269 (nI 97) (nI 99) (nI 116) (nI 0) J = _ from m6, u_s1, u_s1, u_s1, u_s1, u_s1, u_s1, u_s1]
    have st : ∀ i r (X : Option Int32), X = some (kf (fun i => decide (k = 1) && wm T p e i) r (i + 1)) → (if (if k = 1 ∧ wm T p e i = true then nI 1 else nI 0) = 0 then X else some (nI i)) = some (kf (fun i => decide (k = 1) && wm T p e i) (r + 1) i) := by
      intro i r X hX
      show _ = some (if (decide (k = 1) && wm T p e i) = true then nI i else kf (fun i => decide (k = 1) && wm T p e i) r (i + 1))
      by_cases c : k = 1 ∧ wm T p e i = true
      · rw [if_pos c, if_neg nI1, if_pos (by rw [decide_eq_true c.1, c.2]; rfl)]
      · rw [if_neg c, if_pos nI_0, if_neg (fun q => c ⟨of_decide_eq_true (Bool.and_eq_true _ _ ▸ q).1, (Bool.and_eq_true _ _ ▸ q).2⟩)]
        exact hX
    exact st 0 6 _ (st 1 5 _ (st 2 4 _ (st 3 3 _ (st 4 2 _ (st 5 1 _ (st 6 0 _ rfl))))))
  refine ⟨kf (fun i => decide (k = 1) && wm T p e i) 7 0, ?_, eM, by
    rcases kf_r (W := fun i => decide (k = 1) && wm T p e i) 7 0 with z | ⟨key, z1, z2⟩
    · exact Or.inl z
    · exact Or.inr ⟨key, by omega, z2⟩⟩
  unfold f_X5_keyHere
  rw [k3]
  by_cases k1 : k = 1
  rotate_left
  · rw [if_neg (fun q => k1 ((nI_eq (by omega) (by omega)).mp q)), decide_eq_false k1]
    rfl
  rw [if_pos (by rw [k1])]
  have lp : ∀ r f i, i + r = 7 → r < f → q_fix (fun _ => none) (b_X5_keyHere_12 260 I) f (nI i) = some (kf (fun i => decide (k = 1) && wm T p e i) r i) := by
    intro r
    induction r with
    | zero =>
      intro f i h1 h2
      obtain ⟨f, rfl⟩ : ∃ z, f = z + 1 := ⟨f - 1, by omega⟩
      show b_X5_keyHere_12 260 I (q_fix (fun _ => none) (b_X5_keyHere_12 260 I) f) (nI i) = _
      unfold b_X5_keyHere_12
      rw [if_pos (nI_lt (by omega) (by omega))]
      rfl
    | succ r ih =>
      intro f i h1 h2
      obtain ⟨f, rfl⟩ : ∃ z, f = z + 1 := ⟨f - 1, by omega⟩
      have ih' := ih f (i + 1) (by omega) (by omega)
      show b_X5_keyHere_12 260 I (q_fix (fun _ => none) (b_X5_keyHere_12 260 I) f) (nI i) = some (if (decide (k = 1) && wm T p e i) = true then nI i else kf (fun i => decide (k = 1) && wm T p e i) r (i + 1))
      generalize q_fix (fun _ => none) (b_X5_keyHere_12 260 I) f = K at ih' ⊢
      unfold b_X5_keyHere_12
      rw [if_neg (Int32.not_lt.mpr (nI_le (show i ≤ 6 by omega) (by decide))), word_ev i (by omega), u_s1, if_neg (by omega), wordC h hT (show i < 7 by omega), u_s1, nI_add]
      by_cases c : wm T p e i = true
      · rw [if_pos c, if_neg nI1, if_pos (by rw [decide_eq_true k1, c]; rfl)]
      · rw [if_neg c, if_pos nI_0, if_neg (fun q => c (Bool.and_eq_true _ _ ▸ q).2)]
        exact ih'
  exact lp 7 q_fu 0 (by decide) (by have := q_fu1; omega)
