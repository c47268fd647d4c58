/-! LEVEL B: pairs of terms that come to one answer -/
def G2 (X : qX) (I J : qI) (A B : Option (Int32 × qI)) : Prop := ∃ r I' J', A = some (r, I') ∧ B = some (r, J') ∧ WW X I' J' ∧ CF I I' ∧ MF J J'
def G0 (A B : Option Int32) : Prop := ∃ r, A = some r ∧ B = some r
theorem G2.ite {X : qX} {I J : qI} {A B A' B' : Option (Int32 × qI)} {c : Prop} [Decidable c] (h1 : c → G2 X I J A A') (h2 : ¬ c → G2 X I J B B') : G2 X I J (if c then A else B) (if c then A' else B') := by
  by_cases h : c
  · rw [if_pos h, if_pos h]; exact h1 h
  · rw [if_neg h, if_neg h]; exact h2 h
theorem G0.ite {A B A' B' : Option Int32} {c : Prop} [Decidable c] (h1 : c → G0 A A') (h2 : ¬ c → G0 B B') : G0 (if c then A else B) (if c then A' else B') := by
  by_cases h : c
  · rw [if_pos h, if_pos h]; exact h1 h
  · rw [if_neg h, if_neg h]; exact h2 h
theorem G0.rf (r : Int32) : G0 (some r) (some r) := ⟨r, rfl, rfl⟩
theorem WW.same {X : qX} {I J : qI} (h : WW X I J) (r : Int32) : G2 X I J (some (r, I)) (some (r, J)) := ⟨r, I, J, rfl, rfl, h, fun _ _ _ => rfl, fun _ _ => rfl⟩
theorem WW.put2 {X : qX} {I J I' J' : qI} (h : WW X I J) (hR : RV X 65 I' (J' 270) 0) (hF : FC 65 I I') (hG : GM J J') {r s : Int32} (hr : r = s) : G2 X I J (some (r, I')) (some (s, J')) := by
  subst hr
  exact ⟨r, I', J', rfl, rfl, h.put hR hF hG⟩
theorem WW.one {X : qX} {I J : qI} (h : WW X I J) {r s : Int32} {a n o i : Nat} {x : Int32} (hn : vq n = some (o, i)) (ha : a = 65 + o) (hr : rgS n x) (hD : DD (upd (J 270) n x) 0) (h2 : n ≠ 2 ∧ n ≠ 3 ∧ n ≠ 4) (ht : n < 850 ∨ 3250 ≤ n) (hm : ∀ m, cn (J 270) 2 ≤ m → m < 12 → n < 80 + 24 * m ∨ 80 + 24 * m + 24 ≤ n) (hrs : r = s) (h0 : n ≠ 0 := by omega) : G2 X I J (some (r, q_up I a i x)) (some (s, q_up J 270 n x)) := by
  subst ha hrs
  exact ⟨r, _, _, rfl, rfl, h.up1 hn hr hD h2 ht hm⟩
/-- a row's place exchanged -/
theorem WW.exch {X : qX} {I J : qI} (h : WW X I J) {a n o i N : Nat} {x : Int32} (hn : vq n = some (o, i)) (ha : a = 65 + o) (hkd : q_kd X a = some (0, N)) (hi : i < N) (hN : N < 2 ^ 31) (hr : rgS n x) (hD : DD (upd (J 270) n x) 0) (h2 : n ≠ 2 ∧ n ≠ 3 ∧ n ≠ 4) (ht : n < 850 ∨ 3250 ≤ n ∧ n < 3580) (hm : ∀ m, cn (J 270) 2 ≤ m → m < 12 → n < 80 + 24 * m ∨ 80 + 24 * m + 24 ≤ n) (hP : Ph (cn (J 270) 2) n) (h0 : n ≠ 0 := by omega) : G2 X I J (q_b2 (f_X11_exchanged (some a) (nI i) x X I) fun v8 I9 => some (v8, I9)) (q_b2 (f_X12_becomes 269 (nI n) x J) fun v4 I5 => some (v4, I5)) := by
  rw [u_exchanged hkd hi hN, u_s2, u_becomes (by omega), u_s2]
  subst ha
  exact h.one hn rfl hr hD h2 (by omega) hm (h.2.1.1 n o i hn hP)
theorem VX.k {X : qX} (h : VX X) {a k : Nat} {d : Nat × Nat} (ha : a = k + 64) (hk : q_kz[k]? = some d) : q_kd X a = some d := by
  subst ha
  exact h.2 k d hk
theorem rgS_i {n lo hi k : Nat} (h : rgT n = some (false, lo, hi)) (h1 : lo ≤ k) (h2 : k ≤ hi) : rgS n (nI k) := (rgS_f h).mpr ⟨k, rfl, h1, h2⟩
theorem ii_1_150 (y : Int32) : f_X12_isIn y.toInt64 (1 : Int64) (150 : Int64) = some (if nI 1 ≤ y ∧ y ≤ nI 150 then 1 else 0) := by rw [l64_1, l64_150, u_isIn32]
theorem ii_1_2 (y : Int32) : f_X12_isIn y.toInt64 (1 : Int64) (2 : Int64) = some (if nI 1 ≤ y ∧ y ≤ nI 2 then 1 else 0) := by rw [l64_1, l64_2, u_isIn32]
theorem ii_0_0 (y : Int32) : f_X12_isIn y.toInt64 (0 : Int64) (0 : Int64) = some (if nI 0 ≤ y ∧ y ≤ nI 0 then 1 else 0) := by rw [l64_0, u_isIn32]
theorem u_out {y : Int32} {a b k : Nat} (h : ¬ (nI a ≤ y ∧ y ≤ nI b)) (h1 : a ≤ k) (h2 : k ≤ b) (hb : b < 2 ^ 31) : ¬ y = nI k := fun e => h (e ▸ ⟨nI_le h1 (by omega), nI_le h2 hb⟩)
def sumF (f : Nat → Int32) : Nat → Nat → Int32 → Int32
  | _, 0, x => x
  | i, r + 1, x => sumF f (i + 1) r (x + f i)
theorem u_acc {b : (Int32 → Int32 → Option Int32) → Int32 → Int32 → Option Int32} {f : Nat → Int32} {n : Nat} (hb : ∀ k x i, i < n → b k x (nI i) = k (x + f i) (nI (i + 1))) (he : ∀ k x, b k x (nI n) = some x) : ∀ r fu i x, i + r = n → r < fu → q_fix (fun _ _ => none) b fu x (nI i) = some (sumF f i r x) := by
  intro r
  induction r with
  | zero =>
    intro fu i x h1 h2
    obtain ⟨fu, rfl⟩ : ∃ k, fu = k + 1 := ⟨fu - 1, by omega⟩
    have : i = n := by omega
    subst this
    exact he _ x
  | succ r ih =>
    intro fu i x h1 h2
    obtain ⟨fu, rfl⟩ : ∃ k, fu = k + 1 := ⟨fu - 1, by omega⟩
    show b (q_fix (fun _ _ => none) b fu) x (nI i) = _
    rw [hb _ _ _ (by omega)]
    exact ih fu (i + 1) (x + f i) (by omega) (by omega)
theorem WW.rv {X : qX} {I J : qI} (h : WW X I J) : RV X 65 I (J 270) 0 := h.2.1
theorem RV.dd {X : qX} {v : Nat} {I : qI} {t : Nat → Int32} {j : Nat} (h : RV X v I t j) : DD t j := h.2.2.2.1
theorem W_pit {X : qX} (y1 y2 y3 : Int32) : P2 X (f_X11_pit 64 y1 y2 y3 X) (f_X12_pit 269 y1 y2 y3) := by
  intro I J h
  show G2 X I J (f_X11_pit 64 y1 y2 y3 X I) (f_X12_pit 269 y1 y2 y3 J)
  unfold f_X11_pit f_X12_pit b_X11_pit_36 b_X12_pit_33
  simp only [u_within, u_isPit, ii_0_1, ii_1_99, ii_1_150, u_s1, u_ib, ite_not]
  refine G2.ite (fun c1 => ?_) (fun _ => h.same _)
  refine G2.ite (fun c2 => ?_) (fun _ => h.same _)
  obtain ⟨p, rfl, -, hp⟩ := u_range (by decide) c1.1 c1.2 (by decide)
  obtain ⟨w, rfl, -, hw⟩ := u_range (by decide) c2.1 c2.2 (by decide)
  rcases (show w = 0 ∨ w = 1 by omega) with rfl | rfl
  · simp only [if_pos nI_0]
    refine G2.ite (fun c3 => ?_) (fun _ => h.same _)
    obtain ⟨y, rfl, hy1, hy2⟩ := u_range (by decide) c3.1 c3.2 (by decide)
    rw [u_rowP 0 (by decide), u_s1, u_mul, nI_add, nI_add]
    exact h.exch (vq_pit p (by omega) 0 (by decide)) rfl (h.1.k (k := 3) rfl rfl) (by omega) (by decide) (rgS_i (rg_p0 p (by omega)) hy1 hy2) (h.2.1.2.2.2.1.up (by simp [dr]; omega) _) (by omega) (by omega) (by omega) (by intro _ _ _; omega)
  · simp only [if_neg (show ¬ nI 1 = 0 by decide +kernel)]
    refine G2.ite (fun c3 => ?_) (fun _ => h.same _)
    obtain ⟨y, rfl, hy1, hy2⟩ := u_range (by decide) c3.1 c3.2 (by decide)
    rw [u_rowP 1 (by decide), u_s1, u_mul, nI_add, nI_add]
    exact h.exch (vq_pit p (by omega) 1 (by decide)) rfl (h.1.k (k := 4) rfl rfl) (by omega) (by decide) (rgS_i (rg_p1 p (by omega)) hy1 hy2) (h.2.1.2.2.2.1.up (by simp [dr]; omega) _) (by omega) (by omega) (by omega) (by intro _ _ _; omega)
