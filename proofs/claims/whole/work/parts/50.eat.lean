/-! LEVEL B: a day: loaves -/
theorem upd_comm {t : Nat → Int32} {a b : Nat} {x y : Int32} (h : a ≠ b) : upd (upd t a x) b y = upd (upd t b y) a x := by
  funext n
  by_cases e1 : n = a
  · subst e1; rw [upd_o h, upd_s, upd_s]
  · by_cases e2 : n = b
    · subst e2; rw [upd_s, upd_o e1, upd_s]
    · rw [upd_o e2, upd_o e1, upd_o e1, upd_o e2]
theorem upd_id {t : Nat → Int32} {a : Nat} : upd t a (t a) = t := by
  funext n
  by_cases e : n = a
  · rw [e, upd_s]
  · rw [upd_o e]
theorem nI_sub0 {a b : Nat} (h : b ≤ a) (ha : a < 2 ^ 31) : nI b - nI a ≤ 0 := by
  rw [← Int32.not_lt]
  intro q
  have e : (nI b - nI a).toInt = (b : Int) - a := by
    rw [Int32.toInt_sub, nI_toInt (by omega), nI_toInt ha]
    exact Int.bmod_eq_of_le (by omega) (by omega)
  rw [Int32.lt_iff_toInt_lt, e, Int32.toInt_zero] at q
  omega
/-- how many loaves pence let: by the price alone -/
def lvq (P : Int32) (pn : Nat) : Nat := if P ≤ 0 then 0 else P.toNatClampNeg / pn
theorem RV.pr {X : qX} {v : Nat} {I : qI} {t : Nat → Int32} {j : Nat} (h : RV X v I t j) {k : Nat} (hk : k < cn t 1) : t (50 + 4 * k + 1) = nI (cn t (50 + 4 * k + 1)) ∧ 1 ≤ cn t (50 + 4 * k + 1) ∧ cn t (50 + 4 * k + 1) ≤ 99 := by
  have b := h.bd
  obtain ⟨a, -, c⟩ := h.r_s1 (k := k) (by omega)
  refine ⟨a, ?_, c⟩
  refine Nat.pos_of_ne_zero fun e => (h.dd.2.2.1 k hk).1 ?_
  rw [a, e]; rfl
theorem pos_nI {P : Int32} (h : ¬ P ≤ 0) : ∃ k, P = nI k ∧ 0 < k ∧ k < 2 ^ 31 := by
  have h' := Int32.not_le.mp h
  obtain ⟨k, hk, rfl⟩ := nI_of (x := P) (fun q => Int32.lt_irrefl (Int32.lt_trans q h'))
  refine ⟨k, rfl, Nat.pos_of_ne_zero fun e => ?_, hk⟩
  subst e
  rw [nI_0] at h'
  exact Int32.lt_irrefl h'
theorem lvq_le (P : Int32) {pn : Nat} (h : 1 ≤ pn) : lvq P pn < 2 ^ 31 := by
  unfold lvq
  by_cases c : P ≤ 0
  · rw [if_pos c]; decide
  · rw [if_neg c]
    obtain ⟨k, rfl, k1, k2⟩ := pos_nI c
    rw [nI_clamp k2]
    exact Nat.lt_of_le_of_lt (Nat.div_le_self _ _) k2
theorem RV.lvC {X : qX} {v : Nat} {I : qI} {t : Nat → Int32} {j : Nat} (h : RV X v I t j) {a k : Nat} (ha : a = v + 7) (hk : k < cn t 1) (P : Int32) : f_X8_loavesFor a (nI k) P I = some (nI (min (cn t (50 + 4 * k + 2)) (lvq P (cn t (50 + 4 * k + 1))))) := by
  subst ha
  have b := h.bd
  obtain ⟨p1, p2, p3⟩ := h.pr hk
  obtain ⟨s1, -, s2⟩ := h.r_s2 (k := k) (by omega)
  unfold f_X8_loavesFor
  by_cases c : P ≤ 0
  · rw [if_pos c]
    unfold lvq
    rw [if_pos c, Nat.min_zero]
  · rw [if_neg c, u_rd (show k < 6 by omega) (by decide), u_s1, h.s1 rfl (by omega), p1, if_pos (by rw [← nI_0]; exact nI_lt (by omega) (by omega)), u_rd (show k < 6 by omega) (by decide), u_s1, u_s1, h.s2 rfl (by omega), s1, if_neg (nI_ne0 (by omega) (by omega))]
    obtain ⟨z, rfl, z1, z2⟩ := pos_nI c
    unfold lvq
    rw [if_neg c, nI_clamp z2, u_div z2 (by omega), q_min_nI (by omega) (Nat.lt_of_le_of_lt (Nat.div_le_self _ _) z2)]
def lk (t : Nat → Int32) (m : Nat) : Nat := cn t (80 + 24 * m + 2) - cn t (80 + 24 * m + 3)
theorem RV.lackJ {X : qX} {v : Nat} {I J : qI} {j : Nat} (h : RV X v I (J 270) j) {m : Nat} (hm : m < 12) : f_X12_lack 269 (nI m) J = some (nI (lk (J 270) m)) := by
  obtain ⟨n1, -, n2⟩ := h.r_m2 (m := m) hm
  obtain ⟨b1, -, b2⟩ := h.r_m3 (m := m) hm
  unfold f_X12_lack f_X12_manAt lk
  rw [u_s1, u_mul, nI_add, nI_add, u_rd (show 80 + 24 * m + 3 < 3580 by omega) (by decide), u_s1, nI_add, u_rd (show 80 + 24 * m + 2 < 3580 by omega) (by decide), u_s1, u_s1, u_s1, show J (269 + 1) = J 270 from rfl, n1, b1]
  generalize hN : cn (J 270) (80 + 24 * m + 2) = nd at *
  generalize hB : cn (J 270) (80 + 24 * m + 3) = br at *
  by_cases c : nd ≤ br
  · rw [if_pos (nI_le c (by omega)), show nd - br = 0 by omega]
  · rw [if_neg (nI_ge (by omega) (by omega)), u_sub (by omega)]
theorem RV.lvJ {X : qX} {v : Nat} {I J : qI} {j : Nat} (h : RV X v I (J 270) j) {m k : Nat} (hm : m < 12) (hk : k < cn (J 270) 1) (P : Int32) : f_X12_loaves 269 (nI m) (nI k) P J = some (nI (min (min (lvq P (cn (J 270) (50 + 4 * k + 1))) (lk (J 270) m)) (cn (J 270) (50 + 4 * k + 2)))) := by
  have b := h.bd
  obtain ⟨p1, p2, p3⟩ := h.pr hk
  obtain ⟨s1, -, s2⟩ := h.r_s2 (k := k) (by omega)
  have lq := lvq_le P p2
  have ll : lk (J 270) m < 2 ^ 31 := by
    have := (h.r_m2 (m := m) hm).2.2
    unfold lk; omega
  have key : ∀ x : Nat, x < 2 ^ 31 → b_X12_loaves_22 269 (nI m) (nI k) P J (nI x) = some (nI (min (min x (lk (J 270) m)) (cn (J 270) (50 + 4 * k + 2)))) := by
    intro x hx
    unfold b_X12_loaves_22 f_X12_shopAt
    rw [h.lackJ hm, u_s1, q_least, u_s1, u_s1, u_mul, nI_add, nI_add, u_rd (show 50 + 4 * k + 2 < 3580 by omega) (by decide), u_s1, show J (269 + 1) = J 270 from rfl, s1, q_least, u_s1, q_min_nI hx ll, q_min_nI (by omega) (by omega)]
  unfold f_X12_loaves f_X12_shopAt
  rw [u_s1, u_mul, nI_add, nI_add, u_rd (show 50 + 4 * k + 1 < 3580 by omega) (by decide), u_s1, show J (269 + 1) = J 270 from rfl, p1, if_neg (nI_ne0 (by omega) (by omega))]
  by_cases c : P ≤ 0
  · have e : lvq P (cn (J 270) (50 + 4 * k + 1)) = 0 := by unfold lvq; rw [if_pos c]
    rw [e]
    by_cases c2 : 0 ≤ P
    · have e0 : P = nI 0 := by rw [nI_0]; exact Int32.le_antisymm c c2
      rw [if_pos c2, e0, u_div (by decide) (by omega), Nat.zero_div]
      rw [e0] at key
      exact key 0 (by decide)
    · rw [if_neg c2]
      exact key 0 (by decide)
  · obtain ⟨z, rfl, z1, z2⟩ := pos_nI c
    have e : lvq (nI z) (cn (J 270) (50 + 4 * k + 1)) = z / cn (J 270) (50 + 4 * k + 1) := by unfold lvq; rw [if_neg c, nI_clamp z2]
    rw [if_pos (nI_pos' z2), u_div z2 (by omega), e]
    exact key _ (Nat.lt_of_le_of_lt (Nat.div_le_self _ _) z2)
theorem RD.rf {X : qX} {v j : Nat} {I J : qI} (h : RV X v I (J 270) j) : RD X v j I J I J := ⟨h, FC.rfl', GM.rfl', fun _ _ => rfl⟩
theorem RD.noop {X : qX} {v j : Nat} {I J : qI} (h : RV X v I (J 270) j) {n : Nat} {x : Int32} (hx : x = J 270 n) : RD X v j I J I (q_up J 270 n x) ∧ q_up J 270 n x 270 = J 270 := by
  have e : q_up J 270 n x 270 = J 270 := by rw [up270, hx, upd_id]
  exact ⟨⟨by rw [e]; exact h, FC.rfl', GM.rfl'.up (by decide), fun k _ => by rw [e]⟩, e⟩
/-- one paired write inside of a day -/
theorem RD.up {X : qX} {v j : Nat} {I J : qI} (h : RV X v I (J 270) j) (hv : v ≤ 195) {n o i : Nat} {x : Int32} (hn : vq n = some (o, i)) (hr : rgS n x) (hD : DD (upd (J 270) n x) j) (h2 : 10 ≤ n ∧ n < 850 ∧ ¬ (80 ≤ n ∧ n < 368 ∧ ((n - 80) % 24 = 9 ∨ (n - 80) % 24 = 2))) (ht : n < 850 ∨ 3250 ≤ n) (hm : ∀ m, cn (J 270) 2 ≤ m → m < 12 → n < 80 + 24 * m ∨ 80 + 24 * m + 24 ≤ n) : RD X v j I J (q_up I (v + o) i x) (q_up J 270 n x) := by
  have ho := (vq_c hn).2
  refine ⟨?_, FC.rfl'.up (by omega) (by omega), GM.rfl'.up (by decide), fun k hk => ?_⟩
  · rw [up270]; exact h.up hv hn hr hD (by omega) ht hm
  · rw [up270, upd_o (by omega)]
/-- loaves taken -/
theorem tk_pair {X : qX} {v j : Nat} {I J : qI} (h : RV X v I (J 270) j) (hv : v ≤ 195) {m k n : Nat} (hm : m < cn (J 270) 2) (hk : k < cn (J 270) 1) (hn : 1 ≤ n) (hb : cn (J 270) (80 + 24 * m + 3) + n ≤ 99999) (hs : n ≤ cn (J 270) (50 + 4 * k + 2)) : ∃ I' J', f_X9_takeLoaves v (nI m) (nI k) (nI n) I = some I' ∧ f_X12_takes 269 (nI m) (nI k) (nI n) J = some J' ∧ RD X v j I J I' J' := by
  have b := h.bd
  have hm12 : m < 12 := by omega
  have hk6 : k < 6 := by omega
  obtain ⟨b1, -, b2⟩ := h.r_m3 (m := m) hm12
  obtain ⟨s1, -, s2⟩ := h.r_s2 (k := k) hk6
  unfold f_X9_takeLoaves f_X12_takes b_X9_takeLoaves_51 b_X12_takes_64 f_X12_manAt f_X12_shopAt
  -- bread, stock
  have d1 := RD.up h hv (vq_man m hm12 3 (by decide)) (x := J 270 (80 + 24 * m + 3) + nI n) (by rw [b1, nI_add]; exact rgS_i (rg_m3 m hm12) (by omega) (by omega)) (h.dd.up (by simp [dr]; omega) _) (by omega) (by omega) (by omega)
  have d2 := RD.up d1.1 hv (vq_shop k hk6 2 (by decide)) (x := J 270 (50 + 4 * k + 2) - nI n) (by rw [s1, u_sub hs]; exact rgS_i (rg_s2 k hk6) (by omega) (by omega)) (d1.1.dd.up (by simp [dr]; omega) _) (by omega) (by omega) (by omega)
  have d2' := d1.tr d2
  rw [u_rd hm12 (by decide), u_s1, h.m3 rfl hm12, u_wr hm12 (by decide), u_s1, u_rd hk6 (by decide), u_s1, u_up_a (by omega), h.s2 rfl hk6, u_wr hk6 (by decide), u_s1, u_rd hk6 (by decide), u_s1, u_up_a (by omega), u_up_a (by omega), h.s0 rfl hk6]
  rw [if_neg (nI_nle (by omega) (by omega)), u_s1, u_s1, u_mul, nI_add, u_mul, nI_add, nI_add, u_rd (show 50 + 4 * k + 2 < 3580 by omega) (by decide), u_s1, u_wr (show 50 + 4 * k + 2 < 3580 by omega) (by decide), u_s1, nI_add, u_rd (show 80 + 24 * m + 3 < 3580 by omega) (by decide), u_s1, show (269 + 1 : Nat) = 270 from rfl, u_up_j (show 80 + 24 * m + 3 ≠ 50 + 4 * k + 2 by omega), u_wr (show 80 + 24 * m + 3 < 3580 by omega) (by decide), u_s1]
  have eJ : q_up (q_up J 270 (50 + 4 * k + 2) (J 270 (50 + 4 * k + 2) - nI n)) 270 (80 + 24 * m + 3) (J 270 (80 + 24 * m + 3) + nI n) = q_up (q_up J 270 (80 + 24 * m + 3) (J 270 (80 + 24 * m + 3) + nI n)) 270 (50 + 4 * k + 2) (J 270 (50 + 4 * k + 2) - nI n) := by
    funext a
    by_cases e : a = 270
    · subst e; rw [up270, up270, up270, up270, upd_comm (by omega)]
    · funext z; rw [u_up_a e, u_up_a e, u_up_a e, u_up_a e]
  rw [eJ]
  generalize hJ2 : q_up (q_up J 270 (80 + 24 * m + 3) (J 270 (80 + 24 * m + 3) + nI n)) 270 (50 + 4 * k + 2) (J 270 (50 + 4 * k + 2) - nI n) = J2 at d2' ⊢
  generalize hI2 : q_up (q_up I (v + (13 + 3)) m (J 270 (80 + 24 * m + 3) + nI n)) (v + (8 + 2)) k (J 270 (50 + 4 * k + 2) - nI n) = I2 at d2'
  try rw [show q_up (q_up I (v + 16) m (J 270 (80 + 24 * m + 3) + nI n)) (v + 10) k (J 270 (50 + 4 * k + 2) - nI n) = I2 from hI2]
  have t2 : ∀ z, z ≠ 80 + 24 * m + 3 → z ≠ 50 + 4 * k + 2 → J2 270 z = J 270 z := fun z q1 q2 => by rw [← hJ2, up270, up270, upd_o q2, upd_o q1]
  have h2 := d2'.1
  have c2 : cn (J2 270) 2 = cn (J 270) 2 := d2'.c (by decide)
  rw [nI_add, u_rd (show 80 + 24 * m + 7 < 3580 by omega) (by decide), u_s1, h2.townJ hk6, u_s1, t2 (50 + 4 * k) (by omega) (by omega)]
  rw [u_rd hm12 (by decide), u_s1, h2.m7 rfl hm12, u_wr hm12 (by decide), u_s1, u_wr (show 80 + 24 * m + 7 < 3580 by omega) (by decide), u_wr (show 80 + 24 * m + 7 < 3580 by omega) (by decide), u_s1, u_s1]
  have fin : ∀ I3 J3, RD X v j I J I3 J3 → ∃ I' J', (q_b1 (q_rd I3 (v + 9) 6 (nI k)) fun v4 => q_b1 (f_X2_learn (v + 12) (nI m) (nI k) v4 (I3 v 13) I3) fun I6 => some I6) = some I' ∧ (q_b1 (f_X12_knows 269 (nI m) (nI k) J3) fun I4 => some I4) = some J' ∧ RD X v j I J I' J' := by
    intro I3 J3 d3
    have h3 := d3.1
    have c3 : cn (J3 270) 2 = cn (J 270) 2 := d3.c (by decide)
    rw [u_rd hk6 (by decide), u_s1, h3.s1 rfl hk6, h3.sc0 (a := v) rfl, learn_ev rfl hm12 hk6, u_s1, knowsJ_ev hm12 hk6, u_s1]
    refine ⟨_, _, rfl, rfl, d3.tr ⟨?_, lnI_FC _ _ _ _ _ _, lnJ_GM _ _ _ _ _, fun z hz => ?_⟩⟩
    · rw [lnJ_270]
      exact h3.learn hv (by omega) hk6 _ ⟨_, h3.k0.1, by omega, h3.k0.2⟩
    · rw [lnJ_270]; unfold lnT; rw [upd_o (by omega), upd_o (by omega)]
  by_cases e : J 270 (50 + 4 * k) = 0
  · simp only [if_pos e]
    rw [if_pos trivial]
    have d3 := RD.up h2 hv (vq_man m hm12 7 (by decide)) (x := J2 270 (80 + 24 * m + 7) + nI n) (rgS_n (rn_m7 m hm12)) (h2.dd.up (by simp [dr]; omega) _) (by omega) (by omega) (by omega)
    exact fin _ _ (d2'.tr d3)
  · simp only [if_neg e]
    rw [if_neg u_one]
    exact fin _ _ (d2'.tr (RD.noop h2 (by rw [nI_0, Int32.add_zero])).1)
theorem RE.up {X : qX} {v j : Nat} {I J : qI} (h : RV X v I (J 270) j) (hv : v ≤ 195) {n o i : Nat} {x : Int32} (hn : vq n = some (o, i)) (hr : rgS n x) (hD : DD (upd (J 270) n x) j) (h2 : 10 ≤ n ∧ n < 850) (ht : n < 850 ∨ 3250 ≤ n) (hm : ∀ m, cn (J 270) 2 ≤ m → m < 12 → n < 80 + 24 * m ∨ 80 + 24 * m + 24 ≤ n) : RE X v j I J (q_up I (v + o) i x) (q_up J 270 n x) := by
  have ho := (vq_c hn).2
  refine ⟨?_, FC.rfl'.up (by omega) (by omega), GM.rfl'.up (by decide), fun k hk => ?_⟩
  · rw [up270]; exact h.up hv hn hr hD (by omega) ht hm
  · rw [up270, upd_o (by omega)]
