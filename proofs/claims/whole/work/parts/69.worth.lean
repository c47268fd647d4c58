/-! LEVEL B: worth -/
theorem u_seq {b : (Int32 → Int32 → Option Int32) → Int32 → Int32 → Option Int32} {F : Nat → Int32} {n : Nat} {z : Int32} (hb : ∀ k i, i < n → b k (F i) (nI i) = k (F (i + 1)) (nI (i + 1))) (he : ∀ k, b k (F n) (nI n) = some z) : ∀ r fu i, i + r = n → r < fu → q_fix (fun _ _ => none) b fu (F i) (nI i) = some z := by
  intro r
  induction r with
  | zero =>
    intro fu i h1 h2
    obtain ⟨fu, rfl⟩ : ∃ k, fu = k + 1 := ⟨fu - 1, by omega⟩
    have : i = n := by omega
    subst this
    exact he _
  | succ r ih =>
    intro fu i h1 h2
    obtain ⟨fu, rfl⟩ : ∃ k, fu = k + 1 := ⟨fu - 1, by omega⟩
    show b (q_fix (fun _ _ => none) b fu) (F i) (nI i) = _
    rw [hb _ _ (by omega)]
    exact ih fu (i + 1) (by omega) (by omega)
/-- the least price of a sort, shops below i -/
def lpr (t : Nat → Int32) (s : Nat) : Nat → Nat
  | 0 => 0
  | i + 1 => if cn t (50 + 4 * i) = s ∧ (lpr t s i = 0 ∨ cn t (50 + 4 * i + 1) < lpr t s i) then cn t (50 + 4 * i + 1) else lpr t s i
theorem lpr_le {X : qX} {v j : Nat} {I : qI} {t : Nat → Int32} (h : RV X v I t j) (s : Nat) : ∀ i, i ≤ cn t 1 → lpr t s i ≤ 99 := by
  intro i
  induction i with
  | zero => intro _; exact Nat.zero_le _
  | succ i ih =>
    intro hi
    have := (h.pr (k := i) (by omega)).2.2
    have := ih (by omega)
    show (if _ then _ else _) ≤ 99
    by_cases c : cn t (50 + 4 * i) = s ∧ (lpr t s i = 0 ∨ cn t (50 + 4 * i + 1) < lpr t s i)
    · rw [if_pos c]; omega
    · rw [if_neg c]; omega
theorem RV.so {X : qX} {v j : Nat} {I : qI} {t : Nat → Int32} (h : RV X v I t j) {k : Nat} (hk : k < 6) : t (50 + 4 * k) = nI (cn t (50 + 4 * k)) ∧ cn t (50 + 4 * k) ≤ 1 := ⟨(h.r_s0 hk).1, (h.r_s0 hk).2.2⟩
theorem RV.lpC {X : qX} {v j : Nat} {I : qI} {t : Nat → Int32} (h : RV X v I t j) {a s : Nat} (ha : a = v + 7) (hs : s ≤ 1) : f_X8_leastPrice a (nI s) I = some (nI (lpr t s (cn t 1))) := by
  subst ha
  have b := h.bd
  unfold f_X8_leastPrice
  refine u_seq (F := fun i => nI (lpr t s i)) (n := cn t 1) (fun k i hi => ?_) (fun k => ?_) (cn t 1) q_fu 0 (Nat.zero_add _) (by have := q_fu1; omega)
  · obtain ⟨p1, p2, p3⟩ := h.pr hi
    obtain ⟨s1, s2⟩ := h.so (k := i) (by omega)
    have l9 := lpr_le h s i (by omega)
    unfold b_X8_leastPrice_4 b_X8_leastPrice_36 b_X8_leastPrice_43
    rw [h.sc1 rfl, h.k1.1, if_neg (nI_ge hi (by omega)), u_rd (show i < 6 by omega) (by decide), u_s1, h.s0 rfl (by omega), s1, u_rd (show i < 6 by omega) (by decide), u_s1, u_s1, h.s1 rfl (by omega), p1, nI_add]
    show _ = k (nI (if cn t (50 + 4 * i) = s ∧ (lpr t s i = 0 ∨ cn t (50 + 4 * i + 1) < lpr t s i) then cn t (50 + 4 * i + 1) else lpr t s i)) (nI (i + 1))
    by_cases c1 : cn t (50 + 4 * i) = s
    rotate_left
    · rw [if_neg (nE (by omega) (by omega) c1), if_neg (fun q => c1 q.1)]
    rw [if_pos (by rw [c1])]
    by_cases c2 : lpr t s i = 0
    · rw [if_pos (by rw [c2, nI_0]), if_pos ⟨c1, Or.inl c2⟩]
    rw [if_neg (nI_ne0 (by omega) (by omega))]
    by_cases c3 : cn t (50 + 4 * i + 1) < lpr t s i
    · rw [if_neg (nI_ge c3 (by omega)), if_pos ⟨c1, Or.inr c3⟩]
    · rw [if_pos (nI_le (by omega) (by omega)), if_neg (fun q => q.2.elim c2 c3)]
  · unfold b_X8_leastPrice_4
    rw [h.sc1 rfl, h.k1.1, if_pos (Int32.le_refl _)]
def ltw (t : Nat → Int32) (L : Nat) : Nat → Nat
  | 0 => 0
  | i + 1 => if cn t (50 + 4 * i) = 1 ∧ cn t (50 + 4 * i + 3) ≤ L then max (ltw t L i) ((L - cn t (50 + 4 * i + 3)) / cn t (50 + 4 * i + 1)) else ltw t L i
theorem ltw_le (t : Nat → Int32) (L : Nat) : ∀ i, ltw t L i ≤ L := by
  intro i
  induction i with
  | zero => exact Nat.zero_le _
  | succ i ih =>
    show (if _ then _ else _) ≤ L
    by_cases c : cn t (50 + 4 * i) = 1 ∧ cn t (50 + 4 * i + 3) ≤ L
    · rw [if_pos c]
      have := Nat.div_le_self (L - cn t (50 + 4 * i + 3)) (cn t (50 + 4 * i + 1))
      omega
    · rw [if_neg c]; exact ih
theorem div_neg {a c b : Nat} (h : a < c) (hc : c < 2 ^ 31) (hb0 : 0 < b) (hb : b < 2 ^ 31) : (nI a - nI c) / nI b ≤ 0 := by
  have e : (nI a - nI c).toInt = (a : Int) - c := by
    rw [Int32.toInt_sub, nI_toInt (by omega), nI_toInt hc]
    exact Int.bmod_eq_of_le (by omega) (by omega)
  rw [Int32.le_iff_toInt_le, Int32.toInt_div, e, nI_toInt hb, Int32.toInt_zero]
  have h1 : (a : Int) - c = -((c - a : Nat) : Int) := by omega
  rw [h1, Int.neg_tdiv]
  have h2 : ((c - a : Nat) : Int).tdiv (b : Int) = (((c - a) / b : Nat) : Int) := rfl
  rw [h2]
  have h3 := Nat.div_le_self (c - a) b
  generalize (c - a) / b = q at h3 ⊢
  rw [Int.bmod_eq_of_le (by omega) (by omega)]
  omega
theorem RV.ltC {X : qX} {v j : Nat} {I : qI} {t : Nat → Int32} (h : RV X v I t j) {a L : Nat} (ha : a = v + 7) (hL : L < 2 ^ 31) : f_X8_loavesOfTown a (nI L) I = some (nI (ltw t L (cn t 1))) := by
  subst ha
  have b := h.bd
  unfold f_X8_loavesOfTown
  refine u_seq (F := fun i => nI (ltw t L i)) (n := cn t 1) (fun k i hi => ?_) (fun k => ?_) (cn t 1) q_fu 0 (Nat.zero_add _) (by have := q_fu1; omega)
  · obtain ⟨p1, p2, p3⟩ := h.pr hi
    obtain ⟨s1, s2⟩ := h.so (k := i) (by omega)
    obtain ⟨r1, -, r2⟩ := h.r_s3 (k := i) (by omega)
    have l9 := ltw_le t L i
    unfold b_X8_loavesOfTown_4 b_X8_loavesOfTown_51
    rw [h.sc1 rfl, h.k1.1, if_neg (nI_ge hi (by omega)), u_rd (show i < 6 by omega) (by decide), u_s1, h.s0 rfl (by omega), s1, u_rd (show i < 6 by omega) (by decide), u_s1, h.s1 rfl (by omega), p1, u_rd (show i < 6 by omega) (by decide), u_s1, u_s1, h.s3 rfl (by omega), r1, if_neg (nI_nle (by omega) (by omega)), if_neg (nI_ne0 (by omega) (by omega)), nI_add]
    show _ = k (nI (if cn t (50 + 4 * i) = 1 ∧ cn t (50 + 4 * i + 3) ≤ L then max (ltw t L i) ((L - cn t (50 + 4 * i + 3)) / cn t (50 + 4 * i + 1)) else ltw t L i)) (nI (i + 1))
    by_cases c1 : cn t (50 + 4 * i) = 1
    rotate_left
    · rw [if_neg (nE (by omega) (by decide) c1), if_neg (fun q => c1 q.1)]
    rw [if_pos (by rw [c1])]
    by_cases c2 : cn t (50 + 4 * i + 3) ≤ L
    · rw [if_pos ⟨c1, c2⟩, u_sub c2, u_div (by omega) (by omega), q_max_nI (by omega) (by have := Nat.div_le_self (L - cn t (50 + 4 * i + 3)) (cn t (50 + 4 * i + 1)); omega)]
    · rw [if_neg (fun q => c2 q.2)]
      have dn := div_neg (a := L) (c := cn t (50 + 4 * i + 3)) (b := cn t (50 + 4 * i + 1)) (by omega) (by omega) (by omega) (by omega)
      unfold q_max
      rw [if_neg (fun q => nI_pos (n := ltw t L i) (by omega) (Int32.lt_of_lt_of_le q dn))]
  · unfold b_X8_loavesOfTown_4
    rw [h.sc1 rfl, h.k1.1, if_pos (Int32.le_refl _)]
def lcm_ (t : Nat → Int32) (L i : Nat) : Nat := if lpr t 0 i = 0 then 0 else L / lpr t 0 i
theorem wM {X : qX} {v j L : Nat} {I J : qI} (h : RV X v I (J 270) j) (hL : L < 2 ^ 31) (h7 : J 269 7 = nI L) (x1 x2 : Int32) : ∀ r f i, i + r = cn (J 270) 1 → r < f → ∃ K, q_fix (fun _ _ _ _ => none) (b_X12_worth_37 269 x1 x2) f (nI (lcm_ (J 270) L i)) (nI (ltw (J 270) L i)) (nI i) J = b_X12_worth_37 269 x1 x2 K (nI (lcm_ (J 270) L (cn (J 270) 1))) (nI (ltw (J 270) L (cn (J 270) 1))) (nI (cn (J 270) 1)) J := by
  have b := h.bd
  intro r
  induction r with
  | zero =>
    intro f i h1 h2
    obtain ⟨f, rfl⟩ : ∃ z, f = z + 1 := ⟨f - 1, by omega⟩
    have e : i = cn (J 270) 1 := by omega
    subst e
    exact ⟨_, rfl⟩
  | succ r ih =>
    intro f i h1 h2
    obtain ⟨f, rfl⟩ : ∃ z, f = z + 1 := ⟨f - 1, by omega⟩
    obtain ⟨K, k1⟩ := ih f (i + 1) (by omega) (by omega)
    refine ⟨K, ?_⟩
    rw [← k1]
    show b_X12_worth_37 269 x1 x2 (q_fix (fun _ _ _ _ => none) (b_X12_worth_37 269 x1 x2) f) (nI (lcm_ (J 270) L i)) (nI (ltw (J 270) L i)) (nI i) J = _
    generalize q_fix (fun _ _ _ _ => none) (b_X12_worth_37 269 x1 x2) f = KM
    have hi6 : i < 6 := by omega
    obtain ⟨p1, p2, p3⟩ := h.pr (k := i) (by omega)
    obtain ⟨s1, s2⟩ := h.so hi6
    obtain ⟨r1, -, r2⟩ := h.r_s3 (k := i) hi6
    have l9 := lpr_le h 0 i (by omega)
    have lt9 := ltw_le (J 270) L i
    have road0 : cn (J 270) (50 + 4 * i) = 0 → cn (J 270) (50 + 4 * i + 3) = 0 := fun q => by
      have := (h.dd.2.2.1 i (by omega)).2 (by rw [s1, q]; rfl)
      unfold cn; rw [this]; decide
    -- the loaves of this shop
    obtain ⟨n, hn, n31⟩ : ∃ n, n = (if cn (J 270) (50 + 4 * i + 3) ≤ L then (L - cn (J 270) (50 + 4 * i + 3)) / cn (J 270) (50 + 4 * i + 1) else 0) ∧ n ≤ L := by
      refine ⟨_, rfl, ?_⟩
      by_cases q : cn (J 270) (50 + 4 * i + 3) ≤ L
      · rw [if_pos q]; have := Nat.div_le_self (L - cn (J 270) (50 + 4 * i + 3)) (cn (J 270) (50 + 4 * i + 1)); omega
      · rw [if_neg q]; exact Nat.zero_le _
    have e0 : b_X12_worth_37 269 x1 x2 KM (nI (lcm_ (J 270) L i)) (nI (ltw (J 270) L i)) (nI i) J = b_X12_worth_104 269 x1 x2 KM (nI (lcm_ (J 270) L i)) (nI (ltw (J 270) L i)) (nI i) (nI n) J := by
      unfold b_X12_worth_37 f_X12_shopAt
      simp only [u_s1, u_mul, nI_add]
      rw [u_rd (show 1 < 3580 by decide) (by decide), u_s1, h.k1.1, if_neg (nI_ge (by omega) (by omega)), u_rd (show 50 + 4 * i + 3 < 3580 by omega) (by decide), u_s1, u_s1, u_rd (show 50 + 4 * i + 1 < 3580 by omega) (by decide), u_s1, show J (269 + 1) = J 270 from rfl, r1, p1, h7, if_neg (nI_ne0 (by omega) (by omega))]
      by_cases q : cn (J 270) (50 + 4 * i + 3) ≤ L
      · rw [if_pos (nI_le q hL), u_sub q, u_div (by omega) (by omega), hn, if_pos q]
      · rw [if_neg (nI_ge (by omega) (by omega)), hn, if_neg q]
    rw [e0]
    have lc31 : lcm_ (J 270) L i < 2 ^ 31 := by
      unfold lcm_
      by_cases q : lpr (J 270) 0 i = 0
      · rw [if_pos q]; decide
      · rw [if_neg q]; exact Nat.lt_of_le_of_lt (Nat.div_le_self _ _) hL
    unfold b_X12_worth_104 b_X12_worth_126 b_X12_worth_127 b_X12_worth_149 b_X12_worth_151
    rw [h.townJ hi6, u_s1, nI_add]
    rcases (show cn (J 270) (50 + 4 * i) = 0 ∨ cn (J 270) (50 + 4 * i) = 1 by omega) with q | q
    · have z0 : J 270 (50 + 4 * i) = 0 := by rw [s1, q]; rfl
      have rd0 := road0 q
      have hn' : n = L / cn (J 270) (50 + 4 * i + 1) := by rw [hn, rd0, if_pos (Nat.zero_le _), Nat.sub_zero]
      have elt : ltw (J 270) L (i + 1) = ltw (J 270) L i := by show (if _ then _ else _) = _; rw [if_neg (fun z => by omega)]
      have elc : lcm_ (J 270) L (i + 1) = if n ≤ lcm_ (J 270) L i then lcm_ (J 270) L i else n := by
        unfold lcm_
        show (if (if cn (J 270) (50 + 4 * i) = 0 ∧ (lpr (J 270) 0 i = 0 ∨ cn (J 270) (50 + 4 * i + 1) < lpr (J 270) 0 i) then cn (J 270) (50 + 4 * i + 1) else lpr (J 270) 0 i) = 0 then 0 else L / (if cn (J 270) (50 + 4 * i) = 0 ∧ (lpr (J 270) 0 i = 0 ∨ cn (J 270) (50 + 4 * i + 1) < lpr (J 270) 0 i) then cn (J 270) (50 + 4 * i + 1) else lpr (J 270) 0 i)) = _
        by_cases z1 : lpr (J 270) 0 i = 0
        · rw [if_pos (show cn (J 270) (50 + 4 * i) = 0 ∧ (lpr (J 270) 0 i = 0 ∨ cn (J 270) (50 + 4 * i + 1) < lpr (J 270) 0 i) from ⟨q, Or.inl z1⟩), if_neg (by omega), if_pos z1, ← hn']
          by_cases z2 : n ≤ 0
          · rw [if_pos z2]; omega
          · rw [if_neg z2]
        · by_cases z3 : cn (J 270) (50 + 4 * i + 1) < lpr (J 270) 0 i
          · rw [if_pos (show cn (J 270) (50 + 4 * i) = 0 ∧ (lpr (J 270) 0 i = 0 ∨ cn (J 270) (50 + 4 * i + 1) < lpr (J 270) 0 i) from ⟨q, Or.inr z3⟩), if_neg (by omega), if_neg z1, ← hn']
            have mono : L / lpr (J 270) 0 i ≤ L / cn (J 270) (50 + 4 * i + 1) := Nat.div_le_div_left (by omega) (by omega)
            by_cases z2 : n ≤ L / lpr (J 270) 0 i
            · rw [if_pos z2]; omega
            · rw [if_neg z2]
          · rw [if_neg (show ¬ (cn (J 270) (50 + 4 * i) = 0 ∧ (lpr (J 270) 0 i = 0 ∨ cn (J 270) (50 + 4 * i + 1) < lpr (J 270) 0 i)) from fun y => y.2.elim z1 z3), if_neg z1]
            have mono : L / cn (J 270) (50 + 4 * i + 1) ≤ L / lpr (J 270) 0 i := Nat.div_le_div_left (by omega) (by omega)
            rw [if_pos (by omega)]
      rw [if_pos z0, if_pos rfl, elt, elc]
      by_cases z : n ≤ lcm_ (J 270) L i
      · rw [if_pos (nI_le z lc31), if_pos z, u_s1, if_pos rfl]
      · rw [if_neg (nI_ge (by omega) (by omega)), if_neg z, u_s1, if_pos rfl]
    · have z0 : ¬ J 270 (50 + 4 * i) = 0 := by rw [s1, q]; decide +kernel
      have elc : lcm_ (J 270) L (i + 1) = lcm_ (J 270) L i := by
        unfold lcm_
        rw [show lpr (J 270) 0 (i + 1) = lpr (J 270) 0 i by show (if _ then _ else _) = _; rw [if_neg (fun z => by omega)]]
      have elt : ltw (J 270) L (i + 1) = if n ≤ ltw (J 270) L i then ltw (J 270) L i else n := by
        show (if cn (J 270) (50 + 4 * i) = 1 ∧ cn (J 270) (50 + 4 * i + 3) ≤ L then max (ltw (J 270) L i) ((L - cn (J 270) (50 + 4 * i + 3)) / cn (J 270) (50 + 4 * i + 1)) else ltw (J 270) L i) = _
        by_cases z1 : cn (J 270) (50 + 4 * i + 3) ≤ L
        · rw [if_pos ⟨q, z1⟩]
          rw [if_pos z1] at hn
          rw [← hn]
          by_cases z2 : n ≤ ltw (J 270) L i
          · rw [if_pos z2]; omega
          · rw [if_neg z2]; omega
        · rw [if_neg (fun y => z1 y.2)]
          rw [if_neg z1] at hn
          rw [if_pos (by omega)]
      rw [if_neg z0, if_neg u_one, u_s1, if_neg u_one, elt, elc]
      by_cases z : n ≤ ltw (J 270) L i
      · rw [if_pos (nI_le z (by omega)), if_pos z]
      · rw [if_neg (nI_ge (by omega) (by omega)), if_neg z]
theorem W_worth {X : qX} (y1 y2 : Int32) : P2 X (f_X11_worth 64 y1 y2 X) (f_X12_worth 269 y1 y2) := by
  intro I J h
  show G2 X I J (f_X11_worth 64 y1 y2 X I) (f_X12_worth 269 y1 y2 J)
  have hR := h.rv
  have b := hR.bd
  unfold f_X11_worth f_X12_worth
  simp only [hR.hasM (a := 64 + 13) rfl, hR.isMan, u_within, ii_0_8, u_s1, u_ib, ite_not]
  refine G2.ite (fun c1 => ?_) (fun _ => h.same _)
  refine G2.ite (fun c2 => ?_) (fun _ => h.same _)
  obtain ⟨m, rfl, hm⟩ := u_idx c1 (by omega)
  obtain ⟨w, rfl, -, hw⟩ := u_range (by decide) c2.1 c2.2 (by decide)
  obtain ⟨I1, J1, g1, g2, g3, L, c, L31, q0, q7, cL, q1, q8, qq2, q3, q4, q5, q6⟩ := reckon_pair (x3 := nI 0) hR (by decide) (by decide) hm false (Or.inl ⟨nI_0, h.bs⟩)
  rw [show f_X9_reckon (64 + 1) (nI m) (nI 0) (nI 0) X I = some I1 from g1, u_s1, u_rd (show 0 < 7 by decide) (by decide), u_s1, show I1 (64 + 62) 0 = nI L from q0, show f_X12_pays 269 (nI m) (nI 0) J = some J1 from g2, u_s1]
  have b1 := g3.1.bd
  obtain ⟨K, k1⟩ := wM g3.1 L31 q7 (nI m) (nI w) (cn (J1 270) 1) q_fu 0 (Nat.zero_add _) (by have := q_fu1; omega)
  have k1' : q_fix (fun _ _ _ _ => none) (b_X12_worth_37 269 (nI m) (nI w)) q_fu (nI 0) (nI 0) (nI 0) J1 = _ := k1
  rw [k1']
  unfold b_X12_worth_37
  rw [u_rd (show 1 < 3580 by decide) (by decide), u_s1, g3.1.k1.1, if_pos (Int32.le_refl _)]
  have lk : ∀ k, k < 7 → f_X11_looked (some (64 + 62)) (nI k) X I1 = some (I1 126 k) := fun k hk => u_looked (h.1.k (k := 62) rfl rfl) hk (by decide)
  have fin : ∀ r s : Int32, r = s → G2 X I J (some (r, I1)) (some (s, J1)) := fun r s hrs => h.put2 g3.1 g3.2.1 g3.2.2.1 hrs
  rcases (show w = 0 ∨ w = 1 ∨ w = 2 ∨ w = 3 ∨ w = 4 ∨ w = 5 ∨ w = 6 ∨ w = 7 ∨ w = 8 by omega) with rfl | rfl | rfl | rfl | rfl | rfl | rfl | rfl | rfl
  · rw [if_neg (show ¬ nI 0 = nI 7 by decide +kernel), if_neg (show ¬ nI 0 = nI 8 by decide +kernel), lk 0 (by decide), u_s1, if_pos rfl]
    exact fin _ _ (q0.trans q7.symm)
  · rw [if_neg (show ¬ nI 1 = nI 7 by decide +kernel), if_neg (show ¬ nI 1 = nI 8 by decide +kernel), lk 1 (by decide), u_s1, if_neg (show ¬ nI 1 = nI 0 by decide +kernel), if_pos rfl]
    exact fin _ _ (q1.trans q8.symm)
  · rw [if_neg (show ¬ nI 2 = nI 7 by decide +kernel), if_neg (show ¬ nI 2 = nI 8 by decide +kernel), lk 2 (by decide), u_s1, if_neg (show ¬ nI 2 = nI 0 by decide +kernel), if_neg (show ¬ nI 2 = nI 1 by decide +kernel), if_pos rfl]
    exact fin _ _ (by rw [q7, q8]; exact qq2)
  · rw [if_neg (show ¬ nI 3 = nI 7 by decide +kernel), if_neg (show ¬ nI 3 = nI 8 by decide +kernel), lk 3 (by decide), u_s1, if_neg (show ¬ nI 3 = nI 0 by decide +kernel), if_neg (show ¬ nI 3 = nI 1 by decide +kernel), if_neg (show ¬ nI 3 = nI 2 by decide +kernel), if_pos rfl]
    exact fin _ _ q3
  · rw [if_neg (show ¬ nI 4 = nI 7 by decide +kernel), if_neg (show ¬ nI 4 = nI 8 by decide +kernel), lk 4 (by decide), u_s1, if_neg (show ¬ nI 4 = nI 0 by decide +kernel), if_neg (show ¬ nI 4 = nI 1 by decide +kernel), if_neg (show ¬ nI 4 = nI 2 by decide +kernel), if_neg (show ¬ nI 4 = nI 3 by decide +kernel), if_pos rfl]
    exact fin _ _ q4
  · rw [if_neg (show ¬ nI 5 = nI 7 by decide +kernel), if_neg (show ¬ nI 5 = nI 8 by decide +kernel), lk 5 (by decide), u_s1, if_neg (show ¬ nI 5 = nI 0 by decide +kernel), if_neg (show ¬ nI 5 = nI 1 by decide +kernel), if_neg (show ¬ nI 5 = nI 2 by decide +kernel), if_neg (show ¬ nI 5 = nI 3 by decide +kernel), if_neg (show ¬ nI 5 = nI 4 by decide +kernel), if_pos rfl]
    exact fin _ _ q5
  · rw [if_neg (show ¬ nI 6 = nI 7 by decide +kernel), if_neg (show ¬ nI 6 = nI 8 by decide +kernel), lk 6 (by decide), u_s1, if_neg (show ¬ nI 6 = nI 0 by decide +kernel), if_neg (show ¬ nI 6 = nI 1 by decide +kernel), if_neg (show ¬ nI 6 = nI 2 by decide +kernel), if_neg (show ¬ nI 6 = nI 3 by decide +kernel), if_neg (show ¬ nI 6 = nI 4 by decide +kernel), if_neg (show ¬ nI 6 = nI 5 by decide +kernel), if_pos rfl]
    exact fin _ _ q6
  · rw [if_pos rfl, if_neg (show ¬ nI 7 = nI 0 by decide +kernel), if_neg (show ¬ nI 7 = nI 1 by decide +kernel), if_neg (show ¬ nI 7 = nI 2 by decide +kernel), if_neg (show ¬ nI 7 = nI 3 by decide +kernel), if_neg (show ¬ nI 7 = nI 4 by decide +kernel), if_neg (show ¬ nI 7 = nI 5 by decide +kernel), if_neg (show ¬ nI 7 = nI 6 by decide +kernel), if_pos rfl]
    unfold f_X8_loavesOfCompany
    rw [g3.1.lpC (a := 64 + 8) rfl (by decide), u_s1]
    have l9 := lpr_le g3.1 0 (cn (J1 270) 1) (Nat.le_refl _)
    unfold lcm_
    by_cases e : lpr (J1 270) 0 (cn (J1 270) 1) = 0
    · rw [e, if_neg (show ¬ (0 : Int32) < nI 0 by decide +kernel), if_pos rfl, u_s1]
      exact fin _ _ rfl
    · rw [if_pos (show (0 : Int32) < nI (lpr (J1 270) 0 (cn (J1 270) 1)) by rw [← nI_0]; exact nI_lt (by omega) (by omega)), if_neg (nI_ne0 (by omega) (by omega)), if_neg e, u_s1, u_div L31 (by omega)]
      exact fin _ _ rfl
  · rw [if_neg (show ¬ nI 8 = nI 7 by decide +kernel), if_pos rfl, g3.1.ltC (a := 64 + 8) rfl L31, u_s1]
    rw [if_neg (show ¬ nI 8 = nI 0 by decide +kernel), if_neg (show ¬ nI 8 = nI 1 by decide +kernel), if_neg (show ¬ nI 8 = nI 2 by decide +kernel), if_neg (show ¬ nI 8 = nI 3 by decide +kernel), if_neg (show ¬ nI 8 = nI 4 by decide +kernel), if_neg (show ¬ nI 8 = nI 5 by decide +kernel), if_neg (show ¬ nI 8 = nI 6 by decide +kernel), if_neg (show ¬ nI 8 = nI 7 by decide +kernel)]
    exact fin _ _ rfl
