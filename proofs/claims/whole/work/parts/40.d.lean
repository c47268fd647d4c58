/-! LEVEL B: hear, shop, sell -/
theorem u_div {a b : Nat} (ha : a < 2 ^ 31) (hb : b < 2 ^ 31) : nI a / nI b = nI (a / b) := by
  apply Int32.toInt_inj.mp
  rw [Int32.toInt_div, nI_toInt ha, nI_toInt hb, nI_toInt (Nat.lt_of_le_of_lt (Nat.div_le_self a b) ha)]
  rw [Int.tdiv_eq_ediv_of_nonneg (by omega)]
  have : ((a : Int) / (b : Int)) = ((a / b : Nat) : Int) := rfl
  rw [this]
  have hq := Nat.div_le_self a b
  generalize a / b = q at hq ⊢
  exact Int.bmod_eq_of_le (by omega) (by omega)
theorem vq_kn' {m k : Nat} (hm : m < 12) (hk : k < 6) : vq (80 + 24 * m + 12 + k) = some (25, m * 6 + k) := by
  rw [vq_known m hm k hk, Nat.mul_comm]
theorem vq_hd' {m k : Nat} (hm : m < 12) (hk : k < 6) : vq (80 + 24 * m + 18 + k) = some (26, m * 6 + k) := by
  rw [vq_heard m hm k hk, Nat.mul_comm]
def lnI (I : qI) (v m k : Nat) (p d : Int32) : qI := q_up (q_up I (v + 25) (m * 6 + k) p) (v + 26) (m * 6 + k) d
def lnT (t : Nat → Int32) (m k : Nat) (p d : Int32) : Nat → Int32 := upd (upd t (80 + 24 * m + 12 + k) p) (80 + 24 * m + 18 + k) d
theorem RV.learn {X : qX} {v : Nat} {I : qI} {t : Nat → Int32} {j m k : Nat} (h : RV X v I t j) (hv : v ≤ 195) (hm : m < cn t 2) (hk : k < 6) (p : Int32) {d : Int32} (hd : inR 0 7099 d) : RV X v (lnI I v m k p d) (lnT t m k p d) j := by
  have b := h.bd
  have h1 := h.up hv (vq_kn' (m := m) (k := k) (by omega) hk) (x := p) (rgS_n (rn_k m (by omega) k hk)) (h.dd.up (by simp [dr]; omega) _) (by omega) (by omega) (by omega)
  have c1 : cn (upd t (80 + 24 * m + 12 + k) p) 2 = cn t 2 := cn_o (by omega)
  exact h1.up hv (vq_hd' (m := m) (k := k) (by omega) hk) (x := d) ((rgS_t (rg_h m (by omega) k hk)).mpr (Or.inr hd)) (h1.dd.up (by simp [dr]; omega) _) (by omega) (by omega) (by omega)
theorem learn_ev {I : qI} {v a m k : Nat} (ha : a = v + 12) (hm : m < 12) (hk : k < 6) (p d : Int32) : f_X2_learn a (nI m) (nI k) p d I = some (lnI I v m k p d) := by
  subst ha
  unfold f_X2_learn lnI
  rw [u_mul, nI_add, u_wr (by omega) (by decide), u_s1, u_wr (by omega) (by decide), u_s1]
def lnJ (J : qI) (m k : Nat) (p d : Int32) : qI := q_up (q_up J 270 (80 + 24 * m + 12 + k) p) 270 (80 + 24 * m + 18 + k) d
theorem lnJ_270 (J : qI) (m k : Nat) (p d : Int32) : lnJ J m k p d 270 = lnT (J 270) m k p d := by
  unfold lnJ lnT; rw [up270, up270]
theorem lnJ_GM (J : qI) (m k : Nat) (p d : Int32) : GM J (lnJ J m k p d) := (GM.rfl'.up (by decide)).up (by decide)
theorem lnI_FC (I : qI) (v m k : Nat) (p d : Int32) : FC v I (lnI I v m k p d) := (FC.rfl'.up (by omega) (by omega)).up (by omega) (by omega)
theorem knowsJ_ev {J : qI} {m k : Nat} (hm : m < 12) (hk : k < 6) : f_X12_knows 269 (nI m) (nI k) J = some (lnJ J m k (J 270 (50 + 4 * k + 1)) (J 270 0)) := by
  unfold f_X12_knows f_X12_manAt f_X12_shopAt lnJ
  simp (disch := omega) only [u_s1, u_mul, nI_add, u_rd, u_wr, u_up_j, Nat.reduceAdd]
theorem W_hear {X : qX} (y1 y2 : Int32) : P2 X (f_X11_hear 64 y1 y2) (f_X12_hear 269 y1 y2) := by
  intro I J h
  show G2 X I J (f_X11_hear 64 y1 y2 I) (f_X12_hear 269 y1 y2 J)
  have hR := h.rv
  have b := hR.bd
  unfold f_X11_hear f_X12_hear
  simp only [hR.hasM (a := 64 + 13) rfl, hR.isMan, hR.hasS (a := 64 + 8) rfl, hR.isShop, u_s1, u_ib, ite_not]
  refine G2.ite (fun c1 => ?_) (fun _ => h.same _)
  refine G2.ite (fun c2 => ?_) (fun _ => h.same _)
  obtain ⟨m, rfl, hm⟩ := u_idx c1 (by omega)
  obtain ⟨k, rfl, hk⟩ := u_idx c2 (by omega)
  rw [u_rd (show k < 6 by omega) (by decide), u_s1, hR.s1 (a := 64 + 10) rfl (by omega), hR.sc0 (a := 64 + 1) rfl, learn_ev (v := 65) rfl (by omega) (by omega), u_s1, knowsJ_ev (by omega) (by omega), u_s1]
  refine h.put2 ?_ (lnI_FC _ _ _ _ _ _) (lnJ_GM _ _ _ _ _) rfl
  rw [lnJ_270]
  exact hR.learn (by decide) hm (by omega) _ ⟨_, hR.k0.1, by omega, hR.k0.2⟩
theorem DD.cntShop {t : Nat → Int32} {j c : Nat} (h : DD t j) (hc : cn t 1 = c) (hc6 : c < 6) (h1 : t (50 + 4 * c + 1) ≠ 0) (h2 : t (50 + 4 * c) = 0 → t (50 + 4 * c + 3) = 0) : DD (upd t 1 (nI (c + 1))) j := by
  obtain ⟨h0, k1, k2, k3, k4⟩ := h
  have e : cn (upd t 1 (nI (c + 1))) 1 = c + 1 := by unfold cn; rw [upd_s]; exact nI_clamp (by omega)
  unfold DD
  rw [e, cn_o (by omega), cn_o (by omega), cn_o (by omega)]
  refine ⟨⟨by omega, h0.2.1, h0.2.2⟩, fun m hm => ?_, fun k hk => ?_, fun d hd => ?_, fun p hp => ?_⟩
  · have z := k1 m hm
    rw [upd_o (by omega), cn_o (by omega), cn_o (by omega), upd_o (by omega), upd_o (by omega), upd_o (by omega), cn_o (by omega)]; exact z
  · rw [upd_o (by omega), upd_o (by omega), upd_o (by omega)]
    by_cases q : k = c
    · subst q; exact ⟨h1, h2⟩
    · exact k2 k (by omega)
  · rw [upd_o (by omega), upd_o (by omega), cn_o (by omega), upd_o (by omega)]; exact k3 d hd
  · rw [upd_o (by omega)]; exact k4 p hp
theorem W_shop {X : qX} (y1 y2 y3 y4 : Int32) : P2 X (f_X11_shop 64 y1 y2 y3 y4) (f_X12_shop 269 y1 y2 y3 y4) := by
  intro I J h
  show G2 X I J (f_X11_shop 64 y1 y2 y3 y4 I) (f_X12_shop 269 y1 y2 y3 y4 J)
  have hR := h.rv
  have b := hR.bd
  unfold f_X11_shop f_X12_shop b_X11_shop_48 b_X12_shop_49
  simp only [u_within, ii_0_1, ii_1_99, ii_0_99999, ii_0_0, ii_0_99, u_s1, u_ib, ite_not]
  refine G2.ite (fun c1 => ?_) (fun _ => h.same _)
  refine G2.ite (fun c2 => ?_) (fun _ => h.same _)
  refine G2.ite (fun c3 => ?_) (fun _ => h.same _)
  obtain ⟨s, rfl, -, hs⟩ := u_range (by decide) c1.1 c1.2 (by decide)
  obtain ⟨p, rfl, hp1, hp2⟩ := u_range (by decide) c2.1 c2.2 (by decide)
  obtain ⟨q, rfl, -, hq2⟩ := u_range (by decide) c3.1 c3.2 (by decide)
  have key : ∀ M, M ≤ 99 → (s = 0 → M = 0) → G2 X I J (if nI 0 ≤ y4 ∧ y4 ≤ nI M then q_b2 (f_X8_added (64 + 8) (nI s) (nI p) (nI q) y4 I) fun v6 I7 => some (v6, I7) else some (-1000000001, I)) (if nI 0 ≤ y4 ∧ y4 ≤ nI M then q_b1 (q_rd J (269 + 1) 3580 (nI 1)) fun v5 => if v5 = nI 6 then some (-1000000003, J) else q_b1 (q_rd J (269 + 1) 3580 (nI 1)) fun v9 => q_b1 (f_X12_shopAt 269 v9) fun v11 => q_b1 (q_wr J (269 + 1) 3580 v11 (nI s)) fun I14 => q_b1 (q_wr I14 (269 + 1) 3580 (v11 + nI 1) (nI p)) fun I17 => q_b1 (q_wr I17 (269 + 1) 3580 (v11 + nI 2) (nI q)) fun I20 => q_b1 (q_wr I20 (269 + 1) 3580 (v11 + nI 3) y4) fun I23 => q_b1 (q_rd I23 (269 + 1) 3580 (nI 1)) fun v26 => q_b1 (q_wr I23 (269 + 1) 3580 (nI 1) (v26 + nI 1)) fun I28 => q_b1 (q_rd I28 (269 + 1) 3580 (nI 1)) fun v31 => some (v31 - nI 1, I28) else some (-1000000001, J)) := by
    intro M hM hsM
    refine G2.ite (fun c4 => ?_) (fun _ => h.same _)
    obtain ⟨r, rfl, -, hr⟩ := u_range (by omega) c4.1 c4.2 (by decide)
    unfold f_X8_added f_X12_shopAt
    rw [hR.sc1 (a := 64 + 8) rfl, hR.k1.1, u_rd (by decide) (by decide), u_s1, hR.k1.1]
    by_cases c5 : cn (J 270) 1 = 6
    · rw [c5, if_neg Int32.lt_irrefl, u_s2, if_pos rfl]
      exact h.same _
    · have hc : cn (J 270) 1 < 6 := by omega
      rw [if_pos (nI_lt hc (by decide)), if_neg (fun q => c5 ((nI_eq (by omega) (by decide)).mp q))]
      have s1 := hR.sc1 (a := 72) rfl
      simp (disch := omega) only [u_wr, u_rd, u_s1, u_s2, u_up_a, u_up_j, hR.k1.1, s1, nI_add, u_mul, u_up_same, u_sub, Nat.add_sub_cancel, Nat.reduceAdd]
      have h1 := hR.up (by decide) (vq_shop _ hc 0 (by decide)) (x := nI s) (rgS_i (rg_s0 _ hc) (by omega) hs) (hR.dd.newShop (by omega) (by omega) _) (by omega) (by omega) (by omega)
      have c1' : cn (upd (J 270) (50 + 4 * cn (J 270) 1 + 0) (nI s)) 1 = cn (J 270) 1 := cn_o (by omega)
      have h2 := h1.up (by decide) (vq_shop _ hc 1 (by decide)) (x := nI p) (rgS_i (rg_s1 _ hc) (by omega) hp2) (h1.dd.newShop (by omega) (by omega) _) (by omega) (by omega) (by omega)
      have c2' : cn (upd (upd (J 270) (50 + 4 * cn (J 270) 1 + 0) (nI s)) (50 + 4 * cn (J 270) 1 + 1) (nI p)) 1 = cn (J 270) 1 := (cn_o (by omega)).trans c1'
      have h3 := h2.up (by decide) (vq_shop _ hc 2 (by decide)) (x := nI q) (rgS_i (rg_s2 _ hc) (by omega) hq2) (h2.dd.newShop (by omega) (by omega) _) (by omega) (by omega) (by omega)
      have c3' : cn (upd (upd (upd (J 270) (50 + 4 * cn (J 270) 1 + 0) (nI s)) (50 + 4 * cn (J 270) 1 + 1) (nI p)) (50 + 4 * cn (J 270) 1 + 2) (nI q)) 1 = cn (J 270) 1 := (cn_o (by omega)).trans c2'
      have h4 := h3.up (by decide) (vq_shop _ hc 3 (by decide)) (x := nI r) (rgS_i (rg_s3 _ hc) (by omega) (by omega)) (h3.dd.newShop (by omega) (by omega) _) (by omega) (by omega) (by omega)
      have c4' : cn (upd (upd (upd (upd (J 270) (50 + 4 * cn (J 270) 1 + 0) (nI s)) (50 + 4 * cn (J 270) 1 + 1) (nI p)) (50 + 4 * cn (J 270) 1 + 2) (nI q)) (50 + 4 * cn (J 270) 1 + 3) (nI r)) 1 = cn (J 270) 1 := (cn_o (by omega)).trans c3'
      have h5 := h4.up (n := 1) (j' := 0) (by decide) vq_sc.2.1 (x := nI (cn (J 270) 1 + 1)) (rgS_i rg_sc.2.1 (by omega) (by omega)) (h4.dd.cntShop c4' hc (by rw [upd_o (by omega), upd_o (by omega), upd_s]; exact nI_ne0 (by omega) (by omega)) (by
        rw [upd_o (by omega), upd_o (by omega), upd_o (by omega), Nat.add_zero, upd_s, upd_s]
        intro e
        have e' : s = 0 := by
          rcases Nat.eq_zero_or_pos s with q | q
          · exact q
          · exact absurd e (nI_ne0 q (by omega))
        have := hsM e'
        rw [show r = 0 by omega]; rfl)) (by omega) (by omega) (by omega)
      refine h.put2 ?_ (((((FC.rfl'.up (by decide) (by decide)).up (by decide) (by decide)).up (by decide) (by decide)).up (by decide) (by decide)).up (by decide) (by decide)) (((((GM.rfl'.up (by decide)).up (by decide)).up (by decide)).up (by decide)).up (by decide)) rfl
      simp only [up270]
      exact h5
  refine G2.ite (fun e => ?_) (fun e => ?_)
  · exact key 0 (by decide) (fun _ => rfl)
  · exact key 99 (by decide) (fun q => absurd (by rw [q]; exact nI_0) e)
theorem W_sell {X : qX} (y1 y2 y3 : Int32) : P2 X (f_X11_sell 64 y1 y2 y3) (f_X12_sell 269 y1 y2 y3) := by
  intro I J h
  show G2 X I J (f_X11_sell 64 y1 y2 y3 I) (f_X12_sell 269 y1 y2 y3 J)
  have hR := h.rv
  have b := hR.bd
  unfold f_X11_sell f_X12_sell f_X12_dueAt f_X12_manAt
  simp only [hR.hasD (a := 64 + 28) rfl, hR.isDue, hR.hasM (a := 64 + 13) rfl, hR.isMan, u_within, ii_0_99, u_s1, u_ib, ite_not]
  refine G2.ite (fun c1 => ?_) (fun _ => h.same _)
  refine G2.ite (fun c2 => ?_) (fun _ => h.same _)
  refine G2.ite (fun c3 => ?_) (fun _ => h.same _)
  obtain ⟨d, rfl, hd⟩ := u_idx c1 (by omega)
  have hd6 : d < 60 := by omega
  obtain ⟨m, rfl, hm⟩ := u_idx c2 (by omega)
  have hm12 : m < 12 := by omega
  obtain ⟨w, rfl, -, hw⟩ := u_range (by decide) c3.1 c3.2 (by decide)
  simp only [u_mul, nI_add]
  rw [u_rd hd6 (by decide), u_s1, hR.d0 (a := 64 + 29) rfl hd6, u_rd (show 370 + 8 * d < 3580 by omega) (by decide), u_s1]
  refine G2.ite (fun c4 => ?_) (fun _ => h.same _)
  rw [u_rd hd6 (by decide), u_s1, u_rd hd6 (by decide), u_s1, hR.d2 (a := 64 + 31) rfl hd6, u_rd (show 370 + 8 * d + 2 < 3580 by omega) (by decide), u_s1, u_s1, u_rd (show 370 + 8 * d + 6 < 3580 by omega) (by decide), u_s1]
  rcases hR.hol hd with ⟨e1, e2⟩ | ⟨q, e1, e2, hq⟩
  · rw [show I (64 + 35) d = -1000000005 from e2, e1, if_neg (has_NONE _), if_pos (by decide)]
    exact h.same _
  rw [show I (64 + 35) d = nI q from e2, e1, if_pos (u_idx' hq (by omega)), if_neg (nI_pos (by omega)), u_s1]
  refine G2.ite (fun _ => h.same _) (fun c5 => ?_)
  have hq12 : q < 12 := by omega
  have c5' : q ≠ m := fun z => c5 (by rw [z])
  rw [u_rd hm12 (by decide), u_s1, hR.m4 (a := 64 + 18) rfl hm12, u_rd (show 80 + 24 * m + 4 < 3580 by omega) (by decide), u_s1]
  have n3 : cn (J 270) (370 + 8 * d) = 3 := by unfold cn; rw [c4]; exact nI_clamp (by decide)
  obtain ⟨am, f1, -, f2⟩ : inR 0 999 (J 270 (370 + 8 * d + 2)) := by
    rcases (hR.dd.2.2.2.1 d hd).2.2.2 with z | z | z
    · rw [c4] at z; exact absurd z (by decide +kernel)
    · rw [c4] at z; exact absurd z (by decide +kernel)
    · exact z
  obtain ⟨k1, -, k2⟩ := hR.r_m4 (m := m) hm12
  obtain ⟨l1, -, l2⟩ := hR.r_m4 (m := q) hq12
  have hdv : am * w / 100 ≤ am := Nat.div_le_of_le_mul (by
    have := Nat.mul_le_mul_left am hw
    omega)
  have hP : J 270 (370 + 8 * d + 2) - J 270 (370 + 8 * d + 2) * nI w / nI 100 = nI (am - am * w / 100) := by
    rw [f1, u_mul, u_div (by have := Nat.mul_le_mul f2 hw; omega) (by decide), u_sub hdv]
  rw [hP]
  refine G2.ite (fun c6 => ?_) (fun _ => h.same _)
  rw [k1] at c6
  have c7 := (nI_leI (by omega) (by omega)).mp c6
  rw [u_s1, u_wr hm12 (by decide), u_s1, u_wr (show 80 + 24 * m + 4 < 3580 by omega) (by decide), u_s1]
  have h2 := hR.up (by decide) (vq_man m hm12 4 (by decide)) (x := J 270 (80 + 24 * m + 4) - nI (am - am * w / 100)) (by rw [k1, u_sub c7]; exact rgS_i (rg_m4 m hm12) (by omega) (by omega)) (hR.dd.up (by simp [dr]; omega) _) (by omega) (by omega) (by omega)
  rw [show (269 + 1 : Nat) = 270 from rfl, u_rd (show 370 + 8 * d + 6 < 3580 by omega) (by decide), u_s1, u_up_j (by omega), e1, RV.getsJ hq12 (by decide), u_s1, u_up_j (by omega), u_wr (show 370 + 8 * d + 6 < 3580 by omega) (by decide), u_s1]
  have h2' : RV X 65 (q_up I (64 + 18) m (J 270 (80 + 24 * m + 4) - nI (am - am * w / 100))) (upd (J 270) (80 + 24 * m + 4) (J 270 (80 + 24 * m + 4) - nI (am - am * w / 100))) 0 := h2
  rw [h2'.getCoin (a := 64 + 13) rfl hq12, u_s1, u_wr hd6 (by decide), u_s1, upd_o (by omega)]
  have h3 := h2'.up (by decide) (vq_man q hq12 4 (by decide)) (x := q_min (nI 99999) (J 270 (80 + 24 * q + 4) + nI (am - am * w / 100))) (by rw [l1, nI_add, q_min_nI (by decide) (by omega)]; exact rgS_i (rg_m4 q hq12) (by omega) (by omega)) (h2'.dd.up (by simp [dr]; omega) _) (by omega) (by omega) (by rw [cn_o (by omega)]; omega)
  refine h.put2 ?_ (((FC.rfl'.up (by decide) (by decide)).up (by decide) (by decide)).up (by decide) (by decide)) (((GM.rfl'.up (by decide)).up (by decide)).up (by decide)) rfl
  simp only [up270]
  refine h3.hold (by decide) hd6 (x := nI m) (y := nI m) (by rw [if_neg (fun z => by have := nI_pos (n := m) (by omega); rw [z] at this; exact this (by decide))]) ((rgS_t (rg_d6 d hd6)).mpr (Or.inr ⟨m, rfl, by omega, by omega⟩)) (h3.dd.holder hd6 _ (fun _ => ?_))
  rw [nI_clamp (by omega), cn_o (by omega), cn_o (by omega)]
  exact hm
