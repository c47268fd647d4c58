/-! LEVEL B: a man comes -/
theorem addedD' {I : qI} {v c : Nat} (hI : I (v + 27) 8 = nI c) (hc : c < 60) (k m am s d : Int32) : f_X1_added (v + 27) k m am s d I = some (nI c, aD I v c k m am s d) := by
  unfold f_X1_added aD
  rw [hI, if_pos (nI_lt hc (by decide))]
  simp (disch := omega) only [u_wr, u_s1, u_up_a, hI, nI_add, u_up_same, u_sub, Nat.add_sub_cancel, Nat.add_assoc, Nat.reduceAdd]
theorem newDueJ' {J : qI} {c : Nat} (hJ : J 270 3 = nI c) (hc : c < 60) (k m am s : Int32) : f_X12_newDue 269 k m am s J = some (nI c, nD J c k m am s (J 270 0)) := by
  unfold f_X12_newDue f_X12_dueAt nD
  simp (disch := omega) only [u_rd, u_wr, u_s1, u_up_j, hJ, u_mul, nI_add, u_up_same, u_sub, Nat.add_sub_cancel, Nat.reduceAdd]
theorem aT_cg {t t' : Nat → Int32} {c z : Nat} {k m a s d : Int32} (h : t' z = t z) : aT t' c k m a s d z = aT t c k m a s d z := by
  unfold aT upd
  simp only [h]
/-- the 24 places of a new man -/
def mnV (p s nd wg db : Int32) (w : Nat) : Int32 := if w = 0 then p else if w = 1 then s else if w = 2 then nd else if w = 10 then wg else if w = 11 then db else if w < 18 then 0 else -1
def mnT (t : Nat → Int32) (c : Nat) (p s nd wg db : Int32) : Nat → Int32 := fun z => if z = 2 then nI (c + 1) else if 80 + 24 * c ≤ z ∧ z < 80 + 24 * c + 24 then mnV p s nd wg db (z - (80 + 24 * c)) else t z
theorem mn_o {t : Nat → Int32} {c z : Nat} {p s nd wg db : Int32} (h2 : z ≠ 2) (h : z < 80 + 24 * c ∨ 80 + 24 * c + 24 ≤ z) : mnT t c p s nd wg db z = t z := by
  unfold mnT; rw [if_neg h2, if_neg (by omega)]
theorem mn_w {t : Nat → Int32} {c w : Nat} {p s nd wg db : Int32} (hw : w < 24) : mnT t c p s nd wg db (80 + 24 * c + w) = mnV p s nd wg db w := by
  unfold mnT; rw [if_neg (by omega), if_pos (by omega), Nat.add_sub_cancel_left]
theorem mn_c {t : Nat → Int32} {c z : Nat} {p s nd wg db : Int32} (h2 : z ≠ 2) (h : z < 80 + 24 * c ∨ 80 + 24 * c + 24 ≤ z) : cn (mnT t c p s nd wg db) z = cn t z := by
  unfold cn; rw [mn_o h2 h]
def mnI (I : qI) (v c : Nat) (p s nd wg db : Int32) : qI := q_up (q_up (q_up (q_up (q_up (q_up I (v + 13) c p) (v + 14) c s) (v + 15) c nd) (v + 12) 14 (nI (c + 1))) (v + 23) c wg) (v + 24) c db
theorem RV.addMan {X : qX} {v j c : Nat} {I : qI} {t : Nat → Int32} (h : RV X v I t j) (hv : v ≤ 195) (hc : cn t 2 = c) (hc12 : c < 12) {p s nd wg db : Nat} (hp : p ≤ 7) (hs : s ≤ 9) (hn1 : 1 ≤ nd) (hn : nd ≤ 9) (hwg : wg < cn t 3) (hdb : db < cn t 3) (kw : t (370 + 8 * wg) = nI 1) (kd : t (370 + 8 * db) = nI 6) : RV X v (mnI I v c (nI p) (nI s) (nI nd) (nI wg) (nI db)) (mnT t c (nI p) (nI s) (nI nd) (nI wg) (nI db)) j := by
  have b := h.bd
  have k4 := h.k4
  obtain ⟨hA, hF, hR, hD, hH, hT⟩ := h
  have c2 : cn (mnT t c (nI p) (nI s) (nI nd) (nI wg) (nI db)) 2 = c + 1 := by unfold cn mnT; rw [if_pos rfl]; exact nI_clamp (by omega)
  have cl : ∀ n, n < 24 → cn (mnT t c (nI p) (nI s) (nI nd) (nI wg) (nI db)) (80 + 24 * c + n) = (mnV (nI p) (nI s) (nI nd) (nI wg) (nI db) n).toNatClampNeg := fun n hn => by unfold cn; rw [mn_w hn]
  refine ⟨?_, ?_, ?_, ?_, ?_, ?_⟩
  · rw [c2]
    intro n o i hn hP
    have n65 := (vq_c hn).2
    by_cases e2 : n = 2
    · subst e2
      cases vq_sc.2.2.1.symm.trans hn
      unfold mnI mnT
      rw [u_up_a (by omega), u_up_a (by omega), u_up_same, if_pos rfl]
    by_cases hb : 80 + 24 * c ≤ n ∧ n < 80 + 24 * c + 24
    rotate_left
    · rw [mn_o e2 (by omega)]
      have keep : mnI I v c (nI p) (nI s) (nI nd) (nI wg) (nI db) (v + o) i = I (v + o) i := by
        have aux : ∀ w, w < 12 → ¬ (v + o = v + (13 + w) ∧ i = c) := fun w hw q => by
          have q1 : o = 13 + w := by omega
          have := vq_inj hn (show vq (80 + 24 * c + w) = some (o, i) by rw [vq_man c hc12 w hw, q1, q.2])
          omega
        have a12 : ¬ (v + o = v + 12 ∧ i = 14) := fun q => by
          have q1 : o = 12 := by omega
          have := vq_inj hn (show vq 2 = some (o, i) by rw [vq_sc.2.2.1, q1, q.2])
          omega
        have up1 : ∀ (G : qI) (a k : Nat) (x : Int32), ¬ (v + o = a ∧ i = k) → q_up G a k x (v + o) i = G (v + o) i := fun G a k x hq => by
          by_cases e : v + o = a
          · rw [← e, u_up_j (fun z => hq ⟨e, z⟩)]
          · exact u_up_a e
        unfold mnI
        rw [up1 _ _ _ _ (aux 11 (by decide)), up1 _ _ _ _ (aux 10 (by decide)), up1 _ _ _ _ a12, up1 _ _ _ _ (aux 2 (by decide)), up1 _ _ _ _ (aux 1 (by decide)), up1 _ _ _ _ (aux 0 (by decide))]
      rw [keep]
      exact hA n o i hn (fun q1 q2 q3 => by have := hP q1 q2 q3; omega)
    · obtain ⟨w, hw, rfl⟩ : ∃ w, w < 24 ∧ n = 80 + 24 * c + w := ⟨n - (80 + 24 * c), by omega, by omega⟩
      have z0 := (hF c (by omega) hc12).1 w hw
      rw [mn_w hw]
      by_cases w12 : w < 12
      · cases (vq_man c hc12 w w12).symm.trans hn
        have old : ∀ q, (q ≠ 0 ∧ q ≠ 1 ∧ q ≠ 2 ∧ q ≠ 10 ∧ q ≠ 11) → q < 12 → q = w → mnI I v c (nI p) (nI s) (nI nd) (nI wg) (nI db) (v + (13 + w)) c = mnV (nI p) (nI s) (nI nd) (nI wg) (nI db) w := fun q h1 h2 h3 => by
          subst h3
          unfold mnI mnV
          rw [u_up_a (by omega), u_up_a (by omega), u_up_a (by omega), u_up_a (by omega), u_up_a (by omega), u_up_a (by omega), if_neg h1.1, if_neg h1.2.1, if_neg h1.2.2.1, if_neg h1.2.2.2.1, if_neg h1.2.2.2.2, if_pos (by omega), hA _ _ _ (vq_man c hc12 q h2) (fun _ _ _ => by omega)]
          exact z0
        by_cases e : w ≠ 0 ∧ w ≠ 1 ∧ w ≠ 2 ∧ w ≠ 10 ∧ w ≠ 11
        · exact old w e w12 rfl
        · rcases (show w = 0 ∨ w = 1 ∨ w = 2 ∨ w = 10 ∨ w = 11 by omega) with rfl | rfl | rfl | rfl | rfl
          · unfold mnI
            rw [u_up_a (by omega), u_up_a (by omega), u_up_a (by omega), u_up_a (by omega), u_up_a (by omega), u_up_same]; rfl
          · unfold mnI
            rw [u_up_a (by omega), u_up_a (by omega), u_up_a (by omega), u_up_a (by omega), u_up_same]; rfl
          · unfold mnI
            rw [u_up_a (by omega), u_up_a (by omega), u_up_a (by omega), u_up_same]; rfl
          · unfold mnI
            rw [u_up_a (by omega), u_up_same]; rfl
          · unfold mnI
            rw [u_up_same]; rfl
      · have far : ∀ o', o' = 25 ∨ o' = 26 → mnI I v c (nI p) (nI s) (nI nd) (nI wg) (nI db) (v + o') = I (v + o') := fun o' ho => by
          unfold mnI; funext z
          rw [u_up_a (by omega), u_up_a (by omega), u_up_a (by omega), u_up_a (by omega), u_up_a (by omega), u_up_a (by omega)]
        by_cases w18 : w < 18
        · obtain ⟨k, hk, rfl⟩ : ∃ k, k < 6 ∧ w = 12 + k := ⟨w - 12, by omega, by omega⟩
          have q := vq_known c hc12 k hk
          rw [show 80 + 24 * c + 12 + k = 80 + 24 * c + (12 + k) by omega] at q
          cases q.symm.trans hn
          rw [far 25 (Or.inl rfl), hA _ _ _ q (fun _ _ _ => by omega), z0]
          unfold mnV
          rw [if_neg (by omega), if_neg (by omega), if_neg (by omega), if_neg (by omega), if_neg (by omega), if_pos w18]
        · obtain ⟨k, hk, rfl⟩ : ∃ k, k < 6 ∧ w = 18 + k := ⟨w - 18, by omega, by omega⟩
          have q := vq_heard c hc12 k hk
          rw [show 80 + 24 * c + 18 + k = 80 + 24 * c + (18 + k) by omega] at q
          cases q.symm.trans hn
          rw [far 26 (Or.inr rfl), (hF c (by omega) hc12).2 k hk]
          unfold mnV
          rw [if_neg (by omega), if_neg (by omega), if_neg (by omega), if_neg (by omega), if_neg (by omega), if_neg w18]
  · intro m h1 h3
    rw [c2] at h1
    refine ⟨fun w hw => ?_, fun k hk => ?_⟩
    · rw [mn_o (by omega) (by omega)]; exact (hF m (by omega) h3).1 w hw
    · unfold mnI
      rw [u_up_a (by omega), u_up_a (by omega), u_up_a (by omega), u_up_a (by omega), u_up_a (by omega), u_up_a (by omega)]
      exact (hF m (by omega) h3).2 k hk
  · intro n
    by_cases e2 : n = 2
    · subst e2
      rw [show mnT t c (nI p) (nI s) (nI nd) (nI wg) (nI db) 2 = nI (c + 1) from if_pos rfl]
      exact ⟨rgS_i rg_sc.2.2.1 (by omega) (by omega), fun q => by omega⟩
    by_cases hb : 80 + 24 * c ≤ n ∧ n < 80 + 24 * c + 24
    rotate_left
    · rw [mn_o e2 (by omega)]; exact hR n
    · obtain ⟨w, hw, rfl⟩ : ∃ w, w < 24 ∧ n = 80 + 24 * c + w := ⟨n - (80 + 24 * c), by omega, by omega⟩
      refine ⟨?_, fun q => by omega⟩
      rw [mn_w hw]
      by_cases w0 : w = 0
      · subst w0; exact rgS_i (rg_m0 c hc12) (by omega) hp
      by_cases w1 : w = 1
      · subst w1; exact rgS_i (rg_m1 c hc12) (by omega) hs
      by_cases w2 : w = 2
      · subst w2; exact rgS_i (rg_m2 c hc12) (by omega) hn
      by_cases w10 : w = 10
      · subst w10; exact rgS_i (rg_m10 c hc12) (by omega) (by omega)
      by_cases w11 : w = 11
      · subst w11; exact rgS_i (rg_m11 c hc12) (by omega) (by omega)
      unfold mnV
      rw [if_neg w0, if_neg w1, if_neg w2, if_neg w10, if_neg w11]
      by_cases w18 : w < 18
      · rw [if_pos w18]
        have := (hR (80 + 24 * c + w)).1
        rw [(hF c (by omega) hc12).1 w hw] at this
        exact this
      · rw [if_neg w18]
        obtain ⟨k, hk, rfl⟩ : ∃ k, k < 6 ∧ w = 18 + k := ⟨w - 18, by omega, by omega⟩
        have q := rg_h c hc12 k hk
        rw [show 80 + 24 * c + 18 + k = 80 + 24 * c + (18 + k) by omega] at q
        exact (rgS_t q).mpr (Or.inl rfl)
  · obtain ⟨h0, h1, h2, h3, h4⟩ := hD
    unfold DD
    rw [c2, mn_c (by omega) (by omega), mn_c (by omega) (by omega), mn_c (by omega) (by omega)]
    refine ⟨⟨h0.1, by omega, h0.2.2⟩, fun i hi => ?_, fun k hk => ?_, fun d hd => ?_, fun q hq => ?_⟩
    · by_cases e : i = c
      · subst e
        rw [mn_w (by decide), mn_w (by decide), cl 10 (by decide), cl 11 (by decide), cl 6 (by decide)]
        rw [show mnV (nI p) (nI s) (nI nd) (nI wg) (nI db) 2 = nI nd from rfl, show mnV (nI p) (nI s) (nI nd) (nI wg) (nI db) 10 = nI wg from rfl, show mnV (nI p) (nI s) (nI nd) (nI wg) (nI db) 11 = nI db from rfl, nI_clamp (by omega), nI_clamp (by omega), mn_o (by omega) (by omega), mn_o (by omega) (by omega)]
        exact ⟨nI_ne0 (by omega) (by omega), hwg, hdb, kw, kd, fun _ => by rw [show mnV (nI p) (nI s) (nI nd) (nI wg) (nI db) 6 = 0 from rfl]; decide⟩
      · have q := h1 i (by omega)
        rw [mn_o (by omega) (by omega), mn_c (by omega) (by omega), mn_c (by omega) (by omega), mn_o (by omega) (by omega), mn_o (by omega) (by omega), mn_o (by omega) (by omega), mn_c (by omega) (by omega)]
        exact q
    · rw [mn_o (by omega) (by omega), mn_o (by omega) (by omega), mn_o (by omega) (by omega)]; exact h2 k hk
    · have q := h3 d hd
      rw [mn_o (by omega) (by omega), mn_o (by omega) (by omega), mn_c (by omega) (by omega), mn_o (by omega) (by omega)]
      exact ⟨q.1, fun z => by have := q.2.1 z; omega, q.2.2⟩
    · rw [mn_o (by omega) (by omega)]; exact h4 q hq
  · intro d hd
    rw [mn_c (by omega) (by omega)] at hd
    unfold mnI
    rw [u_up_a (by omega), u_up_a (by omega), u_up_a (by omega), u_up_a (by omega), u_up_a (by omega), u_up_a (by omega), mn_o (by omega) (by omega)]
    exact hH d hd
  · intro k hk
    rw [mn_c (by omega) (by omega)] at hk
    obtain ⟨a, L, d, e1, e2, e3, e4, e5, e6, e7⟩ := hT k hk
    refine ⟨a, L, d, e1, e2, e3, e4, by rw [mn_o (by omega) (by omega)]; exact e5, e6, ?_⟩
    rw [mn_c (by omega) (by omega), show mnI I v c (nI p) (nI s) (nI nd) (nI wg) (nI db) a = I a by
      unfold mnI; funext z
      rw [u_up_a (by omega), u_up_a (by omega), u_up_a (by omega), u_up_a (by omega), u_up_a (by omega), u_up_a (by omega)]]
    refine ⟨e7.1, fun q hq => ?_⟩
    have := e7.2 q hq
    simp only at this ⊢
    rw [mn_o (by omega) (by omega), mn_o (by omega) (by omega)]
    exact this
def zlT (t : Nat → Int32) (c n : Nat) : Nat → Int32 := fun z => if 80 + 24 * c ≤ z ∧ z < 80 + 24 * c + n then (if z - (80 + 24 * c) < 18 then nI 0 else -1) else t z
theorem zl_lp {p s nd : Int32} {t : Nat → Int32} {c : Nat} (hc : c < 12) : ∀ r f i (J : qI), i + r = 24 → r < f → J 270 = zlT t c i → ∃ J' K, q_fix (fun _ _ _ _ => none) (b_X12_man_80 269 p s nd) f (nI c) (nI (80 + 24 * c)) (nI i) J = b_X12_man_80 269 p s nd K (nI c) (nI (80 + 24 * c)) (nI 24) J' ∧ J' 270 = zlT t c 24 ∧ GM J J' := by
  intro r
  induction r with
  | zero =>
    intro f i J h1 h2 hJ
    obtain ⟨f, rfl⟩ : ∃ z, f = z + 1 := ⟨f - 1, by omega⟩
    have e : i = 24 := by omega
    subst e
    exact ⟨J, _, rfl, hJ, GM.rfl'⟩
  | succ r ih =>
    intro f i J h1 h2 hJ
    obtain ⟨f, rfl⟩ : ∃ z, f = z + 1 := ⟨f - 1, by omega⟩
    have st : ∀ x, x = (if i < 18 then nI 0 else -1) → upd (J 270) (80 + 24 * c + i) x = zlT t c (i + 1) := fun x hx => by
      rw [hJ]
      funext z
      by_cases e : z = 80 + 24 * c + i
      · subst e
        rw [upd_s, hx]
        unfold zlT
        rw [if_pos (show 80 + 24 * c ≤ 80 + 24 * c + i ∧ 80 + 24 * c + i < 80 + 24 * c + (i + 1) by omega), Nat.add_sub_cancel_left]
      · rw [upd_o e]
        unfold zlT
        by_cases q : 80 + 24 * c ≤ z ∧ z < 80 + 24 * c + i
        · rw [if_pos q, if_pos (show 80 + 24 * c ≤ z ∧ z < 80 + 24 * c + (i + 1) by omega)]
        · rw [if_neg q, if_neg (show ¬ (80 + 24 * c ≤ z ∧ z < 80 + 24 * c + (i + 1)) by omega)]
    obtain ⟨J', K, g1, g2, g3⟩ := ih f (i + 1) (q_up J 270 (80 + 24 * c + i) (if i < 18 then nI 0 else -1)) (by omega) (by omega) (by rw [up270]; exact st _ rfl)
    refine ⟨J', K, ?_, g2, (GM.rfl'.up (by decide)).tr g3⟩
    rw [← g1]
    show b_X12_man_80 269 p s nd (q_fix (fun _ _ _ _ => none) (b_X12_man_80 269 p s nd) f) (nI c) (nI (80 + 24 * c)) (nI i) J = _
    generalize q_fix (fun _ _ _ _ => none) (b_X12_man_80 269 p s nd) f = KM
    unfold b_X12_man_80 b_X12_man_108
    rw [if_neg (nI_ge (by omega) (by decide)), nI_add, u_wr (show 80 + 24 * c + i < 3580 by omega) (by decide), u_wr (show 80 + 24 * c + i < 3580 by omega) (by decide), u_s1, u_s1, nI_add]
    by_cases q : i < 18
    · rw [if_pos (nI_lt q (by decide)), if_pos q]
    · rw [if_neg (nI_nlt (by omega) (by omega)), if_neg q]
theorem W_man {X : qX} (y1 y2 y3 : Int32) : P2 X (f_X11_man 64 y1 y2 y3) (f_X12_man 269 y1 y2 y3) := by
  intro I J h
  show G2 X I J (f_X11_man 64 y1 y2 y3 I) (f_X12_man 269 y1 y2 y3 J)
  have hR := h.rv
  have b := hR.bd
  unfold f_X11_man f_X12_man
  simp only [u_may (w := 0) (lo := 0) (hi := 7) (by decide) rfl rfl, u_may (w := 1) (lo := 0) (hi := 9) (by decide) rfl rfl, u_may (w := 2) (lo := 1) (hi := 9) (by decide) rfl rfl, u_isPit, ii_0_9, ii_1_9, u_s1, u_ib, ite_not]
  refine G2.ite (fun c1 => ?_) (fun _ => h.same _)
  refine G2.ite (fun c2 => ?_) (fun _ => h.same _)
  refine G2.ite (fun c3 => ?_) (fun _ => h.same _)
  obtain ⟨p, rfl, -, hp⟩ := u_range (by decide) c1.1 c1.2 (by decide)
  obtain ⟨s, rfl, -, hs⟩ := u_range (by decide) c2.1 c2.2 (by decide)
  obtain ⟨nd, rfl, hn1, hn⟩ := u_range (by decide) c3.1 c3.2 (by decide)
  rw [hR.sc2 (a := 64 + 13) rfl, hR.sc3 (a := 64 + 28) rfl, u_rd (show 2 < 3580 by decide) (by decide), u_s1, u_rd (show 3 < 3580 by decide) (by decide), u_s1, show J (269 + 1) = J 270 from rfl, hR.k2.1, hR.k3.1, nI_add]
  by_cases c4 : cn (J 270) 2 = 12
  · rw [c4, if_pos (Int32.le_refl _), if_pos rfl]; exact h.same _
  rw [if_neg (nI_ge (by omega) (by decide)), if_neg (nE (by omega) (by decide) c4)]
  by_cases c5 : cn (J 270) 3 ≤ 58
  rotate_left
  · rw [if_neg (nI_ge (by omega) (by omega)), if_neg (nI_ge (by omega) (by omega))]; exact h.same _
  rw [if_pos (nI_le c5 (by decide)), if_pos (nI_le (by omega) (by decide))]
  generalize hc : cn (J 270) 2 = c at *
  generalize hd : cn (J 270) 3 = d at *
  have hc12 : c < 12 := by omega
  -- the rows as they will be
  have r1 := hR.addDue (by decide) hd (by omega) (k := 1) (by decide) (nI c) (a := 0) (by decide) (nI 0) (J 270 0)
  have r2 := r1.addDue (by decide) (aT_3 (by omega)) (by omega) (k := 6) (by decide) (nI c) (a := 0) (by decide) (nI 0) (J 270 0)
  have ec2 : cn (aT (aT (J 270) d (nI 1) (nI c) (nI 0) (nI 0) (J 270 0)) (d + 1) (nI 6) (nI c) (nI 0) (nI 0) (J 270 0)) 2 = c := by rw [aT_cn (by decide) (by decide), aT_cn (by decide) (by decide)]; exact hc
  have kW : aT (aT (J 270) d (nI 1) (nI c) (nI 0) (nI 0) (J 270 0)) (d + 1) (nI 6) (nI c) (nI 0) (nI 0) (J 270 0) (370 + 8 * d) = nI 1 := by
    unfold aT
    simp (disch := omega) only [upd_o, upd_s]
  have kD : aT (aT (J 270) d (nI 1) (nI c) (nI 0) (nI 0) (J 270 0)) (d + 1) (nI 6) (nI c) (nI 0) (nI 0) (J 270 0) (370 + 8 * (d + 1)) = nI 6 := by
    unfold aT
    simp (disch := omega) only [upd_o, upd_s]
  have r3 := r2.addMan (by decide) ec2 hc12 (p := p) (s := s) (nd := nd) (wg := d) (db := d + 1) hp hs hn1 hn (by rw [aT_3 (by omega)]; omega) (by rw [aT_3 (by omega)]; omega) kW kD
  -- the one side
  have eC : f_X9_newMan (64 + 1) (nI p) (nI s) (nI nd) I = some (nI c, mnI (aD (aD I 65 d (nI 1) (nI c) (nI 0) (nI 0) (J 270 0)) 65 (d + 1) (nI 6) (nI c) (nI 0) (nI 0) (J 270 0)) 65 c (nI p) (nI s) (nI nd) (nI d) (nI (d + 1))) := by
    unfold f_X9_newMan f_X2_added
    have i2 : I 77 14 = nI c := by rw [hR.sc2 rfl, hR.k2.1, hc]
    rw [show (64 + 1 + 12 : Nat) = 77 from rfl, i2, if_pos (nI_lt hc12 (by decide))]
    simp (disch := omega) only [u_wr, u_s1, u_s2, u_up_a, i2, nI_add, u_up_same, u_sub, Nat.add_sub_cancel, Nat.reduceAdd]
    have i8 : I 92 8 = nI d := by rw [hR.sc3 rfl, hR.k3.1, hd]
    have i0 : I 65 13 = J 270 0 := hR.sc0 rfl
    have aDa : ∀ (G : qI) (e : Nat) (k m a s' q : Int32) (z : Nat), (z < 92 ∨ 100 < z) → aD G 65 e k m a s' q z = G z := fun G e k m a s' q z hz => by
      unfold aD; funext y
      rw [u_up_a (by omega), u_up_a (by omega), u_up_a (by omega), u_up_a (by omega), u_up_a (by omega), u_up_a (by omega), u_up_a (by omega), u_up_a (by omega), u_up_a (by omega)]
    rw [i0, show (92 : Nat) = 65 + 27 from rfl, addedD' (c := d) (by rw [u_up_a (by decide), u_up_a (by decide), u_up_a (by decide), u_up_a (by decide)]; exact i8) (by omega), u_s2, aDa _ _ _ _ _ _ _ 65 (by decide), u_up_a (by decide), u_up_a (by decide), u_up_a (by decide), u_up_a (by decide), i0, addedD' (c := d + 1) (by rw [u_up_a (by decide)]; unfold aD; rw [u_up_same]) (by omega), u_s2, aD_comm (by decide), aD_comm (by decide), aD_comm (by decide), aD_comm (by decide), aD_comm (by decide), aD_comm (by decide), aD_comm (by decide), aD_comm (by decide), aD_comm (by decide)]
    rfl
  rw [eC, u_s2]
  -- the other side
  unfold f_X12_manAt
  rw [u_s1, u_mul, nI_add, u_s1]
  obtain ⟨J1, K, g1, g2, g3⟩ := zl_lp (p := nI p) (s := nI s) (nd := nI nd) (t := J 270) hc12 24 q_fu 0 J (by decide) (by decide) (by unfold zlT; funext z; rw [if_neg (by omega)])
  rw [g1]
  unfold b_X12_man_80
  have zo : ∀ z, (z < 80 + 24 * c ∨ 80 + 24 * c + 24 ≤ z) → J1 270 z = J 270 z := fun z hz => by rw [g2]; unfold zlT; rw [if_neg (by omega)]
  rw [if_pos (Int32.le_refl _), u_wr (show 80 + 24 * c < 3580 by omega) (by decide), u_s1, nI_add, u_wr (show 80 + 24 * c + 1 < 3580 by omega) (by decide), u_s1, nI_add, u_wr (show 80 + 24 * c + 2 < 3580 by omega) (by decide), u_s1, show (269 + 1 : Nat) = 270 from rfl]
  generalize hJ4 : q_up (q_up (q_up J1 270 (80 + 24 * c) (nI p)) 270 (80 + 24 * c + 1) (nI s)) 270 (80 + 24 * c + 2) (nI nd) = J4
  have t4 : J4 270 = upd (upd (upd (J1 270) (80 + 24 * c) (nI p)) (80 + 24 * c + 1) (nI s)) (80 + 24 * c + 2) (nI nd) := by rw [← hJ4, up270, up270, up270]
  have o4 : ∀ z, (z < 80 + 24 * c ∨ 80 + 24 * c + 24 ≤ z) → J4 270 z = J 270 z := fun z hz => by rw [t4, upd_o (by omega), upd_o (by omega), upd_o (by omega)]; exact zo z hz
  have gm4 : GM J J4 := by rw [← hJ4]; exact ((g3.up (by decide)).up (by decide)).up (by decide)
  rw [newDueJ' (J := J4) (c := d) (by rw [o4 3 (by omega), hR.k3.1, hd]) (by omega), u_s2, nI_add, u_wr (show 80 + 24 * c + 10 < 3580 by omega) (by decide), u_s1, o4 0 (by omega)]
  generalize hJ6 : q_up (nD J4 d (nI 1) (nI c) (nI 0) (nI 0) (J 270 0)) 270 (80 + 24 * c + 10) (nI d) = J6
  have t6 : J6 270 = upd (aT (J4 270) d (nI 1) (nI c) (nI 0) (nI 0) (J 270 0)) (80 + 24 * c + 10) (nI d) := by rw [← hJ6, up270, nD_270]
  have gm6 : GM J J6 := by rw [← hJ6]; exact (gm4.tr (nD_GM _ _ _ _ _ _ _)).up (by decide)
  have o60 : J6 270 0 = J 270 0 := by rw [t6, upd_o (by omega), aT_o (by omega) (by omega), o4 0 (by omega)]
  rw [newDueJ' (J := J6) (c := d + 1) (by rw [t6, upd_o (by omega)]; unfold aT; rw [upd_s]) (by omega), u_s2, nI_add, u_wr (show 80 + 24 * c + 11 < 3580 by omega) (by decide), u_s1, o60, u_rd (show 2 < 3580 by decide) (by decide), u_s1, u_wr (show 2 < 3580 by decide) (by decide), u_s1]
  have e2 : q_up (nD J6 (d + 1) (nI 6) (nI c) (nI 0) (nI 0) (J 270 0)) 270 (80 + 24 * c + 11) (nI (d + 1)) 270 2 = nI c := by rw [up270, upd_o (by omega), nD_270, aT_o (by omega) (by omega), t6, upd_o (by omega), aT_o (by omega) (by omega), o4 2 (by omega), hR.k2.1, hc]
  rw [e2, nI_add]
  refine h.put2 ?_ ?_ (((gm6.tr (nD_GM _ _ _ _ _ _ _)).up (by decide)).up (by decide)) rfl
  · rw [up270, up270, nD_270]
    have tt : upd (upd (aT (J6 270) (d + 1) (nI 6) (nI c) (nI 0) (nI 0) (J 270 0)) (80 + 24 * c + 11) (nI (d + 1))) 2 (nI (c + 1)) = mnT (aT (aT (J 270) d (nI 1) (nI c) (nI 0) (nI 0) (J 270 0)) (d + 1) (nI 6) (nI c) (nI 0) (nI 0) (J 270 0)) c (nI p) (nI s) (nI nd) (nI d) (nI (d + 1)) := by
      funext z
      by_cases z2 : z = 2
      · subst z2; rw [upd_s]; exact (if_pos rfl).symm
      rw [upd_o z2]
      by_cases hb : 80 + 24 * c ≤ z ∧ z < 80 + 24 * c + 24
      rotate_left
      · rw [mn_o z2 (by omega), upd_o (by omega)]
        refine aT_cg ?_
        rw [t6, upd_o (by omega)]
        exact aT_cg (o4 z (by omega))
      · obtain ⟨w, hw, rfl⟩ : ∃ w, w < 24 ∧ z = 80 + 24 * c + w := ⟨z - (80 + 24 * c), by omega, by omega⟩
        rw [mn_w hw]
        have z1 : J1 270 (80 + 24 * c + w) = if w < 18 then nI 0 else -1 := by
          rw [g2]; unfold zlT
          rw [if_pos (show 80 + 24 * c ≤ 80 + 24 * c + w ∧ 80 + 24 * c + w < 80 + 24 * c + 24 by omega), Nat.add_sub_cancel_left]
        unfold mnV
        by_cases w11 : w = 11
        · subst w11; rw [upd_s]; rfl
        rw [upd_o (by omega), aT_o (by omega) (by omega), t6]
        by_cases w10 : w = 10
        · subst w10; rw [upd_s]; rfl
        rw [upd_o (by omega), aT_o (by omega) (by omega), t4]
        by_cases w2 : w = 2
        · subst w2; rw [upd_s]; rfl
        rw [upd_o (by omega)]
        by_cases w1 : w = 1
        · subst w1; rw [upd_s]; rfl
        rw [upd_o (by omega)]
        by_cases w0 : w = 0
        · subst w0; rw [Nat.add_zero, upd_s]; rfl
        rw [upd_o (by omega), z1, if_neg w0, if_neg w1, if_neg w2, if_neg w10, if_neg w11, nI_0]
    rw [tt]
    exact r3
  · intro a ha
    unfold mnI aD
    funext z
    simp (disch := omega) only [u_up_a]
