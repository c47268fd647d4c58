/-! LEVEL B: dues come -/
theorem RV.hold {X : qX} {v : Nat} {I : qI} {t : Nat → Int32} {j : Nat} (h : RV X v I t j) (hv : v ≤ 195) {d : Nat} (hd : d < 60) {x y : Int32} (hxy : y = if x = -1 then -1000000005 else x) (hr : rgS (370 + 8 * d + 6) x) (hD : DD (upd t (370 + 8 * d + 6) x) j) : RV X v (q_up I (v + 34) d y) (upd t (370 + 8 * d + 6) x) j := by
  obtain ⟨hA, hF, hR, hD0, hH, hT⟩ := h
  have k4 := (hR 4).1
  rw [rgS_f rg_sc.2.2.2.2.1] at k4
  have e11 := k4.cv (t := t) (by decide)
  refine ⟨?_, ?_, ?_, hD, ?_, ?_⟩
  · rw [cn_o (by omega)]
    intro n o i hn hP
    have := vq_6 hn
    have ho := vq_34 hn
    rw [upd_o (by omega), u_up_a (by omega)]
    exact hA n o i hn hP
  · intro m h1 h3
    rw [cn_o (by omega)] at h1
    refine ⟨fun w hw => ?_, fun k hk => ?_⟩
    · rw [upd_o (by omega)]; exact (hF m h1 h3).1 w hw
    · rw [u_up_a (by omega)]; exact (hF m h1 h3).2 k hk
  · intro n
    by_cases e : n = 370 + 8 * d + 6
    · rw [e, upd_s]; exact ⟨hr, fun q => by omega⟩
    · rw [upd_o e]; exact hR n
  · intro q hq
    rw [cn_o (by omega)] at hq
    by_cases e : q = d
    · subst e
      rw [u_up_same, upd_s, hxy]
    · rw [u_up_j e, upd_o (by omega)]
      exact hH q hq
  · intro k hk
    rw [cn_o (by omega)] at hk
    obtain ⟨a, L, dd, e1, e2, e3, e4, e5, e6, e7⟩ := hT k hk
    refine ⟨a, L, dd, e1, e2, e3, e4, ?_, e6, ?_⟩
    · rw [upd_o (by omega)]; exact e5
    · rw [cn_o (by omega)]
      refine ⟨e7.1, fun q hq => ?_⟩
      have := e7.2 q hq
      rw [u_up_a (show a ≠ v + 34 by omega)]
      simp only at this ⊢
      rw [upd_o (by omega), upd_o (by omega)]
      exact this
theorem DD.cntDue {t : Nat → Int32} {j c : Nat} (h : DD t j) (hc : cn t 3 = c) (hc6 : c < 60) (h1 : t (370 + 8 * c) ≠ 0) (h2 : t (370 + 8 * c + 6) ≠ -1 → cn t (370 + 8 * c + 6) < cn t 2) (h3 : inR 0 (100000 + 120000 * cn t 0 + 10000 * j) (t (370 + 8 * c + 2))) (h4 : t (370 + 8 * c) = nI 1 ∨ t (370 + 8 * c) = nI 6 ∨ inR 0 999 (t (370 + 8 * c + 2))) : DD (upd t 3 (nI (c + 1))) j := by
  obtain ⟨h0, k1, k2, k3, k4⟩ := h
  have e : cn (upd t 3 (nI (c + 1))) 3 = c + 1 := by unfold cn; rw [upd_s]; exact nI_clamp (by omega)
  unfold DD
  rw [e, cn_o (by omega), cn_o (by omega), cn_o (by omega)]
  refine ⟨⟨h0.1, h0.2.1, by omega⟩, fun m hm => ?_, fun k hk => ?_, fun d hd => ?_, fun p hp => ?_⟩
  · have q := k1 m hm
    rw [upd_o (by omega), cn_o (by omega), cn_o (by omega), upd_o (by omega), upd_o (by omega), upd_o (by omega), cn_o (by omega)]
    exact ⟨q.1, by omega, by omega, q.2.2.2⟩
  · rw [upd_o (by omega), upd_o (by omega), upd_o (by omega)]; exact k2 k hk
  · rw [upd_o (by omega), upd_o (by omega), cn_o (by omega), upd_o (by omega)]
    by_cases q : d = c
    · subst q; exact ⟨h1, h2, h3, h4⟩
    · exact k3 d (by omega)
  · rw [upd_o (by omega)]; exact k4 p hp
theorem RV.cntDue {X : qX} {v : Nat} {I : qI} {t : Nat → Int32} {j c : Nat} (h : RV X v I t j) (hv : v ≤ 195) (hc : cn t 3 = c) (hc6 : c < 60) (hh : I (v + 34) c = if t (370 + 8 * c + 6) = -1 then -1000000005 else t (370 + 8 * c + 6)) (h1 : t (370 + 8 * c) ≠ 0) (h2 : t (370 + 8 * c + 6) ≠ -1 → cn t (370 + 8 * c + 6) < cn t 2) (h3 : inR 0 (100000 + 120000 * cn t 0 + 10000 * j) (t (370 + 8 * c + 2))) (h4 : t (370 + 8 * c) = nI 1 ∨ t (370 + 8 * c) = nI 6 ∨ inR 0 999 (t (370 + 8 * c + 2))) : RV X v (q_up I (v + 27) 8 (nI (c + 1))) (upd t 3 (nI (c + 1))) j := by
  have hD' := h.2.2.2.1.cntDue hc hc6 h1 h2 h3 h4
  obtain ⟨hA, hF, hR, hD0, hH, hT⟩ := h
  have e : cn (upd t 3 (nI (c + 1))) 3 = c + 1 := by unfold cn; rw [upd_s]; exact nI_clamp (by omega)
  refine ⟨?_, ?_, ?_, hD', ?_, ?_⟩
  · rw [cn_o (by omega)]
    exact hA.up vq_sc.2.2.2.1 _
  · intro m h1 h3
    rw [cn_o (by omega)] at h1
    refine ⟨fun w hw => ?_, fun k hk => ?_⟩
    · rw [upd_o (by omega)]; exact (hF m h1 h3).1 w hw
    · rw [u_up_a (by omega)]; exact (hF m h1 h3).2 k hk
  · intro n
    by_cases e : n = 3
    · rw [e, upd_s]; exact ⟨rgS_i rg_sc.2.2.2.1 (by omega) (by omega), fun q => by omega⟩
    · rw [upd_o e]; exact hR n
  · intro q hq
    rw [e] at hq
    rw [u_up_a (by omega), upd_o (by omega)]
    by_cases e : q = c
    · subst e; exact hh
    · exact hH q (by omega)
  · intro k hk
    rw [cn_o (by omega)] at hk
    obtain ⟨a, L, dd, e1, e2, e3, e4, e5, e6, e7⟩ := hT k hk
    refine ⟨a, L, dd, e1, e2, e3, e4, ?_, e6, ?_⟩
    · rw [upd_o (by omega)]; exact e5
    · rw [cn_o (by omega)]
      refine ⟨e7.1, fun q hq => ?_⟩
      have := e7.2 q hq
      rw [u_up_a (show a ≠ v + 27 by omega)]
      simp only at this ⊢
      rw [upd_o (by omega), upd_o (by omega)]
      exact this
def aD (I : qI) (v c : Nat) (k m a s d : Int32) : qI := q_up (q_up (q_up (q_up (q_up (q_up (q_up (q_up (q_up I (v + 28) c k) (v + 29) c m) (v + 30) c a) (v + 31) c s) (v + 32) c d) (v + 33) c (nI 0)) (v + 34) c (-1000000005)) (v + 35) c (nI 0)) (v + 27) 8 (nI (c + 1))
def aT (t : Nat → Int32) (c : Nat) (k m a s d : Int32) : Nat → Int32 := upd (upd (upd (upd (upd (upd (upd (upd (upd t (370 + 8 * c) k) (370 + 8 * c + 1) m) (370 + 8 * c + 2) a) (370 + 8 * c + 3) s) (370 + 8 * c + 4) d) (370 + 8 * c + 5) (nI 0)) (370 + 8 * c + 6) (-1)) (370 + 8 * c + 7) (nI 0)) 3 (nI (c + 1))
def nD (J : qI) (c : Nat) (k m a s d : Int32) : qI := q_up (q_up (q_up (q_up (q_up (q_up (q_up (q_up (q_up J 270 (370 + 8 * c) k) 270 (370 + 8 * c + 1) m) 270 (370 + 8 * c + 2) a) 270 (370 + 8 * c + 3) s) 270 (370 + 8 * c + 4) d) 270 (370 + 8 * c + 5) (nI 0)) 270 (370 + 8 * c + 6) (-1)) 270 (370 + 8 * c + 7) (nI 0)) 270 3 (nI (c + 1))
theorem nD_270 (J : qI) (c : Nat) (k m a s d : Int32) : nD J c k m a s d 270 = aT (J 270) c k m a s d := by
  unfold nD aT
  simp only [up270]
theorem nD_GM (J : qI) (c : Nat) (k m a s d : Int32) : GM J (nD J c k m a s d) := by
  unfold nD
  exact ((((((((GM.rfl'.up (by decide)).up (by decide)).up (by decide)).up (by decide)).up (by decide)).up (by decide)).up (by decide)).up (by decide)).up (by decide)
theorem aD_FC (I : qI) (v c : Nat) (k m a s d : Int32) : FC v I (aD I v c k m a s d) := by
  unfold aD
  exact ((((((((FC.rfl'.up (by omega) (by omega)).up (by omega) (by omega)).up (by omega) (by omega)).up (by omega) (by omega)).up (by omega) (by omega)).up (by omega) (by omega)).up (by omega) (by omega)).up (by omega) (by omega)).up (by omega) (by omega)
theorem RV.addedD {X : qX} {v : Nat} {I : qI} {t : Nat → Int32} {j : Nat} (h : RV X v I t j) {a : Nat} (ha : a = v + 27) (hc : cn t 3 < 60) (k m am s d : Int32) : f_X1_added a k m am s d I = some (nI (cn t 3), aD I v (cn t 3) k m am s d) := by
  subst ha
  unfold f_X1_added aD
  rw [h.sc3 rfl, h.k3.1, if_pos (nI_lt hc (by decide))]
  simp (disch := omega) only [u_wr, u_s1, u_up_a, h.sc3 rfl, h.k3.1, nI_add, u_up_same, u_sub, Nat.add_sub_cancel, Nat.add_assoc, Nat.reduceAdd]
theorem RV.newDueJ {X : qX} {v : Nat} {I J : qI} {j : Nat} (h : RV X v I (J 270) j) (hc : cn (J 270) 3 < 60) (k m am s : Int32) : f_X12_newDue 269 k m am s J = some (nI (cn (J 270) 3), nD J (cn (J 270) 3) k m am s (J 270 0)) := by
  unfold f_X12_newDue f_X12_dueAt nD
  simp (disch := omega) only [u_rd, u_wr, u_s1, u_up_j, h.k3.1, u_mul, nI_add, u_up_same, u_sub, Nat.add_sub_cancel, Nat.reduceAdd]
theorem RV.addDue {X : qX} {v : Nat} {I : qI} {t : Nat → Int32} {j c : Nat} (h : RV X v I t j) (hv : v ≤ 195) (hc : cn t 3 = c) (hc6 : c < 60) {k : Nat} (hk : 1 ≤ k ∧ k ≤ 6) (m : Int32) {a : Nat} (ha : a ≤ 999) (s : Int32) (d : Int32) : RV X v (aD I v c (nI k) m (nI a) s d) (aT t c (nI k) m (nI a) s d) j := by
  have b := h.bd
  have p2 : ∀ {t' : Nat → Int32} {n : Nat} {x : Int32}, cn t' 3 = c → n ≠ 3 → cn (upd t' n x) 3 = c := fun hq hn => by rw [cn_o (by omega)]; exact hq
  have h1 := h.up hv (vq_due c hc6 0 (by decide) (by decide)) (rgS_i (rg_d0 c hc6) (by omega) hk.2) (h.dd.newDue (by omega) (by omega) _) (by omega) (by omega) (by omega)
  have c1 := p2 (n := 370 + 8 * c + 0) (x := nI k) hc (by omega)
  have h2 := h1.up hv (vq_due c hc6 1 (by decide) (by decide)) (x := m) (rgS_n (rn_d1 c hc6)) (h1.dd.newDue (by omega) (by omega) _) (by omega) (by omega) (by omega)
  have c2 := p2 (n := 370 + 8 * c + 1) (x := m) c1 (by omega)
  have h3 := h2.up hv (vq_due c hc6 2 (by decide) (by decide)) (x := nI a) (rgS_n (rn_d2 c hc6)) (h2.dd.newDue (by omega) (by omega) _) (by omega) (by omega) (by omega)
  have c3 := p2 (n := 370 + 8 * c + 2) (x := nI a) c2 (by omega)
  have h4 := h3.up hv (vq_due c hc6 3 (by decide) (by decide)) (x := s) (rgS_n (rn_d3 c hc6)) (h3.dd.newDue (by omega) (by omega) _) (by omega) (by omega) (by omega)
  have c4 := p2 (n := 370 + 8 * c + 3) (x := s) c3 (by omega)
  have h5 := h4.up hv (vq_due c hc6 4 (by decide) (by decide)) (x := d) (rgS_n (rn_d4 c hc6)) (h4.dd.newDue (by omega) (by omega) _) (by omega) (by omega) (by omega)
  have c5 := p2 (n := 370 + 8 * c + 4) (x := d) c4 (by omega)
  have h6 := h5.up hv (vq_due c hc6 5 (by decide) (by decide)) (x := nI 0) (rgS_n (rn_d5 c hc6)) (h5.dd.newDue (by omega) (by omega) _) (by omega) (by omega) (by omega)
  have c6 := p2 (n := 370 + 8 * c + 5) (x := nI 0) c5 (by omega)
  have h7 := h6.hold hv hc6 (x := -1) (y := -1000000005) (by decide) ((rgS_t (rg_d6 c hc6)).mpr (Or.inl rfl)) (h6.dd.newDue (by omega) (by omega) _)
  have c7 := p2 (n := 370 + 8 * c + 6) (x := -1) c6 (by omega)
  have h8 := h7.up hv (vq_due c hc6 7 (by decide) (by decide)) (x := nI 0) (rgS_n (rn_d7 c hc6)) (h7.dd.newDue (by omega) (by omega) _) (by omega) (by omega) (by omega)
  have c8 := p2 (n := 370 + 8 * c + 7) (x := nI 0) c7 (by omega)
  refine h8.cntDue hv c8 hc6 ?_ ?_ ?_ ?_ ?_
  · rw [u_up_a (by omega), u_up_same, upd_o (by omega), upd_s]; rfl
  · rw [upd_o (by omega), upd_o (by omega), upd_o (by omega), upd_o (by omega), upd_o (by omega), upd_o (by omega), upd_o (by omega)]
    exact upd_s ▸ (nI_ne0 hk.1 (by omega))
  · intro q
    exact absurd (by rw [upd_o (by omega), upd_s]) q
  · rw [upd_o (by omega), upd_o (by omega), upd_o (by omega), upd_o (by omega), upd_o (by omega), upd_s]
    exact ⟨a, rfl, by omega, by omega⟩
  · right; right
    rw [upd_o (by omega), upd_o (by omega), upd_o (by omega), upd_o (by omega), upd_o (by omega), upd_s]
    exact ⟨a, rfl, by omega, by omega⟩
