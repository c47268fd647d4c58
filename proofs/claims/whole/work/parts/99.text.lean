/-! LEVEL B: text -/
def vq_xb (n : Nat) : Bool := match vq n with
  | some _ => decide (n < 3380) && !decide (850 ≤ n ∧ n < 3250 ∧ 3 ≤ (n - 850) % 200)
  | none => true
theorem vq_xa : (List.range 3580).all vq_xb = true := by decide +kernel
theorem vq_x {n o j : Nat} (h : vq n = some (o, j)) : n < 3380 ∧ ¬ (850 ≤ n ∧ n < 3250 ∧ 3 ≤ (n - 850) % 200) := by
  by_cases hn : n < 3580
  · have h1 := List.all_eq_true.mp vq_xa n (List.mem_range.mpr hn)
    unfold vq_xb at h1
    rw [h] at h1
    rw [Bool.and_eq_true] at h1
    refine ⟨of_decide_eq_true h1.1, fun q => ?_⟩
    have h2 := h1.2
    rw [decide_eq_true q] at h2
    cases h2
  · rw [vq_hi hn] at h; cases h
theorem rgT_x {n : Nat} (h : (850 ≤ n ∧ n < 3250 ∧ 2 ≤ (n - 850) % 200) ∨ 3374 ≤ n) : rgT n = none := by
  unfold rgT
  rw [if_neg (by omega), if_neg (by omega), if_neg (by omega), if_neg (by omega), if_neg (by omega), if_neg (by omega), if_neg (by omega)]
  by_cases c : n < 3250
  · rw [if_pos c, if_neg (by omega), if_neg (by omega)]
  · rw [if_neg c, if_neg (by omega), if_neg (by omega), if_neg (by omega), if_neg (by omega), if_neg (by omega)]
/-- the row's places behind all texts -/
theorem RV.spare {X : qX} {v j : Nat} {I : qI} {t t' : Nat → Int32} (h : RV X v I t j) (ht : ∀ m, (m < spA (cn t 4) ∨ spA (cn t 4) + 192 ≤ m) → t' m = t m) : RV X v I t' j := by
  have b := h.bd
  have k4 := h.k4
  have hA : (cn t 4 < 12 ∧ spA (cn t 4) = 850 + 200 * cn t 4 + 4) ∨ (cn t 4 = 12 ∧ spA (cn t 4) = 3380) := by
    unfold spA
    by_cases c : 12 ≤ cn t 4
    · right; rw [if_pos c]; omega
    · left; rw [if_neg c]; omega
  generalize spA (cn t 4) = A at *
  have lo : ∀ n, n < 850 → t' n = t n := fun n hn => ht n (by omega)
  obtain ⟨hA1, hF, hR, hD, hH, hT⟩ := h
  have cc : ∀ n, n < 850 → cn t' n = cn t n := fun n hn => by unfold cn; rw [lo n hn]
  refine ⟨?_, ?_, ?_, ?_, ?_, ?_⟩
  · rw [cc 2 (by omega)]
    intro n o i hn hP
    have := vq_x hn
    rw [ht n (by omega)]; exact hA1 n o i hn hP
  · intro m h1 h3
    rw [cc 2 (by omega)] at h1
    exact ⟨fun w hw => by rw [lo _ (by omega)]; exact (hF m h1 h3).1 w hw, (hF m h1 h3).2⟩
  · intro n
    by_cases c : n < A ∨ A + 192 ≤ n
    · rw [ht n c]; exact hR n
    · exact ⟨rgS_n (rgT_x (by omega)), fun q => by omega⟩
  · obtain ⟨h0, h1, h2, h3, h4⟩ := hD
    unfold DD
    rw [cc 0 (by omega), cc 1 (by omega), cc 2 (by omega), cc 3 (by omega)]
    refine ⟨h0, fun i hi => ?_, fun k hk => ?_, fun d hd => ?_, fun p hp => ?_⟩
    · have q := h1 i hi
      rw [lo _ (by omega), cc _ (by omega), cc _ (by omega), lo _ (by omega), lo _ (by omega), lo _ (by omega), cc _ (by omega)]; exact q
    · rw [lo _ (by omega), lo _ (by omega), lo _ (by omega)]; exact h2 k hk
    · rw [lo _ (by omega), lo _ (by omega), cc _ (by omega), lo _ (by omega)]; exact h3 d hd
    · rw [lo _ (by omega)]; exact h4 p hp
  · intro d hd
    rw [cc 3 (by omega)] at hd
    rw [lo _ (by omega)]; exact hH d hd
  · intro k hk
    rw [cc 4 (by omega)] at hk
    obtain ⟨a, L, d, e1, e2, e3, e4, e5, e6, e7⟩ := hT k hk
    refine ⟨a, L, d, e1, e2, e3, e4, by rw [ht _ (by omega)]; exact e5, e6, ?_⟩
    rw [show cn t' (850 + 200 * k) = cn t (850 + 200 * k) by unfold cn; rw [ht _ (by omega)]]
    refine ⟨e7.1, fun q hq => ?_⟩
    have := e7.2 q hq
    simp only at this ⊢
    rw [ht _ (by omega), ht _ (by omega)]
    exact this
/-- a new cell -/
theorem RV.ext {X X' : qX} {v j N : Nat} {I I' : qI} {t : Nat → Int32} (h : RV X v I t j) (hv : v ≤ 195) (h1 : X'.1 = X.1) (h2 : ∀ k d, q_kd X k = some d → q_kd X' k = some d) (hN : q_kd X N = none) (hN7 : 287 ≤ N) (hI : ∀ a, a ≠ N → I' a = I a) : RV X' v I' t j := by
  obtain ⟨hA, hF, hR, hD, hH, hT⟩ := h
  refine ⟨hA.keep fun n o i hn _ => by rw [hI _ (by have := (vq_c hn).2; omega)], fun m a b => ⟨(hF m a b).1, fun k hk => ?_⟩, hR, hD, fun d hd => ?_, fun k hk => ?_⟩
  · rw [hI _ (by omega)]; exact (hF m a b).2 k hk
  · rw [hI _ (by omega)]; exact hH d hd
  · obtain ⟨a, L, d, e1, e2, e3, e⟩ := hT k hk
    refine ⟨a, L, d, by rw [h1]; exact e1, e2, h2 _ _ e3, ?_⟩
    rw [hI a (fun q => by rw [q, hN] at e3; cases e3)]; exact e
/-- a new text -/
theorem RV.addText {X X' : qX} {v j c N L key day : Nat} {I : qI} {t : Nat → Int32} {ops : Int32} {dd : Nat → Nat} (h : RV X v I t j) (hv : v ≤ 195) (hc : cn t 4 = c) (hc12 : c < 12) (hkey : key < 7) (hday : day ≤ 6999) (hN : 287 ≤ N) (hkd : q_kd X N = some (0, L)) (hL : L ≤ 96) (hw : wfc key L (I N) (fun k => t (850 + 200 * c + 4 + k)) dd) (hdd : dd L = 1) (hX1 : X'.1 (v + 40) c = some N) (hX2 : ∀ i, i ≠ c → X'.1 (v + 40) i = X.1 (v + 40) i) (hX3 : X'.2 = X.2) : RV X' v (q_up (q_up (q_up (q_up I (v + 37) c (nI key)) (v + 38) c (nI day)) (v + 39) c ops) (v + 36) 5 (nI (c + 1))) (upd (upd (upd (upd (upd t (850 + 200 * c) (nI key)) (850 + 200 * c + 1) (nI day)) (850 + 200 * c + 2) ops) (850 + 200 * c + 3) (nI L)) 4 (nI (c + 1))) j := by
  have b := h.bd
  obtain ⟨hA, hF, hR, hD, hH, hT⟩ := h
  have v0 : vq (850 + 200 * c) = some (37, c) := vq_text c hc12 0 (by decide)
  have v1 : vq (850 + 200 * c + 1) = some (38, c) := vq_text c hc12 1 (by decide)
  have v2 : vq (850 + 200 * c + 2) = some (39, c) := vq_text c hc12 2 (by decide)
  have o4 : ∀ n, n ≠ 4 → (n < 850 + 200 * c ∨ 850 + 200 * c + 4 ≤ n) → upd (upd (upd (upd (upd t (850 + 200 * c) (nI key)) (850 + 200 * c + 1) (nI day)) (850 + 200 * c + 2) ops) (850 + 200 * c + 3) (nI L)) 4 (nI (c + 1)) n = t n := fun n h1 h2 => by rw [upd_o h1, upd_o (by omega), upd_o (by omega), upd_o (by omega), upd_o (by omega)]
  have t4 : cn (upd (upd (upd (upd (upd t (850 + 200 * c) (nI key)) (850 + 200 * c + 1) (nI day)) (850 + 200 * c + 2) ops) (850 + 200 * c + 3) (nI L)) 4 (nI (c + 1))) 4 = c + 1 := by unfold cn; rw [upd_s]; exact nI_clamp (by omega)
  have c2 : cn (upd (upd (upd (upd (upd t (850 + 200 * c) (nI key)) (850 + 200 * c + 1) (nI day)) (850 + 200 * c + 2) ops) (850 + 200 * c + 3) (nI L)) 4 (nI (c + 1))) 2 = cn t 2 := by unfold cn; rw [o4 2 (by decide) (by omega)]
  have c3 : cn (upd (upd (upd (upd (upd t (850 + 200 * c) (nI key)) (850 + 200 * c + 1) (nI day)) (850 + 200 * c + 2) ops) (850 + 200 * c + 3) (nI L)) 4 (nI (c + 1))) 3 = cn t 3 := by unfold cn; rw [o4 3 (by decide) (by omega)]
  have oI : ∀ a, a ≠ v + 36 → a ≠ v + 37 → a ≠ v + 38 → a ≠ v + 39 → q_up (q_up (q_up (q_up I (v + 37) c (nI key)) (v + 38) c (nI day)) (v + 39) c ops) (v + 36) 5 (nI (c + 1)) a = I a := fun a h1 h2 h3 h4 => by funext k; rw [u_up_a h1, u_up_a h4, u_up_a h3, u_up_a h2]
  have A3 := ((hA.up v0 (nI key)).up v1 (nI day)).up v2 ops
  have A4 : VA (Ph (cn t 2)) v (upd (upd (upd (upd t (850 + 200 * c) (nI key)) (850 + 200 * c + 1) (nI day)) (850 + 200 * c + 2) ops) (850 + 200 * c + 3) (nI L)) (q_up (q_up (q_up I (v + 37) c (nI key)) (v + 38) c (nI day)) (v + 39) c ops) := by
    intro n o i hn hP
    have := vq_x hn
    rw [upd_o (by omega)]
    exact A3 n o i hn hP
  have A5 := A4.up vq_sc.2.2.2.2.1 (nI (c + 1))
  have d1 := hD.up (n := 850 + 200 * c) (by simp [dr]; omega) (nI key)
  have d2 := d1.up (n := 850 + 200 * c + 1) (by simp [dr]; omega) (nI day)
  have d3 := d2.up (n := 850 + 200 * c + 2) (by simp [dr]; omega) ops
  have d4 := d3.up (n := 850 + 200 * c + 3) (by simp [dr]; omega) (nI L)
  refine ⟨by rw [c2]; exact A5, ?_, ?_, d4.up (n := 4) (by decide) _, ?_, ?_⟩
  · intro m h1 h3
    rw [c2] at h1
    refine ⟨fun w hw => ?_, fun k hk => ?_⟩
    · rw [o4 _ (by omega) (by omega)]; exact (hF m h1 h3).1 w hw
    · rw [oI _ (by omega) (by omega) (by omega) (by omega)]; exact (hF m h1 h3).2 k hk
  · intro n
    by_cases e4 : n = 4
    · rw [e4, upd_s]; exact ⟨rgS_i rg_sc.2.2.2.2.1 (by omega) (by omega), fun q => by omega⟩
    by_cases e0 : n < 850 + 200 * c ∨ 850 + 200 * c + 4 ≤ n
    · rw [o4 n e4 e0]; exact hR n
    refine ⟨?_, fun q => by omega⟩
    rw [upd_o e4]
    by_cases e3 : n = 850 + 200 * c + 3
    · rw [e3]; exact rgS_n (rgT_x (by omega))
    rw [upd_o e3]
    by_cases e2 : n = 850 + 200 * c + 2
    · rw [e2]; exact rgS_n (rgT_x (by omega))
    rw [upd_o e2]
    by_cases e1 : n = 850 + 200 * c + 1
    · rw [e1, upd_s]; exact rgS_i (rg_t1 c hc12) (by omega) hday
    rw [upd_o e1, show n = 850 + 200 * c by omega, upd_s]
    exact rgS_i (rg_t0 c hc12) (by omega) (by omega)
  · intro d hd
    rw [c3] at hd
    rw [o4 _ (by omega) (by omega), oI _ (by omega) (by omega) (by omega) (by omega)]
    exact hH d hd
  · intro i hi
    rw [t4] at hi
    by_cases e : i = c
    · subst e
      refine ⟨N, L, dd, hX1, hN, by unfold q_kd; rw [hX3]; exact hkd, hL, by rw [upd_o (by omega), upd_s], hdd, ?_⟩
      rw [oI N (by omega) (by omega) (by omega) (by omega), show cn (upd (upd (upd (upd (upd t (850 + 200 * i) (nI key)) (850 + 200 * i + 1) (nI day)) (850 + 200 * i + 2) ops) (850 + 200 * i + 3) (nI L)) 4 (nI (i + 1))) (850 + 200 * i) = key by
        unfold cn
        rw [upd_o (by omega), upd_o (by omega), upd_o (by omega), upd_o (by omega), upd_s]
        exact nI_clamp (by omega)]
      refine ⟨hw.1, fun q hq => ?_⟩
      have := hw.2 q hq
      simp only at this ⊢
      rw [o4 _ (by omega) (by omega), o4 _ (by omega) (by omega)]
      exact this
    · obtain ⟨a, L', d, e1, e2, e3, e4, e5, e6, e7⟩ := hT i (by omega)
      refine ⟨a, L', d, (hX2 i e).trans e1, e2, by unfold q_kd; rw [hX3]; exact e3, e4, by rw [o4 _ (by omega) (by omega)]; exact e5, e6, ?_⟩
      rw [oI a (by omega) (by omega) (by omega) (by omega), show cn (upd (upd (upd (upd (upd t (850 + 200 * c) (nI key)) (850 + 200 * c + 1) (nI day)) (850 + 200 * c + 2) ops) (850 + 200 * c + 3) (nI L)) 4 (nI (c + 1))) (850 + 200 * i) = cn t (850 + 200 * i) by unfold cn; rw [o4 _ (by omega) (by omega)]]
      refine ⟨e7.1, fun q hq => ?_⟩
      have := e7.2 q hq
      simp only at this ⊢
      rw [o4 _ (by omega) (by omega), o4 _ (by omega) (by omega)]
      exact this
/-- a tape read, whatever it says -/
theorem WW.fa {X : qX} {I J I' J' : qI} (h : WW X I J) (hf : FA (spA (cn (J 270) 4)) I J I' J') : WW X (q_up I' 260 6 (nI 0)) J' ∧ CF I (q_up I' 260 6 (nI 0)) ∧ MF J J' := by
  obtain ⟨f1, f2, f3, f4, f5⟩ := hf
  have oI : ∀ a, a ≠ 260 → a ≠ 262 → q_up I' 260 6 (nI 0) a = I a := fun a h1 h2 => by funext k; rw [u_up_a h1, f1 a h1 h2]
  refine ⟨⟨h.1, ?_, ?_, ?_, ?_, ?_, by rw [f3 25 (by decide)]; exact h.bs, h.ax⟩, fun a h1 h2 => oI a (by omega) (by omega), fun a ha => f2 a (by omega) (by omega)⟩
  · exact (h.rv.keepC (fun o ho => oI _ (by omega) (by omega)) (fun a ha => oI _ (by omega) (by omega))).spare f5
  · unfold KP
    rw [oI 64 (by decide) (by decide), f3 3 (by decide), f2 271 (by decide) (by decide)]
    exact ⟨h.kp.1, h.kp.2.imp id fun q => ⟨q.1, q.2.keepC (fun o ho => oI _ (by omega) (by omega)) (fun a ha => oI _ (by omega) (by omega))⟩⟩
  · unfold BK
    rw [oI 264 (by decide) (by decide), oI 265 (by decide) (by decide), oI 266 (by decide) (by decide), f2 273 (by decide) (by decide), f2 274 (by decide) (by decide), f2 275 (by decide) (by decide)]
    exact h.bk
  · unfold WT
    rw [oI 64 (by decide) (by decide), oI 267 (by decide) (by decide), f3 39 (by decide), f2 285 (by decide) (by decide)]
    exact h.wt
  · exact ⟨0, by decide, u_up_same, f4, fun i hi => absurd hi (Nat.not_lt_zero _)⟩
theorem WW.ext {X : qX} {I J : qI} (h : WW X I J) (L : Nat) (f : Nat → Int32) : WW (X.1, X.2 ++ [(0, L)]) (q_upA I (X.2.length + 64) f) J ∧ CF I (q_upA I (X.2.length + 64) f) ∧ q_kd X (X.2.length + 64) = none ∧ 287 ≤ X.2.length + 64 := by
  have hlen : 223 ≤ X.2.length := by
    have h1 : q_kd X 286 = some (0, 60) := h.1.k (k := 222) rfl rfl
    obtain ⟨-, h2⟩ := q_kd_ge h1
    have := (List.getElem?_eq_some_iff.mp h2).1
    omega
  have hN : q_kd X (X.2.length + 64) = none := by
    unfold q_kd
    rw [if_neg (by omega), show X.2.length + 64 - 64 = X.2.length by omega, List.getElem?_eq_none (Nat.le_refl _)]
  have hk : ∀ k d, q_kd X k = some d → q_kd (X.1, X.2 ++ [(0, L)]) k = some d := fun k d hd => q_kd_push (R := X.1) (K := X.2) hd
  have oI : ∀ a, a ≠ X.2.length + 64 → q_upA I (X.2.length + 64) f a = I a := fun a ha => by unfold q_upA; rw [if_neg ha]
  refine ⟨⟨h.1.ext (q_Ext.row h.1.1), h.rv.ext (by decide) rfl hk hN (by omega) oI, ?_, ?_, ?_, ?_, h.bs, ?_⟩, fun a h1 h2 => oI a (by omega), hN, by omega⟩
  · unfold KP
    rw [oI 64 (by omega)]
    exact ⟨h.kp.1, h.kp.2.imp id fun q => ⟨q.1, q.2.ext (by decide) rfl hk hN (by omega) oI⟩⟩
  · unfold BK
    rw [oI 264 (by omega), oI 265 (by omega), oI 266 (by omega)]
    exact h.bk
  · unfold WT
    rw [oI 64 (by omega), oI 267 (by omega)]
    exact h.wt
  · unfold TP
    rw [oI 260 (by omega), oI 261 (by omega)]
    exact h.tp
  · intro v hv i hi
    rcases h.ax v hv i hi with z | ⟨a, L', z1, z2⟩
    · exact Or.inl z
    · exact Or.inr ⟨a, L', z1, hk _ _ z2⟩
theorem W_text {X : qX} (y1 : Int32) : PX X (f_X11_text 64 y1 X) (fun _ => f_X12_text 269 y1) := by
  intro I J h
  show ∃ r I' X' J', f_X11_text 64 y1 X I = some (r, I', X') ∧ f_X12_text 269 y1 J = some (r, J') ∧ _
  obtain ⟨c, c1, c2, c3, c4⟩ := h.tp
  have k4 := h.rv.k4
  obtain ⟨v, I1, J1, p1, p2, p3⟩ := ps c1 c2 c3 c4 k4.1 (by omega)
  obtain ⟨w1, w2, w3⟩ := h.fa p2
  have i7 : ∀ k, k ≠ 6 → q_up I1 260 6 (nI 0) 260 k = I1 260 k := fun k hk => u_up_j hk
  have i262 : q_up I1 260 6 (nI 0) 262 = I1 262 := by funext k; exact u_up_a (by decide)
  have e4 : J1 270 4 = nI (cn (J 270) 4) := by rw [p2.2.2.2.2 4 (by left; unfold spA; split <;> omega)]; exact k4.1
  unfold f_X11_text f_X12_text
  rw [show (64 + 196 : Nat) = 260 from rfl, p1, u_s2, u_s1]
  generalize q_up I1 260 6 (nI 0) = I2 at *
  simp only [u_within, ii_0_6999, u_s1, u_ib, ite_not]
  rcases p3 with ⟨p, q1, q2, q3, q4⟩ | ⟨key, L, dd, q1, q2, q3, q4, q5, q6, q7, q8, q9, q10⟩
  · rw [q4, u_s2, q2, q3, if_neg (nI_pos (by omega)), if_neg (show ¬ (0 : Int32) ≤ -1 by decide)]
    by_cases a : nI 0 ≤ y1 ∧ y1 ≤ nI 6999
    · rw [if_pos a, if_pos a]; exact ⟨_, I2, X, J1, rfl, rfl, w1, w2, w3⟩
    · rw [if_neg a, if_neg a]; exact ⟨_, I2, X, J1, rfl, rfl, w1, w2, w3⟩
  rw [q1, q2, u_s2, if_pos (show (-1 : Int32) < 0 by decide), if_pos (nI_pos' (n := key) (by omega))]
  by_cases a : nI 0 ≤ y1 ∧ y1 ≤ nI 6999
  rotate_left
  · rw [if_neg a, if_neg a]; exact ⟨_, I2, X, J1, rfl, rfl, w1, w2, w3⟩
  rw [if_pos a, if_pos a]
  obtain ⟨day, rfl, -, hday⟩ := u_range (by decide) a.1 a.2 (by decide)
  have eR : f_X5_codeRow 260 X I2 = some (some (X.2.length + 64), q_upA I2 (X.2.length + 64) (va_cpy (I1 262) (fun _ => 0) 0 0 L), (X.1, X.2 ++ [(0, L)])) := by
    unfold f_X5_codeRow
    rw [i7 2 (by decide), q6, nI_clamp (by omega), if_neg (by rintro (z | z); exact nI_pos (by omega) z; omega)]
    have : (260 + 2 : Nat) ≠ X.2.length + 64 := by
      have := (w1.ext 0 (fun _ => 0)).2.2.2
      omega
    unfold q_cp
    rw [nI_clamp (by decide), nI_clamp (by omega), if_neg (by
      rintro ((z | z | z) | z | z)
      · exact nI_pos (by decide) z
      · exact nI_pos (by decide) z
      · exact nI_pos (by omega) z
      · omega
      · omega), u_s1]
    have e1 : q_upA I2 (X.2.length + 64) (fun _ => 0) (260 + 2) = I1 262 := by
      unfold q_upA; rw [if_neg this]; exact i262
    have e2 : q_upA I2 (X.2.length + 64) (fun _ => 0) (X.2.length + 64) = fun _ => 0 := by unfold q_upA; rw [if_pos rfl]
    rw [e1, e2]
    congr 1
    refine Prod.ext rfl (Prod.ext ?_ rfl)
    funext b
    show q_upA (q_upA I2 (X.2.length + 64) (fun _ => 0)) (X.2.length + 64) (va_cpy (I1 262) (fun _ => 0) 0 0 L) b = q_upA I2 (X.2.length + 64) (va_cpy (I1 262) (fun _ => 0) 0 0 L) b
    unfold q_upA
    by_cases z : b = X.2.length + 64
    · simp only [if_pos z]
    · simp only [if_neg z]
  rw [eR, u_s3]
  obtain ⟨x1, x2, x3, x4⟩ := w1.ext L (va_cpy (I1 262) (fun _ => 0) 0 0 L)
  have hkN : q_kd (X.1, X.2 ++ [(0, L)]) (X.2.length + 64) = some (0, L) := q_kd_last
  have cN : q_upA I2 (X.2.length + 64) (va_cpy (I1 262) (fun _ => 0) 0 0 L) (X.2.length + 64) = va_cpy (I1 262) (fun _ => 0) 0 0 L := by unfold q_upA; rw [if_pos rfl]
  have f7 : I2 260 7 = nI key := (i7 7 (by decide)).trans q4
  have f8 : I2 260 8 = J1 269 24 := (i7 8 (by decide)).trans q8
  rw [f7, f8]
  generalize q_upA I2 (X.2.length + 64) (va_cpy (I1 262) (fun _ => 0) 0 0 L) = I3 at *
  have cf3 : CF I I3 := fun z h1 h2 => (x2 z h1 h2).trans (w2 z h1 h2)
  have s5 : I3 101 5 = nI (cn (J 270) 4) := (x1.rv.sc4 (a := 101) rfl).trans e4
  unfold f_X7_added f_X12_textAt
  rw [show (64 + 37 : Nat) = 101 from rfl, s5, u_rd (show 4 < 3580 by decide) (by decide), u_s1, show J1 (269 + 1) 4 = nI (cn (J 270) 4) from e4]
  generalize hcc : cn (J 270) 4 = cc at *
  by_cases c12 : cc = 12
  · rw [if_neg (by rw [c12]; decide +kernel), u_s3, if_pos (by rw [c12])]
    exact ⟨_, I3, _, J1, rfl, rfl, x1, cf3, w3⟩
  have cl : cc < 12 := by omega
  have n4 : cn (J1 270) 4 = cc := by unfold cn; rw [e4]; exact nI_clamp (by omega)
  rw [if_pos (nI_lt cl (by decide)), if_neg (fun z => c12 ((nI_eq (by omega) (by omega)).mp z)), u_s1, u_mul, nI_add, u_s1, nI_add, nI_add, nI_add, nI_add]
  have eW : q_wrR (X.1, X.2 ++ [(0, L)]) (101 + 4) 12 (nI cc) (some (X.2.length + 64)) = some (q_upR X.1 105 cc (some (X.2.length + 64)), X.2 ++ [(0, L)]) := by
    unfold q_wrR
    rw [nI_clamp (by omega), if_neg (by
      rintro ((z | z) | ⟨z1, z2⟩)
      · exact nI_pos (by omega) z
      · omega
      · unfold q_arr at z2
        simp only [hkN] at z2
        cases z2)]
  -- the class's writes
  rw [u_wr cl (by decide), u_s1, u_up_a (by decide), s5, u_wr cl (by decide), u_s1, u_up_a (by decide), u_up_a (by decide), s5, u_wr cl (by decide), u_s1, u_up_a (by decide), u_up_a (by decide), u_up_a (by decide), s5, eW, u_s1, u_s1, nI_add, u_up_same, u_sub (by omega), u_s3]
  -- the model's
  have eM : (q_b1 (q_wr J1 (269 + 1) 3580 (nI (850 + 200 * cc + 0)) (nI key)) fun I18 => q_b1 (q_wr I18 (269 + 1) 3580 (nI (850 + 200 * cc + 1)) (nI day)) fun I21 => q_b1 (q_wr I21 (269 + 1) 3580 (nI (850 + 200 * cc + 2)) (I21 269 24)) fun I24 => q_b1 (q_wr I24 (269 + 1) 3580 (nI (850 + 200 * cc + 3)) (I24 269 22)) fun I27 => q_b1 (q_rd I27 (269 + 1) 3580 (nI 4)) fun v30 => q_b1 (q_wr I27 (269 + 1) 3580 (nI 4) (v30 + nI 1)) fun I32 => q_b1 (q_rd I32 (269 + 1) 3580 (nI 4)) fun v35 => some (v35 - nI 1, I32)) = some (nI (cc + 1 - 1), q_up (q_up (q_up (q_up (q_up J1 270 (850 + 200 * cc) (nI key)) 270 (850 + 200 * cc + 1) (nI day)) 270 (850 + 200 * cc + 2) (J1 269 24)) 270 (850 + 200 * cc + 3) (nI L)) 270 4 (nI (cc + 1))) := by
    rw [show (269 + 1 : Nat) = 270 from rfl, u_wr (show 850 + 200 * cc + 0 < 3580 by omega) (by decide), u_s1, u_wr (show 850 + 200 * cc + 1 < 3580 by omega) (by decide), u_s1, u_up_a (show 269 ≠ 270 by decide), u_up_a (show 269 ≠ 270 by decide), u_wr (show 850 + 200 * cc + 2 < 3580 by omega) (by decide), u_s1, u_up_a (show 269 ≠ 270 by decide), u_up_a (show 269 ≠ 270 by decide), u_up_a (show 269 ≠ 270 by decide), q7, u_wr (show 850 + 200 * cc + 3 < 3580 by omega) (by decide), u_s1, u_rd (show 4 < 3580 by decide) (by decide), u_s1, u_up_j (show 4 ≠ 850 + 200 * cc + 3 by omega), u_up_j (show 4 ≠ 850 + 200 * cc + 2 by omega), u_up_j (show 4 ≠ 850 + 200 * cc + 1 by omega), u_up_j (show 4 ≠ 850 + 200 * cc + 0 by omega), e4, nI_add, u_wr (show 4 < 3580 by decide) (by decide), u_s1, u_rd (show 4 < 3580 by decide) (by decide), u_s1, u_up_same, u_sub (by omega)]
    rfl
  rw [eM]
  have oJ : ∀ a, a ≠ 270 → q_up (q_up (q_up (q_up (q_up J1 270 (850 + 200 * cc) (nI key)) 270 (850 + 200 * cc + 1) (nI day)) 270 (850 + 200 * cc + 2) (J1 269 24)) 270 (850 + 200 * cc + 3) (nI L)) 270 4 (nI (cc + 1)) a = J1 a := fun a ha => by funext k; rw [u_up_a ha, u_up_a ha, u_up_a ha, u_up_a ha, u_up_a ha]
  have oI : ∀ a, a ≠ 101 → a ≠ 102 → a ≠ 103 → a ≠ 104 → q_up (q_up (q_up (q_up I3 (101 + 1) cc (nI key)) (101 + 2) cc (nI day)) (101 + 3) cc (J1 269 24)) 101 5 (nI (cc + 1)) a = I3 a := fun a h1 h2 h3 h4 => by funext k; rw [u_up_a h1, u_up_a h4, u_up_a h3, u_up_a h2]
  have hw : wfc key L (I3 (X.2.length + 64)) (fun k => J1 270 (850 + 200 * cc + 4 + k)) dd := by
    refine ⟨q9.1, fun k hk => ?_⟩
    have := q9.2 k hk
    rw [cN, show va_cpy (I1 262) (fun _ => 0) 0 0 L k = I1 262 k by unfold va_cpy; rw [if_pos ⟨Nat.zero_le _, by omega⟩, Nat.zero_add, Nat.sub_zero]]
    rw [show spA cc = 850 + 200 * cc + 4 by unfold spA; rw [if_neg (by omega)]] at this
    exact this
  have hxe : VX (q_upR X.1 105 cc (some (X.2.length + 64)), X.2 ++ [(0, L)]) := x1.1.ext (q_Ext.upR (N := 12) (j := cc) (r := some (X.2.length + 64)) x1.1.1 (x1.1.k (a := 105) (k := 41) rfl rfl))
  have rX : ∀ a, a ≠ 105 → q_upR X.1 105 cc (some (X.2.length + 64)) a = X.1 a := fun a ha => by unfold q_upR; rw [if_neg ha]
  have rC : ∀ i, q_upR X.1 105 cc (some (X.2.length + 64)) 105 i = if i = cc then some (X.2.length + 64) else X.1 105 i := fun i => by unfold q_upR va_up; rw [if_pos rfl]
  refine ⟨_, _, _, _, rfl, rfl, ⟨hxe, ?_, ?_, ?_, ?_, ?_, by rw [oJ 269 (by decide)]; exact x1.bs, ?_⟩, fun a h1 h2 => (oI a (by omega) (by omega) (by omega) (by omega)).trans (cf3 a h1 h2), fun a ha => (oJ a (by omega)).trans (w3 a ha)⟩
  · rw [up270, up270, up270, up270, up270]
    exact x1.rv.addText (by decide) n4 cl q3 hday x4 hkN q5 hw q10 ((rC cc).trans (if_pos rfl)) (fun i hi => (rC i).trans (if_neg hi)) rfl
  · unfold KP
    rw [oI 64 (by decide) (by decide) (by decide) (by decide), oJ 269 (by decide), oJ 271 (by decide)]
    exact ⟨x1.kp.1, x1.kp.2.imp id fun q => ⟨q.1, (q.2.keepC (fun o ho => oI _ (by omega) (by omega) (by omega) (by omega)) (fun a ha => oI _ (by omega) (by omega) (by omega) (by omega))).xcg (rX 170 (by decide)) rfl⟩⟩
  · unfold BK
    rw [oI 264 (by decide) (by decide) (by decide) (by decide), oI 265 (by decide) (by decide) (by decide) (by decide), oI 266 (by decide) (by decide) (by decide) (by decide), oJ 273 (by decide), oJ 274 (by decide), oJ 275 (by decide)]
    exact x1.bk
  · unfold WT
    rw [oI 64 (by decide) (by decide) (by decide) (by decide), oI 267 (by decide) (by decide) (by decide) (by decide), oJ 269 (by decide), oJ 285 (by decide)]
    exact x1.wt
  · unfold TP
    rw [oI 260 (by decide) (by decide) (by decide) (by decide), oI 261 (by decide) (by decide) (by decide) (by decide), oJ 269 (by decide), oJ 276 (by decide)]
    exact x1.tp
  · intro v' hv' i hi
    by_cases e65 : v' = 65
    · subst e65
      rw [show (q_upR X.1 105 cc (some (X.2.length + 64)), X.2 ++ [(0, L)]).1 (65 + 40) i = _ from rC i]
      by_cases ei : i = cc
      · rw [if_pos ei]; exact Or.inr ⟨_, L, rfl, hkN⟩
      · rw [if_neg ei]; exact x1.ax 65 (Or.inl rfl) i hi
    · rw [show (q_upR X.1 105 cc (some (X.2.length + 64)), X.2 ++ [(0, L)]).1 (v' + 40) i = X.1 (v' + 40) i from congrFun (rX (v' + 40) (by omega)) i]
      exact x1.ax v' hv' i hi
