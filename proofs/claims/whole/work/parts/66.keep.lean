/-! LEVEL B: keep, back -/
theorem sa_lp {X : qX} {a b : Nat} (ha : q_kd X a = some (0, 3580)) (hb : q_kd X b = some (0, 3580)) (hab : a ≠ b) : ∀ r f i (J : qI), i + r = 3580 → r < f → ∃ J', q_fix (fun _ _ => none) (b_X12_setAside_2 269 (some a) (some b) X) f (nI i) J = some J' ∧ (∀ k, i ≤ k → k < 3580 → J' b k = J a k) ∧ (∀ k, k < i → J' b k = J b k) ∧ ∀ c, c ≠ b → J' c = J c := by
  intro r
  induction r with
  | zero =>
    intro f i J h1 h2
    obtain ⟨f, rfl⟩ : ∃ z, f = z + 1 := ⟨f - 1, by omega⟩
    have e : i = 3580 := by omega
    subst e
    refine ⟨J, ?_, fun k h3 h4 => by omega, fun _ _ => rfl, fun _ _ => rfl⟩
    show b_X12_setAside_2 269 (some a) (some b) X (q_fix _ _ f) (nI 3580) J = _
    unfold b_X12_setAside_2
    rw [if_pos (Int32.le_refl _)]
  | succ r ih =>
    intro f i J h1 h2
    obtain ⟨f, rfl⟩ : ∃ z, f = z + 1 := ⟨f - 1, by omega⟩
    obtain ⟨J', g1, g2, g3, g4⟩ := ih f (i + 1) (q_up J b i (J a i)) (by omega) (by omega)
    refine ⟨J', ?_, fun k h3 h4 => ?_, fun k hk => ?_, fun c hc => (g4 c hc).trans (by funext z; rw [u_up_a hc])⟩
    · show b_X12_setAside_2 269 (some a) (some b) X (q_fix (fun _ _ => none) (b_X12_setAside_2 269 (some a) (some b) X) f) (nI i) J = _
      generalize q_fix (fun _ _ => none) (b_X12_setAside_2 269 (some a) (some b) X) f = KM at g1 ⊢
      unfold b_X12_setAside_2
      rw [if_neg (nI_ge (by omega) (by decide)), u_arr ha, u_s2, u_rd (show i < 3580 by omega) (by decide), u_s1, u_arr hb, u_s2, u_wr (show i < 3580 by omega) (by decide), u_s1, nI_add]
      exact g1
    · by_cases e : k = i
      · subst e; rw [g3 k (by omega), u_up_same]
      · rw [g2 k (by omega) h4, u_up_a hab]
    · rw [g3 k (by omega), u_up_j (by omega)]
theorem sa {X : qX} {a b : Nat} (ha : q_kd X a = some (0, 3580)) (hb : q_kd X b = some (0, 3580)) (hab : a ≠ b) (J : qI) : ∃ J', f_X12_setAside 269 (some a) (some b) X J = some J' ∧ (∀ k, k < 3580 → J' b k = J a k) ∧ ∀ c, c ≠ b → J' c = J c := by
  obtain ⟨J', g1, g2, -, g4⟩ := sa_lp ha hb hab 3580 q_fu 0 J (by decide) (by decide)
  exact ⟨J', g1, fun k hk => g2 k (Nat.zero_le _) hk, g4⟩
theorem rgT_hi {n : Nat} (h : 3580 ≤ n) : rgT n = none := by
  unfold rgT
  rw [if_neg (by omega), if_neg (by omega), if_neg (by omega), if_neg (by omega), if_neg (by omega), if_neg (by omega), if_neg (by omega), if_neg (by omega), if_neg (by omega), if_neg (by omega), if_neg (by omega), if_neg (by omega), if_neg (by omega)]
/-- only the places of a row count -/
theorem RV.tcg {X : qX} {v j : Nat} {I : qI} {t t' : Nat → Int32} (h : RV X v I t j) (ht : ∀ n, n < 3580 → t' n = t n) : RV X v I t' j := by
  have b := h.bd
  have k4 := h.k4
  obtain ⟨hA, hF, hR, hD, hH, hT⟩ := h
  have cc : ∀ n, n < 3580 → cn t' n = cn t n := fun n hn => by unfold cn; rw [ht n hn]
  refine ⟨?_, ?_, ?_, ?_, ?_, ?_⟩
  · rw [cc 2 (by omega)]
    intro n o i hn hP
    have : n < 3580 := by
      by_cases c : n < 3580
      · exact c
      · rw [vq_hi c] at hn; cases hn
    rw [ht n this]; exact hA n o i hn hP
  · intro m h1 h3
    rw [cc 2 (by omega)] at h1
    exact ⟨fun w hw => by rw [ht _ (by omega)]; exact (hF m h1 h3).1 w hw, (hF m h1 h3).2⟩
  · intro n
    by_cases c : n < 3580
    · rw [ht n c]; exact hR n
    · exact ⟨rgS_n (rgT_hi (by omega)), fun q => by omega⟩
  · obtain ⟨h0, h1, h2, h3, h4⟩ := hD
    unfold DD
    rw [cc 0 (by omega), cc 1 (by omega), cc 2 (by omega), cc 3 (by omega)]
    refine ⟨h0, fun i hi => ?_, fun k hk => ?_, fun d hd => ?_, fun p hp => ?_⟩
    · have q := h1 i hi
      rw [ht _ (by omega), cc _ (by omega), cc _ (by omega), ht _ (by omega), ht _ (by omega), ht _ (by omega), cc _ (by omega)]; exact q
    · rw [ht _ (by omega), ht _ (by omega), ht _ (by omega)]; exact h2 k hk
    · rw [ht _ (by omega), ht _ (by omega), cc _ (by omega), ht _ (by omega)]; exact h3 d hd
    · rw [ht _ (by omega)]; exact h4 p hp
  · intro d hd
    rw [cc 3 (by omega)] at hd
    rw [ht _ (by omega)]; exact hH d hd
  · intro k hk
    rw [cc 4 (by omega)] at hk
    obtain ⟨a, L, d, e1, e2, e3, e4, e5, e6, e7⟩ := hT k hk
    refine ⟨a, L, d, e1, e2, e3, e4, by rw [ht _ (by omega)]; exact e5, e6, ?_⟩
    rw [cc _ (by omega)]
    refine ⟨e7.1, fun q hq => ?_⟩
    have := e7.2 q hq
    simp only at this ⊢
    rw [ht _ (by omega), ht _ (by omega)]
    exact this
theorem RV.xcg {X X' : qX} {v j : Nat} {I : qI} {t : Nat → Int32} (h : RV X v I t j) (h1 : X'.1 (v + 40) = X.1 (v + 40)) (h2 : X'.2 = X.2) : RV X' v I t j := by
  obtain ⟨hA, hF, hR, hD, hH, hT⟩ := h
  refine ⟨hA, hF, hR, hD, hH, fun k hk => ?_⟩
  obtain ⟨a, L, d, e1, e2, e3, e⟩ := hT k hk
  exact ⟨a, L, d, by rw [h1]; exact e1, e2, by rw [q_kd2 h2]; exact e3, e⟩
theorem kz_40 : ∀ v ∈ ([65, 130, 195] : List Nat), q_kz[v - 64 + 40]? = some (1, 12) := by decide +kernel
theorem VX.ref {X X' : qX} (h : VX X) {v : Nat} (hv : v = 65 ∨ v = 130 ∨ v = 195) (h1 : ∀ a, a ≠ v + 40 → X'.1 a = X.1 a) (h2 : X'.2 = X.2) : VX X' := by
  have hm : v ∈ ([65, 130, 195] : List Nat) := by rcases hv with rfl | rfl | rfl <;> decide
  have kv : q_kd X (v + 40) = some (1, 12) := by
    have := h.2 _ _ (kz_40 v hm)
    rw [show v - 64 + 40 + 64 = v + 40 by omega] at this
    exact this
  refine ⟨fun k c n hk q hq hc => ?_, fun k d hk => by rw [q_kd2 h2]; exact h.2 k d hk⟩
  rw [q_kd2 h2] at hk
  have ne : k ≠ v + 40 := fun e => by rw [e, kv] at hk; cases hk
  rw [h1 k ne, q_kd2 h2]
  exact h.1 k c n hk q hq hc
theorem AX.ref {X X' : qX} (h : AX X) {v w : Nat} (hw : w = 65 ∨ w = 130 ∨ w = 195) (h1 : ∀ a, a ≠ v + 40 → X'.1 a = X.1 a) (h2 : X'.2 = X.2) (h3 : ∀ k, k < 12 → X'.1 (v + 40) k = X.1 (w + 40) k) : AX X' := by
  intro u hu i hi
  by_cases e : u = v
  · subst e
    rw [h3 i hi]
    rcases h w hw i hi with q | ⟨a, L, q1, q2⟩
    · exact Or.inl q
    · exact Or.inr ⟨a, L, q1, by rw [q_kd2 h2]; exact q2⟩
  · rw [h1 (u + 40) (by omega)]
    rcases h u hu i hi with q | ⟨a, L, q1, q2⟩
    · exact Or.inl q
    · exact Or.inr ⟨a, L, q1, by rw [q_kd2 h2]; exact q2⟩
theorem W_keep {X : qX} : PX X (f_X11_keep 64 X) (fun X' => f_X12_keep 269 X') := by
  intro I J h
  have hR := h.rv
  obtain ⟨I1, X1, g1, g2, g3, g4, g5, g6⟩ := become_ev h.1 h.ax (v := 130) (w := 65) (by decide) (by decide) (by decide) I
  have hX1 := h.1.ref (v := 130) (by decide) g6 g4
  obtain ⟨J1, k1, k2, k3⟩ := sa (X := X1) (a := 270) (b := 271) (hX1.k (k := 206) rfl rfl) (hX1.k (k := 207) rfl rfl) (by decide) (q_up J 269 3 (nI 1))
  have s270 : J1 270 = J 270 := (k3 270 (by decide)).trans (by funext z; rw [u_up_a (by decide)])
  have s269 : ∀ z, z ≠ 3 → J1 269 z = J 269 z := fun z hz => by rw [k3 269 (by decide), u_up_j hz]
  have s3 : J1 269 3 = nI 1 := by rw [k3 269 (by decide), u_up_same]
  have sI : ∀ a, (a < 130 ∨ 195 ≤ a) → a ≠ 64 → q_up I1 64 8 (nI 1) a = I a := fun a h1 h2 => by funext z; rw [u_up_a h2]; exact congrFun (g3 a (by omega)) z
  refine ⟨J 270 0, q_up I1 64 8 (nI 1), X1, J1, ?_, ?_, ?_, fun a h1 h2 => sI a (by omega) (by omega), fun a ha => ?_⟩
  · unfold f_X11_keep
    rw [show (64 + 66 : Nat) = 130 from rfl, show (64 + 1 : Nat) = 65 from rfl, g1, u_s2, u_s1, u_up_a (by decide), g3 65 (by decide), hR.sc0 (a := 65) rfl]
  · show f_X12_keep 269 X1 J = _
    unfold f_X12_keep
    rw [u_s1, show (269 + 1 : Nat) = 270 from rfl, show (269 + 2 : Nat) = 271 from rfl, k1, u_s1, u_rd (by decide) (by decide), u_s1, s270]
  · refine ⟨hX1, ?_, ⟨?_, Or.inr ⟨?_, ?_⟩⟩, ?_, ?_, ?_, ?_, h.ax.ref (w := 65) (by decide) g6 g4 g5⟩
    · rw [s270]
      exact (hR.keepC (fun o ho => sI _ (by omega) (by omega)) (fun a ha => sI a (by omega) (by omega))).xcg (g6 _ (by decide)) g4
    · rw [u_up_same, s3]
    · rw [s3]; rfl
    · have r1 : RV X1 130 I1 (J 270) 0 := hR.copy g2 (fun a ha => g3 a (by omega)) g5 (fun a => q_kd2 g4 a)
      have r2 : RV X1 130 (q_up I1 64 8 (nI 1)) (J 270) 0 := r1.keepC (fun o ho => by funext z; rw [u_up_a (by omega)]) (fun a ha => by funext z; rw [u_up_a (by omega)])
      exact r2.tcg (fun n hn => by rw [k2 n hn, u_up_a (by decide)])
    · unfold BK
      rw [sI 264 (by decide) (by decide), sI 265 (by decide) (by decide), sI 266 (by decide) (by decide), k3 273 (by decide), k3 274 (by decide), k3 275 (by decide)]
      refine ⟨fun p hp => ?_, fun i hi => ?_⟩
      · rw [u_up_a (by decide), u_up_a (by decide)]; exact h.bk.1 p hp
      · rw [u_up_a (by decide)]; exact h.bk.2 i hi
    · obtain ⟨c, c1, c2, c3, c4⟩ := h.wt
      refine ⟨c, c1, ?_, ?_, fun i hi => ?_⟩
      · rw [u_up_j (by decide), g3 64 (by decide)]; exact c2
      · rw [s269 39 (by decide)]; exact c3
      · rw [sI 267 (by decide) (by decide), k3 285 (by decide), u_up_a (by decide)]; exact c4 i hi
    · obtain ⟨c, c1, c2, c3, c4⟩ := h.tp
      refine ⟨c, c1, ?_, ?_, fun i hi => ?_⟩
      · rw [sI 260 (by decide) (by decide)]; exact c2
      · rw [s269 14 (by decide)]; exact c3
      · rw [sI 261 (by decide) (by decide), k3 276 (by decide), u_up_a (by decide)]; exact c4 i hi
    · rw [s269 25 (by decide)]; exact h.bs
  · funext z; rw [k3 a (by omega), u_up_a (by omega)]
theorem W_back {X : qX} : PX X (f_X11_back 64 X) (fun X' => f_X12_back 269 X') := by
  intro I J h
  have hR := h.rv
  obtain ⟨p1, p2⟩ := h.kp
  show ∃ r I' X' J', f_X11_back 64 X I = some (r, I', X') ∧ f_X12_back 269 X' J = some (r, J') ∧ _
  rcases p2 with e | ⟨e, hI⟩
  · refine ⟨-1000000002, I, X, J, ?_, ?_, h, fun _ _ _ => rfl, fun _ _ => rfl⟩
    · unfold f_X11_back; rw [if_pos (p1.trans e)]
    · unfold f_X12_back; rw [if_pos e]
  obtain ⟨I1, X1, g1, g2, g3, g4, g5, g6⟩ := become_ev h.1 h.ax (v := 65) (w := 130) (by decide) (by decide) (by decide) I
  have hX1 := h.1.ref (v := 65) (by decide) g6 g4
  obtain ⟨J1, k1, k2, k3⟩ := sa (X := X1) (a := 271) (b := 270) (hX1.k (k := 207) rfl rfl) (hX1.k (k := 206) rfl rfl) (by decide) J
  have r1 : RV X1 65 I1 (J 271) 0 := hI.copy g2 (fun a ha => g3 a (by omega)) g5 (fun a => q_kd2 g4 a)
  have r2 : RV X1 65 I1 (J1 270) 0 := r1.tcg (fun n hn => k2 n hn)
  refine ⟨J 271 0, I1, X1, J1, ?_, ?_, ⟨hX1, r2, ⟨?_, Or.inr ⟨?_, ?_⟩⟩, ?_, ?_, ?_, ?_, h.ax.ref (w := 130) (by decide) g6 g4 g5⟩, fun a h1 h2 => g3 a (by omega), fun a ha => k3 a (by omega)⟩
  · unfold f_X11_back
    rw [if_neg (by rw [p1, e]; decide), show (64 + 66 : Nat) = 130 from rfl, show (64 + 1 : Nat) = 65 from rfl, g1, u_s2, r1.sc0 (a := 65) rfl]
  · unfold f_X12_back
    rw [if_neg (by rw [e]; decide), show (269 + 1 : Nat) = 270 from rfl, show (269 + 2 : Nat) = 271 from rfl, k1, u_s1, u_rd (by decide) (by decide), u_s1, k2 0 (by decide)]
  · rw [g3 64 (by decide), k3 269 (by decide)]; exact p1
  · rw [k3 269 (by decide)]; exact e
  · rw [k3 271 (by decide)]
    exact (hI.keepC (fun o ho => g3 _ (by omega)) (fun a ha => g3 a (by omega))).xcg (g6 _ (by decide)) g4
  · unfold BK
    rw [g3 264 (by decide), g3 265 (by decide), g3 266 (by decide), k3 273 (by decide), k3 274 (by decide), k3 275 (by decide)]
    exact h.bk
  · unfold WT
    rw [g3 64 (by decide), g3 267 (by decide), k3 269 (by decide), k3 285 (by decide)]
    exact h.wt
  · unfold TP
    rw [g3 260 (by decide), g3 261 (by decide), k3 269 (by decide), k3 276 (by decide)]
    exact h.tp
  · rw [k3 269 (by decide)]; exact h.bs
