/-! LEVEL B: both heaps as a whole; the pairs -/
theorem RV.keepC {X : qX} {v : Nat} {I I' : qI} {t : Nat → Int32} {j : Nat} (h : RV X v I t j) (h1 : ∀ o, o < 65 → I' (v + o) = I (v + o)) (h2 : ∀ a, 287 ≤ a → I' a = I a) : RV X v I' t j := by
  obtain ⟨hA, hF, hR, hD, hH, hT⟩ := h
  refine ⟨hA.keep fun n o i hn _ => by rw [h1 o (vq_c hn).2], fun m a b => ⟨(hF m a b).1, fun k hk => ?_⟩, hR, hD, fun d hd => ?_, fun k hk => ?_⟩
  · rw [h1 26 (by decide)]; exact (hF m a b).2 k hk
  · rw [h1 34 (by decide)]; exact hH d hd
  · obtain ⟨a, L, d, e1, e2, e⟩ := hT k hk
    refine ⟨a, L, d, e1, e2, ?_⟩
    rw [h2 a e2]; exact e
def KP (X : qX) (I J : qI) : Prop := I 64 8 = J 269 3 ∧ (J 269 3 = 0 ∨ (J 269 3 = 1 ∧ RV X 130 I (J 271) 0))
def BK (I J : qI) : Prop := (∀ p, p < 8 → I 264 p = J 273 p ∧ I 265 p = J 274 p ∧ (J 273 p = -1 ∨ J 273 p = 0 ∨ J 273 p = 1) ∧ inR 0 30 (J 274 p)) ∧ ∀ i, i < 240 → I 266 i = J 275 i
def WT (I J : qI) : Prop := ∃ c, c ≤ 60 ∧ I 64 7 = nI c ∧ J 269 39 = nI c ∧ ∀ i, i < c → I 267 i = J 285 i
def TP (I J : qI) : Prop := ∃ c, c ≤ 96 ∧ I 260 6 = nI c ∧ J 269 14 = nI c ∧ ∀ i, i < c → I 261 i = J 276 i
/-- the texts' rows of all three Valleys are rows, or none -/
def AX (X : qX) : Prop := ∀ v, (v = 65 ∨ v = 130 ∨ v = 195) → ∀ i, i < 12 → X.1 (v + 40) i = none ∨ ∃ a L, X.1 (v + 40) i = some a ∧ q_kd X a = some (0, L)
def WW (X : qX) (I J : qI) : Prop := VX X ∧ RV X 65 I (J 270) 0 ∧ KP X I J ∧ BK I J ∧ WT I J ∧ TP I J ∧ J 269 25 = 0 ∧ AX X
def CF (I I' : qI) : Prop := ∀ a, 269 ≤ a → a < 287 → I' a = I a
def MF (J J' : qI) : Prop := ∀ a, (a < 269 ∨ 287 ≤ a) → J' a = J a
/-- what a Valley's own calls leave alone; what the model's do -/
def FC (v : Nat) (I I' : qI) : Prop := ∀ a, (a < v ∨ v + 65 ≤ a) → I' a = I a
def GM (J J' : qI) : Prop := (∀ a, (a < 269 ∨ (271 ≤ a ∧ a ≤ 276) ∨ 279 ≤ a) → J' a = J a) ∧ ∀ k, (k < 7 ∨ 13 ≤ k) → J' 269 k = J 269 k
theorem WW.cg {X : qX} {I J I' J' : qI} (h : WW X I J) (hI : ∀ a, (a < 269 ∨ 287 ≤ a) → I' a = I a) (hJ : ∀ a, 269 ≤ a → a < 287 → J' a = J a) : WW X I' J' := by
  obtain ⟨h1, h2, h3, h4, h5, h6, h7⟩ := h
  have j9 := hJ 269 (by decide) (by decide)
  refine ⟨h1, ?_, ?_, ?_, ?_, ?_, ?_⟩
  · rw [hJ 270 (by decide) (by decide)]
    exact h2.keepC (fun o ho => hI _ (by omega)) (fun a ha => hI _ (Or.inr ha))
  · unfold KP
    rw [hI 64 (by decide), j9, hJ 271 (by decide) (by decide)]
    exact ⟨h3.1, h3.2.imp id fun q => ⟨q.1, q.2.keepC (fun o ho => hI _ (by omega)) (fun a ha => hI _ (Or.inr ha))⟩⟩
  · unfold BK
    rw [hI 264 (by decide), hI 265 (by decide), hI 266 (by decide), hJ 273 (by decide) (by decide), hJ 274 (by decide) (by decide), hJ 275 (by decide) (by decide)]
    exact h4
  · unfold WT
    rw [hI 64 (by decide), hI 267 (by decide), j9, hJ 285 (by decide) (by decide)]
    exact h5
  · unfold TP
    rw [hI 260 (by decide), hI 261 (by decide), j9, hJ 276 (by decide) (by decide)]
    exact h6
  · rw [j9]; exact h7
def V2 (I : qI) (X : qX) : Prop := WW X I I
def P2 (X : qX) (fC fM : qI → Option (Int32 × qI)) : Prop := ∀ I J, WW X I J → ∃ r I' J', fC I = some (r, I') ∧ fM J = some (r, J') ∧ WW X I' J' ∧ CF I I' ∧ MF J J'
theorem P2.pr {X : qX} {fC fM : qI → Option (Int32 × qI)} (h : P2 X fC fM) {I : qI} (hW : V2 I X) : ∃ (v : Int32) (I8 : qI) (I17 : qI), fC I = some (v, I8) ∧ fM I8 = some (v, I17) ∧ V2 I17 X := by
  obtain ⟨r, I', J', e1, e2, e3, e4, e5⟩ := h I I hW
  have w1 : WW X I I' := WW.cg hW (fun _ _ => rfl) e4
  obtain ⟨r2, I2, J2, g1, g2, g3, g4, g5⟩ := h I I' w1
  rw [e1] at g1
  cases g1
  exact ⟨r, I', J2, e1, g2, g3.cg g5 (fun _ _ _ => rfl)⟩
/-- reads alone -/
def P0 (X : qX) (fC fM : qI → Option Int32) : Prop := ∀ I J, WW X I J → ∃ r, fC I = some r ∧ fM J = some r
theorem P0.pr {X : qX} {fC fM : qI → Option Int32} (h : P0 X fC fM) {I : qI} (hW : V2 I X) : ∃ (v : Int32), fC I = some v ∧ fM I = some v ∧ V2 I X := by
  obtain ⟨r, a, b⟩ := h I I hW
  exact ⟨r, a, b, hW⟩
/-- the class writes, the model reads alone -/
def P1 (X : qX) (fC : qI → Option (Int32 × qI)) (fM : qI → Option Int32) : Prop := ∀ I J, WW X I J → ∃ r I', fC I = some (r, I') ∧ fM J = some r ∧ WW X I' J ∧ CF I I'
theorem P1.pr {X : qX} {fC : qI → Option (Int32 × qI)} {fM : qI → Option Int32} (h : P1 X fC fM) {I : qI} (hW : V2 I X) : ∃ (v : Int32) (I6 : qI), fC I = some (v, I6) ∧ fM I6 = some v ∧ V2 I6 X := by
  obtain ⟨r, I', e1, e2, e3, e4⟩ := h I I hW
  have w1 : WW X I I' := WW.cg hW (fun _ _ => rfl) e4
  obtain ⟨r2, I2, g1, g2, g3, g4⟩ := h I I' w1
  rw [e1] at g1
  cases g1
  exact ⟨r, I', e1, g2, g3⟩
/-- ... with new cells, and kinds -/
def PX (X : qX) (fC : qI → Option (Int32 × qI × qX)) (fM : qX → qI → Option (Int32 × qI)) : Prop := ∀ I J, WW X I J → ∃ r I' X' J', fC I = some (r, I', X') ∧ fM X' J = some (r, J') ∧ WW X' I' J' ∧ CF I I' ∧ MF J J'
theorem PX.pr {X : qX} {fC : qI → Option (Int32 × qI × qX)} {fM : qX → qI → Option (Int32 × qI)} (h : PX X fC fM) {I : qI} (hW : V2 I X) : ∃ (v : Int32) (I6 : qI) (X7 : qX) (I16 : qI), fC I = some (v, I6, X7) ∧ fM X7 I6 = some (v, I16) ∧ V2 I16 X7 := by
  obtain ⟨r, I', X', J', e1, e2, e3, e4, e5⟩ := h I I hW
  have w1 : WW X I I' := WW.cg hW (fun _ _ => rfl) e4
  obtain ⟨r2, I2, X2, J2, g1, g2, g3, g4, g5⟩ := h I I' w1
  rw [e1] at g1
  cases g1
  exact ⟨r, I', X', J2, e1, g2, g3.cg g5 (fun _ _ _ => rfl)⟩
theorem FC.rfl' {v : Nat} {I : qI} : FC v I I := fun _ _ => rfl
theorem GM.rfl' {J : qI} : GM J J := ⟨fun _ _ => rfl, fun _ _ => rfl⟩
theorem FC.tr {v : Nat} {I I' I'' : qI} (h : FC v I I') (h' : FC v I' I'') : FC v I I'' := fun a ha => (h' a ha).trans (h a ha)
theorem GM.tr {J J' J'' : qI} (h : GM J J') (h' : GM J' J'') : GM J J'' := ⟨fun a ha => (h'.1 a ha).trans (h.1 a ha), fun k hk => (h'.2 k hk).trans (h.2 k hk)⟩
theorem FC.up {v : Nat} {I I' : qI} (h : FC v I I') {a i : Nat} {x : Int32} (h1 : v ≤ a) (h2 : a < v + 65) : FC v I (q_up I' a i x) := fun b hb => by
  funext k
  rw [u_up_a (by omega)]
  exact congrFun (h b hb) k
theorem GM.up {J J' : qI} (h : GM J J') {a i : Nat} {x : Int32} (h1 : a = 270 ∨ a = 277 ∨ a = 278) : GM J (q_up J' a i x) := by
  refine ⟨fun b hb => ?_, fun k hk => ?_⟩
  · funext k
    rw [u_up_a (by omega)]
    exact congrFun (h.1 b hb) k
  · rw [u_up_a (by omega)]
    exact h.2 k hk
theorem GM.fl {J J' : qI} (h : GM J J') {i : Nat} {x : Int32} (h1 : 7 ≤ i ∧ i ≤ 12) : GM J (q_up J' 269 i x) := by
  refine ⟨fun b hb => ?_, fun k hk => ?_⟩
  · funext k
    rw [u_up_a (by omega)]
    exact congrFun (h.1 b hb) k
  · rw [u_up_j (by omega)]
    exact h.2 k hk
/-- only the Valley that is now, and the row, have changed -/
theorem WW.put {X : qX} {I J I' J' : qI} (h : WW X I J) (hR : RV X 65 I' (J' 270) 0) (hF : FC 65 I I') (hG : GM J J') : WW X I' J' ∧ CF I I' ∧ MF J J' := by
  obtain ⟨h1, h2, h3, h4, h5, h6, h7⟩ := h
  refine ⟨⟨h1, hR, ?_, ?_, ?_, ?_, ?_⟩, fun a h1 h2 => hF a (by omega), fun a ha => hG.1 a (by omega)⟩
  · unfold KP
    rw [hF 64 (by decide), hG.2 3 (by decide), hG.1 271 (by decide)]
    exact ⟨h3.1, h3.2.imp id fun q => ⟨q.1, q.2.keepC (fun o ho => hF _ (by omega)) (fun a ha => hF _ (by omega))⟩⟩
  · unfold BK
    rw [hF 264 (by decide), hF 265 (by decide), hF 266 (by decide), hG.1 273 (by decide), hG.1 274 (by decide), hG.1 275 (by decide)]
    exact h4
  · unfold WT
    rw [hF 64 (by decide), hF 267 (by decide), hG.2 39 (by decide), hG.1 285 (by decide)]
    exact h5
  · unfold TP
    rw [hF 260 (by decide), hF 261 (by decide), hG.2 14 (by decide), hG.1 276 (by decide)]
    exact h6
  · rw [hG.2 25 (by decide)]; exact h7
theorem up270 {J : qI} {n : Nat} {x : Int32} : q_up J 270 n x 270 = upd (J 270) n x := by
  funext k
  simp [q_up]
/-- one paired write -/
theorem WW.up1 {X : qX} {I J : qI} (h : WW X I J) {n o i : Nat} {x : Int32} (hn : vq n = some (o, i)) (hr : rgS n x) (hD : DD (upd (J 270) n x) 0) (h2 : n ≠ 2 ∧ n ≠ 3 ∧ n ≠ 4) (ht : n < 850 ∨ 3250 ≤ n) (hm : ∀ m, cn (J 270) 2 ≤ m → m < 12 → n < 80 + 24 * m ∨ 80 + 24 * m + 24 ≤ n) (h0 : n ≠ 0 := by omega) : WW X (q_up I (65 + o) i x) (q_up J 270 n x) ∧ CF I (q_up I (65 + o) i x) ∧ MF J (q_up J 270 n x) := by
  have ho := (vq_c hn).2
  refine h.put ?_ (FC.rfl'.up (by omega) (by omega)) (GM.rfl'.up (by omega))
  rw [up270]
  exact h.2.1.up (by decide) hn hr hD h2 ht hm
theorem inR.cv {t : Nat → Int32} {n lo hi : Nat} (h : inR lo hi (t n)) (hh : hi < 2 ^ 31) : t n = nI (cn t n) ∧ lo ≤ cn t n ∧ cn t n ≤ hi := by
  obtain ⟨k, a, b, c⟩ := h
  have : cn t n = k := by unfold cn; rw [a]; exact nI_clamp (by omega)
  rw [this]
  exact ⟨a, b, c⟩
theorem RV.rg {X : qX} {v : Nat} {I : qI} {t : Nat → Int32} {j : Nat} (h : RV X v I t j) {n lo hi : Nat} (hn : rgT n = some (false, lo, hi)) (hh : hi < 2 ^ 31) : t n = nI (cn t n) ∧ lo ≤ cn t n ∧ cn t n ≤ hi :=
  ((rgS_f hn).mp (h.2.2.1 n).1).cv hh
theorem RV.rgm {X : qX} {v : Nat} {I : qI} {t : Nat → Int32} {j : Nat} (h : RV X v I t j) {n lo hi : Nat} (hn : rgT n = some (true, lo, hi)) (hh : hi < 2 ^ 31) : t n = -1 ∨ (t n = nI (cn t n) ∧ lo ≤ cn t n ∧ cn t n ≤ hi) :=
  ((rgS_t hn).mp (h.2.2.1 n).1).imp id fun q => q.cv hh
