/-! LEVEL B: feed -/
def byt (x : Int32) (s : Nat) : Int32 := (x >>> (nI s &&& 31)) &&& nI 255
def sel (x1 x2 x3 : Int32) (k : Nat) : Int32 := byt (if k < 4 then x1 else if k < 8 then x2 else x3) (24 - 8 * (k % 4))
def sC (x1 x2 x3 : Int32) (I : qI) (c : Nat) : Nat → qI
  | 0 => I
  | k + 1 => q_up (q_up (sC x1 x2 x3 I c k) 261 (c + k) (sel x1 x2 x3 k)) 260 6 (nI (c + k + 1))
def sM (x1 x2 x3 : Int32) (I : qI) (c : Nat) : Nat → qI
  | 0 => I
  | k + 1 => q_up (q_up (sM x1 x2 x3 I c k) 276 (c + k) (sel x1 x2 x3 k)) 269 14 (nI (c + k + 1))
def FS (I0 J0 I J : qI) (c : Nat) : Prop := (∀ a, a ≠ 260 → a ≠ 261 → I a = I0 a) ∧ (∀ a, a ≠ 269 → a ≠ 276 → J a = J0 a) ∧ (∀ k, k ≠ 14 → J 269 k = J0 269 k) ∧ I 260 6 = nI c ∧ J 269 14 = nI c ∧ ∀ i, i < c → I 261 i = J 276 i
theorem FS.st {x1 x2 x3 : Int32} {I J : qI} {c : Nat} (h : FS I J I J c) : ∀ k, FS I J (sC x1 x2 x3 I c k) (sM x1 x2 x3 J c k) (c + k) := by
  intro k
  induction k with
  | zero => exact h
  | succ k ih =>
    obtain ⟨h1, h2, h3, h4, h5, h6⟩ := ih
    show FS I J (q_up (q_up (sC x1 x2 x3 I c k) 261 (c + k) (sel x1 x2 x3 k)) 260 6 (nI (c + k + 1))) (q_up (q_up (sM x1 x2 x3 J c k) 276 (c + k) (sel x1 x2 x3 k)) 269 14 (nI (c + k + 1))) (c + k + 1)
    refine ⟨fun a b1 b2 => ?_, fun a b1 b2 => ?_, fun i hi => ?_, u_up_same, u_up_same, fun i hi => ?_⟩
    · funext i
      rw [u_up_a b1, u_up_a b2, h1 a b1 b2]
    · funext i
      rw [u_up_a b1, u_up_a b2, h2 a b1 b2]
    · rw [u_up_j hi, u_up_a (by decide), h3 i hi]
    · rw [u_up_a (show (261 : Nat) ≠ 260 by decide), u_up_a (show (276 : Nat) ≠ 269 by decide)]
      by_cases e : i = c + k
      · rw [e, u_up_same, u_up_same]
      · rw [u_up_j e, u_up_j e]; exact h6 i (by omega)
theorem put1 {x1 x2 x3 x : Int32} {I J : qI} {c k s : Nat} {s' : Int32} (h : FS I J I J c) (hk : c + k < 96) (hx : sel x1 x2 x3 k = byt x s) (hs : ¬ nI s < 0) (hs' : nI s + (-8) = s') (K : Int32 → qI → Option qI) : b_X5_put_3 260 x K (nI s) (sC x1 x2 x3 I c k) = K s' (sC x1 x2 x3 I c (k + 1)) := by
  have h4 := (h.st (x1 := x1) (x2 := x2) (x3 := x3) k).2.2.2.1
  unfold b_X5_put_3
  rw [if_neg hs, h4, if_pos (nI_lt hk (by omega)), u_wr hk (by decide), u_s1, u_s1, u_up_a (by decide), h4, nI_add, hs']
  show K s' _ = K s' (q_up (q_up (sC x1 x2 x3 I c k) 261 (c + k) (sel x1 x2 x3 k)) 260 6 (nI (c + k + 1)))
  rw [hx]
  rfl
theorem put4 {x1 x2 x3 x : Int32} {I J : qI} {c k : Nat} (h : FS I J I J c) (hk : c + k + 4 ≤ 96) (e0 : sel x1 x2 x3 k = byt x 24) (e1 : sel x1 x2 x3 (k + 1) = byt x 16) (e2 : sel x1 x2 x3 (k + 2) = byt x 8) (e3 : sel x1 x2 x3 (k + 3) = byt x 0) : f_X5_put 260 x (sC x1 x2 x3 I c k) = some (sC x1 x2 x3 I c (k + 4)) := by
  unfold f_X5_put
  obtain ⟨f, hf⟩ : ∃ f, q_fu = f + 1 + 1 + 1 + 1 + 1 := ⟨q_fu - 5, by have := q_fu1; omega⟩
  rw [hf]
  show b_X5_put_3 260 x (q_fix (fun _ _ => none) (b_X5_put_3 260 x) (f + 1 + 1 + 1 + 1)) (nI 24) _ = _
  rw [put1 (s' := nI 16) h (by omega) e0 (by decide +kernel) (by decide +kernel)]
  show b_X5_put_3 260 x (q_fix (fun _ _ => none) (b_X5_put_3 260 x) (f + 1 + 1 + 1)) (nI 16) _ = _
  rw [put1 (s' := nI 8) h (by omega) e1 (by decide +kernel) (by decide +kernel)]
  show b_X5_put_3 260 x (q_fix (fun _ _ => none) (b_X5_put_3 260 x) (f + 1 + 1)) (nI 8) _ = _
  rw [put1 (s' := nI 0) h (by omega) e2 (by decide +kernel) (by decide +kernel)]
  show b_X5_put_3 260 x (q_fix (fun _ _ => none) (b_X5_put_3 260 x) (f + 1)) (nI 0) _ = _
  rw [put1 (s' := -8) h (by omega) e3 (by decide +kernel) (by decide +kernel)]
  show b_X5_put_3 260 x _ (-8) _ = _
  unfold b_X5_put_3
  rw [if_pos (by decide +kernel)]
theorem rem4 : ∀ k, k < 12 → nI 24 - nI 8 * q_rem (nI k) (nI 4) = nI (24 - 8 * (k % 4)) := by decide +kernel
theorem fdM {x1 x2 x3 : Int32} {I J : qI} {c : Nat} (h : FS I J I J c) (hc : c + 12 ≤ 96) : ∀ r f k, k + r = 12 → r < f → q_fix (fun _ _ => none) (b_X12_feed_18 269 x1 x2 x3) f (nI k) (sM x1 x2 x3 J c k) = some (nI (c + 12), sM x1 x2 x3 J c 12) := by
  intro r
  induction r with
  | zero =>
    intro f k h1 h2
    obtain ⟨f, rfl⟩ : ∃ z, f = z + 1 := ⟨f - 1, by omega⟩
    have : k = 12 := by omega
    subst this
    show b_X12_feed_18 269 x1 x2 x3 _ (nI 12) _ = _
    unfold b_X12_feed_18
    rw [if_pos (Int32.le_refl _), (h.st (x1 := x1) (x2 := x2) (x3 := x3) 12).2.2.2.2.1]
  | succ r ih =>
    intro f k h1 h2
    obtain ⟨f, rfl⟩ : ∃ z, f = z + 1 := ⟨f - 1, by omega⟩
    rw [← ih f (k + 1) (by omega) (by omega)]
    show b_X12_feed_18 269 x1 x2 x3 (q_fix (fun _ _ => none) (b_X12_feed_18 269 x1 x2 x3) f) (nI k) _ = _
    generalize q_fix (fun _ _ => none) (b_X12_feed_18 269 x1 x2 x3) f = K
    have h5 := (h.st (x1 := x1) (x2 := x2) (x3 := x3) k).2.2.2.2.1
    have key : ∀ s0 : Int32, byt s0 (24 - 8 * (k % 4)) = sel x1 x2 x3 k → b_X12_feed_47 269 x1 x2 x3 K (nI k) s0 (sM x1 x2 x3 J c k) = K (nI (k + 1)) (sM x1 x2 x3 J c (k + 1)) := by
      intro s0 hs
      unfold b_X12_feed_47
      rw [rem4 k (by omega), h5, u_wr (show c + k < 96 by omega) (by decide), u_s1, u_s1, u_up_a (by decide), h5, nI_add, nI_add]
      show K _ _ = K _ (q_up (q_up (sM x1 x2 x3 J c k) 276 (c + k) (sel x1 x2 x3 k)) 269 14 (nI (c + k + 1)))
      rw [← hs]
      rfl
    unfold b_X12_feed_18
    rw [if_neg (nI_ge (by omega) (by omega))]
    by_cases c1 : 4 ≤ k
    · rw [if_pos (nI_le c1 (by omega))]
      by_cases c2 : 8 ≤ k
      · rw [if_pos (nI_le c2 (by omega))]
        exact key _ (by unfold sel; rw [if_neg (by omega), if_neg (by omega)])
      · rw [if_neg (nI_ge (by omega) (by omega))]
        exact key _ (by unfold sel; rw [if_neg (by omega), if_pos (by omega)])
    · rw [if_neg (nI_ge (by omega) (by omega))]
      exact key _ (by unfold sel; rw [if_pos (by omega)])
theorem W_feed {X : qX} (y1 y2 y3 : Int32) : P2 X (f_X11_feed 64 y1 y2 y3) (f_X12_feed 269 y1 y2 y3) := by
  intro I J h
  show G2 X I J (f_X11_feed 64 y1 y2 y3 I) (f_X12_feed 269 y1 y2 y3 J)
  obtain ⟨c, c1, c2, c3, c4⟩ := h.tp
  unfold f_X11_feed f_X12_feed
  rw [show I (64 + 196) 6 = nI c from c2, c3, nI_add]
  by_cases z : c ≤ 84
  rotate_left
  · rw [if_neg (nI_ge (by omega) (by omega)), if_neg (nI_ge (by omega) (by omega))]
    exact h.same _
  rw [if_pos (nI_le z (by decide)), if_pos (nI_le (by omega) (by decide))]
  have F : FS I J I J c := ⟨fun _ _ _ => rfl, fun _ _ _ => rfl, fun _ _ => rfl, c2, c3, c4⟩
  have p0 : f_X5_put 260 y1 (sC y1 y2 y3 I c 0) = some (sC y1 y2 y3 I c 4) := put4 F (by omega) rfl rfl rfl rfl
  have p4 : f_X5_put 260 y2 (sC y1 y2 y3 I c 4) = some (sC y1 y2 y3 I c 8) := put4 F (by omega) rfl rfl rfl rfl
  have p8 : f_X5_put 260 y3 (sC y1 y2 y3 I c 8) = some (sC y1 y2 y3 I c 12) := put4 F (by omega) rfl rfl rfl rfl
  rw [show f_X5_put (64 + 196) y1 I = some (sC y1 y2 y3 I c 4) from p0, u_s1, show f_X5_put (64 + 196) y2 (sC y1 y2 y3 I c 4) = some (sC y1 y2 y3 I c 8) from p4, u_s1, show f_X5_put (64 + 196) y3 (sC y1 y2 y3 I c 8) = some (sC y1 y2 y3 I c 12) from p8, u_s1, show q_fix (fun _ _ => none) (b_X12_feed_18 269 y1 y2 y3) q_fu (nI 0) J = some (nI (c + 12), sM y1 y2 y3 J c 12) from fdM F (by omega) 12 q_fu 0 rfl (by have := q_fu1; omega)]
  obtain ⟨h1, h2, h3, h4, h5, h6⟩ := F.st (x1 := y1) (x2 := y2) (x3 := y3) 12
  rw [show sC y1 y2 y3 I c 12 (64 + 196) 6 = nI (c + 12) from h4]
  refine ⟨_, _, _, rfl, rfl, h.side (fun a ha => h1 a (by omega) (by omega)) (by rw [h1 64 (by decide) (by decide)]) (fun a ha => h2 a (by omega) (by omega)) (h3 3 (by decide)) (h3 25 (by decide)) ?_ ?_ ⟨c + 12, by omega, h4, h5, h6⟩, fun a b1 b2 => h1 a (by omega) (by omega), fun a ha => h2 a (by omega) (by omega)⟩
  · unfold BK
    rw [h1 264 (by decide) (by decide), h1 265 (by decide) (by decide), h1 266 (by decide) (by decide), h2 273 (by decide) (by decide), h2 274 (by decide) (by decide), h2 275 (by decide) (by decide)]
    exact h.2.2.2.1
  · unfold WT
    rw [h1 64 (by decide) (by decide), h1 267 (by decide) (by decide), h2 285 (by decide) (by decide), h3 39 (by decide)]
    exact h.2.2.2.2.1
