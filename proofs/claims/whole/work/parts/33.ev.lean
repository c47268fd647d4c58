/-! LEVEL B: reads through the relation; ranges; small helpers of both sides in one form -/
theorem RV.p0 {X : qX} {v : Nat} {I : qI} {t : Nat → Int32} {j : Nat} (h : RV X v I t j) {a p : Nat} (ha : a = v + 2) (hm : p < 8) : I a p = t (10 + 5 * p) := by
  subst ha; exact h.1 _ _ _ (vq_pit p hm 0 (by decide)) (fun _ _ _ => by omega)
theorem RV.p1 {X : qX} {v : Nat} {I : qI} {t : Nat → Int32} {j : Nat} (h : RV X v I t j) {a p : Nat} (ha : a = v + 3) (hm : p < 8) : I a p = t (10 + 5 * p + 1) := by
  subst ha; exact h.1 _ _ _ (vq_pit p hm 1 (by decide)) (fun _ _ _ => by omega)
theorem RV.p2 {X : qX} {v : Nat} {I : qI} {t : Nat → Int32} {j : Nat} (h : RV X v I t j) {a p : Nat} (ha : a = v + 4) (hm : p < 8) : I a p = t (10 + 5 * p + 2) := by
  subst ha; exact h.1 _ _ _ (vq_pit p hm 2 (by decide)) (fun _ _ _ => by omega)
theorem RV.p3 {X : qX} {v : Nat} {I : qI} {t : Nat → Int32} {j : Nat} (h : RV X v I t j) {a p : Nat} (ha : a = v + 5) (hm : p < 8) : I a p = t (10 + 5 * p + 3) := by
  subst ha; exact h.1 _ _ _ (vq_pit p hm 3 (by decide)) (fun _ _ _ => by omega)
theorem RV.p4 {X : qX} {v : Nat} {I : qI} {t : Nat → Int32} {j : Nat} (h : RV X v I t j) {a p : Nat} (ha : a = v + 6) (hm : p < 8) : I a p = t (10 + 5 * p + 4) := by
  subst ha; exact h.1 _ _ _ (vq_pit p hm 4 (by decide)) (fun _ _ _ => by omega)
theorem RV.s0 {X : qX} {v : Nat} {I : qI} {t : Nat → Int32} {j : Nat} (h : RV X v I t j) {a k : Nat} (ha : a = v + 8) (hm : k < 6) : I a k = t (50 + 4 * k) := by
  subst ha; exact h.1 _ _ _ (vq_shop k hm 0 (by decide)) (fun _ _ _ => by omega)
theorem RV.s1 {X : qX} {v : Nat} {I : qI} {t : Nat → Int32} {j : Nat} (h : RV X v I t j) {a k : Nat} (ha : a = v + 9) (hm : k < 6) : I a k = t (50 + 4 * k + 1) := by
  subst ha; exact h.1 _ _ _ (vq_shop k hm 1 (by decide)) (fun _ _ _ => by omega)
theorem RV.s2 {X : qX} {v : Nat} {I : qI} {t : Nat → Int32} {j : Nat} (h : RV X v I t j) {a k : Nat} (ha : a = v + 10) (hm : k < 6) : I a k = t (50 + 4 * k + 2) := by
  subst ha; exact h.1 _ _ _ (vq_shop k hm 2 (by decide)) (fun _ _ _ => by omega)
theorem RV.s3 {X : qX} {v : Nat} {I : qI} {t : Nat → Int32} {j : Nat} (h : RV X v I t j) {a k : Nat} (ha : a = v + 11) (hm : k < 6) : I a k = t (50 + 4 * k + 3) := by
  subst ha; exact h.1 _ _ _ (vq_shop k hm 3 (by decide)) (fun _ _ _ => by omega)
theorem RV.m0 {X : qX} {v : Nat} {I : qI} {t : Nat → Int32} {j : Nat} (h : RV X v I t j) {a m : Nat} (ha : a = v + 13) (hm : m < 12) : I a m = t (80 + 24 * m) := by
  subst ha; exact h.1 _ _ _ (vq_man m hm 0 (by decide)) (fun _ _ _ => by omega)
theorem RV.m1 {X : qX} {v : Nat} {I : qI} {t : Nat → Int32} {j : Nat} (h : RV X v I t j) {a m : Nat} (ha : a = v + 14) (hm : m < 12) : I a m = t (80 + 24 * m + 1) := by
  subst ha; exact h.1 _ _ _ (vq_man m hm 1 (by decide)) (fun _ _ _ => by omega)
theorem RV.m2 {X : qX} {v : Nat} {I : qI} {t : Nat → Int32} {j : Nat} (h : RV X v I t j) {a m : Nat} (ha : a = v + 15) (hm : m < 12) : I a m = t (80 + 24 * m + 2) := by
  subst ha; exact h.1 _ _ _ (vq_man m hm 2 (by decide)) (fun _ _ _ => by omega)
theorem RV.m3 {X : qX} {v : Nat} {I : qI} {t : Nat → Int32} {j : Nat} (h : RV X v I t j) {a m : Nat} (ha : a = v + 16) (hm : m < 12) : I a m = t (80 + 24 * m + 3) := by
  subst ha; exact h.1 _ _ _ (vq_man m hm 3 (by decide)) (fun _ _ _ => by omega)
theorem RV.m4 {X : qX} {v : Nat} {I : qI} {t : Nat → Int32} {j : Nat} (h : RV X v I t j) {a m : Nat} (ha : a = v + 17) (hm : m < 12) : I a m = t (80 + 24 * m + 4) := by
  subst ha; exact h.1 _ _ _ (vq_man m hm 4 (by decide)) (fun _ _ _ => by omega)
theorem RV.m5 {X : qX} {v : Nat} {I : qI} {t : Nat → Int32} {j : Nat} (h : RV X v I t j) {a m : Nat} (ha : a = v + 18) (hm : m < 12) : I a m = t (80 + 24 * m + 5) := by
  subst ha; exact h.1 _ _ _ (vq_man m hm 5 (by decide)) (fun _ _ _ => by omega)
theorem RV.m6 {X : qX} {v : Nat} {I : qI} {t : Nat → Int32} {j : Nat} (h : RV X v I t j) {a m : Nat} (ha : a = v + 19) (hm : m < 12) : I a m = t (80 + 24 * m + 6) := by
  subst ha; exact h.1 _ _ _ (vq_man m hm 6 (by decide)) (fun _ _ _ => by omega)
theorem RV.m7 {X : qX} {v : Nat} {I : qI} {t : Nat → Int32} {j : Nat} (h : RV X v I t j) {a m : Nat} (ha : a = v + 20) (hm : m < 12) : I a m = t (80 + 24 * m + 7) := by
  subst ha; exact h.1 _ _ _ (vq_man m hm 7 (by decide)) (fun _ _ _ => by omega)
theorem RV.m8 {X : qX} {v : Nat} {I : qI} {t : Nat → Int32} {j : Nat} (h : RV X v I t j) {a m : Nat} (ha : a = v + 21) (hm : m < 12) : I a m = t (80 + 24 * m + 8) := by
  subst ha; exact h.1 _ _ _ (vq_man m hm 8 (by decide)) (fun _ _ _ => by omega)
theorem RV.m9 {X : qX} {v : Nat} {I : qI} {t : Nat → Int32} {j : Nat} (h : RV X v I t j) {a m : Nat} (ha : a = v + 22) (hm : m < 12) : I a m = t (80 + 24 * m + 9) := by
  subst ha; exact h.1 _ _ _ (vq_man m hm 9 (by decide)) (fun _ _ _ => by omega)
theorem RV.m10 {X : qX} {v : Nat} {I : qI} {t : Nat → Int32} {j : Nat} (h : RV X v I t j) {a m : Nat} (ha : a = v + 23) (hm : m < 12) : I a m = t (80 + 24 * m + 10) := by
  subst ha; exact h.1 _ _ _ (vq_man m hm 10 (by decide)) (fun _ _ _ => by omega)
theorem RV.m11 {X : qX} {v : Nat} {I : qI} {t : Nat → Int32} {j : Nat} (h : RV X v I t j) {a m : Nat} (ha : a = v + 24) (hm : m < 12) : I a m = t (80 + 24 * m + 11) := by
  subst ha; exact h.1 _ _ _ (vq_man m hm 11 (by decide)) (fun _ _ _ => by omega)
theorem RV.d0 {X : qX} {v : Nat} {I : qI} {t : Nat → Int32} {j : Nat} (h : RV X v I t j) {a d : Nat} (ha : a = v + 28) (hm : d < 60) : I a d = t (370 + 8 * d) := by
  subst ha; exact h.1 _ _ _ (vq_due d hm 0 (by decide) (by decide)) (fun _ _ _ => by omega)
theorem RV.d1 {X : qX} {v : Nat} {I : qI} {t : Nat → Int32} {j : Nat} (h : RV X v I t j) {a d : Nat} (ha : a = v + 29) (hm : d < 60) : I a d = t (370 + 8 * d + 1) := by
  subst ha; exact h.1 _ _ _ (vq_due d hm 1 (by decide) (by decide)) (fun _ _ _ => by omega)
theorem RV.d2 {X : qX} {v : Nat} {I : qI} {t : Nat → Int32} {j : Nat} (h : RV X v I t j) {a d : Nat} (ha : a = v + 30) (hm : d < 60) : I a d = t (370 + 8 * d + 2) := by
  subst ha; exact h.1 _ _ _ (vq_due d hm 2 (by decide) (by decide)) (fun _ _ _ => by omega)
theorem RV.d3 {X : qX} {v : Nat} {I : qI} {t : Nat → Int32} {j : Nat} (h : RV X v I t j) {a d : Nat} (ha : a = v + 31) (hm : d < 60) : I a d = t (370 + 8 * d + 3) := by
  subst ha; exact h.1 _ _ _ (vq_due d hm 3 (by decide) (by decide)) (fun _ _ _ => by omega)
theorem RV.d4 {X : qX} {v : Nat} {I : qI} {t : Nat → Int32} {j : Nat} (h : RV X v I t j) {a d : Nat} (ha : a = v + 32) (hm : d < 60) : I a d = t (370 + 8 * d + 4) := by
  subst ha; exact h.1 _ _ _ (vq_due d hm 4 (by decide) (by decide)) (fun _ _ _ => by omega)
theorem RV.d5 {X : qX} {v : Nat} {I : qI} {t : Nat → Int32} {j : Nat} (h : RV X v I t j) {a d : Nat} (ha : a = v + 33) (hm : d < 60) : I a d = t (370 + 8 * d + 5) := by
  subst ha; exact h.1 _ _ _ (vq_due d hm 5 (by decide) (by decide)) (fun _ _ _ => by omega)
theorem RV.d7 {X : qX} {v : Nat} {I : qI} {t : Nat → Int32} {j : Nat} (h : RV X v I t j) {a d : Nat} (ha : a = v + 35) (hm : d < 60) : I a d = t (370 + 8 * d + 7) := by
  subst ha; exact h.1 _ _ _ (vq_due d hm 7 (by decide) (by decide)) (fun _ _ _ => by omega)
theorem RV.t0 {X : qX} {v : Nat} {I : qI} {t : Nat → Int32} {j : Nat} (h : RV X v I t j) {a i : Nat} (ha : a = v + 37) (hm : i < 12) : I a i = t (850 + 200 * i) := by
  subst ha; exact h.1 _ _ _ (vq_text i hm 0 (by decide)) (fun _ _ _ => by omega)
theorem RV.t1 {X : qX} {v : Nat} {I : qI} {t : Nat → Int32} {j : Nat} (h : RV X v I t j) {a i : Nat} (ha : a = v + 38) (hm : i < 12) : I a i = t (850 + 200 * i + 1) := by
  subst ha; exact h.1 _ _ _ (vq_text i hm 1 (by decide)) (fun _ _ _ => by omega)
theorem RV.t2 {X : qX} {v : Nat} {I : qI} {t : Nat → Int32} {j : Nat} (h : RV X v I t j) {a i : Nat} (ha : a = v + 39) (hm : i < 12) : I a i = t (850 + 200 * i + 2) := by
  subst ha; exact h.1 _ _ _ (vq_text i hm 2 (by decide)) (fun _ _ _ => by omega)
theorem RV.b0 {X : qX} {v : Nat} {I : qI} {t : Nat → Int32} {j : Nat} (h : RV X v I t j) {a b : Nat} (ha : a = v + 45) (hm : b < 16) : I a b = t (3300 + 3 * b) := by
  subst ha; exact h.1 _ _ _ (vq_breach b hm 0 (by decide)) (fun _ _ _ => by omega)
theorem RV.b1 {X : qX} {v : Nat} {I : qI} {t : Nat → Int32} {j : Nat} (h : RV X v I t j) {a b : Nat} (ha : a = v + 46) (hm : b < 16) : I a b = t (3300 + 3 * b + 1) := by
  subst ha; exact h.1 _ _ _ (vq_breach b hm 1 (by decide)) (fun _ _ _ => by omega)
theorem RV.b2 {X : qX} {v : Nat} {I : qI} {t : Nat → Int32} {j : Nat} (h : RV X v I t j) {a b : Nat} (ha : a = v + 47) (hm : b < 16) : I a b = t (3300 + 3 * b + 2) := by
  subst ha; exact h.1 _ _ _ (vq_breach b hm 2 (by decide)) (fun _ _ _ => by omega)
theorem RV.c0 {X : qX} {v : Nat} {I : qI} {t : Nat → Int32} {j : Nat} (h : RV X v I t j) {a c : Nat} (ha : a = v + 53) (hm : c < 8) : I a c = t (3350 + 3 * c) := by
  subst ha; exact h.1 _ _ _ (vq_choice c hm 0 (by decide)) (fun _ _ _ => by omega)
theorem RV.c1 {X : qX} {v : Nat} {I : qI} {t : Nat → Int32} {j : Nat} (h : RV X v I t j) {a c : Nat} (ha : a = v + 54) (hm : c < 8) : I a c = t (3350 + 3 * c + 1) := by
  subst ha; exact h.1 _ _ _ (vq_choice c hm 1 (by decide)) (fun _ _ _ => by omega)
theorem RV.c2 {X : qX} {v : Nat} {I : qI} {t : Nat → Int32} {j : Nat} (h : RV X v I t j) {a c : Nat} (ha : a = v + 55) (hm : c < 8) : I a c = t (3350 + 3 * c + 2) := by
  subst ha; exact h.1 _ _ _ (vq_choice c hm 2 (by decide)) (fun _ _ _ => by omega)
theorem RV.w0 {X : qX} {v : Nat} {I : qI} {t : Nat → Int32} {j : Nat} (h : RV X v I t j) {a i : Nat} (ha : a = v + 43) (hm : i < 48) : I a i = t (3250 + i) := by
  subst ha; exact h.1 _ _ _ (vq_way i hm) (fun _ _ _ => by omega)
theorem RV.kn {X : qX} {v : Nat} {I : qI} {t : Nat → Int32} {j : Nat} (h : RV X v I t j) {a m k i : Nat} (ha : a = v + 25) (hm : m < 12) (hk : k < 6) (hi : i = 6 * m + k) : I a i = t (80 + 24 * m + 12 + k) := by
  subst ha hi; exact h.1 _ _ _ (vq_known m hm k hk) (fun _ _ _ => by omega)
theorem RV.hd {X : qX} {v : Nat} {I : qI} {t : Nat → Int32} {j : Nat} (h : RV X v I t j) {a m k i : Nat} (ha : a = v + 26) (hm : m < cn t 2) (hk : k < 6) (hi : i = 6 * m + k) : I a i = t (80 + 24 * m + 18 + k) := by
  have := h.2.2.2.1.1.2.1
  subst ha hi; exact h.1 _ _ _ (vq_heard m (by omega) k hk) (fun _ _ _ => by omega)
theorem RV.sc0 {X : qX} {v : Nat} {I : qI} {t : Nat → Int32} {j : Nat} (h : RV X v I t j) {a : Nat} (ha : a = v + 0) : I a 13 = t 0 := by
  subst ha; exact h.1 _ _ _ vq_sc.1 (fun _ _ _ => by omega)
theorem RV.sc1 {X : qX} {v : Nat} {I : qI} {t : Nat → Int32} {j : Nat} (h : RV X v I t j) {a : Nat} (ha : a = v + 7) : I a 4 = t 1 := by
  subst ha; exact h.1 _ _ _ vq_sc.2.1 (fun _ _ _ => by omega)
theorem RV.sc2 {X : qX} {v : Nat} {I : qI} {t : Nat → Int32} {j : Nat} (h : RV X v I t j) {a : Nat} (ha : a = v + 12) : I a 14 = t 2 := by
  subst ha; exact h.1 _ _ _ vq_sc.2.2.1 (fun _ _ _ => by omega)
theorem RV.sc3 {X : qX} {v : Nat} {I : qI} {t : Nat → Int32} {j : Nat} (h : RV X v I t j) {a : Nat} (ha : a = v + 27) : I a 8 = t 3 := by
  subst ha; exact h.1 _ _ _ vq_sc.2.2.2.1 (fun _ _ _ => by omega)
theorem RV.sc4 {X : qX} {v : Nat} {I : qI} {t : Nat → Int32} {j : Nat} (h : RV X v I t j) {a : Nat} (ha : a = v + 36) : I a 5 = t 4 := by
  subst ha; exact h.1 _ _ _ vq_sc.2.2.2.2.1 (fun _ _ _ => by omega)
theorem RV.sc5 {X : qX} {v : Nat} {I : qI} {t : Nat → Int32} {j : Nat} (h : RV X v I t j) {a : Nat} (ha : a = v + 44) : I a 8 = t 5 := by
  subst ha; exact h.1 _ _ _ vq_sc.2.2.2.2.2.1 (fun _ _ _ => by omega)
theorem RV.sc6 {X : qX} {v : Nat} {I : qI} {t : Nat → Int32} {j : Nat} (h : RV X v I t j) {a : Nat} (ha : a = v + 52) : I a 9 = t 6 := by
  subst ha; exact h.1 _ _ _ vq_sc.2.2.2.2.2.2.1 (fun _ _ _ => by omega)
theorem RV.sc7 {X : qX} {v : Nat} {I : qI} {t : Nat → Int32} {j : Nat} (h : RV X v I t j) {a : Nat} (ha : a = v + 60) : I a 0 = t 7 := by
  subst ha; exact h.1 _ _ _ vq_sc.2.2.2.2.2.2.2.1 (fun _ _ _ => by omega)
theorem RV.sc8 {X : qX} {v : Nat} {I : qI} {t : Nat → Int32} {j : Nat} (h : RV X v I t j) {a : Nat} (ha : a = v + 60) : I a 1 = t 8 := by
  subst ha; exact h.1 _ _ _ vq_sc.2.2.2.2.2.2.2.2.1 (fun _ _ _ => by omega)
theorem RV.sc9 {X : qX} {v : Nat} {I : qI} {t : Nat → Int32} {j : Nat} (h : RV X v I t j) {a : Nat} (ha : a = v + 60) : I a 2 = t 9 := by
  subst ha; exact h.1 _ _ _ vq_sc.2.2.2.2.2.2.2.2.2 (fun _ _ _ => by omega)
theorem rg_p0 : ∀ p, p < 8 → rgT (10 + 5 * p) = some (false, 1, 99) := by decide +kernel
theorem RV.r_p0 {X : qX} {v : Nat} {I : qI} {t : Nat → Int32} {j : Nat} (h : RV X v I t j) {p : Nat} (hm : p < 8) : t (10 + 5 * p) = nI (cn t (10 + 5 * p)) ∧ 1 ≤ cn t (10 + 5 * p) ∧ cn t (10 + 5 * p) ≤ 99 := h.rg (rg_p0 p hm) (by decide)
theorem rg_p1 : ∀ p, p < 8 → rgT (10 + 5 * p + 1) = some (false, 1, 150) := by decide +kernel
theorem RV.r_p1 {X : qX} {v : Nat} {I : qI} {t : Nat → Int32} {j : Nat} (h : RV X v I t j) {p : Nat} (hm : p < 8) : t (10 + 5 * p + 1) = nI (cn t (10 + 5 * p + 1)) ∧ 1 ≤ cn t (10 + 5 * p + 1) ∧ cn t (10 + 5 * p + 1) ≤ 150 := h.rg (rg_p1 p hm) (by decide)
theorem rg_s0 : ∀ k, k < 6 → rgT (50 + 4 * k) = some (false, 0, 1) := by decide +kernel
theorem RV.r_s0 {X : qX} {v : Nat} {I : qI} {t : Nat → Int32} {j : Nat} (h : RV X v I t j) {k : Nat} (hm : k < 6) : t (50 + 4 * k) = nI (cn t (50 + 4 * k)) ∧ 0 ≤ cn t (50 + 4 * k) ∧ cn t (50 + 4 * k) ≤ 1 := h.rg (rg_s0 k hm) (by decide)
theorem rg_s1 : ∀ k, k < 6 → rgT (50 + 4 * k + 1) = some (false, 0, 99) := by decide +kernel
theorem RV.r_s1 {X : qX} {v : Nat} {I : qI} {t : Nat → Int32} {j : Nat} (h : RV X v I t j) {k : Nat} (hm : k < 6) : t (50 + 4 * k + 1) = nI (cn t (50 + 4 * k + 1)) ∧ 0 ≤ cn t (50 + 4 * k + 1) ∧ cn t (50 + 4 * k + 1) ≤ 99 := h.rg (rg_s1 k hm) (by decide)
theorem rg_s2 : ∀ k, k < 6 → rgT (50 + 4 * k + 2) = some (false, 0, 99999) := by decide +kernel
theorem RV.r_s2 {X : qX} {v : Nat} {I : qI} {t : Nat → Int32} {j : Nat} (h : RV X v I t j) {k : Nat} (hm : k < 6) : t (50 + 4 * k + 2) = nI (cn t (50 + 4 * k + 2)) ∧ 0 ≤ cn t (50 + 4 * k + 2) ∧ cn t (50 + 4 * k + 2) ≤ 99999 := h.rg (rg_s2 k hm) (by decide)
theorem rg_s3 : ∀ k, k < 6 → rgT (50 + 4 * k + 3) = some (false, 0, 99) := by decide +kernel
theorem RV.r_s3 {X : qX} {v : Nat} {I : qI} {t : Nat → Int32} {j : Nat} (h : RV X v I t j) {k : Nat} (hm : k < 6) : t (50 + 4 * k + 3) = nI (cn t (50 + 4 * k + 3)) ∧ 0 ≤ cn t (50 + 4 * k + 3) ∧ cn t (50 + 4 * k + 3) ≤ 99 := h.rg (rg_s3 k hm) (by decide)
theorem rg_m0 : ∀ m, m < 12 → rgT (80 + 24 * m) = some (false, 0, 7) := by decide +kernel
theorem RV.r_m0 {X : qX} {v : Nat} {I : qI} {t : Nat → Int32} {j : Nat} (h : RV X v I t j) {m : Nat} (hm : m < 12) : t (80 + 24 * m) = nI (cn t (80 + 24 * m)) ∧ 0 ≤ cn t (80 + 24 * m) ∧ cn t (80 + 24 * m) ≤ 7 := h.rg (rg_m0 m hm) (by decide)
theorem rg_m1 : ∀ m, m < 12 → rgT (80 + 24 * m + 1) = some (false, 0, 9) := by decide +kernel
theorem RV.r_m1 {X : qX} {v : Nat} {I : qI} {t : Nat → Int32} {j : Nat} (h : RV X v I t j) {m : Nat} (hm : m < 12) : t (80 + 24 * m + 1) = nI (cn t (80 + 24 * m + 1)) ∧ 0 ≤ cn t (80 + 24 * m + 1) ∧ cn t (80 + 24 * m + 1) ≤ 9 := h.rg (rg_m1 m hm) (by decide)
theorem rg_m2 : ∀ m, m < 12 → rgT (80 + 24 * m + 2) = some (false, 0, 9) := by decide +kernel
theorem RV.r_m2 {X : qX} {v : Nat} {I : qI} {t : Nat → Int32} {j : Nat} (h : RV X v I t j) {m : Nat} (hm : m < 12) : t (80 + 24 * m + 2) = nI (cn t (80 + 24 * m + 2)) ∧ 0 ≤ cn t (80 + 24 * m + 2) ∧ cn t (80 + 24 * m + 2) ≤ 9 := h.rg (rg_m2 m hm) (by decide)
theorem rg_m3 : ∀ m, m < 12 → rgT (80 + 24 * m + 3) = some (false, 0, 99999) := by decide +kernel
theorem RV.r_m3 {X : qX} {v : Nat} {I : qI} {t : Nat → Int32} {j : Nat} (h : RV X v I t j) {m : Nat} (hm : m < 12) : t (80 + 24 * m + 3) = nI (cn t (80 + 24 * m + 3)) ∧ 0 ≤ cn t (80 + 24 * m + 3) ∧ cn t (80 + 24 * m + 3) ≤ 99999 := h.rg (rg_m3 m hm) (by decide)
theorem rg_m4 : ∀ m, m < 12 → rgT (80 + 24 * m + 4) = some (false, 0, 99999) := by decide +kernel
theorem RV.r_m4 {X : qX} {v : Nat} {I : qI} {t : Nat → Int32} {j : Nat} (h : RV X v I t j) {m : Nat} (hm : m < 12) : t (80 + 24 * m + 4) = nI (cn t (80 + 24 * m + 4)) ∧ 0 ≤ cn t (80 + 24 * m + 4) ∧ cn t (80 + 24 * m + 4) ≤ 99999 := h.rg (rg_m4 m hm) (by decide)
theorem rg_m5 : ∀ m, m < 12 → rgT (80 + 24 * m + 5) = some (false, 0, 99999) := by decide +kernel
theorem RV.r_m5 {X : qX} {v : Nat} {I : qI} {t : Nat → Int32} {j : Nat} (h : RV X v I t j) {m : Nat} (hm : m < 12) : t (80 + 24 * m + 5) = nI (cn t (80 + 24 * m + 5)) ∧ 0 ≤ cn t (80 + 24 * m + 5) ∧ cn t (80 + 24 * m + 5) ≤ 99999 := h.rg (rg_m5 m hm) (by decide)
theorem rg_m6 : ∀ m, m < 12 → rgT (80 + 24 * m + 6) = some (false, 0, 9) := by decide +kernel
theorem RV.r_m6 {X : qX} {v : Nat} {I : qI} {t : Nat → Int32} {j : Nat} (h : RV X v I t j) {m : Nat} (hm : m < 12) : t (80 + 24 * m + 6) = nI (cn t (80 + 24 * m + 6)) ∧ 0 ≤ cn t (80 + 24 * m + 6) ∧ cn t (80 + 24 * m + 6) ≤ 9 := h.rg (rg_m6 m hm) (by decide)
theorem rg_m9 : ∀ m, m < 12 → rgT (80 + 24 * m + 9) = some (false, 0, 1) := by decide +kernel
theorem RV.r_m9 {X : qX} {v : Nat} {I : qI} {t : Nat → Int32} {j : Nat} (h : RV X v I t j) {m : Nat} (hm : m < 12) : t (80 + 24 * m + 9) = nI (cn t (80 + 24 * m + 9)) ∧ 0 ≤ cn t (80 + 24 * m + 9) ∧ cn t (80 + 24 * m + 9) ≤ 1 := h.rg (rg_m9 m hm) (by decide)
theorem rg_m10 : ∀ m, m < 12 → rgT (80 + 24 * m + 10) = some (false, 0, 59) := by decide +kernel
theorem RV.r_m10 {X : qX} {v : Nat} {I : qI} {t : Nat → Int32} {j : Nat} (h : RV X v I t j) {m : Nat} (hm : m < 12) : t (80 + 24 * m + 10) = nI (cn t (80 + 24 * m + 10)) ∧ 0 ≤ cn t (80 + 24 * m + 10) ∧ cn t (80 + 24 * m + 10) ≤ 59 := h.rg (rg_m10 m hm) (by decide)
theorem rg_m11 : ∀ m, m < 12 → rgT (80 + 24 * m + 11) = some (false, 0, 59) := by decide +kernel
theorem RV.r_m11 {X : qX} {v : Nat} {I : qI} {t : Nat → Int32} {j : Nat} (h : RV X v I t j) {m : Nat} (hm : m < 12) : t (80 + 24 * m + 11) = nI (cn t (80 + 24 * m + 11)) ∧ 0 ≤ cn t (80 + 24 * m + 11) ∧ cn t (80 + 24 * m + 11) ≤ 59 := h.rg (rg_m11 m hm) (by decide)
theorem rg_d0 : ∀ d, d < 60 → rgT (370 + 8 * d) = some (false, 0, 6) := by decide +kernel
theorem RV.r_d0 {X : qX} {v : Nat} {I : qI} {t : Nat → Int32} {j : Nat} (h : RV X v I t j) {d : Nat} (hm : d < 60) : t (370 + 8 * d) = nI (cn t (370 + 8 * d)) ∧ 0 ≤ cn t (370 + 8 * d) ∧ cn t (370 + 8 * d) ≤ 6 := h.rg (rg_d0 d hm) (by decide)
theorem rg_d6 : ∀ d, d < 60 → rgT (370 + 8 * d + 6) = some (true, 0, 11) := by decide +kernel
theorem RV.r_d6 {X : qX} {v : Nat} {I : qI} {t : Nat → Int32} {j : Nat} (h : RV X v I t j) {d : Nat} (hm : d < 60) : t (370 + 8 * d + 6) = -1 ∨ (t (370 + 8 * d + 6) = nI (cn t (370 + 8 * d + 6)) ∧ 0 ≤ cn t (370 + 8 * d + 6) ∧ cn t (370 + 8 * d + 6) ≤ 11) := h.rgm (rg_d6 d hm) (by decide)
theorem rg_t0 : ∀ i, i < 12 → rgT (850 + 200 * i) = some (false, 0, 6) := by decide +kernel
theorem RV.r_t0 {X : qX} {v : Nat} {I : qI} {t : Nat → Int32} {j : Nat} (h : RV X v I t j) {i : Nat} (hm : i < 12) : t (850 + 200 * i) = nI (cn t (850 + 200 * i)) ∧ 0 ≤ cn t (850 + 200 * i) ∧ cn t (850 + 200 * i) ≤ 6 := h.rg (rg_t0 i hm) (by decide)
theorem rg_t1 : ∀ i, i < 12 → rgT (850 + 200 * i + 1) = some (false, 0, 6999) := by decide +kernel
theorem RV.r_t1 {X : qX} {v : Nat} {I : qI} {t : Nat → Int32} {j : Nat} (h : RV X v I t j) {i : Nat} (hm : i < 12) : t (850 + 200 * i + 1) = nI (cn t (850 + 200 * i + 1)) ∧ 0 ≤ cn t (850 + 200 * i + 1) ∧ cn t (850 + 200 * i + 1) ≤ 6999 := h.rg (rg_t1 i hm) (by decide)
theorem rg_b0 : ∀ b, b < 16 → rgT (3300 + 3 * b) = some (false, 0, 3) := by decide +kernel
theorem RV.r_b0 {X : qX} {v : Nat} {I : qI} {t : Nat → Int32} {j : Nat} (h : RV X v I t j) {b : Nat} (hm : b < 16) : t (3300 + 3 * b) = nI (cn t (3300 + 3 * b)) ∧ 0 ≤ cn t (3300 + 3 * b) ∧ cn t (3300 + 3 * b) ≤ 3 := h.rg (rg_b0 b hm) (by decide)
theorem rg_b1 : ∀ b, b < 16 → rgT (3300 + 3 * b + 1) = some (false, 0, 6) := by decide +kernel
theorem RV.r_b1 {X : qX} {v : Nat} {I : qI} {t : Nat → Int32} {j : Nat} (h : RV X v I t j) {b : Nat} (hm : b < 16) : t (3300 + 3 * b + 1) = nI (cn t (3300 + 3 * b + 1)) ∧ 0 ≤ cn t (3300 + 3 * b + 1) ∧ cn t (3300 + 3 * b + 1) ≤ 6 := h.rg (rg_b1 b hm) (by decide)
theorem rg_b2 : ∀ b, b < 16 → rgT (3300 + 3 * b + 2) = some (false, 0, 6) := by decide +kernel
theorem RV.r_b2 {X : qX} {v : Nat} {I : qI} {t : Nat → Int32} {j : Nat} (h : RV X v I t j) {b : Nat} (hm : b < 16) : t (3300 + 3 * b + 2) = nI (cn t (3300 + 3 * b + 2)) ∧ 0 ≤ cn t (3300 + 3 * b + 2) ∧ cn t (3300 + 3 * b + 2) ≤ 6 := h.rg (rg_b2 b hm) (by decide)
theorem rg_c0 : ∀ c, c < 8 → rgT (3350 + 3 * c) = some (false, 0, 999) := by decide +kernel
theorem RV.r_c0 {X : qX} {v : Nat} {I : qI} {t : Nat → Int32} {j : Nat} (h : RV X v I t j) {c : Nat} (hm : c < 8) : t (3350 + 3 * c) = nI (cn t (3350 + 3 * c)) ∧ 0 ≤ cn t (3350 + 3 * c) ∧ cn t (3350 + 3 * c) ≤ 999 := h.rg (rg_c0 c hm) (by decide)
theorem rg_c1 : ∀ c, c < 8 → rgT (3350 + 3 * c + 1) = some (false, 0, 99) := by decide +kernel
theorem RV.r_c1 {X : qX} {v : Nat} {I : qI} {t : Nat → Int32} {j : Nat} (h : RV X v I t j) {c : Nat} (hm : c < 8) : t (3350 + 3 * c + 1) = nI (cn t (3350 + 3 * c + 1)) ∧ 0 ≤ cn t (3350 + 3 * c + 1) ∧ cn t (3350 + 3 * c + 1) ≤ 99 := h.rg (rg_c1 c hm) (by decide)
theorem rg_c2 : ∀ c, c < 8 → rgT (3350 + 3 * c + 2) = some (false, 0, 255) := by decide +kernel
theorem RV.r_c2 {X : qX} {v : Nat} {I : qI} {t : Nat → Int32} {j : Nat} (h : RV X v I t j) {c : Nat} (hm : c < 8) : t (3350 + 3 * c + 2) = nI (cn t (3350 + 3 * c + 2)) ∧ 0 ≤ cn t (3350 + 3 * c + 2) ∧ cn t (3350 + 3 * c + 2) ≤ 255 := h.rg (rg_c2 c hm) (by decide)
theorem rg_w : ∀ i, i < 48 → rgT (3250 + i) = some (false, 0, 1) := by decide +kernel
theorem RV.r_w {X : qX} {v : Nat} {I : qI} {t : Nat → Int32} {j : Nat} (h : RV X v I t j) {i : Nat} (hm : i < 48) : t (3250 + i) = nI (cn t (3250 + i)) ∧ 0 ≤ cn t (3250 + i) ∧ cn t (3250 + i) ≤ 1 := h.rg (rg_w i hm) (by decide)
theorem rg_h : ∀ m, m < 12 → ∀ k, k < 6 → rgT (80 + 24 * m + 18 + k) = some (true, 0, 7099) := by decide +kernel
theorem RV.r_h {X : qX} {v : Nat} {I : qI} {t : Nat → Int32} {j : Nat} (h : RV X v I t j) {m k : Nat} (hm : m < 12) (hk : k < 6) : t (80 + 24 * m + 18 + k) = -1 ∨ (t (80 + 24 * m + 18 + k) = nI (cn t (80 + 24 * m + 18 + k)) ∧ 0 ≤ cn t (80 + 24 * m + 18 + k) ∧ cn t (80 + 24 * m + 18 + k) ≤ 7099) := h.rgm (rg_h m hm k hk) (by decide)
theorem RV.k0 {X : qX} {v : Nat} {I : qI} {t : Nat → Int32} {j : Nat} (h : RV X v I t j) : t 0 = nI (cn t 0) ∧ cn t 0 ≤ 7099 := ⟨(h.rg rg_sc.1 (by decide)).1, (h.rg rg_sc.1 (by decide)).2.2⟩
theorem RV.k0n {X : qX} {v : Nat} {I : qI} {t : Nat → Int32} {j : Nat} (h : RV X v I t j) (hv : v ≤ 130) : cn t 0 ≤ 6999 := (((h.2.2.1 0).2 rfl hv).cv (t := t) (by decide)).2.2
theorem RV.k1 {X : qX} {v : Nat} {I : qI} {t : Nat → Int32} {j : Nat} (h : RV X v I t j) : t 1 = nI (cn t 1) ∧ cn t 1 ≤ 6 := ⟨(h.rg rg_sc.2.1 (by decide)).1, (h.rg rg_sc.2.1 (by decide)).2.2⟩
theorem RV.k2 {X : qX} {v : Nat} {I : qI} {t : Nat → Int32} {j : Nat} (h : RV X v I t j) : t 2 = nI (cn t 2) ∧ cn t 2 ≤ 12 := ⟨(h.rg rg_sc.2.2.1 (by decide)).1, (h.rg rg_sc.2.2.1 (by decide)).2.2⟩
theorem RV.k3 {X : qX} {v : Nat} {I : qI} {t : Nat → Int32} {j : Nat} (h : RV X v I t j) : t 3 = nI (cn t 3) ∧ cn t 3 ≤ 60 := ⟨(h.rg rg_sc.2.2.2.1 (by decide)).1, (h.rg rg_sc.2.2.2.1 (by decide)).2.2⟩
theorem RV.k4 {X : qX} {v : Nat} {I : qI} {t : Nat → Int32} {j : Nat} (h : RV X v I t j) : t 4 = nI (cn t 4) ∧ cn t 4 ≤ 12 := ⟨(h.rg rg_sc.2.2.2.2.1 (by decide)).1, (h.rg rg_sc.2.2.2.2.1 (by decide)).2.2⟩
theorem RV.k5 {X : qX} {v : Nat} {I : qI} {t : Nat → Int32} {j : Nat} (h : RV X v I t j) : t 5 = nI (cn t 5) ∧ cn t 5 ≤ 16 := ⟨(h.rg rg_sc.2.2.2.2.2.1 (by decide)).1, (h.rg rg_sc.2.2.2.2.2.1 (by decide)).2.2⟩
theorem RV.k6 {X : qX} {v : Nat} {I : qI} {t : Nat → Int32} {j : Nat} (h : RV X v I t j) : t 6 = nI (cn t 6) ∧ cn t 6 ≤ 8 := ⟨(h.rg rg_sc.2.2.2.2.2.2.1 (by decide)).1, (h.rg rg_sc.2.2.2.2.2.2.1 (by decide)).2.2⟩
theorem RV.k7 {X : qX} {v : Nat} {I : qI} {t : Nat → Int32} {j : Nat} (h : RV X v I t j) : t 7 = nI (cn t 7) ∧ cn t 7 ≤ 9999 := ⟨(h.rg rg_sc.2.2.2.2.2.2.2.1 (by decide)).1, (h.rg rg_sc.2.2.2.2.2.2.2.1 (by decide)).2.2⟩
theorem RV.k8 {X : qX} {v : Nat} {I : qI} {t : Nat → Int32} {j : Nat} (h : RV X v I t j) : t 8 = nI (cn t 8) ∧ cn t 8 ≤ 99999 := ⟨(h.rg rg_sc.2.2.2.2.2.2.2.2.1 (by decide)).1, (h.rg rg_sc.2.2.2.2.2.2.2.2.1 (by decide)).2.2⟩
theorem RV.k9 {X : qX} {v : Nat} {I : qI} {t : Nat → Int32} {j : Nat} (h : RV X v I t j) : t 9 = nI (cn t 9) ∧ cn t 9 ≤ 9999 := ⟨(h.rg rg_sc.2.2.2.2.2.2.2.2.2 (by decide)).1, (h.rg rg_sc.2.2.2.2.2.2.2.2.2 (by decide)).2.2⟩
theorem rn_p2 : ∀ p, p < 8 → rgT (10 + 5 * p + 2) = none := by decide +kernel
theorem rn_p3 : ∀ p, p < 8 → rgT (10 + 5 * p + 3) = none := by decide +kernel
theorem rn_p4 : ∀ p, p < 8 → rgT (10 + 5 * p + 4) = none := by decide +kernel
theorem rn_m7 : ∀ m, m < 12 → rgT (80 + 24 * m + 7) = none := by decide +kernel
theorem rn_m8 : ∀ m, m < 12 → rgT (80 + 24 * m + 8) = none := by decide +kernel
theorem rn_d1 : ∀ d, d < 60 → rgT (370 + 8 * d + 1) = none := by decide +kernel
theorem rn_d2 : ∀ d, d < 60 → rgT (370 + 8 * d + 2) = none := by decide +kernel
theorem rn_d3 : ∀ d, d < 60 → rgT (370 + 8 * d + 3) = none := by decide +kernel
theorem rn_d4 : ∀ d, d < 60 → rgT (370 + 8 * d + 4) = none := by decide +kernel
theorem rn_d5 : ∀ d, d < 60 → rgT (370 + 8 * d + 5) = none := by decide +kernel
theorem rn_d7 : ∀ d, d < 60 → rgT (370 + 8 * d + 7) = none := by decide +kernel
theorem rn_k : ∀ m, m < 12 → ∀ k, k < 6 → rgT (80 + 24 * m + 12 + k) = none := by decide +kernel
theorem u_ib {c : Prop} [Decidable c] : ((if c then (1 : Int32) else 0) = 0) = ¬ c := by
  by_cases h : c <;> simp [h]
theorem u_n1 : nI 1 = (1 : Int32) := by decide +kernel
theorem u_rng {y : Int32} {c : Nat} (hc : c < 2 ^ 31) : (nI 0 ≤ y ∧ y ≤ nI c - nI 1) ↔ (nI 0 ≤ y ∧ y < nI c) := by
  refine and_congr_right fun h0 => ?_
  obtain ⟨k, hk, rfl⟩ := nI_of (x := y) (fun h => absurd (Int32.lt_of_le_of_lt h0 h) (by rw [nI_0]; exact Int32.lt_irrefl))
  rcases Nat.eq_zero_or_pos c with e | e
  · subst e
    rw [nI_ltI hk (by decide), show nI 0 - nI 1 = -1 by decide +kernel]
    refine ⟨fun h => ?_, fun h => absurd h (Nat.not_lt_zero _)⟩
    exact absurd (Int32.lt_of_le_of_lt h (show (-1 : Int32) < 0 by decide)) (nI_pos hk)
  · rw [u_sub (show 1 ≤ c from e), nI_leI hk (by omega), nI_ltI hk hc]
    omega
theorem u_idx {y : Int32} {c : Nat} (h : nI 0 ≤ y ∧ y < nI c) (hc : c < 2 ^ 31) : ∃ k, y = nI k ∧ k < c := by
  obtain ⟨k, hk, rfl⟩ := nI_of (x := y) (fun h' => absurd (Int32.lt_of_le_of_lt h.1 h') (by rw [nI_0]; exact Int32.lt_irrefl))
  exact ⟨k, rfl, (nI_ltI hk hc).mp h.2⟩
theorem u_idx' {k c : Nat} (h : k < c) (hc : c < 2 ^ 31) : nI 0 ≤ nI k ∧ nI k < nI c := ⟨nI_le (Nat.zero_le _) (by omega), nI_lt h hc⟩
theorem u_has {y z : Int32} {c : Nat} (hz : z = nI c) (hc : c < 2 ^ 31) : (if y < 0 then some (nI 0) else if z ≤ y then some (nI 0) else some (nI 1)) = some (if nI 0 ≤ y ∧ y < nI c then (1 : Int32) else 0) := by
  subst hz
  rw [nI_0]
  by_cases h1 : y < 0
  · rw [if_pos h1, if_neg (fun h => absurd (Int32.lt_of_le_of_lt h.1 h1) Int32.lt_irrefl)]
  · rw [if_neg h1]
    by_cases h2 : nI c ≤ y
    · rw [if_pos h2, if_neg (fun h => absurd (Int32.lt_of_lt_of_le h.2 h2) Int32.lt_irrefl)]
    · rw [if_neg h2, if_pos ⟨Int32.not_lt.mp h1, Int32.not_le.mp h2⟩]; rfl
theorem RV.hasM {X : qX} {v : Nat} {I : qI} {t : Nat → Int32} {j : Nat} (h : RV X v I t j) {a : Nat} (ha : a = v + 12) (y : Int32) : f_X2_has a y I = some (if nI 0 ≤ y ∧ y < nI (cn t 2) then 1 else 0) := by
  unfold f_X2_has
  exact u_has ((h.sc2 ha).trans h.k2.1) (by have := h.k2.2; omega)
theorem RV.hasS {X : qX} {v : Nat} {I : qI} {t : Nat → Int32} {j : Nat} (h : RV X v I t j) {a : Nat} (ha : a = v + 7) (y : Int32) : f_X8_has a y I = some (if nI 0 ≤ y ∧ y < nI (cn t 1) then 1 else 0) := by
  unfold f_X8_has
  exact u_has ((h.sc1 ha).trans h.k1.1) (by have := h.k1.2; omega)
theorem RV.hasD {X : qX} {v : Nat} {I : qI} {t : Nat → Int32} {j : Nat} (h : RV X v I t j) {a : Nat} (ha : a = v + 27) (y : Int32) : f_X1_has a y I = some (if nI 0 ≤ y ∧ y < nI (cn t 3) then 1 else 0) := by
  unfold f_X1_has
  exact u_has ((h.sc3 ha).trans h.k3.1) (by have := h.k3.2; omega)
theorem RV.hasT {X : qX} {v : Nat} {I : qI} {t : Nat → Int32} {j : Nat} (h : RV X v I t j) {a : Nat} (ha : a = v + 36) (y : Int32) : f_X7_has a y I = some (if nI 0 ≤ y ∧ y < nI (cn t 4) then 1 else 0) := by
  unfold f_X7_has
  exact u_has ((h.sc4 ha).trans h.k4.1) (by have := h.k4.2; omega)
theorem RV.isMan {X : qX} {v : Nat} {I J : qI} {j : Nat} (h : RV X v I (J 270) j) (y : Int32) : f_X12_isMan 269 y J = some (if nI 0 ≤ y ∧ y < nI (cn (J 270) 2) then 1 else 0) := by
  have hc := h.k2
  unfold f_X12_isMan
  rw [u_rd (by decide) (by decide), u_s1, hc.1, l64_0, u_isIn32, u_s1, u_bz, u_s1]
  simp only [u_rng (show cn (J 270) 2 < 2 ^ 31 by omega)]
theorem RV.isShop {X : qX} {v : Nat} {I J : qI} {j : Nat} (h : RV X v I (J 270) j) (y : Int32) : f_X12_isShop 269 y J = some (if nI 0 ≤ y ∧ y < nI (cn (J 270) 1) then 1 else 0) := by
  have hc := h.k1
  unfold f_X12_isShop
  rw [u_rd (by decide) (by decide), u_s1, hc.1, l64_0, u_isIn32, u_s1, u_bz, u_s1]
  simp only [u_rng (show cn (J 270) 1 < 2 ^ 31 by omega)]
theorem RV.isDue {X : qX} {v : Nat} {I J : qI} {j : Nat} (h : RV X v I (J 270) j) (y : Int32) : f_X12_isDue 269 y J = some (if nI 0 ≤ y ∧ y < nI (cn (J 270) 3) then 1 else 0) := by
  have hc := h.k3
  unfold f_X12_isDue
  rw [u_rd (by decide) (by decide), u_s1, hc.1, l64_0, u_isIn32, u_s1, u_bz, u_s1]
  simp only [u_rng (show cn (J 270) 3 < 2 ^ 31 by omega)]
theorem RV.isText {X : qX} {v : Nat} {I J : qI} {j : Nat} (h : RV X v I (J 270) j) (y : Int32) : f_X12_isText 269 y J = some (if nI 0 ≤ y ∧ y < nI (cn (J 270) 4) then 1 else 0) := by
  have hc := h.k4
  unfold f_X12_isText
  rw [u_rd (by decide) (by decide), u_s1, hc.1, l64_0, u_isIn32, u_s1, u_bz, u_s1]
  simp only [u_rng (show cn (J 270) 4 < 2 ^ 31 by omega)]
theorem RV.gone {X : qX} {v : Nat} {I : qI} {t : Nat → Int32} {j : Nat} (h : RV X v I t j) {a m : Nat} (ha : a = v + 12) (hm : m < 12) : f_X2_isGone a (nI m) I = some (if t (80 + 24 * m + 9) = 0 then 0 else 1) := by
  unfold f_X2_isGone
  rw [u_rd hm (by decide), u_s1, h.m9 (by omega) hm]
  by_cases e : t (80 + 24 * m + 9) = 0
  · rw [if_pos e, if_pos e]; rfl
  · rw [if_neg e, if_neg e]; rfl
theorem RV.is01 {X : qX} {v : Nat} {I : qI} {t : Nat → Int32} {j : Nat} (h : RV X v I t j) {n : Nat} (hn : rgT n = some (false, 0, 1)) : t n = 0 ∨ t n = 1 := by
  obtain ⟨a, -, b⟩ := h.rg hn (by decide)
  rcases (show cn t n = 0 ∨ cn t n = 1 by omega) with e | e
  · left; rw [a, e]; rfl
  · right; rw [a, e]; rfl
theorem RV.goneJ {X : qX} {v : Nat} {I J : qI} {j : Nat} (h : RV X v I (J 270) j) {m : Nat} (hm : m < 12) : f_X12_isGone 269 (nI m) J = some (if J 270 (80 + 24 * m + 9) = 0 then 0 else 1) := by
  unfold f_X12_isGone f_X12_manAt
  rw [u_s1, u_mul, nI_add, nI_add, u_rd (by omega) (by decide), u_s1]
  rcases h.is01 (rg_m9 m hm) with e | e
  · rw [e]; rfl
  · rw [e]; rfl
theorem RV.townJ {X : qX} {v : Nat} {I J : qI} {j : Nat} (h : RV X v I (J 270) j) {k : Nat} (hk : k < 6) : f_X12_isTown 269 (nI k) J = some (if J 270 (50 + 4 * k) = 0 then 0 else 1) := by
  unfold f_X12_isTown f_X12_shopAt
  rw [u_s1, u_mul, nI_add, u_rd (by omega) (by decide), u_s1]
  rcases h.is01 (rg_s0 k hk) with e | e
  · rw [e]; rfl
  · rw [e]; rfl
theorem RV.wg {X : qX} {v : Nat} {I : qI} {t : Nat → Int32} {j : Nat} (h : RV X v I t j) {m : Nat} (hm : m < cn t 2) : t (80 + 24 * m + 10) = nI (cn t (80 + 24 * m + 10)) ∧ cn t (80 + 24 * m + 10) < cn t 3 := by
  have h0 := h.2.2.2.1
  have b := h0.1.2.1
  exact ⟨(h.r_m10 (by omega)).1, (h0.2.1 m hm).2.1⟩
theorem RV.db {X : qX} {v : Nat} {I : qI} {t : Nat → Int32} {j : Nat} (h : RV X v I t j) {m : Nat} (hm : m < cn t 2) : t (80 + 24 * m + 11) = nI (cn t (80 + 24 * m + 11)) ∧ cn t (80 + 24 * m + 11) < cn t 3 := by
  have h0 := h.2.2.2.1
  have b := h0.1.2.1
  exact ⟨(h.r_m11 (by omega)).1, (h0.2.1 m hm).2.2.1⟩
theorem RV.bd {X : qX} {v : Nat} {I : qI} {t : Nat → Int32} {j : Nat} (h : RV X v I t j) : cn t 1 ≤ 6 ∧ cn t 2 ≤ 12 ∧ cn t 3 ≤ 60 := h.2.2.2.1.1
theorem RV.earned {X : qX} {v : Nat} {I : qI} {t : Nat → Int32} {j : Nat} (h : RV X v I t j) {a m : Nat} (ha : a = v) (hm : m < cn t 2) : f_X9_earned a (nI m) I = some (t (370 + 8 * cn t (80 + 24 * m + 10) + 2)) := by
  have b := h.bd
  obtain ⟨e1, e2⟩ := h.wg hm
  unfold f_X9_earned
  rw [u_rd (by omega) (by decide), u_s1, h.m10 (by omega) (by omega), e1, u_rd (by omega) (by decide), u_s1, h.d2 (by omega) (by omega)]
theorem RV.owed {X : qX} {v : Nat} {I : qI} {t : Nat → Int32} {j : Nat} (h : RV X v I t j) {a m : Nat} (ha : a = v) (hm : m < cn t 2) : f_X9_owed a (nI m) I = some (t (370 + 8 * cn t (80 + 24 * m + 11) + 2)) := by
  have b := h.bd
  obtain ⟨e1, e2⟩ := h.db hm
  unfold f_X9_owed
  rw [u_rd (by omega) (by decide), u_s1, h.m11 (by omega) (by omega), e1, u_rd (by omega) (by decide), u_s1, h.d2 (by omega) (by omega)]
theorem RV.earnedJ {X : qX} {v : Nat} {I J : qI} {j : Nat} (h : RV X v I (J 270) j) {m : Nat} (hm : m < cn (J 270) 2) : f_X12_earned 269 (nI m) J = some (J 270 (370 + 8 * cn (J 270) (80 + 24 * m + 10) + 2)) := by
  have b := h.bd
  obtain ⟨e1, e2⟩ := h.wg hm
  unfold f_X12_earned f_X12_manAt f_X12_dueAt
  simp only [u_s1, u_mul, nI_add]
  rw [u_rd (by omega) (by decide), u_s1, e1, u_mul, nI_add, nI_add, u_rd (by omega) (by decide), u_s1]
theorem RV.owedJ {X : qX} {v : Nat} {I J : qI} {j : Nat} (h : RV X v I (J 270) j) {m : Nat} (hm : m < cn (J 270) 2) : f_X12_owedBy 269 (nI m) J = some (J 270 (370 + 8 * cn (J 270) (80 + 24 * m + 11) + 2)) := by
  have b := h.bd
  obtain ⟨e1, e2⟩ := h.db hm
  unfold f_X12_owedBy f_X12_manAt f_X12_dueAt
  simp only [u_s1, u_mul, nI_add]
  rw [u_rd (by omega) (by decide), u_s1, e1, u_mul, nI_add, nI_add, u_rd (by omega) (by decide), u_s1]
theorem q_least (x y : Int32) : f_X12_least x y = some (q_min x y) := by
  unfold f_X12_least q_min
  by_cases h : y ≤ x
  · rw [if_pos h]
    by_cases h2 : y < x
    · rw [if_pos h2]
    · rw [if_neg h2, Int32.le_antisymm h (Int32.not_lt.mp h2)]
  · rw [if_neg h, if_neg (fun h2 => h (Int32.le_of_lt h2))]
theorem RV.getCoin {X : qX} {v : Nat} {I : qI} {t : Nat → Int32} {j : Nat} (h : RV X v I t j) {a m : Nat} (ha : a = v + 12) (hm : m < 12) (x : Int32) : f_X2_getCoin a (nI m) x I = some (q_up I (v + 17) m (q_min (nI 99999) (t (80 + 24 * m + 4) + x))) := by
  subst ha
  unfold f_X2_getCoin
  rw [u_rd hm (by decide), u_s1, h.m4 (by omega) hm, u_wr hm (by decide), u_s1]
theorem RV.getChecks {X : qX} {v : Nat} {I : qI} {t : Nat → Int32} {j : Nat} (h : RV X v I t j) {a m : Nat} (ha : a = v + 12) (hm : m < 12) (x : Int32) : f_X2_getChecks a (nI m) x I = some (q_up I (v + 18) m (q_min (nI 99999) (t (80 + 24 * m + 5) + x))) := by
  subst ha
  unfold f_X2_getChecks
  rw [u_rd hm (by decide), u_s1, h.m5 (by omega) hm, u_wr hm (by decide), u_s1]
theorem RV.getsJ {J : qI} {m w : Nat} (hm : m < 12) (hw : w < 24) (x : Int32) : f_X12_gets 269 (nI m) (nI w) x J = some (q_up J 270 (80 + 24 * m + w) (q_min (nI 99999) (J 270 (80 + 24 * m + w) + x))) := by
  unfold f_X12_gets f_X12_manAt
  simp only [u_s1, u_mul, nI_add]
  rw [u_rd (by omega) (by decide), u_s1, q_least, u_s1, u_wr (by omega) (by decide), u_s1]
