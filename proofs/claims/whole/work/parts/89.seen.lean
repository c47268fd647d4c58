/-! LEVEL B: seen, at: the pairs -/
theorem fdl_ne (M : Nat → Nat) (n : Nat) : ∀ j a (s : Nat × Nat), s.1 ≠ 0 → (fdl M n j a s).1 ≠ 0 := by
  intro j
  induction j with
  | zero => intro a s h; exact h
  | succ j ih =>
    intro a s h
    refine ih (a + 1) (lf (pm M n a) a s) ?_
    unfold lf
    split
    · exact Nat.succ_ne_zero _
    · exact h
theorem fdl_n0 (M : Nat → Nat) (n : Nat) : (fdl M n (4 ^ n) 0 (0, 0)).1 ≠ 0 := by
  obtain ⟨j, hj⟩ : ∃ j, 4 ^ n = j + 1 := ⟨4 ^ n - 1, by have : 0 < 4 ^ n := Nat.pow_pos (by decide); omega⟩
  rw [hj]
  refine fdl_ne M n j 1 (lf (pm M n 0) 0 (0, 0)) ?_
  unfold lf
  rw [if_pos (Nat.zero_le _)]
  exact Nat.succ_ne_zero _
theorem fdl_c (M : Nat → Nat) (n B : Nat) : ∀ j a (s : Nat × Nat), a + j ≤ B → s.2 < B → (fdl M n j a s).2 < B := by
  intro j
  induction j with
  | zero => intro a s _ h; exact h
  | succ j ih =>
    intro a s h1 h
    refine ih (a + 1) (lf (pm M n a) a s) (by omega) ?_
    unfold lf
    split
    · show a < B; omega
    · exact h
theorem bo {X : qX} {I : qI} {t : Nat → Int32} {n : Nat} (h : RV X 65 I t 0) (hn : n ≤ 7) : ∃ I', f_X6_bestOf 109 (nI n) I = some (eb (fdl (fun i => mkM t i (cn t 5)) n (4 ^ n) 0 (0, 0)).1, I') ∧ SX 65 I I' ∧ RS n (fdl (fun i => mkM t i (cn t 5)) n (4 ^ n) 0 (0, 0)) I' := by
  have c16 := h.k5.2
  have fu := q_fu1
  have d20 : 20 < q_rd0 := by decide
  obtain ⟨I1, a1, a2, a3⟩ := zC (I0 := I) (n := n) 28 q_fu 0 I rfl (by omega) SX.rf (fun k hk => absurd hk (Nat.not_lt_zero _))
  obtain ⟨I2, b1, b2, b3⟩ := brC (n := n) h (cn t 5) q_fu 0 I1 (Nat.zero_add _) (by omega) a2 a3
  obtain ⟨I3, c1, c2, c3⟩ := rsC (M := fun i => mkM t i (cn t 5)) (I0 := I) hn n q_fu (q_up I2 114 n (nI 0)) (Nat.le_refl _) (by omega) (b2.up (o := 49) rfl (by decide) (by unfold scO; omega)) (fun i hi => by rw [u_up_a (by decide)]; exact b3 i hi) (fun m m1 m2 => by
    have : m = n := by omega
    rw [this, u_up_same, Nat.sub_self]; rfl)
  obtain ⟨I4, d1, d2, d3, d4, -⟩ := go_C (M := fun i => mkM t i (cn t 5)) hn (fun i _ => mkM_lt _ _ _ c16) (I0 := I) n q_rd0 0 0 0 (0, 0) (q_up I3 109 7 (-1)) (Nat.zero_add _) (by omega) (by decide) (by decide) (c2.up (o := 44) rfl (by decide) (by unfold scO; omega)) ⟨fun i hi => by rw [u_up_a (by decide)]; exact c3.1 i hi, fun i hi => by rw [u_up_a (by decide)]; exact c3.2 i hi⟩ ⟨u_up_same, fun q => absurd rfl q⟩ (fun i hi => absurd hi (Nat.not_lt_zero _))
  rw [bb_all] at d4
  refine ⟨I4, ?_, d2, d4⟩
  unfold f_X6_bestOf
  rw [a1, b1, u_wr (show n < 8 by omega) (by decide), u_s1, show q_up I2 (109 + 5) n (nI 0) = q_up I2 114 n (nI 0) from rfl, c1, u_s1, show f_X6_goRound q_rd0 109 (nI 0) (nI n) (nI 0) (q_up I3 109 7 (-1)) = some I4 from d1, u_s1, d4.1]
theorem W_seen {X : qX} (y1 : Int32) : P2 X (f_X11_seen 64 y1) (f_X12_seen 269 y1) := by
  intro I J h
  show G2 X I J (f_X11_seen 64 y1 I) (f_X12_seen 269 y1 J)
  unfold f_X11_seen f_X12_seen
  simp only [u_within, ii_1_7, u_s1, u_ib, ite_not]
  refine G2.ite (fun c1 => ?_) (fun _ => h.same _)
  obtain ⟨n, rfl, -, hn⟩ := u_range (by decide) c1.1 c1.2 (by decide)
  obtain ⟨I', k1, k2, k3⟩ := bo h.rv hn
  obtain ⟨J', z1, z2, z3⟩ := fr_M h.rv hn
  rw [show f_X6_bestOf (64 + 45) (nI n) I = _ from k1, z1, u_s2, u_s2]
  exact h.sx k2 z2 rfl
theorem W_at {X : qX} (y1 y2 : Int32) : P2 X (f_X11_at 64 y1 y2 X) (f_X12_at 269 y1 y2) := by
  intro I J h
  show G2 X I J (f_X11_at 64 y1 y2 X I) (f_X12_at 269 y1 y2 J)
  unfold f_X11_at f_X12_at
  simp only [u_within, ii_1_7, l64_0, u_isIn32, u_s1, u_ib, ite_not]
  refine G2.ite (fun c1 => ?_) (fun _ => h.same _)
  refine G2.ite (fun c2 => ?_) (fun _ => h.same _)
  obtain ⟨n, rfl, n1, hn⟩ := u_range (by decide) c1.1 c1.2 (by decide)
  rw [u_sub n1] at c2
  obtain ⟨i, rfl, -, hi⟩ := u_range (by omega) c2.1 c2.2 (by decide)
  obtain ⟨I', k1, k2, k3⟩ := bo h.rv hn
  obtain ⟨J', z1, z2, z3⟩ := fr_M h.rv hn
  have p7 : 4 ^ n ≤ 16384 := by
    have : (4 : Nat) ^ n ≤ 4 ^ 7 := Nat.pow_le_pow_right (by decide) hn
    omega
  have cl := fdl_c (fun i => mkM (J 270) i (cn (J 270) 5)) n (4 ^ n) (4 ^ n) 0 (0, 0) (by omega) (Nat.pow_pos (by decide))
  have n0 := fdl_n0 (fun i => mkM (J 270) i (cn (J 270) 5)) n
  rw [show f_X6_bestOf (64 + 45) (nI n) I = _ from k1, z1, u_s2, u_s2, u_looked (h.1.k (a := 64 + 52) (k := 52) rfl rfl) (show i < 7 by omega) (by decide), u_s1, z3 n0]
  refine h.sx k2 z2 ?_
  rw [show I' (64 + 52) i = _ from k3.2 n0 i (by omega), u_sub n1, u_sub hi, u_mul, n_sar (by omega) (by omega), n_and, show (3 : Nat) = 2 ^ 2 - 1 from rfl, Nat.and_two_pow_sub_one_eq_mod, Nat.shiftRight_eq_div_pow, Nat.pow_mul]
