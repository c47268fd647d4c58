/-! LEVEL B: rounds: the class's search -/
/-- the state of the class's search -/
def RS (n : Nat) (s : Nat × Nat) (I : qI) : Prop := I 109 7 = eb s.1 ∧ (s.1 ≠ 0 → ∀ i, i < n → I 116 i = nI (s.2 / 4 ^ (n - 1 - i) % 4))
def TB (M : Nat → Nat) (n : Nat) (I : qI) : Prop := (∀ i, i < 28 → I 113 i = nI (M i)) ∧ ∀ k, k ≤ n → I 114 k = nI (rs M (n - k) k)
theorem rs_lt {M : Nat → Nat} (hM : ∀ i, i < 28 → M i < 2 ^ 16) : ∀ r k, k + r ≤ 7 → rs M r k < 2 ^ 16 := by
  intro r
  induction r with
  | zero => intro k _; exact (by decide : 0 < 2 ^ 16)
  | succ r ih =>
    intro k hk
    show rs M r (k + 1) ||| M (4 * k) ||| M (4 * k + 1) ||| M (4 * k + 2) ||| M (4 * k + 3) < 2 ^ 16
    exact Nat.or_lt_two_pow (Nat.or_lt_two_pow (Nat.or_lt_two_pow (Nat.or_lt_two_pow (ih _ (by omega)) (hM _ (by omega))) (hM _ (by omega))) (hM _ (by omega))) (hM _ (by omega))
theorem cp7 {I : qI} {a b c : Nat} (hc : c ≤ 7) : q_cp I a 7 (nI 0) b 7 (nI 0) (nI c) = some (q_upA I b (va_cpy (I a) (I b) 0 0 c)) := by
  unfold q_cp
  rw [nI_clamp (show 0 < 2 ^ 31 by decide), nI_clamp (show c < 2 ^ 31 by omega), if_neg (by
      rintro ((q | q | q) | q | q)
      · exact nI_pos (by decide) q
      · exact nI_pos (by decide) q
      · exact nI_pos (by omega) q
      · omega
      · omega)]
theorem eb_lt {p b : Nat} (hp : p ≤ 16) (hb : b ≤ 17) : (eb b < nI p) ↔ b ≤ p := by
  have := eb_le hp hb
  constructor
  · intro q
    rcases Nat.lt_or_ge p b with z | z
    · exact absurd q (Int32.not_lt.mpr (this.mpr (by omega)))
    · exact z
  · intro q
    exact Int32.not_le.mp (fun z => this.mp z q)
theorem bb_le (M : Nat → Nat) : ∀ r k had code s, s.1 ≤ 17 → (bb M r k had code s).1 ≤ 17 := by
  intro r
  induction r with
  | zero =>
    intro k had code s h
    show (if _ then (pcn 16 had + 1, code) else s).1 ≤ 17
    split
    · have := pcn_le 16 had; show pcn 16 had + 1 ≤ 17; omega
    · exact h
  | succ r ih =>
    intro k had code s h
    show (if _ then _ else s).1 ≤ 17
    split
    · exact ih _ _ _ _ (ih _ _ _ _ (ih _ _ _ _ (ih _ _ _ _ h)))
    · exact h
theorem go_C {M : Nat → Nat} {n : Nat} (hn : n ≤ 7) (hM : ∀ i, i < 28 → M i < 2 ^ 16) {I0 : qI} : ∀ r d k had code s I, k + r = n → r < d → had < 2 ^ 16 → s.1 ≤ 17 → SX 65 I0 I → TB M n I → RS n s I → (∀ i, i < k → I 115 i = nI (code / 4 ^ (k - 1 - i) % 4)) → ∃ I', G_X6_goRound d 109 (nI k) (nI n) (nI had) I = some I' ∧ SX 65 I0 I' ∧ TB M n I' ∧ RS n (bb M r k had code s) I' ∧ ∀ i, i < k → I' 115 i = I 115 i := by
  intro r
  induction r with
  | zero =>
    intro d k had code s I h1 h2 hh hs hx ht hr ho
    obtain ⟨d, rfl⟩ : ∃ z, d = z + 1 := ⟨d - 1, by omega⟩
    have e : k = n := by omega
    subst e
    have e0 : I 114 k = nI 0 := by rw [ht.2 k (Nat.le_refl _), Nat.sub_self]; rfl
    show ∃ I', B_X6_goRound (G_X6_goRound d) 109 (nI k) (nI k) (nI had) I = some I' ∧ _
    show ∃ I', B_X6_goRound (G_X6_goRound d) 109 (nI k) (nI k) (nI had) I = some I' ∧ SX 65 I0 I' ∧ TB M k I' ∧ RS k (if s.1 ≤ pcn 16 (had ||| 0) then (pcn 16 had + 1, code) else s) I' ∧ _
    unfold B_X6_goRound
    rw [u_rd (show k < 8 by omega) (by decide), u_s1, show I (109 + 5) k = nI 0 from e0, n_or, Nat.or_zero, bc_ev (by omega), u_s1, u_s1, u_s1, hr.1]
    by_cases q : s.1 ≤ pcn 16 had
    rotate_left
    · rw [if_neg (fun z => q ((eb_lt (pcn_le 16 had) hs).mp z)), if_neg q]
      exact ⟨I, rfl, hx, ht, hr, fun _ _ => rfl⟩
    · rw [if_pos ((eb_lt (pcn_le 16 had) hs).mpr q), if_pos q, if_neg (fun z => Int32.lt_irrefl z), cp7 hn, u_s1]
      have s1 : SX 65 I0 (q_up I 109 7 (nI (pcn 16 had))) := hx.up (o := 44) rfl (by decide) (by unfold scO; omega)
      have ne : ∀ a, a ≠ 116 → q_upA (q_up I 109 7 (nI (pcn 16 had))) (109 + 7) (va_cpy (q_up I 109 7 (nI (pcn 16 had)) (109 + 6)) (q_up I 109 7 (nI (pcn 16 had)) (109 + 7)) 0 0 k) a = q_up I 109 7 (nI (pcn 16 had)) a := fun a ha => by
        unfold q_upA
        rw [if_neg ha]
      refine ⟨_, rfl, s1.upA (o := 51) rfl (by decide), ⟨fun i hi => ?_, fun i hi => ?_⟩, ⟨?_, fun _ i hi => ?_⟩, fun i hi => ?_⟩
      · rw [ne 113 (by decide), u_up_a (by decide)]; exact ht.1 i hi
      · rw [ne 114 (by decide), u_up_a (by decide)]; exact ht.2 i hi
      · rw [ne 109 (by decide), u_up_same]
        show _ = eb (pcn 16 had + 1)
        unfold eb
        rw [if_neg (by omega), Nat.add_sub_cancel]
      · show va_cpy (q_up I 109 7 (nI (pcn 16 had)) 115) (q_up I 109 7 (nI (pcn 16 had)) 116) 0 0 k i = _
        unfold va_cpy
        rw [if_pos (by omega), show 0 + (i - 0) = i by omega, u_up_a (by decide)]
        exact ho i hi
      · rw [ne 115 (by decide), u_up_a (by decide)]
  | succ r ih =>
    intro d k had code s I h1 h2 hh hs hx ht hr ho
    obtain ⟨d, rfl⟩ : ∃ z, d = z + 1 := ⟨d - 1, by omega⟩
    have one : ∀ c s I, c < 4 → s.1 ≤ 17 → SX 65 I0 I → TB M n I → RS n s I → (∀ i, i < k → I 115 i = nI (code / 4 ^ (k - 1 - i) % 4)) → ∃ I', (∀ K, b_X6_goRound_50 109 (nI k) (nI n) (nI had) (G_X6_goRound d) K (nI c) I = K (nI (c + 1)) I') ∧ SX 65 I0 I' ∧ TB M n I' ∧ RS n (bb M r (k + 1) (had ||| M (4 * k + c)) (4 * code + c) s) I' ∧ ∀ i, i < k → I' 115 i = I 115 i := by
      intro c s I hc hs hx ht hr ho
      obtain ⟨I', z1, z2, z3, z4, z5⟩ := ih d (k + 1) (had ||| M (4 * k + c)) (4 * code + c) s (q_up I 115 k (nI c)) (by omega) (by omega) (Nat.or_lt_two_pow hh (hM _ (by omega))) hs (hx.up (o := 50) rfl (by decide) (by unfold scO; omega)) ⟨fun i hi => by rw [u_up_a (by decide)]; exact ht.1 i hi, fun i hi => by rw [u_up_a (by decide)]; exact ht.2 i hi⟩ ⟨by rw [u_up_a (by decide)]; exact hr.1, fun q i hi => by rw [u_up_a (by decide)]; exact hr.2 q i hi⟩ (fun i hi => by
        by_cases e : i = k
        · rw [e, u_up_same, show k + 1 - 1 - k = 0 by omega, Nat.pow_zero, Nat.div_one, show (4 * code + c) % 4 = c by omega]
        · rw [u_up_j e, ho i (by omega), show k + 1 - 1 - i = (k - 1 - i) + 1 by omega, Nat.pow_succ, Nat.mul_comm (4 ^ (k - 1 - i)) 4, ← Nat.div_div_eq_div_mul, show (4 * code + c) / 4 = code by omega])
      refine ⟨I', fun K => ?_, z2, z3, z4, fun i hi => by rw [z5 i (by omega), u_up_j (by omega)]⟩
      unfold b_X6_goRound_50
      rw [if_neg (nI_ge hc (by decide)), u_wr (show k < 7 by omega) (by decide), u_s1, u_mul, nI_add, u_rd (show k * 4 + c < 28 by omega) (by decide), u_s1, u_up_a (show (109 + 4 : Nat) ≠ 109 + 6 by decide), show I (109 + 4) (k * 4 + c) = nI (M (4 * k + c)) by rw [Nat.mul_comm]; exact ht.1 _ (by omega), n_or, nI_add, nI_add, show G_X6_goRound d 109 (nI (k + 1)) (nI n) (nI (had ||| M (4 * k + c))) (q_up I (109 + 6) k (nI c)) = some I' from z1, u_s1]
    show ∃ I', B_X6_goRound (G_X6_goRound d) 109 (nI k) (nI n) (nI had) I = some I' ∧ SX 65 I0 I' ∧ TB M n I' ∧ RS n (if s.1 ≤ pcn 16 (had ||| rs M (r + 1) k) then bb M r (k + 1) (had ||| M (4 * k + 3)) (4 * code + 3) (bb M r (k + 1) (had ||| M (4 * k + 2)) (4 * code + 2) (bb M r (k + 1) (had ||| M (4 * k + 1)) (4 * code + 1) (bb M r (k + 1) (had ||| M (4 * k)) (4 * code) s))) else s) I' ∧ _
    have ek : I 114 k = nI (rs M (r + 1) k) := by rw [ht.2 k (by omega), show n - k = r + 1 by omega]
    have rl : had ||| rs M (r + 1) k < 65536 := Nat.or_lt_two_pow (n := 16) hh (rs_lt hM (r + 1) k (by omega))
    unfold B_X6_goRound
    rw [u_rd (show k < 8 by omega) (by decide), u_s1, show I (109 + 5) k = _ from ek, n_or, bc_ev rl, u_s1, hr.1]
    by_cases q : s.1 ≤ pcn 16 (had ||| rs M (r + 1) k)
    rotate_left
    · rw [if_neg (fun z => q ((eb_lt (pcn_le 16 _) hs).mp z)), if_neg q]
      exact ⟨I, rfl, hx, ht, hr, fun _ _ => rfl⟩
    rw [if_pos ((eb_lt (pcn_le 16 _) hs).mpr q), if_pos q, if_pos (nI_lt (by omega) (by omega))]
    obtain ⟨I1, a1, a2, a3, a4, a5⟩ := one 0 s I (by decide) hs hx ht hr ho
    obtain ⟨I2, b1, b2, b3, b4, b5⟩ := one 1 _ I1 (by decide) (bb_le M r _ _ _ s hs) a2 a3 a4 (fun i hi => (a5 i hi).trans (ho i hi))
    obtain ⟨I3, c1, c2, c3, c4, c5⟩ := one 2 _ I2 (by decide) (bb_le M r _ _ _ _ (bb_le M r _ _ _ s hs)) b2 b3 b4 (fun i hi => (b5 i hi).trans ((a5 i hi).trans (ho i hi)))
    obtain ⟨I4, d1, d2, d3, d4, d5⟩ := one 3 _ I3 (by decide) (bb_le M r _ _ _ _ (bb_le M r _ _ _ _ (bb_le M r _ _ _ s hs))) c2 c3 c4 (fun i hi => (c5 i hi).trans ((b5 i hi).trans ((a5 i hi).trans (ho i hi))))
    refine ⟨I4, ?_, d2, d3, d4, fun i hi => (d5 i hi).trans ((c5 i hi).trans ((b5 i hi).trans (a5 i hi)))⟩
    obtain ⟨f, hf⟩ : ∃ f, q_fu = f + 1 + 1 + 1 + 1 + 1 := ⟨q_fu - 5, by have := q_fu1; omega⟩
    rw [hf]
    generalize hb : b_X6_goRound_50 109 (nI k) (nI n) (nI had) (G_X6_goRound d) = B at *
    show B (q_fix (fun _ _ => none) B (f + 1 + 1 + 1 + 1)) (nI 0) I = _
    rw [a1]
    show B (q_fix (fun _ _ => none) B (f + 1 + 1 + 1)) (nI 1) I1 = _
    rw [b1]
    show B (q_fix (fun _ _ => none) B (f + 1 + 1)) (nI 2) I2 = _
    rw [c1]
    show B (q_fix (fun _ _ => none) B (f + 1)) (nI 3) I3 = _
    rw [d1]
    show B (q_fix (fun _ _ => none) B f) (nI 4) I4 = _
    rw [← hb]
    unfold b_X6_goRound_50
    rw [if_pos (Int32.le_refl _)]
