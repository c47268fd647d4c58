/-! LEVEL B: rounds: all orders against branch and bound -/
def sb (a R : Nat) : Prop := a ||| R = R
theorem sb_or {a b R : Nat} (h : sb (a ||| b) R) : sb a R ∧ sb b R := by
  unfold sb at *
  constructor
  · rw [← h, ← Nat.or_assoc, ← Nat.or_assoc, Nat.or_self]
  · rw [← h, ← Nat.or_assoc, ← Nat.or_assoc, Nat.or_comm b a, Nat.or_assoc a b b, Nat.or_self]
theorem or_sb {a b R : Nat} (h1 : sb a R) (h2 : sb b R) : sb (a ||| b) R := by
  unfold sb at *
  rw [Nat.or_assoc, h2, h1]
theorem sb_pc {a R : Nat} (h : sb a R) : pcn 16 a ≤ pcn 16 R := by
  have := pcn_mono 16 a R
  rw [show a ||| R = R from h] at this
  exact this
/-- best (one more than the number, 0: none yet) and its order -/
def lf (m code : Nat) (s : Nat × Nat) : Nat × Nat := if s.1 ≤ pcn 16 m then (pcn 16 m + 1, code) else s
/-- every order, r days from day k on -/
def ex (M : Nat → Nat) : Nat → Nat → Nat → Nat → Nat × Nat → Nat × Nat
  | 0, _, had, code, s => lf had code s
  | r + 1, k, had, code, s => ex M r (k + 1) (had ||| M (4 * k + 3)) (4 * code + 3) (ex M r (k + 1) (had ||| M (4 * k + 2)) (4 * code + 2) (ex M r (k + 1) (had ||| M (4 * k + 1)) (4 * code + 1) (ex M r (k + 1) (had ||| M (4 * k)) (4 * code) s)))
/-- what r days from day k on can add at most -/
def rs (M : Nat → Nat) : Nat → Nat → Nat
  | 0, _ => 0
  | r + 1, k => rs M r (k + 1) ||| M (4 * k) ||| M (4 * k + 1) ||| M (4 * k + 2) ||| M (4 * k + 3)
theorem ex_pr (M : Nat → Nat) : ∀ r k had code s R, sb (had ||| rs M r k) R → pcn 16 R < s.1 → ex M r k had code s = s := by
  intro r
  induction r with
  | zero =>
    intro k had code s R h1 h2
    show lf had code s = s
    unfold lf
    have := sb_pc (sb_or h1).1
    rw [if_neg (by omega)]
  | succ r ih =>
    intro k had code s R h1 h2
    obtain ⟨a0, a1⟩ := sb_or h1
    have a1' : sb (rs M r (k + 1) ||| M (4 * k) ||| M (4 * k + 1) ||| M (4 * k + 2) ||| M (4 * k + 3)) R := a1
    obtain ⟨b3, m3⟩ := sb_or a1'
    obtain ⟨b2, m2⟩ := sb_or b3
    obtain ⟨b1, m1⟩ := sb_or b2
    obtain ⟨b0, m0⟩ := sb_or b1
    show ex M r (k + 1) (had ||| M (4 * k + 3)) (4 * code + 3) (ex M r (k + 1) (had ||| M (4 * k + 2)) (4 * code + 2) (ex M r (k + 1) (had ||| M (4 * k + 1)) (4 * code + 1) (ex M r (k + 1) (had ||| M (4 * k)) (4 * code) s))) = s
    rw [ih (k + 1) (had ||| M (4 * k)) (4 * code) s R (or_sb (or_sb a0 m0) b0) h2, ih (k + 1) (had ||| M (4 * k + 1)) (4 * code + 1) s R (or_sb (or_sb a0 m1) b0) h2, ih (k + 1) (had ||| M (4 * k + 2)) (4 * code + 2) s R (or_sb (or_sb a0 m2) b0) h2, ih (k + 1) (had ||| M (4 * k + 3)) (4 * code + 3) s R (or_sb (or_sb a0 m3) b0) h2]
/-- branch and bound -/
def bb (M : Nat → Nat) : Nat → Nat → Nat → Nat → Nat × Nat → Nat × Nat
  | 0, k, had, code, s => if s.1 ≤ pcn 16 (had ||| rs M 0 k) then (pcn 16 had + 1, code) else s
  | r + 1, k, had, code, s => if s.1 ≤ pcn 16 (had ||| rs M (r + 1) k) then bb M r (k + 1) (had ||| M (4 * k + 3)) (4 * code + 3) (bb M r (k + 1) (had ||| M (4 * k + 2)) (4 * code + 2) (bb M r (k + 1) (had ||| M (4 * k + 1)) (4 * code + 1) (bb M r (k + 1) (had ||| M (4 * k)) (4 * code) s))) else s
theorem bb_ex (M : Nat → Nat) : ∀ r k had code s, bb M r k had code s = ex M r k had code s := by
  intro r
  induction r with
  | zero =>
    intro k had code s
    show (if s.1 ≤ pcn 16 (had ||| 0) then (pcn 16 had + 1, code) else s) = lf had code s
    rw [Nat.or_zero]
    rfl
  | succ r ih =>
    intro k had code s
    show (if s.1 ≤ pcn 16 (had ||| rs M (r + 1) k) then bb M r (k + 1) (had ||| M (4 * k + 3)) (4 * code + 3) (bb M r (k + 1) (had ||| M (4 * k + 2)) (4 * code + 2) (bb M r (k + 1) (had ||| M (4 * k + 1)) (4 * code + 1) (bb M r (k + 1) (had ||| M (4 * k)) (4 * code) s))) else s) = _
    by_cases q : s.1 ≤ pcn 16 (had ||| rs M (r + 1) k)
    · rw [if_pos q, ih, ih, ih, ih]; rfl
    · rw [if_neg q]
      exact (ex_pr M (r + 1) k had code s (had ||| rs M (r + 1) k) (Nat.or_self _) (by omega)).symm
