/-! LEVEL B: rounds: the orders one behind the other -/
def pm (M : Nat → Nat) : Nat → Nat → Nat
  | 0, _ => 0
  | k + 1, c => pm M k (c / 4) ||| M (4 * k + c % 4)
def fdl (M : Nat → Nat) (n : Nat) : Nat → Nat → Nat × Nat → Nat × Nat
  | 0, _, s => s
  | j + 1, a, s => fdl M n j (a + 1) (lf (pm M n a) a s)
theorem fdl_add (M : Nat → Nat) (n : Nat) : ∀ a b st s, fdl M n (a + b) st s = fdl M n b (st + a) (fdl M n a st s) := by
  intro a
  induction a with
  | zero => intro b st s; rw [Nat.zero_add]; rfl
  | succ a ih =>
    intro b st s
    rw [show a + 1 + b = (a + b) + 1 by omega]
    show fdl M n (a + b) (st + 1) (lf (pm M n st) st s) = fdl M n b (st + (a + 1)) (fdl M n a (st + 1) (lf (pm M n st) st s))
    rw [ih, show st + 1 + a = st + (a + 1) by omega]
theorem pm_s (M : Nat → Nat) (k code c : Nat) (hc : c < 4) : pm M (k + 1) (4 * code + c) = pm M k code ||| M (4 * k + c) := by
  show pm M k ((4 * code + c) / 4) ||| M (4 * k + (4 * code + c) % 4) = _
  rw [show (4 * code + c) / 4 = code by omega, show (4 * code + c) % 4 = c by omega]
theorem ex_fdl (M : Nat → Nat) (n : Nat) : ∀ r k code s, k + r = n → ex M r k (pm M k code) code s = fdl M n (4 ^ r) (code * 4 ^ r) s := by
  intro r
  induction r with
  | zero =>
    intro k code s h
    have : k = n := by omega
    subst this
    rw [Nat.pow_zero, Nat.mul_one]
    rfl
  | succ r ih =>
    intro k code s h
    show ex M r (k + 1) (pm M k code ||| M (4 * k + 3)) (4 * code + 3) (ex M r (k + 1) (pm M k code ||| M (4 * k + 2)) (4 * code + 2) (ex M r (k + 1) (pm M k code ||| M (4 * k + 1)) (4 * code + 1) (ex M r (k + 1) (pm M k code ||| M (4 * k)) (4 * code) s))) = _
    rw [← pm_s M k code 3 (by decide), ← pm_s M k code 2 (by decide), ← pm_s M k code 1 (by decide), show pm M k code ||| M (4 * k) = pm M (k + 1) (4 * code) from (pm_s M k code 0 (by decide)).symm]
    rw [ih (k + 1) (4 * code) s (by omega), ih (k + 1) (4 * code + 1) _ (by omega), ih (k + 1) (4 * code + 2) _ (by omega), ih (k + 1) (4 * code + 3) _ (by omega)]
    rw [show (4 : Nat) ^ (r + 1) = 4 ^ r + 4 ^ r + 4 ^ r + 4 ^ r by rw [Nat.pow_succ]; omega, fdl_add, fdl_add, fdl_add]
    have e0 : code * (4 ^ r + 4 ^ r + 4 ^ r + 4 ^ r) = 4 * code * 4 ^ r := by
      rw [show 4 ^ r + 4 ^ r + 4 ^ r + 4 ^ r = 4 * 4 ^ r by omega, ← Nat.mul_assoc, Nat.mul_comm code 4]
    have e1 : (4 * code + 1) * 4 ^ r = 4 * code * 4 ^ r + 4 ^ r := by rw [Nat.add_mul]; omega
    have e2 : (4 * code + 2) * 4 ^ r = 4 * code * 4 ^ r + (4 ^ r + 4 ^ r) := by rw [Nat.add_mul]; omega
    have e3 : (4 * code + 3) * 4 ^ r = 4 * code * 4 ^ r + (4 ^ r + 4 ^ r + 4 ^ r) := by rw [Nat.add_mul]; omega
    rw [e0, e1, e2, e3]
/-- branch and bound from the start is the row of all orders -/
theorem bb_all (M : Nat → Nat) (n : Nat) (s : Nat × Nat) : bb M n 0 0 0 s = fdl M n (4 ^ n) 0 s := by
  rw [bb_ex]
  have := ex_fdl M n n 0 0 s (Nat.zero_add _)
  rw [Nat.zero_mul] at this
  exact this
/-- the model's mask of an order, day by day -/
theorem pm_pre (M : Nat → Nat) {n c k : Nat} (hk : k < n) : pm M (k + 1) (c / 4 ^ (n - 1 - k)) = pm M k (c / 4 ^ (n - k)) ||| M (4 * k + c / 4 ^ (n - 1 - k) % 4) := by
  show pm M k (c / 4 ^ (n - 1 - k) / 4) ||| _ = _
  rw [Nat.div_div_eq_div_mul, ← Nat.pow_succ, show (n - 1 - k).succ = n - k by omega]
