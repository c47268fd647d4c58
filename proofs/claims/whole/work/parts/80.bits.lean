/-! LEVEL B: bits that are set -/
theorem n_and (a b : Nat) : nI a &&& nI b = nI (a &&& b) := by
  apply Int32.toBitVec_inj.mp
  rw [Int32.toBitVec_and]
  exact BitVec.ofNat_and.symm
theorem n_or (a b : Nat) : nI a ||| nI b = nI (a ||| b) := by
  apply Int32.toBitVec_inj.mp
  rw [Int32.toBitVec_or]
  exact BitVec.ofNat_or.symm
def pcn : Nat → Nat → Nat
  | 0, _ => 0
  | r + 1, m => m % 2 + pcn r (m / 2)
theorem pcn_mono : ∀ r a b, pcn r a ≤ pcn r (a ||| b) := by
  intro r
  induction r with
  | zero => intro a b; exact Nat.le_refl _
  | succ r ih =>
    intro a b
    show a % 2 + pcn r (a / 2) ≤ (a ||| b) % 2 + pcn r ((a ||| b) / 2)
    have h1 : a % 2 ≤ (a ||| b) % 2 := by
      rcases Nat.mod_two_eq_zero_or_one a with z | z
      · omega
      · have : (a ||| b) % 2 = 1 := by rw [Nat.or_mod_two_eq_one]; exact Or.inl z
        omega
    have h2 : (a ||| b) / 2 = a / 2 ||| b / 2 := Nat.or_div_two
    rw [h2]
    have := ih (a / 2) (b / 2)
    omega
theorem pcn_le : ∀ r m, pcn r m ≤ r := by
  intro r
  induction r with
  | zero => intro m; exact Nat.le_refl _
  | succ r ih =>
    intro m
    show m % 2 + pcn r (m / 2) ≤ r + 1
    have := ih (m / 2)
    omega
def bcN (m : Nat) : Nat :=
  let a := m - ((m >>> 1) &&& 1431655765)
  let b := (a &&& 858993459) + ((a >>> 2) &&& 858993459)
  let c := (b + (b >>> 4)) &&& 252645135
  let d := c + (c >>> 8)
  (d + (d >>> 16)) &&& 63
def bcC : Nat → Nat → Bool
  | 0, _ => true
  | n + 1, m => Nat.beq (bcN m) (pcn 16 m) && bcC n (m + 1)
theorem bcC_s : ∀ n m, bcC n m = true → ∀ k, m ≤ k → k < m + n → bcN k = pcn 16 k := by
  intro n
  induction n with
  | zero => intro m _ k h1 h2; omega
  | succ n ih =>
    intro m h k h1 h2
    have h' : (Nat.beq (bcN m) (pcn 16 m) && bcC n (m + 1)) = true := h
    rw [Bool.and_eq_true] at h'
    by_cases e : k = m
    · rw [e]; exact Nat.eq_of_beq_eq_true h'.1
    · exact ih (m + 1) h'.2 k (by omega) (by omega)
theorem bc_0 : bcC 4096 0 = true := by decide +kernel
theorem bc_1 : bcC 4096 4096 = true := by decide +kernel
theorem bc_2 : bcC 4096 8192 = true := by decide +kernel
theorem bc_3 : bcC 4096 12288 = true := by decide +kernel
theorem bc_4 : bcC 4096 16384 = true := by decide +kernel
theorem bc_5 : bcC 4096 20480 = true := by decide +kernel
theorem bc_6 : bcC 4096 24576 = true := by decide +kernel
theorem bc_7 : bcC 4096 28672 = true := by decide +kernel
theorem bc_8 : bcC 4096 32768 = true := by decide +kernel
theorem bc_9 : bcC 4096 36864 = true := by decide +kernel
theorem bc_10 : bcC 4096 40960 = true := by decide +kernel
theorem bc_11 : bcC 4096 45056 = true := by decide +kernel
theorem bc_12 : bcC 4096 49152 = true := by decide +kernel
theorem bc_13 : bcC 4096 53248 = true := by decide +kernel
theorem bc_14 : bcC 4096 57344 = true := by decide +kernel
theorem bc_15 : bcC 4096 61440 = true := by decide +kernel
