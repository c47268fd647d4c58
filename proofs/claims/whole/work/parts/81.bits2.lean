/-! LEVEL B: bits that are set, in both -/
theorem bcN_ok {m : Nat} (h : m < 65536) : bcN m = pcn 16 m := by
  rcases (show (m < 4096) ∨ (4096 ≤ m ∧ m < 8192) ∨ (8192 ≤ m ∧ m < 12288) ∨ (12288 ≤ m ∧ m < 16384) ∨ (16384 ≤ m ∧ m < 20480) ∨ (20480 ≤ m ∧ m < 24576) ∨ (24576 ≤ m ∧ m < 28672) ∨ (28672 ≤ m ∧ m < 32768) ∨ (32768 ≤ m ∧ m < 36864) ∨ (36864 ≤ m ∧ m < 40960) ∨ (40960 ≤ m ∧ m < 45056) ∨ (45056 ≤ m ∧ m < 49152) ∨ (49152 ≤ m ∧ m < 53248) ∨ (53248 ≤ m ∧ m < 57344) ∨ (57344 ≤ m ∧ m < 61440) ∨ (61440 ≤ m ∧ m < 65536) by omega) with q | q | q | q | q | q | q | q | q | q | q | q | q | q | q | q
  · exact bcC_s _ _ bc_0 m (by omega) (by omega)
  · exact bcC_s _ _ bc_1 m (by omega) (by omega)
  · exact bcC_s _ _ bc_2 m (by omega) (by omega)
  · exact bcC_s _ _ bc_3 m (by omega) (by omega)
  · exact bcC_s _ _ bc_4 m (by omega) (by omega)
  · exact bcC_s _ _ bc_5 m (by omega) (by omega)
  · exact bcC_s _ _ bc_6 m (by omega) (by omega)
  · exact bcC_s _ _ bc_7 m (by omega) (by omega)
  · exact bcC_s _ _ bc_8 m (by omega) (by omega)
  · exact bcC_s _ _ bc_9 m (by omega) (by omega)
  · exact bcC_s _ _ bc_10 m (by omega) (by omega)
  · exact bcC_s _ _ bc_11 m (by omega) (by omega)
  · exact bcC_s _ _ bc_12 m (by omega) (by omega)
  · exact bcC_s _ _ bc_13 m (by omega) (by omega)
  · exact bcC_s _ _ bc_14 m (by omega) (by omega)
  · exact bcC_s _ _ bc_15 m (by omega) (by omega)
theorem sh31 : ∀ k, k < 32 → ((nI k).toUInt32 &&& Int32.toUInt32 31).toNat % 32 = k := by decide +kernel
theorem n_u32 {a : Nat} (ha : a < 2 ^ 32) : (nI a).toUInt32.toNat = a := by
  show (BitVec.ofNat 32 a).toNat = a
  rw [BitVec.toNat_ofNat]
  exact Nat.mod_eq_of_lt ha
theorem n_ush {a k : Nat} (ha : a < 2 ^ 32) (hk : k < 32) : q_ush (nI a) (nI k) = nI (a >>> k) := by
  unfold q_ush
  apply Int32.toBitVec_inj.mp
  apply BitVec.eq_of_toNat_eq
  show ((nI a).toUInt32 >>> ((nI k).toUInt32 &&& Int32.toUInt32 31)).toNat = (BitVec.ofNat 32 (a >>> k)).toNat
  rw [UInt32.toNat_shiftRight, sh31 k hk, n_u32 ha, BitVec.toNat_ofNat]
  exact (Nat.mod_eq_of_lt (Nat.lt_of_le_of_lt (Nat.shiftRight_le a k) ha)).symm
theorem bc_ev {m : Nat} (h : m < 65536) : f_J6_bitCount_0f7a4 (nI m) = some (nI (pcn 16 m)) := by
  rw [← bcN_ok h]
  unfold f_J6_bitCount_0f7a4 bcN
  have l1 : (m >>> 1) &&& 1431655765 ≤ m := Nat.le_trans Nat.and_le_left (Nat.shiftRight_le m 1)
  rw [n_ush (a := m) (by omega) (by decide), n_and, u_sub l1]
  generalize ea : m - (m >>> 1 &&& 1431655765) = a
  have a32 : a < 65536 := by omega
  rw [n_ush (a := a) (by omega) (by decide), n_and, n_and, nI_add]
  have b1 : a &&& 858993459 ≤ a := Nat.and_le_left
  have b2 : a >>> 2 &&& 858993459 ≤ a := Nat.le_trans Nat.and_le_left (Nat.shiftRight_le a 2)
  generalize eb : (a &&& 858993459) + (a >>> 2 &&& 858993459) = b
  have b32 : b < 131072 := by omega
  rw [n_ush (a := b) (by omega) (by decide), nI_add, n_and]
  have c1 : (b + b >>> 4) &&& 252645135 ≤ b + b >>> 4 := Nat.and_le_left
  have c2 : b >>> 4 ≤ b := Nat.shiftRight_le b 4
  generalize ec : (b + b >>> 4) &&& 252645135 = c
  have c32 : c < 262144 := by omega
  have d2 : c >>> 8 ≤ c := Nat.shiftRight_le c 8
  rw [n_ush (a := c) (by omega) (by decide), nI_add, n_ush (a := c + c >>> 8) (by omega) (by decide), nI_add, n_and]
  subst ec eb ea
  rfl
theorem pcn_s : ∀ n m, pcn (n + 1) m = pcn n m + (m >>> n) % 2 := by
  intro n
  induction n with
  | zero => intro m; show m % 2 + 0 = 0 + (m >>> 0) % 2; rw [Nat.shiftRight_zero]; omega
  | succ n ih =>
    intro m
    show m % 2 + pcn (n + 1) (m / 2) = m % 2 + pcn n (m / 2) + (m >>> (n + 1)) % 2
    rw [ih (m / 2), Nat.shiftRight_succ_inside]
    omega
theorem sm31 : ∀ k, k < 32 → (nI k &&& 31).toBitVec.smod 32 = BitVec.ofNat 32 k := by decide +kernel
theorem n_sar {m i : Nat} (hm : m < 2 ^ 31) (hi : i < 32) : nI m >>> (nI i &&& 31) = nI (m >>> i) := by
  apply Int32.toBitVec_inj.mp
  rw [Int32.toBitVec_shiftRight, sm31 i hi, BitVec.sshiftRight_eq']
  have e1 : (BitVec.ofNat 32 i).toNat = i := by rw [BitVec.toNat_ofNat]; exact Nat.mod_eq_of_lt (by omega)
  have e2 : (nI m).toBitVec.toNat = m := by
    show (BitVec.ofNat 32 m).toNat = m
    rw [BitVec.toNat_ofNat]; exact Nat.mod_eq_of_lt (by omega)
  have msb : (nI m).toBitVec.msb = false := by
    rw [BitVec.msb_eq_false_iff_two_mul_lt, e2]; omega
  rw [e1, BitVec.sshiftRight_eq_of_msb_false msb]
  apply BitVec.eq_of_toNat_eq
  rw [BitVec.toNat_ushiftRight, e2]
  show m >>> i = (BitVec.ofNat 32 (m >>> i)).toNat
  rw [BitVec.toNat_ofNat]
  have := Nat.shiftRight_le m i
  exact (Nat.mod_eq_of_lt (by omega)).symm
theorem ones_ev {m : Nat} (h : m < 65536) : f_X12_ones (nI m) = some (nI (pcn 16 m)) := by
  unfold f_X12_ones
  refine u_seq (F := fun i => nI (pcn i m)) (n := 16) (fun k i hi => ?_) (fun k => ?_) 16 q_fu 0 rfl (by have := q_fu1; omega)
  · unfold b_X12_ones_4
    rw [if_neg (nI_ge hi (by decide)), n_sar (by omega) (by omega), n_and, Nat.and_one_is_mod, nI_add, nI_add]
    show k (nI (pcn i m + (m >>> i) % 2)) _ = k (nI (pcn (i + 1) m)) _
    rw [pcn_s]
  · unfold b_X12_ones_4
    rw [if_pos (Int32.le_refl _)]
