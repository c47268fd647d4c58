/-! LEVEL B: a day: news -/
def gB (t : Nat → Int32) (k p m : Nat) (x : Int32) : Int32 := if t (80 + 24 * m) = nI p ∧ t (80 + 24 * m + 9) = 0 ∧ ¬ t (80 + 24 * m + 18 + k) < 0 ∧ (x < 0 ∨ ¬ t (80 + 24 * m + 18 + k) ≤ t (80 + 24 * x.toNatClampNeg + 18 + k)) then nI m else x
def bF (t : Nat → Int32) (k p : Nat) : Nat → Int32
  | 0 => -1
  | i + 1 => gB t k p i (bF t k p i)
/-- who was found: a man of that pit that is not gone, and knows -/
def bP (t : Nat → Int32) (k p i : Nat) (x : Int32) : Prop := x = -1 ∨ ∃ q, q < i ∧ x = nI q ∧ t (80 + 24 * q) = nI p ∧ t (80 + 24 * q + 9) = 0 ∧ ¬ t (80 + 24 * q + 18 + k) < 0
theorem bF_P (t : Nat → Int32) (k p : Nat) : ∀ i, bP t k p i (bF t k p i) := by
  intro i
  induction i with
  | zero => exact Or.inl rfl
  | succ i ih =>
    show bP t k p (i + 1) (gB t k p i (bF t k p i))
    unfold gB
    by_cases c : t (80 + 24 * i) = nI p ∧ t (80 + 24 * i + 9) = 0 ∧ ¬ t (80 + 24 * i + 18 + k) < 0 ∧ (bF t k p i < 0 ∨ ¬ t (80 + 24 * i + 18 + k) ≤ t (80 + 24 * (bF t k p i).toNatClampNeg + 18 + k))
    · rw [if_pos c]
      exact Or.inr ⟨i, by omega, rfl, c.1, c.2.1, c.2.2.1⟩
    · rw [if_neg c]
      rcases ih with e | ⟨q, a, b⟩
      · exact Or.inl e
      · exact Or.inr ⟨q, by omega, b⟩
/-- what all know, the pairs of Q done -/
abbrev nwc (t : Nat → Int32) (Q : Nat → Nat → Bool) (m k : Nat) : Prop := m < cn t 2 ∧ Q m k = true ∧ t (80 + 24 * m + 9) = 0 ∧ ¬ bF t k (cn t (80 + 24 * m)) (cn t 2) < 0
def nwk (w : Nat) : Nat := if w < 18 then w - 12 else w - 18
def nwT (t : Nat → Int32) (Q : Nat → Nat → Bool) : Nat → Int32 := fun z => if (80 ≤ z ∧ z < 368 ∧ 12 ≤ (z - 80) % 24) ∧ nwc t Q ((z - 80) / 24) (nwk ((z - 80) % 24)) then t (80 + 24 * (bF t (nwk ((z - 80) % 24)) (cn t (80 + 24 * ((z - 80) / 24))) (cn t 2)).toNatClampNeg + (z - 80) % 24) else t z
theorem nw_o {t : Nat → Int32} {Q : Nat → Nat → Bool} {z : Nat} (h : z < 80 ∨ 368 ≤ z ∨ (z - 80) % 24 < 12) : nwT t Q z = t z := by
  unfold nwT
  rw [if_neg (fun q => by omega)]
theorem nw_cn {t : Nat → Int32} {Q : Nat → Nat → Bool} {z : Nat} (h : z < 80 ∨ 368 ≤ z ∨ (z - 80) % 24 < 12) : cn (nwT t Q) z = cn t z := by
  unfold cn; rw [nw_o h]
theorem nw_k {t : Nat → Int32} {Q : Nat → Nat → Bool} {m k : Nat} (hm : m < 12) (hk : k < 6) : nwT t Q (80 + 24 * m + 12 + k) = if nwc t Q m k then t (80 + 24 * (bF t k (cn t (80 + 24 * m)) (cn t 2)).toNatClampNeg + 12 + k) else t (80 + 24 * m + 12 + k) := by
  have e1 : (80 + 24 * m + 12 + k - 80) / 24 = m := by omega
  have e2 : (80 + 24 * m + 12 + k - 80) % 24 = 12 + k := by omega
  have e3 : nwk (12 + k) = k := by unfold nwk; rw [if_pos (by omega)]; omega
  unfold nwT
  rw [e1, e2, e3]
  by_cases c : nwc t Q m k
  · rw [if_pos ⟨by omega, c⟩, if_pos c]; exact congrArg t (by omega)
  · rw [if_neg (fun q => c q.2), if_neg c]
theorem nw_h {t : Nat → Int32} {Q : Nat → Nat → Bool} {m k : Nat} (hm : m < 12) (hk : k < 6) : nwT t Q (80 + 24 * m + 18 + k) = if nwc t Q m k then t (80 + 24 * (bF t k (cn t (80 + 24 * m)) (cn t 2)).toNatClampNeg + 18 + k) else t (80 + 24 * m + 18 + k) := by
  have e1 : (80 + 24 * m + 18 + k - 80) / 24 = m := by omega
  have e2 : (80 + 24 * m + 18 + k - 80) % 24 = 18 + k := by omega
  have e3 : nwk (18 + k) = k := by unfold nwk; rw [if_neg (by omega)]; omega
  unfold nwT
  rw [e1, e2, e3]
  by_cases c : nwc t Q m k
  · rw [if_pos ⟨by omega, c⟩, if_pos c]; exact congrArg t (by omega)
  · rw [if_neg (fun q => c q.2), if_neg c]
/-- two sets of pairs that agree on the men there are -/
theorem nw_cg {t : Nat → Int32} {Q Q' : Nat → Nat → Bool} (h : ∀ m k, m < cn t 2 → k < 6 → Q m k = Q' m k) : nwT t Q = nwT t Q' := by
  funext z
  unfold nwT
  by_cases c : 80 ≤ z ∧ z < 368 ∧ 12 ≤ (z - 80) % 24
  rotate_left
  · rw [if_neg (fun q => c q.1), if_neg (fun q => c q.1)]
  have hk : nwk ((z - 80) % 24) < 6 := by unfold nwk; by_cases d : (z - 80) % 24 < 18 <;> simp only [d, if_true, if_false] <;> omega
  by_cases hm : (z - 80) / 24 < cn t 2
  · simp only [nwc, h _ _ hm hk]
  · rw [if_neg (fun q => hm q.2.1), if_neg (fun q => hm q.2.1)]
theorem nw_0 {t : Nat → Int32} {Q : Nat → Nat → Bool} (h : ∀ m k, m < cn t 2 → k < 6 → Q m k = false) : nwT t Q = t := by
  funext z
  unfold nwT
  by_cases c : 80 ≤ z ∧ z < 368 ∧ 12 ≤ (z - 80) % 24
  rotate_left
  · rw [if_neg (fun q => c q.1)]
  have hk : nwk ((z - 80) % 24) < 6 := by unfold nwk; by_cases d : (z - 80) % 24 < 18 <;> simp only [d, if_true, if_false] <;> omega
  rw [if_neg (fun q => by have := q.2.2.1; rw [h _ _ q.2.1 hk] at this; cases this)]
/-- one pair more -/
theorem nw_s {t : Nat → Int32} {Q Q' : Nat → Nat → Bool} {m k : Nat} (hm : m < cn t 2) (hm12 : cn t 2 ≤ 12) (hk : k < 6) (h : ∀ m' k', m' < cn t 2 → k' < 6 → (m' ≠ m ∨ k' ≠ k) → Q' m' k' = Q m' k') (hQ : Q' m k = true) : nwT t Q' = if t (80 + 24 * m + 9) = 0 ∧ ¬ bF t k (cn t (80 + 24 * m)) (cn t 2) < 0 then lnT (nwT t Q) m k (t (80 + 24 * (bF t k (cn t (80 + 24 * m)) (cn t 2)).toNatClampNeg + 12 + k)) (t (80 + 24 * (bF t k (cn t (80 + 24 * m)) (cn t 2)).toNatClampNeg + 18 + k)) else nwT t (fun a b => if a = m ∧ b = k then false else Q a b) := by
  funext z
  by_cases cz : 80 ≤ z ∧ z < 368 ∧ 12 ≤ (z - 80) % 24
  rotate_left
  · rw [nw_o (by omega)]
    by_cases c : t (80 + 24 * m + 9) = 0 ∧ ¬ bF t k (cn t (80 + 24 * m)) (cn t 2) < 0
    · rw [if_pos c]; unfold lnT; rw [upd_o (by omega), upd_o (by omega), nw_o (by omega)]
    · rw [if_neg c, nw_o (by omega)]
  obtain ⟨m', k', hm', hk', hz⟩ : ∃ m' k', m' < 12 ∧ k' < 6 ∧ (z = 80 + 24 * m' + 12 + k' ∨ z = 80 + 24 * m' + 18 + k') := by
    by_cases d : (z - 80) % 24 < 18
    · exact ⟨(z - 80) / 24, (z - 80) % 24 - 12, by omega, by omega, Or.inl (by omega)⟩
    · exact ⟨(z - 80) / 24, (z - 80) % 24 - 18, by omega, by omega, Or.inr (by omega)⟩
  by_cases e : m' = m ∧ k' = k
  · obtain ⟨rfl, rfl⟩ := e
    by_cases c : t (80 + 24 * m' + 9) = 0 ∧ ¬ bF t k' (cn t (80 + 24 * m')) (cn t 2) < 0
    · rw [if_pos c]
      unfold lnT
      rcases hz with rfl | rfl
      · rw [upd_o (by omega), upd_s, nw_k hm' hk', if_pos ⟨hm, hQ, c⟩]
      · rw [upd_s, nw_h hm' hk', if_pos ⟨hm, hQ, c⟩]
    · rw [if_neg c]
      rcases hz with rfl | rfl
      · rw [nw_k hm' hk', nw_k hm' hk', if_neg (fun q => c q.2.2), if_neg (fun q => c q.2.2)]
      · rw [nw_h hm' hk', nw_h hm' hk', if_neg (fun q => c q.2.2), if_neg (fun q => c q.2.2)]
  · have hne : m' ≠ m ∨ k' ≠ k := by omega
    have same : nwT t Q' z = nwT t Q z := by
      have ec : nwc t Q' m' k' ↔ nwc t Q m' k' := by
        constructor
        · intro q; exact ⟨q.1, by rw [← h m' k' q.1 hk' hne]; exact q.2.1, q.2.2⟩
        · intro q; exact ⟨q.1, by rw [h m' k' q.1 hk' hne]; exact q.2.1, q.2.2⟩
      rcases hz with rfl | rfl
      · rw [nw_k hm' hk', nw_k hm' hk']; simp only [ec]
      · rw [nw_h hm' hk', nw_h hm' hk']; simp only [ec]
    by_cases c : t (80 + 24 * m + 9) = 0 ∧ ¬ bF t k (cn t (80 + 24 * m)) (cn t 2) < 0
    · rw [if_pos c, same]
      unfold lnT
      rw [upd_o (by omega), upd_o (by omega)]
    · rw [if_neg c, same]
      have e2 : (if m' = m ∧ k' = k then false else Q m' k') = Q m' k' := if_neg e
      rcases hz with rfl | rfl
      · rw [nw_k hm' hk', nw_k hm' hk']; simp only [nwc, e2]
      · rw [nw_h hm' hk', nw_h hm' hk']; simp only [nwc, e2]
/-- who tells is sought alike, as long as the pit's men are not done -/
theorem bF_nw {t : Nat → Int32} {Q : Nat → Nat → Bool} {k p : Nat} (hc : cn t 2 ≤ 12) (hk : k < 6) (hp : ∀ m, m < cn t 2 → t (80 + 24 * m) = nI p → Q m k = false) : ∀ i, i ≤ cn t 2 → bF (nwT t Q) k p i = bF t k p i := by
  intro i
  induction i with
  | zero => intro _; rfl
  | succ i ih =>
    intro hi
    have ih' := ih (by omega)
    have hd : ∀ m, m < cn t 2 → t (80 + 24 * m) = nI p → nwT t Q (80 + 24 * m + 18 + k) = t (80 + 24 * m + 18 + k) := fun m hm hmp => by
      rw [nw_h (by omega) hk, if_neg (fun q => by have := q.2.1; rw [hp m hm hmp] at this; cases this)]
    show gB (nwT t Q) k p i (bF (nwT t Q) k p i) = gB t k p i (bF t k p i)
    rw [ih']
    unfold gB
    rw [nw_o (by omega), nw_o (by omega)]
    by_cases c1 : t (80 + 24 * i) = nI p
    · rw [hd i (by omega) c1]
      rcases bF_P t k p i with e | ⟨q, a, e, b, _⟩
      · have l : bF t k p i < 0 := by rw [e]; decide
        by_cases c2 : t (80 + 24 * i) = nI p ∧ t (80 + 24 * i + 9) = 0 ∧ ¬ t (80 + 24 * i + 18 + k) < 0
        · rw [if_pos ⟨c2.1, c2.2.1, c2.2.2, Or.inl l⟩, if_pos ⟨c2.1, c2.2.1, c2.2.2, Or.inl l⟩]
        · rw [if_neg (fun z => c2 ⟨z.1, z.2.1, z.2.2.1⟩), if_neg (fun z => c2 ⟨z.1, z.2.1, z.2.2.1⟩)]
      · rw [e, nI_clamp (by omega), hd q (by omega) b]
    · rw [if_neg (fun z => c1 z.1), if_neg (fun z => c1 z.1)]
