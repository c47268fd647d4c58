/-! LEVEL B: a Valley becomes another -/
def cpL (o : Nat) : Nat := if o < 2 then 0 else if o < 7 then 8 else if o = 7 then 0 else if o < 12 then 6 else if o = 12 then 0 else if o < 25 then 12 else if o < 27 then 72 else if o = 27 then 0 else if o < 36 then 60 else if o = 36 then 0 else if o < 40 then 12 else if o < 43 then 0 else if o = 43 then 48 else if o = 44 then 0 else if o < 48 then 16 else if o < 53 then 0 else if o < 56 then 8 else if o = 60 then 3 else 0
def cpF (o : Nat) : Nat := if o = 0 then 13 else if o = 7 then 4 else if o = 12 then 14 else if o = 27 then 8 else if o = 36 then 5 else if o = 44 then 8 else if o = 52 then 9 else 99
/-- what is copied: cell o, place i -/
def cpl (o i : Nat) : Bool := decide (i < cpL o) || decide (i = cpF o ∧ cpF o ≠ 99)
def vq_cb (n : Nat) : Bool := match vq n with
  | some (o, i) => cpl o i
  | none => true
theorem vq_ca : (List.range 3580).all vq_cb = true := by decide +kernel
theorem vq_cp {n o i : Nat} (h : vq n = some (o, i)) : cpl o i = true := by
  by_cases hn : n < 3580
  · have h1 := List.all_eq_true.mp vq_ca n (List.mem_range.mpr hn)
    unfold vq_cb at h1
    rw [h] at h1
    exact h1
  · rw [vq_hi hn] at h; cases h
theorem RV.copy {X X' : qX} {v w : Nat} {I I' : qI} {t : Nat → Int32} {j : Nat} (h : RV X w I t j) (h1 : ∀ o i, cpl o i = true → I' (v + o) i = I (w + o) i) (h2 : ∀ a, 287 ≤ a → I' a = I a) (h3 : ∀ i, i < 12 → X'.1 (v + 40) i = X.1 (w + 40) i) (h4 : ∀ a, q_kd X' a = q_kd X a) (hw : w ≤ 130 := by omega) : RV X' v I' t j := by
  obtain ⟨hA, hF, hR, hD, hH, hT⟩ := h
  have k4 := (hR 4).1
  rw [rgS_f rg_sc.2.2.2.2.1] at k4
  have e11 := k4.cv (t := t) (by decide)
  refine ⟨fun n o i hn hP => (h1 o i (vq_cp hn)).trans (hA n o i hn hP), fun m a b => ⟨(hF m a b).1, fun k hk => ?_⟩, fun n => ⟨(hR n).1, fun a _ => (hR n).2 a hw⟩, hD, fun d hd => ?_, fun k hk => ?_⟩
  · rw [h1 26 _ (by unfold cpl; rw [decide_eq_true (show 6 * m + k < cpL 26 by show 6 * m + k < 72; omega)]; rfl)]; exact (hF m a b).2 k hk
  · have := hD.1.2.2
    rw [h1 34 d (by unfold cpl; rw [decide_eq_true (show d < cpL 34 by show d < 60; omega)]; rfl)]; exact hH d hd
  · obtain ⟨a, L, d, e1, e2, e3, e4⟩ := hT k hk
    refine ⟨a, L, d, (h3 k (by omega)).trans e1, e2, (h4 a).trans e3, ?_⟩
    rw [h2 a e2]; exact e4
/-- the cells of D are done -/
def Bc (v w : Nat) (D : Nat → Prop) (I I' : qI) : Prop := (∀ o i, D o → cpl o i = true → I' (v + o) i = I (w + o) i) ∧ (∀ a, (a < v ∨ v + 65 ≤ a) → I' a = I a)
theorem Bc.cp {v w o N : Nat} {D : Nat → Prop} {I I' : qI} (h : Bc v w D I I') (hvw : w + 65 ≤ v ∨ v + 65 ≤ w) (ho : o < 65) (hN : cpL o = N) (hF : cpF o = 99) (hN31 : N < 2 ^ 31) {a b : Nat} (ha : a = w + o) (hb : b = v + o) : ∃ I'', q_cp I' a N (nI 0) b N (nI 0) (nI N) = some I'' ∧ Bc v w (fun p => D p ∨ p = o) I I'' := by
  subst ha hb
  refine ⟨q_upA I' (v + o) (va_cpy (I' (w + o)) (I' (v + o)) 0 0 N), ?_, ?_, ?_⟩
  · unfold q_cp
    rw [nI_clamp (show 0 < 2 ^ 31 by decide), nI_clamp hN31, if_neg (by
      rintro ((q | q | q) | q | q)
      · exact nI_pos (by decide) q
      · exact nI_pos (by decide) q
      · exact nI_pos hN31 q
      · omega
      · omega)]
  · intro p i hp hc
    by_cases e : p = o
    · subst e
      have hi : i < N := by
        unfold cpl at hc
        rw [hF] at hc
        simp at hc
        omega
      show (if v + p = v + p then va_cpy (I' (w + p)) (I' (v + p)) 0 0 N else I' (v + p)) i = _
      rw [if_pos rfl]
      unfold va_cpy
      rw [if_pos (by omega), show 0 + (i - 0) = i by omega, h.2 (w + p) (by omega)]
    · show (if v + p = v + o then va_cpy (I' (w + o)) (I' (v + o)) 0 0 N else I' (v + p)) i = _
      rw [if_neg (by omega)]
      exact h.1 p i (hp.resolve_right e) hc
  · intro a ha
    show (if a = v + o then va_cpy (I' (w + o)) (I' (v + o)) 0 0 N else I' a) = _
    rw [if_neg (by omega)]
    exact h.2 a ha
theorem Bc.fl {v w o f : Nat} {D : Nat → Prop} {I I' : qI} (h : Bc v w D I I') (hvw : w + 65 ≤ v ∨ v + 65 ≤ w) (ho : o < 65) (hN : cpL o = 0) (hF : cpF o = f) {a b : Nat} (ha : a = w + o) (hb : b = v + o) : Bc v w (fun p => D p ∨ p = o) I (q_up I' b f (I' a f)) := by
  subst ha hb
  refine ⟨fun p i hp hc => ?_, fun a ha => ?_⟩
  · by_cases e : p = o
    · subst e
      have hi : i = f := by
        unfold cpl at hc
        rw [hN, hF] at hc
        simp at hc
        exact hc.1
      subst hi
      rw [u_up_same, h.2 (w + p) (by omega)]
    · rw [u_up_a (by omega)]
      exact h.1 p i (hp.resolve_right e) hc
  · funext z
    rw [u_up_a (by omega)]
    exact congrFun (h.2 a ha) z
theorem Bc.mono {v w : Nat} {D D' : Nat → Prop} {I I' : qI} (h : Bc v w D I I') (hD : ∀ p, D' p → D p) : Bc v w D' I I' := ⟨fun o i ho hc => h.1 o i (hD o ho) hc, h.2⟩
