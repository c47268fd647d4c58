/-! LEVEL B: scratch cells of a Valley and of the model; weeks till a fund is there -/
def vq_sb (n : Nat) : Bool := match vq n with
  | some (o, i) => !(decide (48 ≤ o) && decide (o ≤ 51)) && !(decide (56 ≤ o) && decide (o ≤ 59)) && (decide (o ≠ 44) || decide (i = 8)) && (decide (o ≠ 52) || decide (i = 9))
  | none => true
theorem vq_sa : (List.range 3580).all vq_sb = true := by decide +kernel
def scO (o i : Nat) : Prop := (48 ≤ o ∧ o ≤ 51) ∨ (56 ≤ o ∧ o ≤ 59) ∨ (o = 44 ∧ i ≠ 8) ∨ (o = 52 ∧ i ≠ 9)
theorem vq_sx {n o j : Nat} (h : vq n = some (o, j)) : ¬ scO o j := by
  by_cases hn : n < 3580
  · have h1 := List.all_eq_true.mp vq_sa n (List.mem_range.mpr hn)
    unfold vq_sb at h1
    rw [h] at h1
    simp at h1
    unfold scO
    omega
  · rw [vq_hi hn] at h; cases h
/-- only scratch cells of the Valley changed -/
def SX (v : Nat) (I I' : qI) : Prop := (∀ a, (a < v ∨ v + 65 ≤ a) → I' a = I a) ∧ ∀ o i, o < 65 → ¬ scO o i → I' (v + o) i = I (v + o) i
theorem SX.rf {v : Nat} {I : qI} : SX v I I := ⟨fun _ _ => rfl, fun _ _ _ _ => rfl⟩
theorem SX.up {v : Nat} {I I' : qI} (h : SX v I I') {a o i : Nat} {x : Int32} (ha : a = v + o) (ho : o < 65) (hs : scO o i) : SX v I (q_up I' a i x) := by
  subst ha
  refine ⟨fun b hb => ?_, fun p k hp hn => ?_⟩
  · funext k; rw [u_up_a (by omega), h.1 b hb]
  · by_cases e : p = o
    · subst e
      by_cases e2 : k = i
      · subst e2; exact absurd hs hn
      · rw [u_up_j e2]; exact h.2 p k hp hn
    · rw [u_up_a (by omega)]; exact h.2 p k hp hn
theorem RV.sx {X : qX} {v j : Nat} {I I' : qI} {t : Nat → Int32} (h : RV X v I t j) (hv : v ≤ 195) (hs : SX v I I') : RV X v I' t j := by
  obtain ⟨hA, hF, hR, hD, hH, hT⟩ := h
  have n26 : ∀ k, ¬ scO 26 k := fun k => by unfold scO; omega
  have n34 : ∀ k, ¬ scO 34 k := fun k => by unfold scO; omega
  refine ⟨hA.keep fun n p k hn _ => hs.2 p k (vq_c hn).2 (vq_sx hn), fun m a b => ⟨(hF m a b).1, fun k hk => ?_⟩, hR, hD, fun d hd => ?_, fun k hk => ?_⟩
  · rw [hs.2 26 _ (by decide) (n26 _)]; exact (hF m a b).2 k hk
  · rw [hs.2 34 _ (by decide) (n34 _)]; exact hH d hd
  · obtain ⟨a, L, d, e1, e2, e⟩ := hT k hk
    refine ⟨a, L, d, e1, e2, ?_⟩
    rw [hs.1 a (by omega)]; exact e
/-- only scratch of the model changed -/
def SM (J J' : qI) : Prop := (∀ a, a ≠ 269 → (a < 279 ∨ 284 < a) → J' a = J a) ∧ ∀ k, (k < 30 ∨ 37 < k) → J' 269 k = J 269 k
theorem SM.rf {J : qI} : SM J J := ⟨fun _ _ _ => rfl, fun _ _ => rfl⟩
theorem SM.up {J J' : qI} (h : SM J J') {a i : Nat} {x : Int32} (ha : 279 ≤ a ∧ a ≤ 284) : SM J (q_up J' a i x) := by
  refine ⟨fun b h1 h2 => ?_, fun k hk => ?_⟩
  · funext k; rw [u_up_a (by omega), h.1 b h1 h2]
  · rw [u_up_a (by omega)]; exact h.2 k hk
theorem SM.fl {J J' : qI} (h : SM J J') {i : Nat} {x : Int32} (hi : 30 ≤ i ∧ i ≤ 37) : SM J (q_up J' 269 i x) := by
  refine ⟨fun b h1 h2 => ?_, fun k hk => ?_⟩
  · funext k; rw [u_up_a h1, h.1 b h1 h2]
  · rw [u_up_j (by omega)]; exact h.2 k hk
theorem WW.sx {X : qX} {I J I' J' : qI} (h : WW X I J) (hs : SX 65 I I') (hm : SM J J') {r s : Int32} (e : r = s) : G2 X I J (some (r, I')) (some (s, J')) := by
  subst e
  obtain ⟨p1, p2, -⟩ := h.put (I' := I') (J' := J) (h.rv.sx (by decide) hs) hs.1 GM.rfl'
  refine ⟨r, I', J', rfl, rfl, p1.side (fun a _ => rfl) rfl (fun a ha => hm.1 a (by omega) (by omega)) (hm.2 3 (by decide)) (hm.2 25 (by decide)) ?_ ?_ ?_, p2, fun a ha => hm.1 a (by omega) (by omega)⟩
  · unfold BK
    rw [hm.1 273 (by decide) (by decide), hm.1 274 (by decide) (by decide), hm.1 275 (by decide) (by decide)]
    exact p1.2.2.2.1
  · unfold WT
    rw [hm.1 285 (by decide) (by decide), hm.2 39 (by decide)]
    exact p1.2.2.2.2.1
  · unfold TP
    rw [hm.1 276 (by decide) (by decide), hm.2 14 (by decide)]
    exact p1.2.2.2.2.2.1
theorem and1 (y : Int32) : y &&& nI 1 = 0 ∨ y &&& nI 1 = nI 1 := by
  have e : (y &&& nI 1).toBitVec = y.toBitVec &&& 1#32 := by rw [Int32.toBitVec_and]; rfl
  rw [BitVec.and_one_eq_setWidth_ofBool_getLsbD] at e
  cases h : y.toBitVec.getLsbD 0 with
  | false => left; apply Int32.toBitVec_inj.mp; rw [e, h]; rfl
  | true => right; apply Int32.toBitVec_inj.mp; rw [e, h]; rfl
/-- weeks till the fund is there -/
def wt (c F inc : Nat) : Nat := if c ≤ F then 0 else if inc = 0 then 1000 else (c - F + inc - 1) / inc
theorem wt_s {c F inc : Nat} (h : F < c) (h0 : 0 < inc) : wt c F inc = wt c (F + inc) inc + 1 := by
  unfold wt
  rw [if_neg (by omega), if_neg (by omega)]
  by_cases z : c ≤ F + inc
  · rw [if_pos z]
    refine Nat.div_eq_of_lt_le ?_ ?_ <;> omega
  · rw [if_neg z, if_neg (by omega), show c - F + inc - 1 = (c - (F + inc) + inc - 1) + inc by omega, Nat.add_div_right _ h0]
theorem wt_en {c F inc : Nat} (h : wt c F inc < 1000) : c ≤ F + wt c F inc * inc ∧ (F < c → F + wt c F inc * inc < c + inc) := by
  unfold wt at h ⊢
  by_cases z : c ≤ F
  · rw [if_pos z]; omega
  rw [if_neg z] at h ⊢
  by_cases y : inc = 0
  · rw [if_pos y] at h; omega
  rw [if_neg y]
  have e1 := Nat.div_add_mod (c - F + inc - 1) inc
  have e2 := Nat.mod_lt (c - F + inc - 1) (show inc > 0 by omega)
  rw [Nat.mul_comm] at e1
  generalize (c - F + inc - 1) / inc * inc = Z at *
  generalize (c - F + inc - 1) % inc = Y at *
  omega
theorem weeksC {c F inc : Nat} (hc : c ≤ 999) (hF : F ≤ 20000) (hi : inc ≤ 2000) : f_X4_weeksTill (nI c - nI F) (nI inc) = some (nI (wt c F inc)) := by
  unfold f_X4_weeksTill wt
  by_cases z : c ≤ F
  · rw [if_neg, if_pos z]
    intro q
    have e1 : (nI c - nI F).toInt = (c : Int) - F := by
      rw [Int32.toInt_sub, nI_toInt (by omega), nI_toInt (by omega)]
      exact Int.bmod_eq_of_le (by omega) (by omega)
    rw [Int32.lt_iff_toInt_lt, e1, Int32.toInt_zero] at q
    omega
  rw [if_neg z, u_sub (by omega), if_pos (show (0 : Int32) < nI (c - F) by rw [← nI_0]; exact nI_lt (by omega) (by omega))]
  by_cases y : inc = 0
  · rw [if_neg (show ¬ (0 : Int32) < nI inc by rw [y, nI_0]; decide), if_pos y]
  · rw [if_pos (show (0 : Int32) < nI inc by rw [← nI_0]; exact nI_lt (by omega) (by omega)), if_neg (nI_ne0 (by omega) (by omega)), if_neg y, nI_add, u_sub (by omega), u_div (by omega) (by omega)]
