/-! THE PURE HEAP. Cells that the law's run makes are numbered from 64 on in the order in which they come; numbers below 64 are old cells (the script, three static arrays, the String constants). Ints (fields and elements) lie in one table, references in another. -/
abbrev qI : Type := Nat → Nat → Int32
abbrev qR : Type := Nat → Nat → Option Nat
abbrev qX : Type := qR × List (Nat × Nat)
/-- what a launch fixes: old cells, size of the heap at the law's entry, classes and slots, the classes of int[] and int[][], old arrays' lengths and contents -/
abbrev qC : Type := (Nat → Nat) × Nat × va_G × (ClassId × ClassId) × (Nat → Nat) × (Nat → Nat → Int32)
def q_sz (Γ : qC) : Nat := Γ.2.1
def q_D (Γ : qC) : va_G := Γ.2.2.1
def q_cI (Γ : qC) : ClassId := Γ.2.2.2.1.1
def q_cA (Γ : qC) : ClassId := Γ.2.2.2.1.2
def q_ol (Γ : qC) (k : Nat) : Nat := Γ.2.2.2.2.1 k
def q_ov (Γ : qC) (k : Nat) : Nat → Int32 := Γ.2.2.2.2.2 k
def q_A (Γ : qC) : Nat → Prop := fun q => q_sz Γ ≤ q
def q_ad (Γ : qC) (k : Nat) : Nat := if k < 64 then Γ.1 k else q_sz Γ + (k - 64)
def q_v (Γ : qC) (v : Value) : Value := match v with
  | .ref k => .ref (q_ad Γ k)
  | w => w
theorem q_v_cat (Γ : qC) (v : Value) : (q_v Γ v).category = v.category := by cases v <;> rfl
theorem q_v_rf (Γ : qC) (r : Option Nat) : q_v Γ (va_rf r) = va_rf (r.map (q_ad Γ)) := by cases r <;> rfl
def q_ty (c : Nat) : Nat → FieldType := match c with
  | 0 => tyX0
  | 1 => tyX1
  | 2 => tyX2
  | 3 => tyX3
  | 4 => tyX4
  | 5 => tyX5
  | 6 => tyX6
  | 7 => tyX7
  | 8 => tyX8
  | 9 => tyX9
  | 10 => tyX10
  | 11 => tyX11
  | _ => tyX12
def q_isR (c j : Nat) : Bool := match q_ty c j with
  | .array _ => true
  | .object _ => true
  | _ => false
def q_fv (Γ : qC) (I : qI) (R : qR) (k c j : Nat) : Value := if q_isR c j = true then va_rf ((R k j).map (q_ad Γ)) else .int (I k j)
def q_cell (Γ : qC) (I : qI) (R : qR) (k : Nat) (d : Nat × Nat) : va_E := match d.1 with
  | 0 => .inl (q_cI Γ, d.2, .inl (I k))
  | 1 => .inl (q_cA Γ, d.2, .inr (.inr (.inr (.inr (fun j => (R k j).map (q_ad Γ))))))
  | c + 2 => .inr (c, (List.range d.2).map (q_fv Γ I R k c))
def q_w (Γ : qC) (I : qI) (X : qX) : va_W := X.2.mapIdx (fun i d => (q_sz Γ + i, q_cell Γ I X.1 (i + 64) d))
/-- the kind of a cell: 0 int[], 1 int[][], c + 2 an object of the class number c; its length, its number of fields -/
def q_kd (X : qX) (k : Nat) : Option (Nat × Nat) := if k < 64 then none else X.2[k - 64]?
def q_up (I : qI) (a j : Nat) (v : Int32) : qI := fun b => if b = a then upd (I a) j v else I b
def q_upA (I : qI) (a : Nat) (f : Nat → Int32) : qI := fun b => if b = a then f else I b
def q_upR (R : qR) (a j : Nat) (v : Option Nat) : qR := fun b => if b = a then va_up (R a) j v else R b
theorem q_kd_ge {X : qX} {k : Nat} {d : Nat × Nat} (h : q_kd X k = some d) : 64 ≤ k ∧ X.2[k - 64]? = some d := by
  unfold q_kd at h
  by_cases hk : k < 64
  · rw [if_pos hk] at h; cases h
  · rw [if_neg hk] at h; exact ⟨Nat.le_of_not_lt hk, h⟩
theorem q_ad_ge {Γ : qC} {k : Nat} (h : 64 ≤ k) : q_ad Γ k = q_sz Γ + (k - 64) := by
  unfold q_ad; rw [if_neg (Nat.not_lt.mpr h)]
theorem q_w_at (Γ : qC) (I : qI) {X : qX} {k : Nat} {d : Nat × Nat} (h : q_kd X k = some d) : (q_w Γ I X)[k - 64]? = some (q_ad Γ k, q_cell Γ I X.1 k d) := by
  obtain ⟨hk, hd⟩ := q_kd_ge h
  unfold q_w
  rw [List.getElem?_mapIdx, hd]
  show some (q_sz Γ + (k - 64), q_cell Γ I X.1 (k - 64 + 64) d) = _
  rw [q_ad_ge hk, Nat.sub_add_cancel hk]
theorem q_w_len (Γ : qC) (I : qI) (X : qX) : (q_w Γ I X).length = X.2.length := by simp [q_w]
theorem q_w_D (Γ : qC) (I : qI) (X : qX) : va_D (q_A Γ) (q_w Γ I X) := by
  have key : ∀ (k : Nat) (q : Nat × va_E), (q_w Γ I X)[k]? = some q → q.1 = q_sz Γ + k := by
    intro k q h
    unfold q_w at h
    rw [List.getElem?_mapIdx] at h
    cases hd : X.2[k]? with
    | none => rw [hd] at h; cases h
    | some d => rw [hd] at h; cases h; rfl
  refine ⟨fun i j x y hi hj hxy => ?_, fun k q hk => ?_⟩
  · have := key i x hi
    have := key j y hj
    omega
  · show q_sz Γ ≤ q.1
    rw [key k q hk]; omega
theorem q_w_set (Γ : qC) (I I' : qI) {R R' : qR} {K : List (Nat × Nat)} {k : Nat} {d : Nat × Nat} (h : q_kd (R, K) k = some d) (ho : ∀ b, b ≠ k → ∀ d', q_cell Γ I' R' b d' = q_cell Γ I R b d') : (q_w Γ I (R, K)).set (k - 64) (q_ad Γ k, q_cell Γ I' R' k d) = q_w Γ I' (R', K) := by
  obtain ⟨hk, hd⟩ := q_kd_ge h
  apply List.ext_getElem?
  intro i
  by_cases hi : i = k - 64
  · subst hi
    have hl : k - 64 < (q_w Γ I (R, K)).length := by
      rw [q_w_len]; exact (List.getElem?_eq_some_iff.mp hd).1
    rw [List.getElem?_set_self hl]
    exact (q_w_at (X := (R', K)) Γ I' h).symm
  · rw [List.getElem?_set_ne (Ne.symm hi)]
    unfold q_w
    rw [List.getElem?_mapIdx, List.getElem?_mapIdx]
    cases hK : K[i]? with
    | none => simp only [hK, Option.map_none]
    | some d' =>
      simp only [hK, Option.map_some]
      rw [ho (i + 64) (by omega) d']
theorem q_cell_up {Γ : qC} {I : qI} {R : qR} {k : Nat} {f : Nat → Int32} {b : Nat} (hb : b ≠ k) (d : Nat × Nat) : q_cell Γ (q_upA I k f) R b d = q_cell Γ I R b d := by
  have e : q_upA I k f b = I b := by unfold q_upA; rw [if_neg hb]
  unfold q_cell
  obtain ⟨c, n⟩ := d
  match c with
  | 0 => simp only [e]
  | 1 => rfl
  | c + 2 =>
    simp only
    congr 2
    apply List.map_congr_left
    intro j _
    unfold q_fv
    rw [e]
theorem q_up_A (I : qI) (a j : Nat) (v : Int32) : q_up I a j v = q_upA I a (upd (I a) j v) := rfl
theorem q_cell_upR {Γ : qC} {I : qI} {R : qR} {k j : Nat} {v : Option Nat} {b : Nat} (hb : b ≠ k) (d : Nat × Nat) : q_cell Γ I (q_upR R k j v) b d = q_cell Γ I R b d := by
  have e : q_upR R k j v b = R b := by unfold q_upR; rw [if_neg hb]
  unfold q_cell
  obtain ⟨c, n⟩ := d
  match c with
  | 0 => rfl
  | 1 => simp only [e]
  | c + 2 =>
    simp only
    congr 2
    apply List.map_congr_left
    intro j _
    unfold q_fv
    rw [e]
theorem q_fs_at {Γ : qC} {I : qI} {R : qR} {k c n j : Nat} (hj : j < n) : ((List.range n).map (q_fv Γ I R k c))[j]? = some (q_fv Γ I R k c j) := by
  rw [List.getElem?_map, List.getElem?_range hj]; rfl
theorem q_fs_setI {Γ : qC} {I : qI} {R : qR} {k c n j : Nat} {v : Int32} (hr : q_isR c j = false) : ((List.range n).map (q_fv Γ I R k c)).set j (.int v) = (List.range n).map (q_fv Γ (q_up I k j v) R k c) := by
  apply List.ext_getElem?
  intro i
  by_cases hi : i = j
  · subst hi
    by_cases hn : i < n
    · rw [List.getElem?_set_self (by simpa using hn), q_fs_at hn]
      unfold q_fv q_up upd
      simp [hr]
    · rw [List.getElem?_eq_none (by simpa using hn), List.getElem?_eq_none (by simpa using hn)]
  · rw [List.getElem?_set_ne (Ne.symm hi)]
    by_cases hn : i < n
    · rw [q_fs_at hn, q_fs_at hn]
      unfold q_fv q_up upd
      simp [hi]
    · rw [List.getElem?_eq_none (by simpa using hn), List.getElem?_eq_none (by simpa using hn)]
theorem q_fs_setR {Γ : qC} {I : qI} {R : qR} {k c n j : Nat} {v : Option Nat} (hr : q_isR c j = true) : ((List.range n).map (q_fv Γ I R k c)).set j (va_rf (v.map (q_ad Γ))) = (List.range n).map (q_fv Γ I (q_upR R k j v) k c) := by
  apply List.ext_getElem?
  intro i
  by_cases hi : i = j
  · subst hi
    by_cases hn : i < n
    · rw [List.getElem?_set_self (by simpa using hn), q_fs_at hn]
      unfold q_fv q_upR va_up
      simp [hr]
    · rw [List.getElem?_eq_none (by simpa using hn), List.getElem?_eq_none (by simpa using hn)]
  · rw [List.getElem?_set_ne (Ne.symm hi)]
    by_cases hn : i < n
    · rw [q_fs_at hn, q_fs_at hn]
      unfold q_fv q_upR va_up
      simp [hi]
    · rw [List.getElem?_eq_none (by simpa using hn), List.getElem?_eq_none (by simpa using hn)]
/-- a new cell behind all: nothing in the tables changes but the kinds; what was never written there counts as it stands, so the tables must be blank there -/
theorem q_w_push (Γ : qC) (I : qI) (R : qR) (K : List (Nat × Nat)) (d : Nat × Nat) : q_w Γ I (R, K ++ [d]) = q_w Γ I (R, K) ++ [(q_sz Γ + K.length, q_cell Γ I R (K.length + 64) d)] := by
  unfold q_w
  simp only [List.mapIdx_append, List.mapIdx_cons, List.mapIdx_nil]
  simp
