theorem q_lgl (vs : List Value) : (lg_sl vs).length = (vs.map fun v => if v.category = 2 then 2 else 1).sum := by
  induction vs with
  | nil => rfl
  | cons v t ih =>
    simp only [lg_sl, List.flatMap_cons, List.length_append, List.map_cons, List.sum_cons] at ih ⊢
    rw [ih]
    congr 1
    by_cases h : v.category = 2 <;> simp [h]
theorem q_cat_rf (r : Option Nat) : (va_rf r).category = 1 := by cases r <;> rfl
def q_on {β : Type} (r : Option Nat) (a : β) (f : Nat → β) : β := match r with
  | none => a
  | some x => f x
def q_min (x y : Int32) : Int32 := if y < x then y else x
def q_max (x y : Int32) : Int32 := if x < y then y else x
def q_ush (x y : Int32) : Int32 := (x.toUInt32 >>> (y.toUInt32 &&& Int32.toUInt32 31)).toInt32
def q_rd0 : Nat := 100
theorem r_iremq {l : Launch} {Γ : qC} {own : String} {cc : ByteArray} {nL : Nat} {R : Room} {nm : String} {rt : Option FieldType} {g : qG} {cells slots pc n : Nat} {L : List (Nat × Value)} {S : List Value} {I : qI} {X : qX} (hg : q_Ok l Γ own cc nL R nm rt g) {x y : Int32} (hd : q_at cc pc (.irem) 1 n) (hy : ¬ y = 0) (k : g cells slots n L (.int (q_rem x y) :: S) I X) : g cells slots pc L (.int y :: .int x :: S) I X := r_irem hg hd hy k
theorem r_iushrq {l : Launch} {Γ : qC} {own : String} {cc : ByteArray} {nL : Nat} {R : Room} {nm : String} {rt : Option FieldType} {g : qG} {cells slots pc n : Nat} {L : List (Nat × Value)} {S : List Value} {I : qI} {X : qX} (hg : q_Ok l Γ own cc nL R nm rt g) {x y : Int32} (hd : q_at cc pc (.iushr) 1 n) (k : g cells slots n L (.int (q_ush x y) :: S) I X) : g cells slots pc L (.int y :: .int x :: S) I X := r_iushr hg hd k
theorem r_minq {l : Launch} {Γ : qC} {own : String} {cc : ByteArray} {nL : Nat} {R : Room} {nm : String} {rt : Option FieldType} {g : qG} {cells slots pc n : Nat} {L : List (Nat × Value)} {S : List Value} {I : qI} {X : qX} (hg : q_Ok l Γ own cc nL R nm rt g) {i : Nat} {x y : Int32} (hd : q_at cc pc (.invokestatic i) 3 n) (hw : Cond.methodLink own i Lib.Math.min.name ∈ q_tbl ∧ Cond.static Lib.Math.min.name ∈ q_tbl ∧ Cond.initialized "java/lang/Math" ∈ q_tbl ∧ Cond.code Lib.Math.min.name Lib.Math.min.code 2 (some .int) ∈ q_tbl) (hR : 1 ≤ R.frames ∧ (S.map fun v => v.category).sum + 13 ≤ R.locals) (hc : cells ≤ R.cells ∧ slots ≤ R.slots) (k : g cells slots n L (.int (q_min x y) :: S) I X) : g cells slots pc L (.int y :: .int x :: S) I X := r_min hg hd hw hR hc k
theorem r_maxq {l : Launch} {Γ : qC} {own : String} {cc : ByteArray} {nL : Nat} {R : Room} {nm : String} {rt : Option FieldType} {g : qG} {cells slots pc n : Nat} {L : List (Nat × Value)} {S : List Value} {I : qI} {X : qX} (hg : q_Ok l Γ own cc nL R nm rt g) {i : Nat} {x y : Int32} (hd : q_at cc pc (.invokestatic i) 3 n) (hw : Cond.methodLink own i Lib.Math.max.name ∈ q_tbl ∧ Cond.static Lib.Math.max.name ∈ q_tbl ∧ Cond.initialized "java/lang/Math" ∈ q_tbl ∧ Cond.code Lib.Math.max.name Lib.Math.max.code 2 (some .int) ∈ q_tbl) (hR : 1 ≤ R.frames ∧ (S.map fun v => v.category).sum + 13 ≤ R.locals) (hc : cells ≤ R.cells ∧ slots ≤ R.slots) (k : g cells slots n L (.int (q_max x y) :: S) I X) : g cells slots pc L (.int y :: .int x :: S) I X := r_max hg hd hw hR hc k
theorem r_ialdC {l : Launch} {Γ : qC} {own : String} {cc : ByteArray} {nL : Nat} {R : Room} {nm : String} {rt : Option FieldType} {g : qG} {cells slots pc n : Nat} {L : List (Nat × Value)} {S : List Value} {I : qI} {X : qX} (hg : q_Ok l Γ own cc nL R nm rt g) {a N : Nat} {f : Nat → Int32} {i v : Int32} (hd : q_at cc pc (.iaload) 1 n) (hk : a < 4) (hl : q_ol Γ a = N) (hf : q_ov Γ a = f) (hv : q_rdO f N i = some v) (k : g cells slots n L (.int v :: S) I X) : g cells slots pc L (.int i :: .ref a :: S) I X := by
  obtain ⟨hin, rfl⟩ := q_rdO_in hv
  refine r_ialdO hg hd hk (by rw [hl]; exact hin) ?_
  rw [hf]
  exact k
theorem r_alenC {l : Launch} {Γ : qC} {own : String} {cc : ByteArray} {nL : Nat} {R : Room} {nm : String} {rt : Option FieldType} {g : qG} {cells slots pc n : Nat} {L : List (Nat × Value)} {S : List Value} {I : qI} {X : qX} (hg : q_Ok l Γ own cc nL R nm rt g) {a N : Nat} (hd : q_at cc pc (.arraylength) 1 n) (hk : a < 4) (hl : q_ol Γ a = N) (k : g cells slots n L (.int (nI N) :: S) I X) : g cells slots pc L (.ref a :: S) I X :=
  r_alenO hg hd hk (by rw [hl]; exact k)
