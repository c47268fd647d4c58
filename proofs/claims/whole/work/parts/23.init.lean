/-! LEVEL B, the start: both objects stand, laid out as q_Lay has it -/
def q_run0 : Option (qI × qX) := match q_nO 11 9 q_i0 q_x0 with
  | some (_, J1, Y1) => f_X11_init 64 Y1 J1
  | none => none
def q_run1 (z : qI × qX) : Option (qI × qX) := match q_nO 12 42 z.1 z.2 with
  | some (_, J1, Y1) => f_X12_init 269 Y1 J1
  | none => none
/-- what is left: the loop, from there -/
theorem q_good_of0 {L : Nat} {xs : Nat → Int32} {z1 z2 : qI × qX} (e1 : q_run0 = some z1) (l1 : z1.2.2.length = 205) (e2 : q_run1 z1 = some z2) (hL : q_Lay z2.2) (k1 : q_kd z2.2 64 = some (13, 9)) (k2 : q_kd z2.2 269 = some (14, 42)) (h : ∃ (n : Nat) (z : Int32 × qI × qX), n ≤ 5000 ∧ q_fix (fun _ _ _ => none) (b_L_law_18 L xs) n 0 z2.2 z2.1 = some z ∧ z.1 = 1) : q_good L xs := by
  obtain ⟨n, z, h1, h2, h3⟩ := h
  have a1 : q_nO 11 9 q_i0 q_x0 = some (64, (q_upA q_i0 64 (fun _ => 0)), ((fun b => if b = 64 then (fun _ => none) else q_x0.1 b), [(13, 9)])) := rfl
  have a2 : q_nO 12 42 z1.1 z1.2 = some (269, q_upA z1.1 269 (fun _ => 0), ((fun b => if b = 269 then (fun _ => none) else z1.2.1 b), z1.2.2 ++ [(14, 42)])) := by
    unfold q_nO
    rw [l1]
  unfold q_run1 at e2
  rw [a2] at e2
  unfold q_run0 at e1
  rw [a1] at e1
  exact ⟨_, z1.1, _, z2.1, _, z1.2, _, z2.2, n, z, a1, e1, a2, e2, hL, k1, k2, h1, h2, h3⟩
def q_z1 : qI × qX := q_run0.getD (q_i0, q_x0)
def q_z2 : qI × qX := (q_run1 q_z1).getD (q_i0, q_x0)
theorem q_someD {α : Type} {o : Option α} (d : α) (h : o.isSome = true) : o = some (o.getD d) := by
  cases o with
  | none => cases h
  | some x => rfl
theorem q_z1_e : q_run0 = some q_z1 := q_someD _ (by decide +kernel)
theorem q_z1_l : q_z1.2.2.length = 205 := by decide +kernel
theorem q_z2_e : q_run1 q_z1 = some q_z2 := q_someD _ (by decide +kernel)
theorem q_z2_l : q_z2.2.2.length = 223 := by decide +kernel
def q_ok1 (X : qX) (k : Nat) : Bool := match q_kd X k with
  | some (c + 2, _) => q_lay.all (fun q => q.1 != c || (decide (X.1 k q.2.1 = some (k + q.2.2.1)) && decide (q_kd X (k + q.2.2.1) = some q.2.2.2)))
  | _ => true
def q_ok2 (X : qX) (os : List Nat) (k : Nat) : Bool := match q_kd X k with
  | some (_ + 2, _) => os.contains k
  | _ => true
theorem q_Lay_of {X : qX} {os : List Nat} (h0 : (List.range (X.2.length + 64)).all (q_ok2 X os) = true) (h : ∀ k ∈ os, q_ok1 X k = true) : q_Lay X := by
  intro k c n hk q hq hc
  have hl : k < X.2.length + 64 := by
    obtain ⟨h1, h2⟩ := q_kd_ge hk
    have := (List.getElem?_eq_some_iff.mp h2).1
    omega
  have h0 := List.all_eq_true.mp h0 k (List.mem_range.mpr hl)
  unfold q_ok2 at h0
  rw [hk] at h0
  have h1 := h k (List.contains_iff_mem.mp h0)
  unfold q_ok1 at h1
  rw [hk] at h1
  have h2 := List.all_eq_true.mp h1 q hq
  simp only [Bool.or_eq_true, bne_iff_ne, ne_eq, Bool.and_eq_true, decide_eq_true_eq] at h2
  rcases h2 with h2 | h2
  · exact absurd hc h2
  · exact h2
theorem q_z2_64 : q_kd q_z2.2 64 = some (13, 9) := by decide +kernel
theorem q_z2_269 : q_kd q_z2.2 269 = some (14, 42) := by decide +kernel
def q_objs : List Nat := [64, 65, 66, 72, 77, 92, 101, 107, 109, 117, 130, 131, 137, 142, 157, 166, 172, 174, 182, 195, 196, 202, 207, 222, 231, 237, 239, 247, 260, 263, 269]
theorem q_lk_64 : q_ok1 q_z2.2 64 = true := by decide +kernel
theorem q_lk_65 : q_ok1 q_z2.2 65 = true := by decide +kernel
theorem q_lk_66 : q_ok1 q_z2.2 66 = true := by decide +kernel
theorem q_lk_72 : q_ok1 q_z2.2 72 = true := by decide +kernel
theorem q_lk_77 : q_ok1 q_z2.2 77 = true := by decide +kernel
theorem q_lk_92 : q_ok1 q_z2.2 92 = true := by decide +kernel
theorem q_lk_101 : q_ok1 q_z2.2 101 = true := by decide +kernel
theorem q_lk_107 : q_ok1 q_z2.2 107 = true := by decide +kernel
theorem q_lk_109 : q_ok1 q_z2.2 109 = true := by decide +kernel
theorem q_lk_117 : q_ok1 q_z2.2 117 = true := by decide +kernel
theorem q_lk_130 : q_ok1 q_z2.2 130 = true := by decide +kernel
theorem q_lk_131 : q_ok1 q_z2.2 131 = true := by decide +kernel
theorem q_lk_137 : q_ok1 q_z2.2 137 = true := by decide +kernel
theorem q_lk_142 : q_ok1 q_z2.2 142 = true := by decide +kernel
theorem q_lk_157 : q_ok1 q_z2.2 157 = true := by decide +kernel
theorem q_lk_166 : q_ok1 q_z2.2 166 = true := by decide +kernel
theorem q_lk_172 : q_ok1 q_z2.2 172 = true := by decide +kernel
theorem q_lk_174 : q_ok1 q_z2.2 174 = true := by decide +kernel
theorem q_lk_182 : q_ok1 q_z2.2 182 = true := by decide +kernel
theorem q_lk_195 : q_ok1 q_z2.2 195 = true := by decide +kernel
theorem q_lk_196 : q_ok1 q_z2.2 196 = true := by decide +kernel
theorem q_lk_202 : q_ok1 q_z2.2 202 = true := by decide +kernel
theorem q_lk_207 : q_ok1 q_z2.2 207 = true := by decide +kernel
theorem q_lk_222 : q_ok1 q_z2.2 222 = true := by decide +kernel
theorem q_lk_231 : q_ok1 q_z2.2 231 = true := by decide +kernel
theorem q_lk_237 : q_ok1 q_z2.2 237 = true := by decide +kernel
theorem q_lk_239 : q_ok1 q_z2.2 239 = true := by decide +kernel
theorem q_lk_247 : q_ok1 q_z2.2 247 = true := by decide +kernel
theorem q_lk_260 : q_ok1 q_z2.2 260 = true := by decide +kernel
theorem q_lk_263 : q_ok1 q_z2.2 263 = true := by decide +kernel
theorem q_lk_269 : q_ok1 q_z2.2 269 = true := by decide +kernel
theorem q_lk : (List.range (q_z2.2.2.length + 64)).all (q_ok2 q_z2.2 q_objs) = true := by decide +kernel
theorem q_z2_Lay : q_Lay q_z2.2 := q_Lay_of q_lk (show ∀ k ∈ [64, 65, 66, 72, 77, 92, 101, 107, 109, 117, 130, 131, 137, 142, 157, 166, 172, 174, 182, 195, 196, 202, 207, 222, 231, 237, 239, 247, 260, 263, 269], q_ok1 q_z2.2 k = true from List.forall_mem_cons.mpr ⟨q_lk_64, List.forall_mem_cons.mpr ⟨q_lk_65, List.forall_mem_cons.mpr ⟨q_lk_66, List.forall_mem_cons.mpr ⟨q_lk_72, List.forall_mem_cons.mpr ⟨q_lk_77, List.forall_mem_cons.mpr ⟨q_lk_92, List.forall_mem_cons.mpr ⟨q_lk_101, List.forall_mem_cons.mpr ⟨q_lk_107, List.forall_mem_cons.mpr ⟨q_lk_109, List.forall_mem_cons.mpr ⟨q_lk_117, List.forall_mem_cons.mpr ⟨q_lk_130, List.forall_mem_cons.mpr ⟨q_lk_131, List.forall_mem_cons.mpr ⟨q_lk_137, List.forall_mem_cons.mpr ⟨q_lk_142, List.forall_mem_cons.mpr ⟨q_lk_157, List.forall_mem_cons.mpr ⟨q_lk_166, List.forall_mem_cons.mpr ⟨q_lk_172, List.forall_mem_cons.mpr ⟨q_lk_174, List.forall_mem_cons.mpr ⟨q_lk_182, List.forall_mem_cons.mpr ⟨q_lk_195, List.forall_mem_cons.mpr ⟨q_lk_196, List.forall_mem_cons.mpr ⟨q_lk_202, List.forall_mem_cons.mpr ⟨q_lk_207, List.forall_mem_cons.mpr ⟨q_lk_222, List.forall_mem_cons.mpr ⟨q_lk_231, List.forall_mem_cons.mpr ⟨q_lk_237, List.forall_mem_cons.mpr ⟨q_lk_239, List.forall_mem_cons.mpr ⟨q_lk_247, List.forall_mem_cons.mpr ⟨q_lk_260, List.forall_mem_cons.mpr ⟨q_lk_263, List.forall_mem_cons.mpr ⟨q_lk_269, fun _ h => absurd h List.not_mem_nil⟩⟩⟩⟩⟩⟩⟩⟩⟩⟩⟩⟩⟩⟩⟩⟩⟩⟩⟩⟩⟩⟩⟩⟩⟩⟩⟩⟩⟩⟩⟩)
theorem q_good_of {L : Nat} {xs : Nat → Int32} (h : ∃ (n : Nat) (z : Int32 × qI × qX), n ≤ 5000 ∧ q_fix (fun _ _ _ => none) (b_L_law_18 L xs) n 0 q_z2.2 q_z2.1 = some z ∧ z.1 = 1) : q_good L xs := q_good_of0 q_z1_e q_z1_l q_z2_e q_z2_Lay q_z2_64 q_z2_269 h
