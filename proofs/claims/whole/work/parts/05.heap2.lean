/-! FIELDS, ARRAYS, NEW, RETURNS, CALLS over the pure heap -/
theorem q_inL {big : List Cond} (ws : List Cond) (ps : List Nat) (hp : ws = ps.filterMap (fun i => big[i]?)) : ∀ w ∈ ws, w ∈ big := by
  intro w hw
  rw [hp] at hw
  obtain ⟨i, -, hi⟩ := List.mem_filterMap.mp hw
  exact List.mem_of_getElem? hi
theorem q_in0 : ∀ w ∈ u_ws RX0 TX0 3, w ∈ q_tbl := fun w h => List.mem_filter.mpr ⟨q_inL (big := lw_tbl) (u_ws RX0 TX0 3) [533, 535, 537] (by decide +kernel) w h, List.all_eq_true.mp (show (u_ws RX0 TX0 3).all goodWord = true by decide +kernel) w h⟩
theorem q_in1 : ∀ w ∈ u_ws RX1 TX1 9, w ∈ q_tbl := fun w h => List.mem_filter.mpr ⟨q_inL (big := lw_tbl) (u_ws RX1 TX1 9) [295, 297, 299, 301, 303, 305, 307, 309, 311] (by decide +kernel) w h, List.all_eq_true.mp (show (u_ws RX1 TX1 9).all goodWord = true by decide +kernel) w h⟩
theorem q_in2 : ∀ w ∈ u_ws RX2 TX2 15, w ∈ q_tbl := fun w h => List.mem_filter.mpr ⟨q_inL (big := lw_tbl) (u_ws RX2 TX2 15) [238, 240, 242, 244, 246, 248, 250, 252, 254, 256, 258, 260, 262, 264, 266] (by decide +kernel) w h, List.all_eq_true.mp (show (u_ws RX2 TX2 15).all goodWord = true by decide +kernel) w h⟩
theorem q_in3 : ∀ w ∈ u_ws RX3 TX3 5, w ∈ q_tbl := fun w h => List.mem_filter.mpr ⟨q_inL (big := lw_tbl) (u_ws RX3 TX3 5) [158, 160, 162, 164, 166] (by decide +kernel) w h, List.all_eq_true.mp (show (u_ws RX3 TX3 5).all goodWord = true by decide +kernel) w h⟩
theorem q_in4 : ∀ w ∈ u_ws RX4 TX4 10, w ∈ q_tbl := fun w h => List.mem_filter.mpr ⟨q_inL (big := lw_tbl) (u_ws RX4 TX4 10) [409, 411, 413, 415, 417, 419, 421, 423, 425, 427] (by decide +kernel) w h, List.all_eq_true.mp (show (u_ws RX4 TX4 10).all goodWord = true by decide +kernel) w h⟩
theorem q_in5 : ∀ w ∈ u_ws RX5 TX5 9, w ∈ q_tbl := fun w h => List.mem_filter.mpr ⟨q_inL (big := lw_tbl) (u_ws RX5 TX5 9) [502, 504, 506, 508, 510, 512, 514, 516, 518] (by decide +kernel) w h, List.all_eq_true.mp (show (u_ws RX5 TX5 9).all goodWord = true by decide +kernel) w h⟩
theorem q_in6 : ∀ w ∈ u_ws RX6 TX6 9, w ∈ q_tbl := fun w h => List.mem_filter.mpr ⟨q_inL (big := lw_tbl) (u_ws RX6 TX6 9) [371, 373, 375, 377, 379, 381, 383, 385, 387] (by decide +kernel) w h, List.all_eq_true.mp (show (u_ws RX6 TX6 9).all goodWord = true by decide +kernel) w h⟩
theorem q_in7 : ∀ w ∈ u_ws RX7 TX7 6, w ∈ q_tbl := fun w h => List.mem_filter.mpr ⟨q_inL (big := lw_tbl) (u_ws RX7 TX7 6) [330, 332, 334, 336, 338, 340] (by decide +kernel) w h, List.all_eq_true.mp (show (u_ws RX7 TX7 6).all goodWord = true by decide +kernel) w h⟩
theorem q_in8 : ∀ w ∈ u_ws RX8 TX8 5, w ∈ q_tbl := fun w h => List.mem_filter.mpr ⟨q_inL (big := lw_tbl) (u_ws RX8 TX8 5) [188, 190, 192, 194, 196] (by decide +kernel) w h, List.all_eq_true.mp (show (u_ws RX8 TX8 5).all goodWord = true by decide +kernel) w h⟩
theorem q_in9 : ∀ w ∈ u_ws RX9 TX9 14, w ∈ q_tbl := fun w h => List.mem_filter.mpr ⟨q_inL (big := lw_tbl) (u_ws RX9 TX9 14) [455, 457, 459, 461, 463, 465, 467, 469, 471, 473, 475, 477, 479, 481] (by decide +kernel) w h, List.all_eq_true.mp (show (u_ws RX9 TX9 14).all goodWord = true by decide +kernel) w h⟩
theorem q_in10 : ∀ w ∈ u_ws RX10 TX10 1, w ∈ q_tbl := fun w h => List.mem_filter.mpr ⟨q_inL (big := lw_tbl) (u_ws RX10 TX10 1) [351] (by decide +kernel) w h, List.all_eq_true.mp (show (u_ws RX10 TX10 1).all goodWord = true by decide +kernel) w h⟩
theorem q_in11 : ∀ w ∈ u_ws RX11 TX11 9, w ∈ q_tbl := fun w h => List.mem_filter.mpr ⟨q_inL (big := lw_tbl) (u_ws RX11 TX11 9) [549, 551, 553, 555, 557, 559, 561, 563, 565] (by decide +kernel) w h, List.all_eq_true.mp (show (u_ws RX11 TX11 9).all goodWord = true by decide +kernel) w h⟩
theorem q_in12 : ∀ w ∈ u_ws RX12 TX12 42, w ∈ q_tbl := fun w h => List.mem_filter.mpr ⟨q_inL (big := lw_tbl) (u_ws RX12 TX12 42) [1535, 1537, 1539, 1541, 1543, 1545, 1547, 1549, 1551, 1553, 1555, 1557, 1559, 1561, 1563, 1565, 1567, 1569, 1571, 1573, 1575, 1577, 1579, 1581, 1583, 1585, 1587, 1589, 1591, 1593, 1595, 1597, 1599, 1601, 1603, 1605, 1607, 1609, 1611, 1613, 1615, 1617] (by decide +kernel) w h, List.all_eq_true.mp (show (u_ws RX12 TX12 42).all goodWord = true by decide +kernel) w h⟩
theorem q_in {c : Nat} {r : vw_C} (hc : vwCl[c]? = some r) : ∀ w ∈ u_ws r.1 r.2.1 r.2.2, w ∈ q_tbl := by
  match c, hc with
  | 0, hc => cases hc; exact q_in0
  | 1, hc => cases hc; exact q_in1
  | 2, hc => cases hc; exact q_in2
  | 3, hc => cases hc; exact q_in3
  | 4, hc => cases hc; exact q_in4
  | 5, hc => cases hc; exact q_in5
  | 6, hc => cases hc; exact q_in6
  | 7, hc => cases hc; exact q_in7
  | 8, hc => cases hc; exact q_in8
  | 9, hc => cases hc; exact q_in9
  | 10, hc => cases hc; exact q_in10
  | 11, hc => cases hc; exact q_in11
  | 12, hc => cases hc; exact q_in12
  | c + 13, hc => simp [vwCl] at hc
theorem q_tyok {c : Nat} {r : vw_C} (hc : vwCl[c]? = some r) : ∀ k, k < r.2.2 → parseFieldDescriptor (r.2.1 k).2.2.1 = some (q_ty c k) := by
  match c, hc with
  | 0, hc => cases hc; exact tyX0_ok
  | 1, hc => cases hc; exact tyX1_ok
  | 2, hc => cases hc; exact tyX2_ok
  | 3, hc => cases hc; exact tyX3_ok
  | 4, hc => cases hc; exact tyX4_ok
  | 5, hc => cases hc; exact tyX5_ok
  | 6, hc => cases hc; exact tyX6_ok
  | 7, hc => cases hc; exact tyX7_ok
  | 8, hc => cases hc; exact tyX8_ok
  | 9, hc => cases hc; exact tyX9_ok
  | 10, hc => cases hc; exact tyX10_ok
  | 11, hc => cases hc; exact tyX11_ok
  | 12, hc => cases hc; exact tyX12_ok
  | c + 13, hc => simp [vwCl] at hc
theorem q_nmok {c : Nat} {r : vw_C} (hc : vwCl[c]? = some r) : ∀ a, a < r.2.2 → ∀ b, b < r.2.2 → a ≠ b → (r.2.1 a).2.1 ≠ (r.2.1 b).2.1 := by
  match c, hc with
  | 0, hc => cases hc; exact nmX0
  | 1, hc => cases hc; exact nmX1
  | 2, hc => cases hc; exact nmX2
  | 3, hc => cases hc; exact nmX3
  | 4, hc => cases hc; exact nmX4
  | 5, hc => cases hc; exact nmX5
  | 6, hc => cases hc; exact nmX6
  | 7, hc => cases hc; exact nmX7
  | 8, hc => cases hc; exact nmX8
  | 9, hc => cases hc; exact nmX9
  | 10, hc => cases hc; exact nmX10
  | 11, hc => cases hc; exact nmX11
  | 12, hc => cases hc; exact nmX12
  | c + 13, hc => simp [vwCl] at hc
/-- a field as the class 'own' names it at 'i': field number j of the class number c, which has N fields; final or not -/
def q_fl (own : String) (i c N j : Nat) (fin : Bool) : Prop := ∃ (C : String) (T : u_T), vwCl[c]? = some (C, T, N) ∧ j < N ∧ Cond.fieldLink own i C (T j).2.1 (T j).2.2.1 ∈ q_tbl ∧ (T j).1 = C ∧ (T j).2.2.2 = fin
def q_rd (I : qI) (a n : Nat) (i : Int32) : Option Int32 := if i < 0 ∨ n ≤ i.toNatClampNeg then none else some (I a i.toNatClampNeg)
def q_wr (I : qI) (a n : Nat) (i v : Int32) : Option qI := if i < 0 ∨ n ≤ i.toNatClampNeg then none else some (q_up I a i.toNatClampNeg v)
theorem q_rd_in {I : qI} {a n : Nat} {i v : Int32} (h : q_rd I a n i = some v) : vp_in i n ∧ I a i.toNatClampNeg = v := by
  unfold q_rd at h
  by_cases hc : i < 0 ∨ n ≤ i.toNatClampNeg
  · rw [if_pos hc] at h; cases h
  · rw [if_neg hc] at h; exact ⟨hc, Option.some.inj h⟩
theorem q_wr_in {I J : qI} {a n : Nat} {i v : Int32} (h : q_wr I a n i v = some J) : vp_in i n ∧ q_up I a i.toNatClampNeg v = J := by
  unfold q_wr at h
  by_cases hc : i < 0 ∨ n ≤ i.toNatClampNeg
  · rw [if_pos hc] at h; cases h
  · rw [if_neg hc] at h; exact ⟨hc, Option.some.inj h⟩
theorem q_w_I (Γ : qC) {I I' : qI} {R : qR} {K : List (Nat × Nat)} {k : Nat} {d : Nat × Nat} {f : Nat → Int32} (h : q_kd (R, K) k = some d) (e : I' = q_upA I k f) : (q_w Γ I (R, K)).set (k - 64) (q_ad Γ k, q_cell Γ I' R k d) = q_w Γ I' (R, K) := by
  subst e
  exact q_w_set Γ I _ h (fun b hb d' => q_cell_up hb d')
theorem q_w_fresh (Γ : qC) {I : qI} {R R' : qR} {K : List (Nat × Nat)} {f : Nat → Int32} (hR : ∀ b, b < K.length + 64 → R' b = R b) : q_w Γ (q_upA I (K.length + 64) f) (R', K) = q_w Γ I (R, K) := by
  unfold q_w
  apply List.ext_getElem?
  intro i
  rw [List.getElem?_mapIdx, List.getElem?_mapIdx]
  cases hK : K[i]? with
  | none => simp only [hK, Option.map_none]
  | some d =>
    have hi : i < K.length := (List.getElem?_eq_some_iff.mp hK).1
    simp only [hK, Option.map_some]
    rw [q_cell_up (by omega)]
    have e := hR (i + 64) (by omega)
    unfold q_cell q_fv
    rw [e]
section HP
variable {l : Launch} {Γ : qC} {own : String} {cc : ByteArray} {nL : Nat} {R : Room} {nm : String} {rt : Option FieldType} {g : qG} {cells slots pc n : Nat} {L : List (Nat × Value)} {S : List Value} {I : qI} {X : qX}
theorem r_getI (hg : q_Ok l Γ own cc nL R nm rt g) {i ci N j b : Nat} {fin : Bool} (hd : q_at cc pc (.getfield i) 3 n) (hf : q_fl own i ci N j fin) (hk : q_kd X b = some (ci + 2, N)) (hq : q_isR ci j = false) (k : g cells slots n L (.int (I b j) :: S) I X) : g cells slots pc L (.ref b :: S) I X := by
  obtain ⟨p, e, s, m, args, below, meth, c, Q, ⟨hx, hb, hr, hml, hown, hts, hK, hO, hlk, hnm⟩, rfl⟩ := hg
  obtain ⟨hd, rfl⟩ := hd
  intro H locs ls hP hz hS hL
  obtain ⟨C, T, hc, hj, hw, ho, -⟩ := hf
  refine va_get (C := C) (T := T) (N := N) (ci := ci) (ref := C) hx hb hts (q_in hc) hown hK hP (b - 64) (q_w_at Γ I hk) hc j hj (hts _ hw) (fun x hx => by rw [ho] at hx; exact hx) (v := .int (I b j)) ?_ hd (k H locs ls hP hz hS hL)
  rw [q_fs_at hj]
  unfold q_fv
  rw [hq]
  rfl
theorem r_getQ (hg : q_Ok l Γ own cc nL R nm rt g) {i ci N j b : Nat} {fin : Bool} (hd : q_at cc pc (.getfield i) 3 n) (hf : q_fl own i ci N j fin) (hk : q_kd X b = some (ci + 2, N)) (hq : q_isR ci j = true) (k : g cells slots n L (va_rf (X.1 b j) :: S) I X) : g cells slots pc L (.ref b :: S) I X := by
  obtain ⟨p, e, s, m, args, below, meth, c, Q, ⟨hx, hb, hr, hml, hown, hts, hK, hO, hlk, hnm⟩, rfl⟩ := hg
  obtain ⟨hd, rfl⟩ := hd
  intro H locs ls hP hz hS hL
  obtain ⟨C, T, hc, hj, hw, ho, -⟩ := hf
  have k := k H locs ls hP hz hS hL
  rw [List.map_cons, q_v_rf] at k
  refine va_get (C := C) (T := T) (N := N) (ci := ci) (ref := C) hx hb hts (q_in hc) hown hK hP (b - 64) (q_w_at Γ I hk) hc j hj (hts _ hw) (fun x hx => by rw [ho] at hx; exact hx) (v := va_rf ((X.1 b j).map (q_ad Γ))) ?_ hd k
  rw [q_fs_at hj]
  unfold q_fv
  rw [hq]
  rfl
theorem r_getR (hg : q_Ok l Γ own cc nL R nm rt g) {i ci N j b a : Nat} {fin : Bool} (hd : q_at cc pc (.getfield i) 3 n) (hf : q_fl own i ci N j fin) (hk : q_kd X b = some (ci + 2, N)) (hq : q_isR ci j = true) (hR : X.1 b j = some a) (k : g cells slots n L (.ref a :: S) I X) : g cells slots pc L (.ref b :: S) I X :=
  r_getQ hg hd hf hk hq (by rw [hR]; exact k)
/-- an int or boolean field that isn't final -/
theorem r_putI (hg : q_Ok l Γ own cc nL R nm rt g) {i ci N j b : Nat} {v : Int32} (hd : q_at cc pc (.putfield i) 3 n) (hf : q_fl own i ci N j false) (hk : q_kd X b = some (ci + 2, N)) (hq : q_isR ci j = false) (hty : narrow (q_ty ci j) (.int v) = .int v ∧ fits (q_ty ci j) (.int v) = true) (k : g cells slots n L S (q_up I b j v) X) : g cells slots pc L (.int v :: .ref b :: S) I X := by
  obtain ⟨p, e, s, m, args, below, meth, c, Q, ⟨hx, hb, hr, hml, hown, hts, hK, hO, hlk, hnm⟩, rfl⟩ := hg
  obtain ⟨hd, rfl⟩ := hd
  intro H locs ls hP hz hS hL
  obtain ⟨C, T, hc, hj, hw, ho, hfi⟩ := hf
  have he := q_w_at Γ I hk
  have hap := va_apart (own := own) hts (q_in hc) (q_ty ci) (q_tyok hc) (q_nmok hc) hK hc
  obtain ⟨r, h1, cell, q1, q2, q3, q4⟩ := hP (b - 64) _ he
  have hr : r = (C, T, N) := Option.some.inj (h1.symm.trans hc)
  subst hr
  obtain ⟨hSl, hfc, kC, hkC, hkind⟩ := hK.1 ci _ hc
  obtain ⟨cf, kf, fi, f, hi, hsl⟩ := hSl j hj
  have hlay := hts _ (q_in hc _ (u_in_lay hj))
  unfold u_lay at hlay
  rw [if_neg (by rw [hfi]; decide)] at hlay
  have hst := (u_facts hfc hkC (u_lays hts (q_in hc) hj) hi).1
  have h6 := u_store hfc hkC hkind hlay hi (q_tyok hc j hj) hty.1 hty.2
  have hi2 := hi
  rw [ho] at hi2
  refine W.putK hx hb (f := f) ⟨hown, hts _ hw, ⟨_, _, _, hi2⟩, hst⟩ (by rw [q2]; exact h6) q1 q3 (by rw [hsl]; exact k2_hasslot (q4 j hj)) rfl rfl hd fun H' e1 e2 e3 => ?_
  rw [hsl] at e1 ⊢
  refine k H' _ ls ?_ (by rw [e2]; exact hz) (hS.put e2 e3 ((q_w_D Γ I X).2 _ _ he)) hL
  have e := q_w_I (I' := q_up I b j v) (f := upd (I b) j v) Γ hk rfl
  rw [← e]
  refine hP.set (q_w_D Γ I X) he ⟨_, hc, ?_⟩ e3
  show t_OB _ _ _ _ _ (vp_V ((List.range N).map (q_fv Γ (q_up I b j v) X.1 b ci)))
  rw [← q_fs_setI hq]
  exact t_OB.to (V := updV (vp_V _) j (.int v)) ⟨_, e1, q2, q3, t_set q4 hap hj (.int v)⟩ (fun i _ => vp_updV_set (by simpa using hj) (.int v) i)
/-- a final field, in its own class' constructor -/
theorem q_putF (hg : q_Ok l Γ own cc nL R nm rt g) {i ci N j b : Nat} {v : Value} {I' : qI} {R' : qR} (hd : q_at cc pc (.putfield i) 3 n) (hf : q_fl own i ci N j true) (hC : ∃ T : u_T, vwCl[ci]? = some (own, T, N)) (hin : nm = "<init>") (hk : q_kd X b = some (ci + 2, N)) (hty : narrow (q_ty ci j) (q_v Γ v) = q_v Γ v ∧ fits (q_ty ci j) (q_v Γ v) = true) (hset : ((List.range N).map (q_fv Γ I X.1 b ci)).set j (q_v Γ v) = (List.range N).map (q_fv Γ I' R' b ci)) (ho2 : ∀ b', b' ≠ b → ∀ d', q_cell Γ I' R' b' d' = q_cell Γ I X.1 b' d') (k : g cells slots n L S I' (R', X.2)) : g cells slots pc L (v :: .ref b :: S) I X := by
  obtain ⟨p, e, s, m, args, below, meth, c, Q, ⟨hx, hb, hr, hml, hown, hts, hK, hO, hlk, hnm⟩, rfl⟩ := hg
  obtain ⟨hd, rfl⟩ := hd
  intro H locs ls hP hz hS hL
  obtain ⟨C, T, hc, hj, hw, ho, hfi⟩ := hf
  obtain ⟨T2, hC⟩ := hC
  have hCo : C = own := congrArg Prod.fst (Option.some.inj (hc.symm.trans hC))
  have he := q_w_at Γ I hk
  have hap := va_apart (own := own) hts (q_in hc) (q_ty ci) (q_tyok hc) (q_nmok hc) hK hc
  obtain ⟨r, h1, cell, q1, q2, q3, q4⟩ := hP (b - 64) _ he
  have hr : r = (C, T, N) := Option.some.inj (h1.symm.trans hc)
  subst hr
  obtain ⟨hSl, hfc, kC, hkC, hkind⟩ := hK.1 ci _ hc
  obtain ⟨cf, kf, fi, f, hi, hsl⟩ := hSl j hj
  have hlay := hts _ (q_in hc _ (u_in_lay hj))
  unfold u_lay at hlay
  rw [if_pos hfi] at hlay
  have hst := (u_facts hfc hkC (u_lays hts (q_in hc) hj) hi).1
  have hcf : m.cls = cf := by
    obtain ⟨_, _, c', _, _, _, -, -, hf', -, -, -, hown2, -⟩ := Cond.laysFinal_spec hlay
    have e1 : c' = cf := by have := hi.symm.trans hf'; simp at this; exact this.1.symm
    have e2 : (T j).1 = own := ho.trans hCo
    simp only [e2] at hown2
    rw [← e1]; exact Option.some.inj (hown.symm.trans hown2)
  have h6 := u_fits hfc hkC hkind (Or.inr hlay) hi (q_tyok hc j hj) hty.1 hty.2
  have hi2 := hi
  rw [ho] at hi2
  refine W.putFinK hx hb hown (hts _ hw) hi2 hst hcf (hnm.trans hin) (by rw [q2]; exact h6) q1 q3 (by rw [hsl]; exact k2_hasslot (q4 j hj)) rfl rfl hd fun H' e1 e2 e3 => ?_
  rw [hsl] at e1 ⊢
  refine k H' _ ls ?_ (by rw [e2]; exact hz) (hS.put e2 e3 ((q_w_D Γ I X).2 _ _ he)) hL
  have e := q_w_set Γ I I' (R := X.1) (R' := R') (K := X.2) hk ho2
  rw [← e]
  refine hP.set (q_w_D Γ I X) he ⟨_, hc, ?_⟩ e3
  show t_OB _ _ _ _ _ (vp_V ((List.range N).map (q_fv Γ I' R' b ci)))
  rw [← hset]
  exact t_OB.to (V := updV (vp_V _) j (q_v Γ v)) ⟨_, e1, q2, q3, t_set q4 hap hj (q_v Γ v)⟩ (fun i _ => vp_updV_set (by simpa using hj) (q_v Γ v) i)
theorem r_putFR (hg : q_Ok l Γ own cc nL R nm rt g) {i ci N j b a : Nat} (hd : q_at cc pc (.putfield i) 3 n) (hf : q_fl own i ci N j true) (hC : ∃ T : u_T, vwCl[ci]? = some (own, T, N)) (hin : nm = "<init>") (hk : q_kd X b = some (ci + 2, N)) (hq : q_isR ci j = true) (k : g cells slots n L S I (q_upR X.1 b j (some a), X.2)) : g cells slots pc L (.ref a :: .ref b :: S) I X := by
  refine q_putF hg hd hf hC hin hk ?_ (q_fs_setR (v := some a) hq) (fun b' hb d' => q_cell_upR hb d') k
  unfold q_isR at hq
  split at hq
  · rename_i h; rw [h]; exact ⟨rfl, rfl⟩
  · rename_i h; rw [h]; exact ⟨rfl, rfl⟩
  · cases hq
theorem r_iald (hg : q_Ok l Γ own cc nL R nm rt g) {a N : Nat} {i v : Int32} (hd : q_at cc pc (.iaload) 1 n) (hk : q_kd X a = some (0, N)) (hv : q_rd I a N i = some v) (k : g cells slots n L (.int v :: S) I X) : g cells slots pc L (.int i :: .ref a :: S) I X := by
  obtain ⟨p, e, s, m, args, below, meth, c, Q, ⟨hx, hb, hr, hml, hown, hts, hK, hO, hlk, hnm⟩, rfl⟩ := hg
  obtain ⟨hd, rfl⟩ := hd
  intro H locs ls hP hz hS hL
  obtain ⟨hin, rfl⟩ := q_rd_in hv
  exact va_iald hx hb hK hP (a - 64) 0 (q_w_at Γ I hk) rfl hin hd (k H locs ls hP hz hS hL)
theorem r_iast (hg : q_Ok l Γ own cc nL R nm rt g) {a N : Nat} {i v : Int32} {J : qI} (hd : q_at cc pc (.iastore) 1 n) (hk : q_kd X a = some (0, N)) (hv : q_wr I a N i v = some J) (k : g cells slots n L S J X) : g cells slots pc L (.int v :: .int i :: .ref a :: S) I X := by
  obtain ⟨p, e, s, m, args, below, meth, c, Q, ⟨hx, hb, hr, hml, hown, hts, hK, hO, hlk, hnm⟩, rfl⟩ := hg
  obtain ⟨hd, rfl⟩ := hd
  intro H locs ls hP hz hS hL
  obtain ⟨hin, rfl⟩ := q_wr_in hv
  have he := q_w_at Γ I hk
  refine W.iast hx hb (hP (a - 64) _ he) ((hK.2 0 _ rfl).1 N (fun j => .int (I a j))) (fun q => by cases q) (by show ¬ (i < 0 ∨ (arrV _ _ _).slots.size ≤ _); rw [arrV_size]; exact hin) rfl rfl hd fun H1 e1 e2 e3 => ?_
  refine k H1 _ ls ?_ (by rw [e2]; exact hz) (hS.put e2 e3 ((q_w_D Γ I X).2 _ _ he)) hL
  have e := q_w_I (I' := q_up I a i.toNatClampNeg v) (f := upd (I a) i.toNatClampNeg v) Γ hk rfl
  rw [← e]
  refine hP.set (q_w_D Γ I X) he ?_ e3
  show H1[_]? = some (vp_cell (q_cI Γ) (N, .inl (q_up I a i.toNatClampNeg v a)))
  rw [e1]
  show some ((vp_cell (q_cI Γ) (N, .inl (I a))).setSlot _ _) = _
  rw [vp_cell_i, vp_cell_i, arrV_store]
  congr 2
  funext q
  by_cases hq : q = i.toNatClampNeg
  · subst hq
    simp [updV, q_up, upd]
  · simp [updV, q_up, upd, hq]
theorem r_alen (hg : q_Ok l Γ own cc nL R nm rt g) {a N : Nat} (hd : q_at cc pc (.arraylength) 1 n) (hk : q_kd X a = some (0, N)) (k : g cells slots n L (.int (nI N) :: S) I X) : g cells slots pc L (.ref a :: S) I X := by
  obtain ⟨p, e, s, m, args, below, meth, c, Q, ⟨hx, hb, hr, hml, hown, hts, hK, hO, hlk, hnm⟩, rfl⟩ := hg
  obtain ⟨hd, rfl⟩ := hd
  intro H locs ls hP hz hS hL
  exact va_alen hx hb hK hP (a - 64) 0 (q_w_at Γ I hk) rfl rfl hd (k H locs ls hP hz hS hL)
theorem q_oldA {k : Nat} {s : State} {H : Heap} {locs : List Loc} (hO : q_Old Γ s) (hk : k < 4) (_ : va_S (q_A Γ) s.heap H locs) : va_X (Γ.1 k) (q_ol Γ k) (q_ov Γ k) s s.heap ∧ Γ.1 k < s.heap.size ∧ ¬ q_A Γ (Γ.1 k) ∧ q_ad Γ k = Γ.1 k := by
  obtain ⟨a, b⟩ := hO.2.1 k hk
  refine ⟨b, Nat.lt_of_lt_of_le a hO.1, Nat.not_le.mpr a, ?_⟩
  unfold q_ad
  rw [if_pos (by omega)]
/-- an old int array (the script, a static one): read, length -/
theorem r_ialdO (hg : q_Ok l Γ own cc nL R nm rt g) {a : Nat} {i : Int32} (hd : q_at cc pc (.iaload) 1 n) (hk : a < 4) (hin : vp_in i (q_ol Γ a)) (k : g cells slots n L (.int (q_ov Γ a i.toNatClampNeg) :: S) I X) : g cells slots pc L (.int i :: .ref a :: S) I X := by
  obtain ⟨p, e, s, m, args, below, meth, c, Q, ⟨hx, hb, hr, hml, hown, hts, hK, hO, hlk, hnm⟩, rfl⟩ := hg
  obtain ⟨hd, rfl⟩ := hd
  intro H locs ls hP hz hS hL
  obtain ⟨b1, b2, b3, b4⟩ := q_oldA hO hk hS
  show W p l e R s m args below meth c H locs cells slots Q (F0 m pc ls (.int i :: .ref (q_ad Γ a) :: S.map (q_v Γ)))
  rw [b4]
  exact va_sld hx hb b1 b2 b3 hS hin hd (k H locs ls hP hz hS hL)
theorem r_alenO (hg : q_Ok l Γ own cc nL R nm rt g) {a : Nat} (hd : q_at cc pc (.arraylength) 1 n) (hk : a < 4) (k : g cells slots n L (.int (nI (q_ol Γ a)) :: S) I X) : g cells slots pc L (.ref a :: S) I X := by
  obtain ⟨p, e, s, m, args, below, meth, c, Q, ⟨hx, hb, hr, hml, hown, hts, hK, hO, hlk, hnm⟩, rfl⟩ := hg
  obtain ⟨hd, rfl⟩ := hd
  intro H locs ls hP hz hS hL
  obtain ⟨b1, b2, b3, b4⟩ := q_oldA hO hk hS
  show W p l e R s m args below meth c H locs cells slots Q (F0 m pc ls (.ref (q_ad Γ a) :: S.map (q_v Γ)))
  rw [b4]
  exact va_slen hx hb b1 b2 b3 hS hd (k H locs ls hP hz hS hL)
/-- a static array of the class' own -/
theorem r_gets (hg : q_Ok l Γ own cc nL R nm rt g) {i a : Nat} {C f : String} (hd : q_at cc pc (.getstatic i) 3 n) (hw : Cond.fieldLink own i C f "[I" ∈ q_tbl) (ha : (a = 1 ∧ C = "TokenValley$Men" ∧ f = "LEAST_V") ∨ (a = 2 ∧ C = "TokenValley$Men" ∧ f = "MOST_V") ∨ (a = 3 ∧ C = "TokenValley$Dues" ∧ f = "ABOVE")) (k : g cells slots n L (.ref a :: S) I X) : g cells slots pc L S I X := by
  obtain ⟨p, e, s, m, args, below, meth, c, Q, ⟨hx, hb, hr, hml, hown, hts, hK, hO, hlk, hnm⟩, rfl⟩ := hg
  obtain ⟨hd, rfl⟩ := hd
  intro H locs ls hP hz hS hL
  have k := k H locs ls hP hz hS hL
  obtain ⟨-, -, ⟨z1, z2, z3⟩, -⟩ := hO
  rcases ha with ⟨rfl, rfl, rfl⟩ | ⟨rfl, rfl, rfl⟩ | ⟨rfl, rfl, rfl⟩
  · exact va_gets hx hb z1 hS hown (hts _ hw) (fun _ h => h) hd k
  · exact va_gets hx hb z2 hS hown (hts _ hw) (fun _ h => h) hd k
  · exact va_gets hx hb z3 hS hown (hts _ hw) (fun _ h => h) hd k
theorem q_S_push {A : Nat → Prop} {H0 H H1 : Heap} {locs : List Loc} (h : va_S A H0 H locs) (z : H1.size = H.size + 1) (o : ∀ q : Nat, q < H.size → H1[q]? = H[q]?) : va_S A H0 H1 locs :=
  ⟨Nat.le_trans h.1 (by omega), fun q h1 h2 => (o q (Nat.lt_of_lt_of_le h1 h.1)).trans (h.2.1 q h1 h2), h.2.2⟩
theorem q_P_push {Γ : qC} {I I' : qI} {R R' : qR} {K : List (Nat × Nat)} {d : Nat × Nat} {H H1 : Heap} {f : Nat → Int32} (hP : va_P (q_D Γ) vwCl (q_w Γ I (R, K)) H) (hz : H.size = q_sz Γ + K.length) (o : ∀ q : Nat, q < H.size → H1[q]? = H[q]?) (hI : I' = q_upA I (K.length + 64) f) (hR : ∀ b, b < K.length + 64 → R' b = R b) (hc : va_at (q_D Γ) vwCl (q_sz Γ + K.length, q_cell Γ I' R' (K.length + 64) d) H1) : va_P (q_D Γ) vwCl (q_w Γ I' (R', K ++ [d])) H1 := by
  subst hI
  rw [q_w_push, q_w_fresh Γ (R := R) hR]
  refine (hP.kept (fun k x hx => o x.1 ((hP k x hx).lt))).app ?_
  intro k q hk
  have hz0 : k < 1 := (List.getElem?_eq_some_iff.mp hk).1
  rw [show k = 0 by omega] at hk
  cases hk
  exact hc
theorem r_newa (hg : q_Ok l Γ own cc nL R nm rt g) {z : Int32} {N : Nat} (hd : q_at cc pc (.newarray .int) 2 n) (hw : Cond.arrayClass .int ∈ q_tbl) (hn : ¬ z < 0) (hN : z.toNatClampNeg = N) (hby : N * 4 ≤ 536870912) (hc : cells + 1 ≤ R.cells) (hs : slots + N ≤ R.slots) (k : g (cells + 1) (slots + N) n L (.ref (X.2.length + 64) :: S) (q_upA I (X.2.length + 64) (fun _ => 0)) (X.1, X.2 ++ [(0, N)])) : g cells slots pc L (.int z :: S) I X := by
  obtain ⟨p, e, s, m, args, below, meth, c, Q, ⟨hx, hb, hr, hml, hown, hts, hK, hO, hlk, hnm⟩, rfl⟩ := hg
  obtain ⟨hd, rfl⟩ := hd
  intro H locs ls hP hz hS hL
  refine va_newaK (atype := .int) hx hb (hts _ hw) rfl hd rfl hn hN hby hc hs hz fun H1 cA e1 z1 o1 hAr hNm => ?_
  have hcI : cA = q_cI Γ := by
    have h2 : s.vm.findClass ("[" ++ FieldType.int.toString) = some (q_cI Γ) := (hK.2 0 _ rfl).2
    exact Option.some.inj (hNm.symm.trans h2)
  subst hcI
  have k := k H1 locs ls (q_P_push hP hz (fun q hq => o1 q (by rw [← hz]; exact hq)) rfl (fun _ _ => rfl) ?_) (by rw [z1]; simp [Nat.add_assoc]) (q_S_push hS (by rw [z1, hz]) (fun q hq => o1 q (by rw [← hz]; exact hq))) hL
  · have e : q_v Γ (.ref (X.2.length + 64)) = .ref (q_sz Γ + X.2.length) := by
      show Value.ref (q_ad Γ _) = _
      rw [q_ad_ge (by omega)]
      congr 2
    rw [List.map_cons, e] at k
    exact k
  · show H1[q_sz Γ + X.2.length]? = some (vp_cell (q_cI Γ) (N, .inl (q_upA I (X.2.length + 64) (fun _ => 0) (X.2.length + 64))))
    rw [e1, vp_cell_i]
    congr 2
    funext j
    simp [q_upA, defaultValue, newarray.typeOf]
theorem r_anewA (hg : q_Ok l Γ own cc nL R nm rt g) {z : Int32} {i N : Nat} (hd : q_at cc pc (.anewarray i) 3 n) (hw : Cond.classLink own i "[I" ∈ q_tbl) (hn : ¬ z < 0) (hN : z.toNatClampNeg = N) (hby : N * 4 ≤ 536870912) (hc : cells + 1 ≤ R.cells) (hs : slots + N ≤ R.slots) (k : g (cells + 1) (slots + N) n L (.ref (X.2.length + 64) :: S) (q_upA I (X.2.length + 64) (fun _ => 0)) ((fun b => if b = X.2.length + 64 then (fun _ => none) else X.1 b), X.2 ++ [(1, N)])) : g cells slots pc L (.int z :: S) I X := by
  obtain ⟨p, e, s, m, args, below, meth, c, Q, ⟨hx, hb, hr, hml, hown, hts, hK, hO, hlk, hnm⟩, rfl⟩ := hg
  obtain ⟨hd, rfl⟩ := hd
  intro H locs ls hP hz hS hL
  subst hN
  refine W.anewA (t := .int) hx hb hown (hts _ hw) (show (Cond.arrayOver (.array .int)).before args s = true from hO.2.2.2.2.1) rfl hd rfl hn hby hc hs fun cA kA comp f1 f2 f3 f4 => ?_
  generalize hH1 : H.push ({ cls := cA, slots := Array.replicate z.toNatClampNeg .null, vm := .none } : Cell) = H1
  have z1 : H1.size = H.size + 1 := by rw [← hH1, Array.size_push]
  have e1 : H1[H.size]? = some (arrV cA z.toNatClampNeg (fun _ => .null)) := by rw [← hH1, Array.getElem?_push_size, ← arrV_new]
  have o1 : ∀ q : Nat, q < H.size → H1[q]? = H[q]? := fun q hq => by rw [← hH1, Array.getElem?_push, if_neg (Nat.ne_of_lt hq)]
  have hcA : cA = q_cA Γ := by
    have h2 : s.vm.findClass ("[" ++ (FieldType.array .int).toString) = some (q_cA Γ) := (hK.2 1 _ rfl).2
    exact Option.some.inj (f1.symm.trans h2)
  subst hcA
  have k := k H1 locs ls (q_P_push hP hz o1 rfl (fun b hb => if_neg (Nat.ne_of_lt hb)) ?_) (by rw [z1, hz]; simp [Nat.add_assoc]) (q_S_push hS z1 o1) hL
  · have e : q_v Γ (.ref (X.2.length + 64)) = .ref H.size := by
      show Value.ref (q_ad Γ _) = _
      rw [q_ad_ge (by omega), hz]
      congr 2
    rw [List.map_cons, e] at k
    exact k
  · show H1[q_sz Γ + X.2.length]? = some (vp_cell (q_cA Γ) (z.toNatClampNeg, .inr (.inr (.inr (.inr _)))))
    rw [← hz, e1, vp_cell_q]
    congr 2
    funext j
    simp [va_rf]
theorem r_new (hg : q_Ok l Γ own cc nL R nm rt g) {i ci N : Nat} {C : String} {T : u_T} (hd : q_at cc pc (.new i) 3 n) (hC : vwCl[ci]? = some (C, T, N)) (hw : Cond.classLink own i C ∈ q_tbl ∧ Cond.instantiable C N ∈ q_tbl ∧ Cond.initialized C ∈ q_tbl) (hdf : ∀ j, j < N → defaultValue (q_ty ci j) = if q_isR ci j = true then .null else .int 0) (hc : cells + 1 ≤ R.cells) (hs : slots + N ≤ R.slots) (k : g (cells + 1) (slots + N) n L (.ref (X.2.length + 64) :: S) (q_upA I (X.2.length + 64) (fun _ => 0)) ((fun b => if b = X.2.length + 64 then (fun _ => none) else X.1 b), X.2 ++ [(ci + 2, N)])) : g cells slots pc L S I X := by
  obtain ⟨p, e, s, m, args, below, meth, c, Q, ⟨hx, hb, hr, hml, hown, hts, hK, hO, hlk, hnm⟩, rfl⟩ := hg
  obtain ⟨hd, rfl⟩ := hd
  intro H locs ls hP hz hS hL
  have hKn := hK.1 ci _ hC
  refine W.newcK hx hb hown (hts _ hw.1) (hts _ hw.2.1) (hts _ hw.2.2) rfl hd hc hs hKn.2.1 hz fun H1 kC hkC e1 z1 o1 => ?_
  have k := k H1 locs ls (q_P_push hP hz (fun q hq => o1 q (by rw [← hz]; exact hq)) rfl (fun b hb => if_neg (Nat.ne_of_lt hb)) ?_) (by rw [z1]; simp [Nat.add_assoc]) (q_S_push hS (by rw [z1, hz]) (fun q hq => o1 q (by rw [← hz]; exact hq))) hL
  · have e : q_v Γ (.ref (X.2.length + 64)) = .ref (q_sz Γ + X.2.length) := by
      show Value.ref (q_ad Γ _) = _
      rw [q_ad_ge (by omega)]
      congr 2
    rw [List.map_cons, e] at k
    exact k
  · refine ⟨_, hC, (u_born (q_ty ci) hts (q_in hC) hKn hkC e1 (q_tyok hC)).to (fun j hj => ?_)⟩
    show defaultValue (q_ty ci j) = vp_V _ j
    rw [hdf j hj]
    unfold vp_V
    rw [List.getD_eq_getElem?_getD, q_fs_at hj]
    unfold q_fv
    simp [q_upA, va_rf]
theorem r_aald (hg : q_Ok l Γ own cc nL R nm rt g) {a N : Nat} {i : Int32} (hd : q_at cc pc (.aaload) 1 n) (hk : q_kd X a = some (1, N)) (hin : vp_in i N) (k : g cells slots n L (va_rf (X.1 a i.toNatClampNeg) :: S) I X) : g cells slots pc L (.int i :: .ref a :: S) I X := by
  obtain ⟨p, e, s, m, args, below, meth, c, Q, ⟨hx, hb, hr, hml, hown, hts, hK, hO, hlk, hnm⟩, rfl⟩ := hg
  obtain ⟨hd, rfl⟩ := hd
  intro H locs ls hP hz hS hL
  have k := k H locs ls hP hz hS hL
  rw [List.map_cons, q_v_rf] at k
  have hlt : i.toNatClampNeg < N := Nat.not_le.mp fun q => hin (Or.inr q)
  exact W.aald (v := va_rf ((X.1 a i.toNatClampNeg).map (q_ad Γ))) (ty := .array .int) hx hb (hP (a - 64) _ (q_w_at Γ I hk)) ((hK.2 1 _ rfl).1 N (fun j => va_rf ((X.1 a j).map (q_ad Γ)))) rfl (fun q => by cases q) (by show ¬ (i < 0 ∨ (arrV _ _ _).slots.size ≤ _); rw [arrV_size]; exact hin) (by show (arrV _ _ _).slots[_]? = _; rw [arrV_read _ _ hlt]) rfl rfl hd k
theorem r_min (hg : q_Ok l Γ own cc nL R nm rt g) {i : Nat} {x y : Int32} (hd : q_at cc pc (.invokestatic i) 3 n) (hw : Cond.methodLink own i Lib.Math.min.name ∈ q_tbl ∧ Cond.static Lib.Math.min.name ∈ q_tbl ∧ Cond.initialized "java/lang/Math" ∈ q_tbl ∧ Cond.code Lib.Math.min.name Lib.Math.min.code 2 (some .int) ∈ q_tbl) (hR : 1 ≤ R.frames ∧ (S.map fun v => v.category).sum + 13 ≤ R.locals) (hc : cells ≤ R.cells ∧ slots ≤ R.slots) (k : g cells slots n L (.int (if y < x then y else x) :: S) I X) : g cells slots pc L (.int y :: .int x :: S) I X := by
  obtain ⟨p, e, s, m, args, below, meth, c, Q, ⟨hx, hb, hr, hml, hown, hts, hK, hO, hlk, hnm⟩, rfl⟩ := hg
  obtain ⟨hd, rfl⟩ := hd
  intro H locs ls hP hz hS hL
  refine va_mmin hx hb (by rw [hml, hL.1]) hown (hts _ hw.1) (hts _ hw.2.1) (hts _ hw.2.2.1) (hts _ hw.2.2.2) hR.1 ?_ hc.1 hc.2 hd ?_
  · have e : ((S.map (q_v Γ)).map fun v => v.category) = S.map fun v => v.category := by rw [List.map_map]; exact List.map_congr_left (fun v _ => q_v_cat Γ v)
    rw [e]; exact hR.2
  · exact k H locs ls hP hz hS hL
theorem r_max (hg : q_Ok l Γ own cc nL R nm rt g) {i : Nat} {x y : Int32} (hd : q_at cc pc (.invokestatic i) 3 n) (hw : Cond.methodLink own i Lib.Math.max.name ∈ q_tbl ∧ Cond.static Lib.Math.max.name ∈ q_tbl ∧ Cond.initialized "java/lang/Math" ∈ q_tbl ∧ Cond.code Lib.Math.max.name Lib.Math.max.code 2 (some .int) ∈ q_tbl) (hR : 1 ≤ R.frames ∧ (S.map fun v => v.category).sum + 13 ≤ R.locals) (hc : cells ≤ R.cells ∧ slots ≤ R.slots) (k : g cells slots n L (.int (if x < y then y else x) :: S) I X) : g cells slots pc L (.int y :: .int x :: S) I X := by
  obtain ⟨p, e, s, m, args, below, meth, c, Q, ⟨hx, hb, hr, hml, hown, hts, hK, hO, hlk, hnm⟩, rfl⟩ := hg
  obtain ⟨hd, rfl⟩ := hd
  intro H locs ls hP hz hS hL
  refine va_mmax hx hb (by rw [hml, hL.1]) hown (hts _ hw.1) (hts _ hw.2.1) (hts _ hw.2.2.1) (hts _ hw.2.2.2) hR.1 ?_ hc.1 hc.2 hd ?_
  · have e : ((S.map (q_v Γ)).map fun v => v.category) = S.map fun v => v.category := by rw [List.map_map]; exact List.map_congr_left (fun v _ => q_v_cat Γ v)
    rw [e]; exact hR.2
  · exact k H locs ls hP hz hS hL

end HP
