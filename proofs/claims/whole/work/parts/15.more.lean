/-! stores into an int[][], String constants, calls that make cells -/
/-- what an int[][] may be given -/
def q_wrR (X : qX) (a n : Nat) (i : Int32) (r : Option Nat) : Option qX := if (i < 0 ∨ n ≤ i.toNatClampNeg) ∨ (r ≠ none ∧ q_arr X r = none) then none else some (q_upR X.1 a i.toNatClampNeg r, X.2)
theorem q_wrR_in {X Y : qX} {a n : Nat} {i : Int32} {r : Option Nat} (h : q_wrR X a n i r = some Y) : vp_in i n ∧ (∀ v, r = some v → ∃ m, q_kd X v = some (0, m)) ∧ Y = (q_upR X.1 a i.toNatClampNeg r, X.2) := by
  unfold q_wrR at h
  by_cases hc : (i < 0 ∨ n ≤ i.toNatClampNeg) ∨ (r ≠ none ∧ q_arr X r = none)
  · rw [if_pos hc] at h; cases h
  · rw [if_neg hc] at h
    refine ⟨fun q => hc (Or.inl q), fun v hv => ?_, (Option.some.inj h).symm⟩
    subst hv
    cases ha : q_arr X (some v) with
    | none => exact absurd (Or.inr ⟨by simp, ha⟩) hc
    | some q =>
      obtain ⟨e1, e2⟩ := q_arr_some (show q_arr X (some v) = some (q.1, q.2) from ha)
      cases e1
      exact ⟨q.2, e2⟩
section MO
variable {l : Launch} {Γ : qC} {own : String} {cc : ByteArray} {nL : Nat} {R : Room} {nm : String} {rt : Option FieldType} {g : qG} {cells slots pc n : Nat} {L : List (Nat × Value)} {S : List Value} {I : qI} {X : qX}
theorem q_aastN0 {p : Program} {e : Env} {s : State} {m : MethodId} {args : Array Value} {below : List Frame} {meth : Method} {c : Code} {locs : List Loc} {T : State} (X : Stand p l e R s m args below meth c T locs cells slots) (hexec : p.tables.exec = Jvm.exec) {a : Addr} {cell : Cell} {j : Int32} (hcell : T.heap[a]? = some cell) (harr : s.isArrayOf cell (.array .int)) (hknown : cell.vm ≠ .unknown)
    (hin : ¬ (j < 0 ∨ cell.slots.size ≤ j.toNatClampNeg))
    {g : JFrame} (hg : g.method = m) {rest : List Value} (hstack : g.stack = .null :: .int j :: .ref a :: rest) (hdg : decode c.code g.pc = .ok (.aastore, 1)) :
    Stand p l e R s m args below meth c (T.setCell a (cell.setSlot j.toNatClampNeg .null)) (locs ++ [⟨a, j.toNatClampNeg⟩]) cells slots ∧
      ∀ target, Steps p.tables e below ((T.setCell a (cell.setSlot j.toNatClampNeg .null)).setTop { g with pc := g.pc + 1, stack := rest }) target → Steps p.tables e below (T.setTop g) target := by
  have hT := State.isArrayOf_alike X.warmed.alike harr
  have hfit : T.fitsSlot cell.cls cell.vm j.toNatClampNeg .null = true := by
    obtain ⟨hobj, k, hk, comp, hkind⟩ := hT
    cases hvm : cell.vm <;> first | exact absurd hvm (hobj _) | simp [State.fitsSlot, State.slotType?, hk, hkind, fits]
  refine ⟨X.stored hcell _ _, fun target hrest => ?_⟩
  subst hg
  jvm_step X.here [hexec, hdg]
  refine aastore.wp_of_null (c := cell) (t := .array .int) X.here.top hstack hcell hT hin hknown (Nat.not_le.mp fun q => hin (Or.inr q)) hfit ?_
  intro acts
  rw [afterInstr_ok]
  exact hrest
theorem r_aast (hg : q_Ok l Γ own cc nL R nm rt g) {a N : Nat} {i : Int32} {r : Option Nat} {Y : qX} (hd : q_at cc pc (.aastore) 1 n) (hk : q_kd X a = some (1, N)) (hv : q_wrR X a N i r = some Y) (k : g cells slots n L S I Y) : g cells slots pc L (va_rf r :: .int i :: .ref a :: S) I X := by
  obtain ⟨p, e, s, m, args, below, meth, c, Q, ⟨hx, hb, hr, hml, hown, hts, hK, hO, hlk, hnm⟩, rfl⟩ := hg
  obtain ⟨hd, rfl⟩ := hd
  intro H locs ls hP hz hS hL
  obtain ⟨hin, hr2, rfl⟩ := q_wrR_in hv
  have he := q_w_at Γ I hk
  have hlt : i.toNatClampNeg < N := Nat.not_le.mp fun q => hin (Or.inr q)
  have h0 : ¬ i < 0 := fun q => hin (Or.inl q)
  have hset : ∀ (H1 : Heap) (v : Value), v = va_rf (r.map (q_ad Γ)) → H1[q_ad Γ a]? = some ((vp_cell (q_cA Γ) (N, .inr (.inr (.inr (.inr (fun j => (X.1 a j).map (q_ad Γ))))))).setSlot i.toNatClampNeg v) → (∀ q : Nat, q ≠ q_ad Γ a → H1[q]? = H[q]?) → va_P (q_D Γ) vwCl (q_w Γ I (q_upR X.1 a i.toNatClampNeg r, X.2)) H1 := by
    intro H1 v hvv e1 e3
    rw [← q_w_set Γ I I (R := X.1) (R' := q_upR X.1 a i.toNatClampNeg r) (K := X.2) hk (fun b hb d => q_cell_upR hb d)]
    refine hP.set (q_w_D Γ I X) he ?_ e3
    show H1[_]? = some (vp_cell (q_cA Γ) (N, .inr (.inr (.inr (.inr (fun j => (q_upR X.1 a i.toNatClampNeg r a j).map (q_ad Γ)))))))
    rw [e1, vp_cell_q, vp_cell_q, arrV_store]
    congr 2
    funext q
    by_cases hq : q = i.toNatClampNeg
    · subst hq
      simp [updV, q_upR, va_up, hvv]
    · simp [updV, q_upR, va_up, hq]
  cases r with
  | none =>
    show W p l e R s m args below meth c H locs cells slots Q (F0 m pc ls (.null :: .int i :: .ref (q_ad Γ a) :: S.map (q_v Γ)))
    intro T hT X'
    have hcell : T.heap[q_ad Γ a]? = some (vp_cell (q_cA Γ) (N, .inr (.inr (.inr (.inr (fun j => (X.1 a j).map (q_ad Γ))))))) := by rw [hT]; exact hP (a - 64) _ he
    obtain ⟨X2, st⟩ := q_aastN0 X' hx hcell ((hK.2 1 _ rfl).1 N (fun j => va_rf ((X.1 a j).map (q_ad Γ)))) (fun h => by cases h) (by show ¬ (i < 0 ∨ (arrV _ _ _).slots.size ≤ _); rw [arrV_size]; exact hin) (g := F0 m pc ls (.null :: .int i :: .ref (q_ad Γ a) :: S.map (q_v Γ))) rfl rfl (by rw [hb]; exact hd)
    have hlt2 : q_ad Γ a < T.heap.size := (Array.getElem?_eq_some_iff.mp hcell).1
    have e1 := heapAt_setCell_self (s := T) ((vp_cell (q_cA Γ) (N, .inr (.inr (.inr (.inr (fun j => (X.1 a j).map (q_ad Γ))))))).setSlot i.toNatClampNeg .null) hlt2
    have e3 : ∀ q : Nat, q ≠ q_ad Γ a → (T.setCell (q_ad Γ a) ((vp_cell (q_cA Γ) (N, .inr (.inr (.inr (.inr (fun j => (X.1 a j).map (q_ad Γ))))))).setSlot i.toNatClampNeg .null)).heap[q]? = H[q]? := fun q hq => by rw [heapAt_setCell_ne _ (Ne.symm hq), hT]
    obtain ⟨t', a1, b1⟩ := k _ _ ls (hset _ .null rfl e1 e3) (by rw [size_setCell, hT]; exact hz) (hS.put (by rw [size_setCell, hT]) e3 ((q_w_D Γ I X).2 _ _ he)) hL _ rfl X2
    exact ⟨t', st t' a1, b1⟩
  | some v =>
    obtain ⟨M, hv2⟩ := hr2 v rfl
    have hev := q_w_at Γ I hv2
    obtain ⟨comp, cA, kA, k0, -, k1, k2, k3⟩ := arrayOverA_spec hO.2.2.2.2.1
    have f1 : s.vm.findClass ("[" ++ (FieldType.array .int).toString) = some (q_cA Γ) := (hK.2 1 _ rfl).2
    have f2 : s.vm.findClass ("[" ++ FieldType.int.toString) = some (q_cI Γ) := (hK.2 0 _ rfl).2
    have ecA : cA = q_cA Γ := Option.some.inj (k3.symm.trans f1)
    have eco : comp = q_cI Γ := Option.some.inj (k0.symm.trans f2)
    subst ecA
    subst eco
    obtain ⟨-, kI, hkI, -⟩ := (hK.2 0 _ rfl).1 M (fun j => .int (I v j))
    refine W.aast hx hb (hP (a - 64) _ he) (fun q h => by cases h) (fun h => by cases h) k1 k2 rfl hkI ⟨h0, by show _ < (arrV _ _ _).slots.size; rw [arrV_size]; exact hlt⟩ (v := q_ad Γ v) (hP (v - 64) _ hev) (fun q h => by cases h) hkI (va_asg _ _) rfl rfl hd fun H1 e1 e2 e3 => ?_
    exact k H1 _ ls (hset H1 _ rfl e1 e3) (by rw [e2]; exact hz) (hS.put e2 e3 ((q_w_D Γ I X).2 _ _ he)) hL
/-- String constants: number i of fourteen is the old cell i + 4, its bytes the old cell i + 18 -/
def q_sch (i k : Nat) : Int32 := (q_sbyt.getD i []).getD k 0
theorem q_oldS {s : State} {i : Nat} (hO : q_Old Γ s) (hi : i < 14) : va_O "java/lang/String" (Γ.1 (i + 4)) (q_A Γ) s s.heap ∧ va_OF "java/lang/String" "coder" "B" (.int 0) (Γ.1 (i + 4)) (q_A Γ) s s.heap ∧ va_OF "java/lang/String" "value" "[B" (.ref (Γ.1 (i + 18))) (Γ.1 (i + 4)) (q_A Γ) s s.heap ∧ va_T .byte (Γ.1 (i + 18)) (q_slen.getD i 0) (fun j => .int (q_sch i j)) (q_A Γ) s s.heap := hO.2.2.2.2.2.1.1 i hi
theorem q_ad_old {k : Nat} (h : k < 64) : q_ad Γ k = Γ.1 k := by unfold q_ad; rw [if_pos h]
theorem r_ldcS (hg : q_Ok l Γ own cc nL R nm rt g) {i j : Nat} {t : String} (hd : q_at cc pc (.ldc j) 2 n) (ho : own = RX5) (hi : q_sidx[i]? = some (j, t)) (k : g cells slots n L (.ref (i + 4) :: S) I X) : g cells slots pc L S I X := by
  obtain ⟨p, e, s, m, args, below, meth, c, Q, ⟨hx, hb, hr, hml, hown, hts, hK, hO, hlk, hnm⟩, rfl⟩ := hg
  obtain ⟨hd, rfl⟩ := hd
  intro H locs ls hP hz hS hL
  subst ho
  have hl : i < 14 := (List.getElem?_eq_some_iff.mp hi).1
  have k := k H locs ls hP hz hS hL
  rw [List.map_cons, show q_v Γ (.ref (i + 4)) = .ref (Γ.1 (i + 4)) from by show Value.ref (q_ad Γ _) = _; rw [q_ad_old (by omega)]] at k
  exact va_ldcS hx hb hown (hO.2.2.2.2.2.2.1 i (j, t) hi) hd k
theorem r_strV (hg : q_Ok l Γ own cc nL R nm rt g) {i j : Nat} (hd : q_at cc pc (.getfield j) 3 n) (hi : i < 14) (hw : Cond.fieldLink own j "java/lang/String" "value" "[B" ∈ q_tbl) (k : g cells slots n L (.ref (i + 18) :: S) I X) : g cells slots pc L (.ref (i + 4) :: S) I X := by
  obtain ⟨p, e, s, m, args, below, meth, c, Q, ⟨hx, hb, hr, hml, hown, hts, hK, hO, hlk, hnm⟩, rfl⟩ := hg
  obtain ⟨hd, rfl⟩ := hd
  intro H locs ls hP hz hS hL
  have k := k H locs ls hP hz hS hL
  rw [List.map_cons, show q_v Γ (.ref (i + 18)) = .ref (Γ.1 (i + 18)) from by show Value.ref (q_ad Γ _) = _; rw [q_ad_old (by omega)]] at k
  show W p l e R s m args below meth c H locs cells slots Q (F0 m pc ls (.ref (q_ad Γ (i + 4)) :: S.map (q_v Γ)))
  rw [q_ad_old (by omega)]
  exact vk_getf hx hb (q_oldS hO hi).2.2.1 hS hown (hts _ hw) (fun _ h => h) hd k
theorem r_strC (hg : q_Ok l Γ own cc nL R nm rt g) {i j : Nat} (hd : q_at cc pc (.getfield j) 3 n) (hi : i < 14) (hw : Cond.fieldLink own j "java/lang/String" "coder" "B" ∈ q_tbl) (k : g cells slots n L (.int (nI 0) :: S) I X) : g cells slots pc L (.ref (i + 4) :: S) I X := by
  obtain ⟨p, e, s, m, args, below, meth, c, Q, ⟨hx, hb, hr, hml, hown, hts, hK, hO, hlk, hnm⟩, rfl⟩ := hg
  obtain ⟨hd, rfl⟩ := hd
  intro H locs ls hP hz hS hL
  have k := k H locs ls hP hz hS hL
  show W p l e R s m args below meth c H locs cells slots Q (F0 m pc ls (.ref (q_ad Γ (i + 4)) :: S.map (q_v Γ)))
  rw [q_ad_old (by omega)]
  exact vk_getf hx hb (q_oldS hO hi).2.1 hS hown (hts _ hw) (fun _ h => h) hd k
theorem r_alenB (hg : q_Ok l Γ own cc nL R nm rt g) {i : Nat} (hd : q_at cc pc (.arraylength) 1 n) (hi : i < 14) (k : g cells slots n L (.int (nI (q_slen.getD i 0)) :: S) I X) : g cells slots pc L (.ref (i + 18) :: S) I X := by
  obtain ⟨p, e, s, m, args, below, meth, c, Q, ⟨hx, hb, hr, hml, hown, hts, hK, hO, hlk, hnm⟩, rfl⟩ := hg
  obtain ⟨hd, rfl⟩ := hd
  intro H locs ls hP hz hS hL
  have k := k H locs ls hP hz hS hL
  show W p l e R s m args below meth c H locs cells slots Q (F0 m pc ls (.ref (q_ad Γ (i + 18)) :: S.map (q_v Γ)))
  rw [q_ad_old (by omega)]
  exact va_tlen hx hb (q_oldS hO hi).2.2.2 hS rfl hd k
theorem r_bald (hg : q_Ok l Γ own cc nL R nm rt g) {i : Nat} {j v : Int32} (hd : q_at cc pc (.baload) 1 n) (hi : i < 14) (hv : q_rdO (q_sch i) (q_slen.getD i 0) j = some v) (k : g cells slots n L (.int v :: S) I X) : g cells slots pc L (.int j :: .ref (i + 18) :: S) I X := by
  obtain ⟨p, e, s, m, args, below, meth, c, Q, ⟨hx, hb, hr, hml, hown, hts, hK, hO, hlk, hnm⟩, rfl⟩ := hg
  obtain ⟨hd, rfl⟩ := hd
  intro H locs ls hP hz hS hL
  obtain ⟨hin, rfl⟩ := q_rdO_in hv
  have k := k H locs ls hP hz hS hL
  show W p l e R s m args below meth c H locs cells slots Q (F0 m pc ls (.int j :: .ref (q_ad Γ (i + 18)) :: S.map (q_v Γ)))
  rw [q_ad_old (by omega)]
  exact va_tb hx hb (q_oldS hO hi).2.2.2 hS hin rfl hd k
theorem r_getsC (hg : q_Ok l Γ own cc nL R nm rt g) {j : Nat} (hd : q_at cc pc (.getstatic j) 3 n) (hw : Cond.fieldLink own j "java/lang/String" "COMPACT_STRINGS" "Z" ∈ q_tbl) (k : g cells slots n L (.int (nI 1) :: S) I X) : g cells slots pc L S I X := by
  obtain ⟨p, e, s, m, args, below, meth, c, Q, ⟨hx, hb, hr, hml, hown, hts, hK, hO, hlk, hnm⟩, rfl⟩ := hg
  obtain ⟨hd, rfl⟩ := hd
  intro H locs ls hP hz hS hL
  exact va_gets hx hb hO.2.2.2.2.2.2.2.1 hS hown (hts _ hw) (fun _ h => h) hd (k H locs ls hP hz hS hL)
theorem r_getsF (hg : q_Ok l Γ own cc nL R nm rt g) {j : Nat} (hd : q_at cc pc (.getstatic j) 3 n) (hw : Cond.fieldLink own j "jdk/internal/util/Preconditions" "SIOOBE_FORMATTER" "Ljava/util/function/BiFunction;" ∈ q_tbl) (k : ∀ r : Option Nat, g cells slots n L (va_rf r :: S) I X) : g cells slots pc L S I X := by
  obtain ⟨p, e, s, m, args, below, meth, c, Q, ⟨hx, hb, hr, hml, hown, hts, hK, hO, hlk, hnm⟩, rfl⟩ := hg
  obtain ⟨hd, rfl⟩ := hd
  intro H locs ls hP hz hS hL
  rcases hO.2.2.2.2.2.2.2.2 with z | z
  · exact va_gets hx hb z hS hown (hts _ hw) (fun _ h => h) hd (k none H locs ls hP hz hS hL)
  · have k := k (some 32) H locs ls hP hz hS hL
    rw [List.map_cons, show q_v Γ (va_rf (some 32)) = .ref (Γ.1 32) from by show Value.ref (q_ad Γ _) = _; rw [q_ad_old (by omega)]] at k
    exact va_gets hx hb z hS hown (hts _ hw) (fun _ h => h) hd k
/-- a call on a String constant -/
theorem r_callT (hg : q_Ok l Γ own cc nL R nm rt g) {i mL np b : Nat} {y : MethodName} {cy : ByteArray} {ret : Option FieldType} {rm : Room} {av : List Value} {r : Option Value} {J : qI} {Y : qX} (hd : q_at cc pc (.invokevirtual i) 3 n) (hm : q_mt y cy mL ret np) (hw : Cond.methodLink own i y ∈ q_tbl) (hv : Cond.instanceMethod y ∈ q_tbl ∧ Cond.selects y.cls y y ∈ q_tbl ∧ y.cls = "java/lang/String") (hb4 : b < 14) (hs : q_Sem l Γ rm y cy mL ret (.ref (b + 4) :: av) I X (r, J, Y)) (hn : av.length = np) (hR : rm.frames + 1 ≤ R.frames ∧ 8 + (mL + 11) + rm.locals ≤ R.locals) (hc : cells + rm.cells ≤ R.cells ∧ slots + rm.slots ≤ R.slots) (hst : (S.map fun v => v.category).sum ≤ 8) (k : g (cells + rm.cells) (slots + rm.slots) n L (r.toList ++ S) J Y) : g cells slots pc L (av.reverse ++ .ref (b + 4) :: S) I X := by
  obtain ⟨p, e, s, m, args, below, meth, c, Q, ⟨hx, hb, hr, hml, hown, hts, hK, hO, hlk, hnm⟩, rfl⟩ := hg
  obtain ⟨hd, rfl⟩ := hd
  intro H locs ls hP hz hS hL
  obtain ⟨v1, v2, hC⟩ := hv
  have hre : ∃ cell : Cell, H[q_ad Γ (b + 4)]? = some cell ∧ cell.vm.isStatics = false ∧ s.vm.findClass y.cls = some cell.cls := by
    rw [q_ad_old (by omega), hC]
    obtain ⟨cell, h1, h2, h3, -⟩ := ((q_oldS hO hb4).1).kept hS.2.1
    exact ⟨cell, h1, h2, h3⟩
  refine q_back (va_runV (As := av.map (q_v Γ)) (b := q_ad Γ (b + 4)) (rest := S.map (q_v Γ)) (C := y.cls) ⟨hx, hb, hml, hown, hts⟩ hs ⟨q_callB hts hm hw hR, hts _ v1, hts _ v2⟩ ⟨q_blind (.ref (b + 4) :: av), hre, q_pre (av := .ref (b + 4) :: av) hP hz hS hK hO⟩ rfl (by rw [List.length_map]; exact hn) hL.1 (by rw [List.map_append, List.map_reverse]; rfl) (lv_room (by rw [q_catS]; exact hst)) hd hc) hS hL rfl k
theorem r_cT0i (hg : q_Ok l Γ own cc nL R nm rt g) {i mL b d : Nat} {y : MethodName} {cy : ByteArray} {ret : Option FieldType} {r : Int32} {J : qI} {Y : qX} (hd : q_at cc pc (.invokevirtual i) 3 n) (hm : q_mt y cy mL ret 0) (hw : Cond.methodLink own i y ∈ q_tbl) (hv : Cond.instanceMethod y ∈ q_tbl ∧ Cond.selects y.cls y y ∈ q_tbl ∧ y.cls = "java/lang/String") (hk : b < 14) (hs : q_Sem l Γ (q_rm d 0 0) y cy mL ret (.ref (b + 4) :: []) I X (some (.int r), J, Y)) (hR : (q_rm d 0 0).frames + 1 ≤ R.frames ∧ 8 + (mL + 11) + (q_rm d 0 0).locals ≤ R.locals) (hc : cells ≤ R.cells ∧ slots ≤ R.slots) (hst : (S.map fun v => v.category).sum ≤ 8) (k : g cells slots n L (.int r :: S) J Y) : g cells slots pc L (.ref (b + 4) :: S) I X :=
  r_callT (av := []) hg hd hm hw hv hk hs rfl hR hc hst k
theorem r_cT1i (hg : q_Ok l Γ own cc nL R nm rt g) {i mL b d : Nat} {y : MethodName} {cy : ByteArray} {ret : Option FieldType} {v1 : Value} {r : Int32} {J : qI} {Y : qX} (hd : q_at cc pc (.invokevirtual i) 3 n) (hm : q_mt y cy mL ret 1) (hw : Cond.methodLink own i y ∈ q_tbl) (hv : Cond.instanceMethod y ∈ q_tbl ∧ Cond.selects y.cls y y ∈ q_tbl ∧ y.cls = "java/lang/String") (hk : b < 14) (hs : q_Sem l Γ (q_rm d 0 0) y cy mL ret (.ref (b + 4) :: [v1]) I X (some (.int r), J, Y)) (hR : (q_rm d 0 0).frames + 1 ≤ R.frames ∧ 8 + (mL + 11) + (q_rm d 0 0).locals ≤ R.locals) (hc : cells ≤ R.cells ∧ slots ≤ R.slots) (hst : (S.map fun v => v.category).sum ≤ 8) (k : g cells slots n L (.int r :: S) J Y) : g cells slots pc L (v1 :: .ref (b + 4) :: S) I X :=
  r_callT (av := [v1]) hg hd hm hw hv hk hs rfl hR hc hst k
theorem r_cT2i (hg : q_Ok l Γ own cc nL R nm rt g) {i mL b d : Nat} {y : MethodName} {cy : ByteArray} {ret : Option FieldType} {v1 v2 : Value} {r : Int32} {J : qI} {Y : qX} (hd : q_at cc pc (.invokevirtual i) 3 n) (hm : q_mt y cy mL ret 2) (hw : Cond.methodLink own i y ∈ q_tbl) (hv : Cond.instanceMethod y ∈ q_tbl ∧ Cond.selects y.cls y y ∈ q_tbl ∧ y.cls = "java/lang/String") (hk : b < 14) (hs : q_Sem l Γ (q_rm d 0 0) y cy mL ret (.ref (b + 4) :: [v1, v2]) I X (some (.int r), J, Y)) (hR : (q_rm d 0 0).frames + 1 ≤ R.frames ∧ 8 + (mL + 11) + (q_rm d 0 0).locals ≤ R.locals) (hc : cells ≤ R.cells ∧ slots ≤ R.slots) (hst : (S.map fun v => v.category).sum ≤ 8) (k : g cells slots n L (.int r :: S) J Y) : g cells slots pc L (v2 :: v1 :: .ref (b + 4) :: S) I X :=
  r_callT (av := [v1, v2]) hg hd hm hw hv hk hs rfl hR hc hst k
/-- a call that makes cells -/
theorem r_aV0q (hg : q_Ok l Γ own cc nL R nm rt g) {i mL ci N b d mc ms : Nat} {y : MethodName} {cy : ByteArray} {ret : Option FieldType} {r : Option Nat} {J : qI} {Y : qX} (hd : q_at cc pc (.invokevirtual i) 3 n) (hm : q_mt y cy mL ret 0) (hw : Cond.methodLink own i y ∈ q_tbl) (hv : Cond.instanceMethod y ∈ q_tbl ∧ Cond.selects y.cls y y ∈ q_tbl ∧ ∃ T : u_T, vwCl[ci]? = some (y.cls, T, N)) (hk : q_kd X b = some (ci + 2, N)) (hs : q_Sem l Γ (q_rm d mc ms) y cy mL ret [.ref b] I X (some (va_rf r), J, Y)) (hR : (q_rm d mc ms).frames + 1 ≤ R.frames ∧ 8 + (mL + 11) + (q_rm d mc ms).locals ≤ R.locals) (hc : cells + mc ≤ R.cells ∧ slots + ms ≤ R.slots) (hst : (S.map fun v => v.category).sum ≤ 8) (k : g (cells + mc) (slots + ms) n L (va_rf r :: S) J Y) : g cells slots pc L (.ref b :: S) I X :=
  r_callV (av := []) hg hd hm hw hv hk hs rfl hR hc hst k
theorem r_aV1i (hg : q_Ok l Γ own cc nL R nm rt g) {i mL ci N b d mc ms : Nat} {y : MethodName} {cy : ByteArray} {ret : Option FieldType} {v1 : Value} {r : Int32} {J : qI} {Y : qX} (hd : q_at cc pc (.invokevirtual i) 3 n) (hm : q_mt y cy mL ret 1) (hw : Cond.methodLink own i y ∈ q_tbl) (hv : Cond.instanceMethod y ∈ q_tbl ∧ Cond.selects y.cls y y ∈ q_tbl ∧ ∃ T : u_T, vwCl[ci]? = some (y.cls, T, N)) (hk : q_kd X b = some (ci + 2, N)) (hs : q_Sem l Γ (q_rm d mc ms) y cy mL ret [.ref b, v1] I X (some (.int r), J, Y)) (hR : (q_rm d mc ms).frames + 1 ≤ R.frames ∧ 8 + (mL + 11) + (q_rm d mc ms).locals ≤ R.locals) (hc : cells + mc ≤ R.cells ∧ slots + ms ≤ R.slots) (hst : (S.map fun v => v.category).sum ≤ 8) (k : g (cells + mc) (slots + ms) n L (.int r :: S) J Y) : g cells slots pc L (v1 :: .ref b :: S) I X :=
  r_callV (av := [v1]) hg hd hm hw hv hk hs rfl hR hc hst k
end MO
/-- a narrower answer -/
def q_nar (ty : FieldType) (v : Int32) : Option Int32 := if narrow ty (.int v) = .int v then some v else none
theorem q_nar_some {ty : FieldType} {v u : Int32} (h : q_nar ty v = some u) : u = v ∧ narrow ty (.int v) = .int v := by
  unfold q_nar at h
  by_cases hc : narrow ty (.int v) = .int v
  · rw [if_pos hc] at h; exact ⟨(Option.some.inj h).symm, hc⟩
  · rw [if_neg hc] at h; cases h
/-- cells come, none changes its kind, rows of objects stay -/
def q_Ext (X Y : qX) : Prop := q_Lay Y ∧ ∀ k d, q_kd X k = some d → q_kd Y k = some d
theorem q_Ext.upR {X : qX} (hX : q_Lay X) {a N j : Nat} {r : Option Nat} (hk : q_kd X a = some (1, N)) : q_Ext X (q_upR X.1 a j r, X.2) := by
  refine ⟨fun k c n hc q hq hqc => ?_, fun k d h => h⟩
  have hne : k ≠ a := by
    intro e
    subst e
    have h2 : q_kd X k = some (c + 2, n) := hc
    rw [hk] at h2
    have := congrArg Prod.fst (Option.some.inj h2)
    simp at this
  obtain ⟨h1, h2⟩ := hX k c n hc q hq hqc
  refine ⟨?_, h2⟩
  show q_upR X.1 a j r k q.2.1 = _
  unfold q_upR
  rw [if_neg hne]
  exact h1
theorem q_kd_push {R : qR} {K : List (Nat × Nat)} {d : Nat × Nat} {k : Nat} {e : Nat × Nat} (h : q_kd (R, K) k = some e) : q_kd (R, K ++ [d]) k = some e := by
  obtain ⟨h1, h2⟩ := q_kd_ge h
  unfold q_kd
  rw [if_neg (Nat.not_lt.mpr h1)]
  show (K ++ [d])[k - 64]? = some e
  rw [List.getElem?_append_left (List.getElem?_eq_some_iff.mp h2).1]
  exact h2
theorem q_kd_last {R : qR} {K : List (Nat × Nat)} {d : Nat × Nat} : q_kd (R, K ++ [d]) (K.length + 64) = some d := by
  unfold q_kd
  rw [if_neg (by omega)]
  show (K ++ [d])[K.length + 64 - 64]? = some d
  simp
theorem q_kd_snoc {R : qR} {K : List (Nat × Nat)} {d : Nat × Nat} {k : Nat} {e : Nat × Nat} (h : q_kd (R, K ++ [d]) k = some e) : q_kd (R, K) k = some e ∨ (k = K.length + 64 ∧ e = d) := by
  obtain ⟨h1, h2⟩ := q_kd_ge h
  have h2 : (K ++ [d])[k - 64]? = some e := h2
  by_cases hl : k - 64 < K.length
  · left
    rw [List.getElem?_append_left hl] at h2
    unfold q_kd
    rw [if_neg (Nat.not_lt.mpr h1)]
    exact h2
  · right
    rw [List.getElem?_append_right (by omega)] at h2
    have h3 : k - 64 - K.length = 0 := by
      have := (List.getElem?_eq_some_iff.mp h2).1
      simp at this
      omega
    rw [h3] at h2
    exact ⟨by omega, (Option.some.inj h2).symm⟩
theorem q_Ext.row {X : qX} (hX : q_Lay X) {N : Nat} : q_Ext X (X.1, X.2 ++ [(0, N)]) := by
  refine ⟨fun k c n hc q hq hqc => ?_, fun k d h => q_kd_push h⟩
  rcases q_kd_snoc hc with h | ⟨-, h⟩
  · obtain ⟨h1, h2⟩ := hX k c n h q hq hqc
    exact ⟨h1, q_kd_push h2⟩
  · simp at h
theorem q_Ext.wr {X Y : qX} (hX : q_Lay X) {a N : Nat} {i : Int32} {r : Option Nat} (hk : q_kd X a = some (1, N)) (h : q_wrR X a N i r = some Y) : q_Ext X Y := by
  obtain ⟨-, -, rfl⟩ := q_wrR_in h
  exact q_Ext.upR hX hk
theorem q_Ext.trans {X Y Z : qX} (h : q_Ext X Y) (h2 : q_Ext Y Z) : q_Ext X Z := ⟨h2.1, fun k d hk => h2.2 k d (h.2 k d hk)⟩
theorem q_Ext.rf {X : qX} (hX : q_Lay X) : q_Ext X X := ⟨hX, fun _ _ h => h⟩
