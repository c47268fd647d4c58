/-! THE MACHINE OVER THE PURE HEAP: a state of a method is (cells, slots made, pc, locals, stack, ints, references); q_Ok says that g is 'the machine comes from there to its end'; each rule turns g at an instruction into g at the next. -/
def q_tbl : List Cond := lw_tbl.filter goodWord
theorem q_word {w : Cond} (i : Nat) (h : lw_tbl[i]? = some w) (hg : goodWord w = true) : w ∈ q_tbl := List.mem_filter.mpr ⟨List.mem_of_getElem? h, hg⟩
theorem q_goodIn : GoodIn q_tbl q_tbl := fun _ h => ⟨h, good_of_word (List.mem_filter.mp h).2⟩
def q_tys (Γ : qC) : List (ClassId × FieldType) := [(q_cI Γ, .int), (q_cA Γ, .array .int)]
def q_nest : List Cond := [.methodLinkNest RX9 20 yX8_init RX11, .methodLinkNest RX9 34 yX1_init RX11, .methodLinkNest RX9 41 yX7_init RX11, .methodLinkNest RX9 48 yX10_init RX11, .methodLinkNest RX9 55 yX6_init RX11, .methodLinkNest RX9 62 yX4_init RX11, .methodLinkNest RX11 24 yX5_init RX11]
def q_sidx : List (Nat × String) := [(80, "wage"), (82, "stop"), (84, "due"), (86, "coin"), (88, "fine"), (90, "keep"), (92, "act"), (94, "ts"), (96, "e"), (98, "w"), (100, "lw"), (102, "ab"), (104, "bd"), (106, "mpt")]
def q_sbyt : List (List Int32) := [[119, 97, 103, 101], [115, 116, 111, 112], [100, 117, 101], [99, 111, 105, 110], [102, 105, 110, 101], [107, 101, 101, 112], [97, 99, 116], [116, 115], [101], [119], [108, 119], [97, 98], [98, 100], [109, 112, 116]]
def q_slen : List Nat := [4, 4, 3, 4, 4, 4, 3, 2, 1, 1, 2, 2, 2, 3]
/-- old cells, statics, String constants, nest words: what every method is handed on -/
def q_Old (Γ : qC) (s : State) : Prop :=
  q_sz Γ ≤ s.heap.size ∧ (∀ k, k < 4 → Γ.1 k < q_sz Γ ∧ va_X (Γ.1 k) (q_ol Γ k) (q_ov Γ k) s s.heap) ∧
  (va_Z "TokenValley$Men" "LEAST_V" "[I" (.ref (Γ.1 1)) (q_A Γ) s s.heap ∧ va_Z "TokenValley$Men" "MOST_V" "[I" (.ref (Γ.1 2)) (q_A Γ) s s.heap ∧ va_Z "TokenValley$Dues" "ABOVE" "[I" (.ref (Γ.1 3)) (q_A Γ) s s.heap) ∧
  (∀ w ∈ q_nest, va_Nw w s) ∧ (Cond.arrayOver (.array .int)).before #[] s = true ∧
  (vk_S 14 q_slen q_sbyt (fun i => Γ.1 (i + 4)) (fun i => Γ.1 (i + 18)) (q_A Γ) s s.heap ∧ (∀ (i : Nat) (q : Nat × String), q_sidx[i]? = some q → vk_R RX5 q.1 q.2 (Γ.1 (i + 4)) s) ∧ va_Z "java/lang/String" "COMPACT_STRINGS" "Z" (.int 1) (q_A Γ) s s.heap ∧
    (va_Z "jdk/internal/util/Preconditions" "SIOOBE_FORMATTER" "Ljava/util/function/BiFunction;" .null (q_A Γ) s s.heap ∨ va_Z "jdk/internal/util/Preconditions" "SIOOBE_FORMATTER" "Ljava/util/function/BiFunction;" (.ref (Γ.1 32)) (q_A Γ) s s.heap))
theorem q_AO_moved {t : FieldType} {u U : State} (hvm : u.vm.Alike U.vm) (h : (Cond.arrayOver (.array t)).before #[] u = true) : (Cond.arrayOver (.array t)).before #[] U = true := by
  obtain ⟨comp, c, k, h1, h2, h3, h4, h5⟩ := arrayOverA_spec h
  obtain ⟨k', hk', he⟩ := hvm.2.2 _ _ h3
  have hi : (U.vm.classes.findIdx? fun (x : Class) => match x.kind with | .array component _ => component == comp | _ => false) = some c := by
    refine (va_idx_bare U.vm comp).symm.trans ?_
    first | rw [hvm.bare_eq] | rw [← hvm.bare_eq]
    exact (va_idx_bare u.vm comp).trans h2
  have hkind : k'.kind = .array comp (.array t) := by rw [he]; exact h4
  have f1 : U.vm.findClass (FieldType.array t).toString = some comp := by rw [hvm.findClass]; exact h1
  have f2 : U.vm.findClass ("[" ++ (FieldType.array t).toString) = some c := by rw [hvm.findClass]; exact h5
  unfold Cond.before Cond.holds
  simp only [Cond.value]
  rw [f1, Option.bind_some]
  refine (congrArg (fun o : Option Nat => (o.bind (fun c => (U.vm.classes[c]?).map fun (k : Class) => match k.kind with | .array _ ty => decide (ty = FieldType.array t) && decide (U.vm.findClass ("[" ++ (FieldType.array t).toString) = some c) | _ => false) == some true)) hi).trans ?_
  simp [hk', hkind, f2]
theorem q_nest_warm {s U : State} (hW : s.WarmedH U.vm) (h : ∀ w ∈ q_nest, va_Nw w s) : ∀ w ∈ q_nest, va_Nw w U := by
  intro w hw
  have h0 := h w hw
  simp only [q_nest, List.mem_cons, List.not_mem_nil, or_false] at hw
  rcases hw with rfl | rfl | rfl | rfl | rfl | rfl | rfl <;> exact va_Nw.warmM hW h0
theorem q_Old.go {Γ : qC} {s U : State} (h : q_Old Γ s) (hW : s.WarmedH U.vm) (hz : s.heap.size ≤ U.heap.size) (hk : ∀ q : Nat, q < s.heap.size → ¬ q_A Γ q → U.heap[q]? = s.heap[q]?) : q_Old Γ U := by
  obtain ⟨h1, h2, ⟨z1, z2, z3⟩, h4, h5, k1, k2, k3, k4⟩ := h
  have hvm := hW.alike
  refine ⟨Nat.le_trans h1 hz, fun k hk4 => ?_, ⟨(z1.moved hvm).kept hk, (z2.moved hvm).kept hk, (z3.moved hvm).kept hk⟩, q_nest_warm hW h4, q_AO_moved hvm h5, (k1.moved hvm).kept hk, fun i q hq => (k2 i q hq).warm hW, (k3.moved hvm).kept hk, k4.imp (fun z => (z.moved hvm).kept hk) (fun z => (z.moved hvm).kept hk)⟩
  obtain ⟨a, b⟩ := h2 k hk4
  exact ⟨a, (b.moved hvm).kept (hk _ (Nat.lt_of_lt_of_le a h1) (Nat.not_le.mpr a))⟩
abbrev qG : Type := Nat → Nat → Nat → List (Nat × Value) → List Value → qI → qX → Prop
def q_G (p : Program) (l : Launch) (e : Env) (R : Room) (s : State) (m : MethodId) (args : Array Value) (below : List Frame) (meth : Method) (c : Code) (Γ : qC) (nL : Nat) (Q : State → Prop) : qG := fun cells slots pc L S I X =>
  ∀ (H : Heap) (locs : List Loc) (ls : Array Slot), va_P (q_D Γ) vwCl (q_w Γ I X) H → H.size = q_sz Γ + X.2.length → va_S (q_A Γ) s.heap H locs → lv_has ls nL (L.map (fun q => (q.1, q_v Γ q.2))) →
    W p l e R s m args below meth c H locs cells slots Q (F0 m pc ls (S.map (q_v Γ)))
abbrev q_Fx (p : Program) (Γ : qC) (own : String) (cc : ByteArray) (nL : Nat) (nm : String) (rt : Option FieldType) (s : State) (m : MethodId) (args : Array Value) (meth : Method) (c : Code) : Prop :=
  p.tables.exec = Jvm.exec ∧ c.code = cc ∧ meth.sig.returnType = rt ∧ c.maxLocals = nL ∧ s.vm.findClass own = some m.cls ∧ (∀ w ∈ q_tbl, w.before args s = true) ∧ va_K (q_D Γ) vwCl (q_tys Γ) s ∧ q_Old Γ s ∧ meth.locks = false ∧ meth.name = nm
def q_Ok (l : Launch) (Γ : qC) (own : String) (cc : ByteArray) (nL : Nat) (R : Room) (nm : String) (rt : Option FieldType) (g : qG) : Prop :=
  ∃ (p : Program) (e : Env) (s : State) (m : MethodId) (args : Array Value) (below : List Frame) (meth : Method) (c : Code) (Q : State → Prop), q_Fx p Γ own cc nL nm rt s m args meth c ∧ g = q_G p l e R s m args below meth c Γ nL Q
/-- an instruction and the place behind it -/
def q_at (cc : ByteArray) (pc : Nat) (i : Instr) (len n : Nat) : Prop := decode cc pc = .ok (i, len) ∧ pc + len = n
section RU
variable {l : Launch} {Γ : qC} {own : String} {cc : ByteArray} {nL : Nat} {R : Room} {nm : String} {rt : Option FieldType} {g : qG} {cells slots pc n : Nat} {L : List (Nat × Value)} {S : List Value} {I : qI} {X : qX}
theorem r_sub (hg : q_Ok l Γ own cc nL R nm rt g) (ks : List Nat) {L' : List (Nat × Value)} (hl : lv_pick L ks = L') (k : g cells slots pc L' S I X) : g cells slots pc L S I X := by
  obtain ⟨p, e, s, m, args, below, meth, c, Q, hf, rfl⟩ := hg
  intro H locs ls hP hz hS hL
  refine k H locs ls hP hz hS (lv_sub hL ks ?_)
  subst hl
  unfold lv_pick
  rw [List.map_filterMap]
  congr 1
  funext i
  rw [List.getElem?_map]
theorem q_loc {ls : Array Slot} {i : Nat} {v : Value} (h : lv_has ls nL (L.map (fun q => (q.1, q_v Γ q.2)))) (k : Nat) (hk : L[k]? = some (i, v)) : ls[i]? = some (.val (q_v Γ v)) :=
  lv_at h k (by rw [List.getElem?_map, hk]; rfl)
theorem q_fil {L : List (Nat × Value)} {i : Nat} {v : Value} {L' : List (Nat × Value)} {P : Nat → Nat → Bool} (h : (i, v) :: L.filter (fun q => P q.1 q.2.category) = L') : (i, q_v Γ v) :: (L.map (fun q => (q.1, q_v Γ q.2))).filter (fun q => P q.1 q.2.category) = L'.map (fun q => (q.1, q_v Γ q.2)) := by
  subst h
  rw [List.map_cons, List.filter_map]
  congr 2
  apply List.filter_congr
  intro q _
  simp only [Function.comp, q_v_cat]

theorem r_iconst (hg : q_Ok l Γ own cc nL R nm rt g) {z : Int} {v : Int32} (hd : q_at cc pc (.iconst z) 1 n) (hv : Int32.ofInt z = v) (k : g cells slots n L (.int v :: S) I X) : g cells slots pc L (S) I X := by
  obtain ⟨p, e, s, m, args, below, meth, c, Q, ⟨hx, hb, hr, hml, hown, hts, hK, hO, hlk, hnm⟩, rfl⟩ := hg
  obtain ⟨hd, rfl⟩ := hd
  intro H locs ls hP hz hS hL
  exact lv_iconst hx hb hd hv (k H locs ls hP hz hS hL)

theorem r_bipush (hg : q_Ok l Γ own cc nL R nm rt g) {z : Int} {v : Int32} (hd : q_at cc pc (.bipush z) 2 n) (hv : (Int8.ofInt z).toInt32 = v) (k : g cells slots n L (.int v :: S) I X) : g cells slots pc L (S) I X := by
  obtain ⟨p, e, s, m, args, below, meth, c, Q, ⟨hx, hb, hr, hml, hown, hts, hK, hO, hlk, hnm⟩, rfl⟩ := hg
  obtain ⟨hd, rfl⟩ := hd
  intro H locs ls hP hz hS hL
  exact lv_bipush hx hb hd hv (k H locs ls hP hz hS hL)

theorem r_sipush (hg : q_Ok l Γ own cc nL R nm rt g) {z : Int} {v : Int32} (hd : q_at cc pc (.sipush z) 3 n) (hv : (Int16.ofInt z).toInt32 = v) (k : g cells slots n L (.int v :: S) I X) : g cells slots pc L (S) I X := by
  obtain ⟨p, e, s, m, args, below, meth, c, Q, ⟨hx, hb, hr, hml, hown, hts, hK, hO, hlk, hnm⟩, rfl⟩ := hg
  obtain ⟨hd, rfl⟩ := hd
  intro H locs ls hP hz hS hL
  exact lv_sipush hx hb hd hv (k H locs ls hP hz hS hL)

theorem r_lconst (hg : q_Ok l Γ own cc nL R nm rt g) {z : Fin 2} {v : Int64} (hd : q_at cc pc (.lconst z) 1 n) (hv : Int64.ofNat (z : Nat) = v) (k : g cells slots n L (.long v :: S) I X) : g cells slots pc L (S) I X := by
  obtain ⟨p, e, s, m, args, below, meth, c, Q, ⟨hx, hb, hr, hml, hown, hts, hK, hO, hlk, hnm⟩, rfl⟩ := hg
  obtain ⟨hd, rfl⟩ := hd
  intro H locs ls hP hz hS hL
  exact lv_lconst hx hb hd hv (k H locs ls hP hz hS hL)

theorem r_ldc (hg : q_Ok l Γ own cc nL R nm rt g) {i : Nat} {v : Int32} (hd : q_at cc pc (.ldc i) 2 n) (hw : Cond.constant own i v ∈ q_tbl) (k : g cells slots n L (.int v :: S) I X) : g cells slots pc L (S) I X := by
  obtain ⟨p, e, s, m, args, below, meth, c, Q, ⟨hx, hb, hr, hml, hown, hts, hK, hO, hlk, hnm⟩, rfl⟩ := hg
  obtain ⟨hd, rfl⟩ := hd
  intro H locs ls hP hz hS hL
  exact lv_ldc hx hb hown (hts _ hw) hd (k H locs ls hP hz hS hL)

theorem r_ldcw (hg : q_Ok l Γ own cc nL R nm rt g) {i : Nat} {v : Int32} (hd : q_at cc pc (.ldc_w i) 3 n) (hw : Cond.constant own i v ∈ q_tbl) (k : g cells slots n L (.int v :: S) I X) : g cells slots pc L (S) I X := by
  obtain ⟨p, e, s, m, args, below, meth, c, Q, ⟨hx, hb, hr, hml, hown, hts, hK, hO, hlk, hnm⟩, rfl⟩ := hg
  obtain ⟨hd, rfl⟩ := hd
  intro H locs ls hP hz hS hL
  exact lv_ldcw hx hb hown (hts _ hw) hd (k H locs ls hP hz hS hL)

theorem r_ldc2 (hg : q_Ok l Γ own cc nL R nm rt g) {i : Nat} {v : Int64} (hd : q_at cc pc (.ldc2_w i) 3 n) (hw : Cond.constantLong own i v ∈ q_tbl) (k : g cells slots n L (.long v :: S) I X) : g cells slots pc L (S) I X := by
  obtain ⟨p, e, s, m, args, below, meth, c, Q, ⟨hx, hb, hr, hml, hown, hts, hK, hO, hlk, hnm⟩, rfl⟩ := hg
  obtain ⟨hd, rfl⟩ := hd
  intro H locs ls hP hz hS hL
  exact lv_ldc2 hx hb hown (hts _ hw) hd (k H locs ls hP hz hS hL)

theorem r_null (hg : q_Ok l Γ own cc nL R nm rt g) (hd : q_at cc pc (.aconst_null) 1 n) (k : g cells slots n L (.null :: S) I X) : g cells slots pc L (S) I X := by
  obtain ⟨p, e, s, m, args, below, meth, c, Q, ⟨hx, hb, hr, hml, hown, hts, hK, hO, hlk, hnm⟩, rfl⟩ := hg
  obtain ⟨hd, rfl⟩ := hd
  intro H locs ls hP hz hS hL
  exact lv_null hx hb hd (k H locs ls hP hz hS hL)

theorem r_iload_n (hg : q_Ok l Γ own cc nL R nm rt g) (j : Nat) {i : Fin 4} {i0 : Nat} {x : Int32} (hd : q_at cc pc (.iload_n i) 1 n) (hi : (i : Nat) = i0) (hj : L[j]? = some (i0, .int x)) (k : g cells slots n L (.int x :: S) I X) : g cells slots pc L (S) I X := by
  obtain ⟨p, e, s, m, args, below, meth, c, Q, ⟨hx, hb, hr, hml, hown, hts, hK, hO, hlk, hnm⟩, rfl⟩ := hg
  obtain ⟨hd, rfl⟩ := hd
  intro H locs ls hP hz hS hL
  exact lv_iload_n hx hb hd hi (q_loc hL j hj) (k H locs ls hP hz hS hL)

theorem r_iload (hg : q_Ok l Γ own cc nL R nm rt g) (j : Nat) {i : Nat} {x : Int32} (hd : q_at cc pc (.iload i) 2 n) (hj : L[j]? = some (i, .int x)) (k : g cells slots n L (.int x :: S) I X) : g cells slots pc L (S) I X := by
  obtain ⟨p, e, s, m, args, below, meth, c, Q, ⟨hx, hb, hr, hml, hown, hts, hK, hO, hlk, hnm⟩, rfl⟩ := hg
  obtain ⟨hd, rfl⟩ := hd
  intro H locs ls hP hz hS hL
  exact lv_iload hx hb hd (q_loc hL j hj) (k H locs ls hP hz hS hL)

theorem r_lload_n (hg : q_Ok l Γ own cc nL R nm rt g) (j : Nat) {i : Fin 4} {i0 : Nat} {x : Int64} (hd : q_at cc pc (.lload_n i) 1 n) (hi : (i : Nat) = i0) (hj : L[j]? = some (i0, .long x)) (k : g cells slots n L (.long x :: S) I X) : g cells slots pc L (S) I X := by
  obtain ⟨p, e, s, m, args, below, meth, c, Q, ⟨hx, hb, hr, hml, hown, hts, hK, hO, hlk, hnm⟩, rfl⟩ := hg
  obtain ⟨hd, rfl⟩ := hd
  intro H locs ls hP hz hS hL
  exact lv_lload_n hx hb hd hi (q_loc hL j hj) (k H locs ls hP hz hS hL)

theorem r_lload (hg : q_Ok l Γ own cc nL R nm rt g) (j : Nat) {i : Nat} {x : Int64} (hd : q_at cc pc (.lload i) 2 n) (hj : L[j]? = some (i, .long x)) (k : g cells slots n L (.long x :: S) I X) : g cells slots pc L (S) I X := by
  obtain ⟨p, e, s, m, args, below, meth, c, Q, ⟨hx, hb, hr, hml, hown, hts, hK, hO, hlk, hnm⟩, rfl⟩ := hg
  obtain ⟨hd, rfl⟩ := hd
  intro H locs ls hP hz hS hL
  exact lv_lload hx hb hd (q_loc hL j hj) (k H locs ls hP hz hS hL)

theorem r_aload_n (hg : q_Ok l Γ own cc nL R nm rt g) (j : Nat) {i : Fin 4} {i0 : Nat} {x : Nat} (hd : q_at cc pc (.aload_n i) 1 n) (hi : (i : Nat) = i0) (hj : L[j]? = some (i0, .ref x)) (k : g cells slots n L (.ref x :: S) I X) : g cells slots pc L (S) I X := by
  obtain ⟨p, e, s, m, args, below, meth, c, Q, ⟨hx, hb, hr, hml, hown, hts, hK, hO, hlk, hnm⟩, rfl⟩ := hg
  obtain ⟨hd, rfl⟩ := hd
  intro H locs ls hP hz hS hL
  exact lv_aload_n hx hb hd hi (q_loc hL j hj) (k H locs ls hP hz hS hL)

theorem r_aload (hg : q_Ok l Γ own cc nL R nm rt g) (j : Nat) {i : Nat} {x : Nat} (hd : q_at cc pc (.aload i) 2 n) (hj : L[j]? = some (i, .ref x)) (k : g cells slots n L (.ref x :: S) I X) : g cells slots pc L (S) I X := by
  obtain ⟨p, e, s, m, args, below, meth, c, Q, ⟨hx, hb, hr, hml, hown, hts, hK, hO, hlk, hnm⟩, rfl⟩ := hg
  obtain ⟨hd, rfl⟩ := hd
  intro H locs ls hP hz hS hL
  exact lv_aload hx hb hd (q_loc hL j hj) (k H locs ls hP hz hS hL)

theorem r_aloadq_n (hg : q_Ok l Γ own cc nL R nm rt g) (j : Nat) {i : Fin 4} {i0 : Nat} {r : Option Nat} (hd : q_at cc pc (.aload_n i) 1 n) (hi : (i : Nat) = i0) (hj : L[j]? = some (i0, va_rf r)) (k : g cells slots n L (va_rf r :: S) I X) : g cells slots pc L (S) I X := by
  obtain ⟨p, e, s, m, args, below, meth, c, Q, ⟨hx, hb, hr, hml, hown, hts, hK, hO, hlk, hnm⟩, rfl⟩ := hg
  obtain ⟨hd, rfl⟩ := hd
  intro H locs ls hP hz hS hL
  cases r with
  | none => exact lv_aload_nN hx hb hd hi (q_loc hL j hj) (k H locs ls hP hz hS hL)
  | some a => exact lv_aload_n hx hb hd hi (q_loc hL j hj) (k H locs ls hP hz hS hL)

theorem r_aloadq (hg : q_Ok l Γ own cc nL R nm rt g) (j : Nat) {i : Nat} {r : Option Nat} (hd : q_at cc pc (.aload i) 2 n) (hj : L[j]? = some (i, va_rf r)) (k : g cells slots n L (va_rf r :: S) I X) : g cells slots pc L (S) I X := by
  obtain ⟨p, e, s, m, args, below, meth, c, Q, ⟨hx, hb, hr, hml, hown, hts, hK, hO, hlk, hnm⟩, rfl⟩ := hg
  obtain ⟨hd, rfl⟩ := hd
  intro H locs ls hP hz hS hL
  cases r with
  | none => exact lv_aloadN hx hb hd (q_loc hL j hj) (k H locs ls hP hz hS hL)
  | some a => exact lv_aload hx hb hd (q_loc hL j hj) (k H locs ls hP hz hS hL)

theorem r_istore_n (hg : q_Ok l Γ own cc nL R nm rt g) {i : Fin 4} {i0 : Nat} {x : Int32} {L' : List (Nat × Value)} (hd : q_at cc pc (.istore_n i) 1 n) (hi : (i : Nat) = i0) (hn : i0 < nL) (hl : (i0, .int x) :: L.filter (fun q => !(q.1 == i0) && !(q.1 + 1 == i0 && q.2.category == 2)) = L') (k : g cells slots n L' (S) I X) : g cells slots pc L (.int x :: S) I X := by
  obtain ⟨p, e, s, m, args, below, meth, c, Q, ⟨hx, hb, hr, hml, hown, hts, hK, hO, hlk, hnm⟩, rfl⟩ := hg
  obtain ⟨hd, rfl⟩ := hd
  intro H locs ls hP hz hS hL
  exact lv_istore_n hx hb hd hi hL hn (q_fil (P := fun x y => !(x == i0) && !(x + 1 == i0 && y == 2)) hl) (fun ls hL => (k H locs ls hP hz hS hL))
theorem r_istore (hg : q_Ok l Γ own cc nL R nm rt g) {i : Nat} {x : Int32} {L' : List (Nat × Value)} (hd : q_at cc pc (.istore i) 2 n) (hn : i < nL) (hl : (i, .int x) :: L.filter (fun q => !(q.1 == i) && !(q.1 + 1 == i && q.2.category == 2)) = L') (k : g cells slots n L' (S) I X) : g cells slots pc L (.int x :: S) I X := by
  obtain ⟨p, e, s, m, args, below, meth, c, Q, ⟨hx, hb, hr, hml, hown, hts, hK, hO, hlk, hnm⟩, rfl⟩ := hg
  obtain ⟨hd, rfl⟩ := hd
  intro H locs ls hP hz hS hL
  exact lv_istore hx hb hd hL hn (q_fil (P := fun x y => !(x == i) && !(x + 1 == i && y == 2)) hl) (fun ls hL => (k H locs ls hP hz hS hL))

theorem r_lstore_n (hg : q_Ok l Γ own cc nL R nm rt g) {i : Fin 4} {i0 : Nat} {x : Int64} {L' : List (Nat × Value)} (hd : q_at cc pc (.lstore_n i) 1 n) (hi : (i : Nat) = i0) (hn : i0 + 1 < nL) (hl : (i0, .long x) :: L.filter (fun q => !(q.1 == i0) && (!(q.1 == i0 + 1) && !(q.1 + 1 == i0 && q.2.category == 2))) = L') (k : g cells slots n L' (S) I X) : g cells slots pc L (.long x :: S) I X := by
  obtain ⟨p, e, s, m, args, below, meth, c, Q, ⟨hx, hb, hr, hml, hown, hts, hK, hO, hlk, hnm⟩, rfl⟩ := hg
  obtain ⟨hd, rfl⟩ := hd
  intro H locs ls hP hz hS hL
  exact lv_lstore_n hx hb hd hi hL hn (q_fil (P := fun x y => !(x == i0) && (!(x == i0 + 1) && !(x + 1 == i0 && y == 2))) hl) (fun ls hL => (k H locs ls hP hz hS hL))
theorem r_lstore (hg : q_Ok l Γ own cc nL R nm rt g) {i : Nat} {x : Int64} {L' : List (Nat × Value)} (hd : q_at cc pc (.lstore i) 2 n) (hn : i + 1 < nL) (hl : (i, .long x) :: L.filter (fun q => !(q.1 == i) && (!(q.1 == i + 1) && !(q.1 + 1 == i && q.2.category == 2))) = L') (k : g cells slots n L' (S) I X) : g cells slots pc L (.long x :: S) I X := by
  obtain ⟨p, e, s, m, args, below, meth, c, Q, ⟨hx, hb, hr, hml, hown, hts, hK, hO, hlk, hnm⟩, rfl⟩ := hg
  obtain ⟨hd, rfl⟩ := hd
  intro H locs ls hP hz hS hL
  exact lv_lstore hx hb hd hL hn (q_fil (P := fun x y => !(x == i) && (!(x == i + 1) && !(x + 1 == i && y == 2))) hl) (fun ls hL => (k H locs ls hP hz hS hL))

theorem r_astore_n (hg : q_Ok l Γ own cc nL R nm rt g) {i : Fin 4} {i0 : Nat} {x : Nat} {L' : List (Nat × Value)} (hd : q_at cc pc (.astore_n i) 1 n) (hi : (i : Nat) = i0) (hn : i0 < nL) (hl : (i0, .ref x) :: L.filter (fun q => !(q.1 == i0) && !(q.1 + 1 == i0 && q.2.category == 2)) = L') (k : g cells slots n L' (S) I X) : g cells slots pc L (.ref x :: S) I X := by
  obtain ⟨p, e, s, m, args, below, meth, c, Q, ⟨hx, hb, hr, hml, hown, hts, hK, hO, hlk, hnm⟩, rfl⟩ := hg
  obtain ⟨hd, rfl⟩ := hd
  intro H locs ls hP hz hS hL
  exact lv_astore_n hx hb hd hi hL hn (q_fil (P := fun x y => !(x == i0) && !(x + 1 == i0 && y == 2)) hl) (fun ls hL => (k H locs ls hP hz hS hL))
theorem r_astore (hg : q_Ok l Γ own cc nL R nm rt g) {i : Nat} {x : Nat} {L' : List (Nat × Value)} (hd : q_at cc pc (.astore i) 2 n) (hn : i < nL) (hl : (i, .ref x) :: L.filter (fun q => !(q.1 == i) && !(q.1 + 1 == i && q.2.category == 2)) = L') (k : g cells slots n L' (S) I X) : g cells slots pc L (.ref x :: S) I X := by
  obtain ⟨p, e, s, m, args, below, meth, c, Q, ⟨hx, hb, hr, hml, hown, hts, hK, hO, hlk, hnm⟩, rfl⟩ := hg
  obtain ⟨hd, rfl⟩ := hd
  intro H locs ls hP hz hS hL
  exact lv_astore hx hb hd hL hn (q_fil (P := fun x y => !(x == i) && !(x + 1 == i && y == 2)) hl) (fun ls hL => (k H locs ls hP hz hS hL))

theorem r_astoreq_n (hg : q_Ok l Γ own cc nL R nm rt g) {i : Fin 4} {i0 : Nat} {r : Option Nat} {L' : List (Nat × Value)} (hd : q_at cc pc (.astore_n i) 1 n) (hi : (i : Nat) = i0) (hn : i0 < nL) (hl : (i0, va_rf r) :: L.filter (fun q => !(q.1 == i0) && !(q.1 + 1 == i0 && q.2.category == 2)) = L') (k : g cells slots n L' (S) I X) : g cells slots pc L (va_rf r :: S) I X := by
  obtain ⟨p, e, s, m, args, below, meth, c, Q, ⟨hx, hb, hr, hml, hown, hts, hK, hO, hlk, hnm⟩, rfl⟩ := hg
  obtain ⟨hd, rfl⟩ := hd
  intro H locs ls hP hz hS hL
  cases r with
  | none => exact lv_astore_nN hx hb hd hi hL hn (q_fil (P := fun x y => !(x == i0) && !(x + 1 == i0 && y == 2)) hl) (fun ls hL => (k H locs ls hP hz hS hL))
  | some a => exact lv_astore_n hx hb hd hi hL hn (q_fil (P := fun x y => !(x == i0) && !(x + 1 == i0 && y == 2)) hl) (fun ls hL => (k H locs ls hP hz hS hL))

theorem r_astoreq (hg : q_Ok l Γ own cc nL R nm rt g) {i : Nat} {r : Option Nat} {L' : List (Nat × Value)} (hd : q_at cc pc (.astore i) 2 n) (hn : i < nL) (hl : (i, va_rf r) :: L.filter (fun q => !(q.1 == i) && !(q.1 + 1 == i && q.2.category == 2)) = L') (k : g cells slots n L' (S) I X) : g cells slots pc L (va_rf r :: S) I X := by
  obtain ⟨p, e, s, m, args, below, meth, c, Q, ⟨hx, hb, hr, hml, hown, hts, hK, hO, hlk, hnm⟩, rfl⟩ := hg
  obtain ⟨hd, rfl⟩ := hd
  intro H locs ls hP hz hS hL
  cases r with
  | none => exact lv_astoreN hx hb hd hL hn (q_fil (P := fun x y => !(x == i) && !(x + 1 == i && y == 2)) hl) (fun ls hL => (k H locs ls hP hz hS hL))
  | some a => exact lv_astore hx hb hd hL hn (q_fil (P := fun x y => !(x == i) && !(x + 1 == i && y == 2)) hl) (fun ls hL => (k H locs ls hP hz hS hL))

theorem r_iinc (hg : q_Ok l Γ own cc nL R nm rt g) (j : Nat) {i : Nat} {z : Int} {x v : Int32} {L' : List (Nat × Value)} (hd : q_at cc pc (.iinc i z) 3 n) (hj : L[j]? = some (i, .int x)) (hv : x + Int32.ofInt z = v) (hn : i < nL) (hl : (i, .int v) :: L.filter (fun q => !(q.1 == i) && !(q.1 + 1 == i && q.2.category == 2)) = L') (k : g cells slots n L' (S) I X) : g cells slots pc L (S) I X := by
  obtain ⟨p, e, s, m, args, below, meth, c, Q, ⟨hx, hb, hr, hml, hown, hts, hK, hO, hlk, hnm⟩, rfl⟩ := hg
  obtain ⟨hd, rfl⟩ := hd
  intro H locs ls hP hz hS hL
  exact lv_iinc hx hb hd hL (k := j) (by rw [List.getElem?_map, hj]; rfl) hv hn (q_fil (P := fun x y => !(x == i) && !(x + 1 == i && y == 2)) hl) (fun ls hL => (k H locs ls hP hz hS hL))

theorem r_iadd (hg : q_Ok l Γ own cc nL R nm rt g) {x y : Int32} (hd : q_at cc pc (.iadd) 1 n) (k : g cells slots n L (.int (x + y) :: S) I X) : g cells slots pc L (.int y :: .int x :: S) I X := by
  obtain ⟨p, e, s, m, args, below, meth, c, Q, ⟨hx, hb, hr, hml, hown, hts, hK, hO, hlk, hnm⟩, rfl⟩ := hg
  obtain ⟨hd, rfl⟩ := hd
  intro H locs ls hP hz hS hL
  exact lv_iadd hx hb hd (k H locs ls hP hz hS hL)

theorem r_isub (hg : q_Ok l Γ own cc nL R nm rt g) {x y : Int32} (hd : q_at cc pc (.isub) 1 n) (k : g cells slots n L (.int (x - y) :: S) I X) : g cells slots pc L (.int y :: .int x :: S) I X := by
  obtain ⟨p, e, s, m, args, below, meth, c, Q, ⟨hx, hb, hr, hml, hown, hts, hK, hO, hlk, hnm⟩, rfl⟩ := hg
  obtain ⟨hd, rfl⟩ := hd
  intro H locs ls hP hz hS hL
  exact lv_isub hx hb hd (k H locs ls hP hz hS hL)

theorem r_imul (hg : q_Ok l Γ own cc nL R nm rt g) {x y : Int32} (hd : q_at cc pc (.imul) 1 n) (k : g cells slots n L (.int (x * y) :: S) I X) : g cells slots pc L (.int y :: .int x :: S) I X := by
  obtain ⟨p, e, s, m, args, below, meth, c, Q, ⟨hx, hb, hr, hml, hown, hts, hK, hO, hlk, hnm⟩, rfl⟩ := hg
  obtain ⟨hd, rfl⟩ := hd
  intro H locs ls hP hz hS hL
  exact lv_imul hx hb hd (k H locs ls hP hz hS hL)

theorem r_iand (hg : q_Ok l Γ own cc nL R nm rt g) {x y : Int32} (hd : q_at cc pc (.iand) 1 n) (k : g cells slots n L (.int (x &&& y) :: S) I X) : g cells slots pc L (.int y :: .int x :: S) I X := by
  obtain ⟨p, e, s, m, args, below, meth, c, Q, ⟨hx, hb, hr, hml, hown, hts, hK, hO, hlk, hnm⟩, rfl⟩ := hg
  obtain ⟨hd, rfl⟩ := hd
  intro H locs ls hP hz hS hL
  exact lv_iand hx hb hd (k H locs ls hP hz hS hL)

theorem r_ior (hg : q_Ok l Γ own cc nL R nm rt g) {x y : Int32} (hd : q_at cc pc (.ior) 1 n) (k : g cells slots n L (.int (x ||| y) :: S) I X) : g cells slots pc L (.int y :: .int x :: S) I X := by
  obtain ⟨p, e, s, m, args, below, meth, c, Q, ⟨hx, hb, hr, hml, hown, hts, hK, hO, hlk, hnm⟩, rfl⟩ := hg
  obtain ⟨hd, rfl⟩ := hd
  intro H locs ls hP hz hS hL
  exact lv_ior hx hb hd (k H locs ls hP hz hS hL)

theorem r_ixor (hg : q_Ok l Γ own cc nL R nm rt g) {x y : Int32} (hd : q_at cc pc (.ixor) 1 n) (k : g cells slots n L (.int (x ^^^ y) :: S) I X) : g cells slots pc L (.int y :: .int x :: S) I X := by
  obtain ⟨p, e, s, m, args, below, meth, c, Q, ⟨hx, hb, hr, hml, hown, hts, hK, hO, hlk, hnm⟩, rfl⟩ := hg
  obtain ⟨hd, rfl⟩ := hd
  intro H locs ls hP hz hS hL
  exact lv_ixor hx hb hd (k H locs ls hP hz hS hL)

theorem r_idiv (hg : q_Ok l Γ own cc nL R nm rt g) {x y : Int32} (hd : q_at cc pc (.idiv) 1 n) (hy : ¬ y = 0) (k : g cells slots n L (.int (x / y) :: S) I X) : g cells slots pc L (.int y :: .int x :: S) I X := by
  obtain ⟨p, e, s, m, args, below, meth, c, Q, ⟨hx, hb, hr, hml, hown, hts, hK, hO, hlk, hnm⟩, rfl⟩ := hg
  obtain ⟨hd, rfl⟩ := hd
  intro H locs ls hP hz hS hL
  exact lv_idiv hx hb hd hy (k H locs ls hP hz hS hL)

theorem r_irem (hg : q_Ok l Γ own cc nL R nm rt g) {x y : Int32} (hd : q_at cc pc (.irem) 1 n) (hy : ¬ y = 0) (k : g cells slots n L (.int (x - x / y * y) :: S) I X) : g cells slots pc L (.int y :: .int x :: S) I X := by
  obtain ⟨p, e, s, m, args, below, meth, c, Q, ⟨hx, hb, hr, hml, hown, hts, hK, hO, hlk, hnm⟩, rfl⟩ := hg
  obtain ⟨hd, rfl⟩ := hd
  intro H locs ls hP hz hS hL
  exact lv_irem hx hb hd hy (k H locs ls hP hz hS hL)

theorem r_ineg (hg : q_Ok l Γ own cc nL R nm rt g) {x : Int32} (hd : q_at cc pc (.ineg) 1 n) (k : g cells slots n L (.int (-x) :: S) I X) : g cells slots pc L (.int x :: S) I X := by
  obtain ⟨p, e, s, m, args, below, meth, c, Q, ⟨hx, hb, hr, hml, hown, hts, hK, hO, hlk, hnm⟩, rfl⟩ := hg
  obtain ⟨hd, rfl⟩ := hd
  intro H locs ls hP hz hS hL
  exact lv_ineg hx hb hd (k H locs ls hP hz hS hL)

theorem r_ladd (hg : q_Ok l Γ own cc nL R nm rt g) {x y : Int64} (hd : q_at cc pc (.ladd) 1 n) (k : g cells slots n L (.long (x + y) :: S) I X) : g cells slots pc L (.long y :: .long x :: S) I X := by
  obtain ⟨p, e, s, m, args, below, meth, c, Q, ⟨hx, hb, hr, hml, hown, hts, hK, hO, hlk, hnm⟩, rfl⟩ := hg
  obtain ⟨hd, rfl⟩ := hd
  intro H locs ls hP hz hS hL
  exact lv_ladd hx hb hd (k H locs ls hP hz hS hL)

theorem r_lsub (hg : q_Ok l Γ own cc nL R nm rt g) {x y : Int64} (hd : q_at cc pc (.lsub) 1 n) (k : g cells slots n L (.long (x - y) :: S) I X) : g cells slots pc L (.long y :: .long x :: S) I X := by
  obtain ⟨p, e, s, m, args, below, meth, c, Q, ⟨hx, hb, hr, hml, hown, hts, hK, hO, hlk, hnm⟩, rfl⟩ := hg
  obtain ⟨hd, rfl⟩ := hd
  intro H locs ls hP hz hS hL
  exact lv_lsub hx hb hd (k H locs ls hP hz hS hL)

theorem r_lmul (hg : q_Ok l Γ own cc nL R nm rt g) {x y : Int64} (hd : q_at cc pc (.lmul) 1 n) (k : g cells slots n L (.long (x * y) :: S) I X) : g cells slots pc L (.long y :: .long x :: S) I X := by
  obtain ⟨p, e, s, m, args, below, meth, c, Q, ⟨hx, hb, hr, hml, hown, hts, hK, hO, hlk, hnm⟩, rfl⟩ := hg
  obtain ⟨hd, rfl⟩ := hd
  intro H locs ls hP hz hS hL
  exact lv_lmul hx hb hd (k H locs ls hP hz hS hL)

theorem r_ldiv (hg : q_Ok l Γ own cc nL R nm rt g) {x y : Int64} (hd : q_at cc pc (.ldiv) 1 n) (hy : ¬ y = 0) (k : g cells slots n L (.long (x / y) :: S) I X) : g cells slots pc L (.long y :: .long x :: S) I X := by
  obtain ⟨p, e, s, m, args, below, meth, c, Q, ⟨hx, hb, hr, hml, hown, hts, hK, hO, hlk, hnm⟩, rfl⟩ := hg
  obtain ⟨hd, rfl⟩ := hd
  intro H locs ls hP hz hS hL
  exact lv_ldiv hx hb hd hy (k H locs ls hP hz hS hL)

theorem r_ishl (hg : q_Ok l Γ own cc nL R nm rt g) {x y : Int32} (hd : q_at cc pc (.ishl) 1 n) (k : g cells slots n L (.int (x <<< (y &&& 31)) :: S) I X) : g cells slots pc L (.int y :: .int x :: S) I X := by
  obtain ⟨p, e, s, m, args, below, meth, c, Q, ⟨hx, hb, hr, hml, hown, hts, hK, hO, hlk, hnm⟩, rfl⟩ := hg
  obtain ⟨hd, rfl⟩ := hd
  intro H locs ls hP hz hS hL
  exact lv_ishl hx hb hd (k H locs ls hP hz hS hL)

theorem r_ishr (hg : q_Ok l Γ own cc nL R nm rt g) {x y : Int32} (hd : q_at cc pc (.ishr) 1 n) (k : g cells slots n L (.int (x >>> (y &&& 31)) :: S) I X) : g cells slots pc L (.int y :: .int x :: S) I X := by
  obtain ⟨p, e, s, m, args, below, meth, c, Q, ⟨hx, hb, hr, hml, hown, hts, hK, hO, hlk, hnm⟩, rfl⟩ := hg
  obtain ⟨hd, rfl⟩ := hd
  intro H locs ls hP hz hS hL
  exact lv_ishr hx hb hd (k H locs ls hP hz hS hL)

theorem r_iushr (hg : q_Ok l Γ own cc nL R nm rt g) {x y : Int32} (hd : q_at cc pc (.iushr) 1 n) (k : g cells slots n L (.int (x.toUInt32 >>> (y.toUInt32 &&& Int32.toUInt32 31)).toInt32 :: S) I X) : g cells slots pc L (.int y :: .int x :: S) I X := by
  obtain ⟨p, e, s, m, args, below, meth, c, Q, ⟨hx, hb, hr, hml, hown, hts, hK, hO, hlk, hnm⟩, rfl⟩ := hg
  obtain ⟨hd, rfl⟩ := hd
  intro H locs ls hP hz hS hL
  exact lv_iushr hx hb hd rfl (k H locs ls hP hz hS hL)

theorem r_i2l (hg : q_Ok l Γ own cc nL R nm rt g) {x : Int32} (hd : q_at cc pc (.i2l) 1 n) (k : g cells slots n L (.long x.toInt64 :: S) I X) : g cells slots pc L (.int x :: S) I X := by
  obtain ⟨p, e, s, m, args, below, meth, c, Q, ⟨hx, hb, hr, hml, hown, hts, hK, hO, hlk, hnm⟩, rfl⟩ := hg
  obtain ⟨hd, rfl⟩ := hd
  intro H locs ls hP hz hS hL
  exact lv_i2l hx hb hd rfl (k H locs ls hP hz hS hL)

theorem r_l2i (hg : q_Ok l Γ own cc nL R nm rt g) {x : Int64} (hd : q_at cc pc (.l2i) 1 n) (k : g cells slots n L (.int x.toInt32 :: S) I X) : g cells slots pc L (.long x :: S) I X := by
  obtain ⟨p, e, s, m, args, below, meth, c, Q, ⟨hx, hb, hr, hml, hown, hts, hK, hO, hlk, hnm⟩, rfl⟩ := hg
  obtain ⟨hd, rfl⟩ := hd
  intro H locs ls hP hz hS hL
  exact lv_l2i hx hb hd rfl (k H locs ls hP hz hS hL)

theorem r_i2b (hg : q_Ok l Γ own cc nL R nm rt g) {x : Int32} (hd : q_at cc pc (.i2b) 1 n) (k : g cells slots n L (.int x.toInt8.toInt32 :: S) I X) : g cells slots pc L (.int x :: S) I X := by
  obtain ⟨p, e, s, m, args, below, meth, c, Q, ⟨hx, hb, hr, hml, hown, hts, hK, hO, hlk, hnm⟩, rfl⟩ := hg
  obtain ⟨hd, rfl⟩ := hd
  intro H locs ls hP hz hS hL
  exact lv_i2b hx hb hd rfl (k H locs ls hP hz hS hL)

theorem r_i2s (hg : q_Ok l Γ own cc nL R nm rt g) {x : Int32} (hd : q_at cc pc (.i2s) 1 n) (k : g cells slots n L (.int x.toInt16.toInt32 :: S) I X) : g cells slots pc L (.int x :: S) I X := by
  obtain ⟨p, e, s, m, args, below, meth, c, Q, ⟨hx, hb, hr, hml, hown, hts, hK, hO, hlk, hnm⟩, rfl⟩ := hg
  obtain ⟨hd, rfl⟩ := hd
  intro H locs ls hP hz hS hL
  exact lv_i2s hx hb hd rfl (k H locs ls hP hz hS hL)

theorem r_i2c (hg : q_Ok l Γ own cc nL R nm rt g) {x : Int32} (hd : q_at cc pc (.i2c) 1 n) (k : g cells slots n L (.int (x.toUInt32 % 65536).toInt32 :: S) I X) : g cells slots pc L (.int x :: S) I X := by
  obtain ⟨p, e, s, m, args, below, meth, c, Q, ⟨hx, hb, hr, hml, hown, hts, hK, hO, hlk, hnm⟩, rfl⟩ := hg
  obtain ⟨hd, rfl⟩ := hd
  intro H locs ls hP hz hS hL
  exact lv_i2c hx hb hd rfl (k H locs ls hP hz hS hL)

theorem r_lcmp (hg : q_Ok l Γ own cc nL R nm rt g) {x y : Int64} (hd : q_at cc pc (.lcmp) 1 n) (k : g cells slots n L (.int (lg_cmp x y) :: S) I X) : g cells slots pc L (.long y :: .long x :: S) I X := by
  obtain ⟨p, e, s, m, args, below, meth, c, Q, ⟨hx, hb, hr, hml, hown, hts, hK, hO, hlk, hnm⟩, rfl⟩ := hg
  obtain ⟨hd, rfl⟩ := hd
  intro H locs ls hP hz hS hL
  exact W.lcmp hx hb hd (k H locs ls hP hz hS hL)

theorem r_dup (hg : q_Ok l Γ own cc nL R nm rt g) {v : Value} (hd : q_at cc pc (.dup) 1 n) (hv : v.category = 1) (k : g cells slots n L (v :: v :: S) I X) : g cells slots pc L (v :: S) I X := by
  obtain ⟨p, e, s, m, args, below, meth, c, Q, ⟨hx, hb, hr, hml, hown, hts, hK, hO, hlk, hnm⟩, rfl⟩ := hg
  obtain ⟨hd, rfl⟩ := hd
  intro H locs ls hP hz hS hL
  exact lv_dup hx hb hd (by rw [q_v_cat]; exact hv) (k H locs ls hP hz hS hL)

theorem r_pop (hg : q_Ok l Γ own cc nL R nm rt g) {v : Value} (hd : q_at cc pc (.pop) 1 n) (hv : v.category = 1) (k : g cells slots n L (S) I X) : g cells slots pc L (v :: S) I X := by
  obtain ⟨p, e, s, m, args, below, meth, c, Q, ⟨hx, hb, hr, hml, hown, hts, hK, hO, hlk, hnm⟩, rfl⟩ := hg
  obtain ⟨hd, rfl⟩ := hd
  intro H locs ls hP hz hS hL
  exact lv_pop hx hb hd (by rw [q_v_cat]; exact hv) (k H locs ls hP hz hS hL)

theorem r_dup2 (hg : q_Ok l Γ own cc nL R nm rt g) {v u : Value} (hd : q_at cc pc (.dup2) 1 n) (hv : v.category = 1) (hu : u.category = 1) (k : g cells slots n L (v :: u :: v :: u :: S) I X) : g cells slots pc L (v :: u :: S) I X := by
  obtain ⟨p, e, s, m, args, below, meth, c, Q, ⟨hx, hb, hr, hml, hown, hts, hK, hO, hlk, hnm⟩, rfl⟩ := hg
  obtain ⟨hd, rfl⟩ := hd
  intro H locs ls hP hz hS hL
  exact lv_dup2_11 hx hb hd (by rw [q_v_cat]; exact hv) (by rw [q_v_cat]; exact hu) (k H locs ls hP hz hS hL)

theorem r_icmp_eq (hg : q_Ok l Γ own cc nL R nm rt g) {x y : Int32} {off : Int} (tgt : Nat) (hd : q_at cc pc (.if_icmp .eq off) 3 n) (ht : (pc : Int) + off = (tgt : Int)) (kt : (x = y) → g cells slots tgt L (S) I X) (kf : ¬ (x = y) → g cells slots n L (S) I X) : g cells slots pc L (.int y :: .int x :: S) I X := by
  obtain ⟨p, e, s, m, args, below, meth, c, Q, ⟨hx, hb, hr, hml, hown, hts, hK, hO, hlk, hnm⟩, rfl⟩ := hg
  obtain ⟨hd, rfl⟩ := hd
  intro H locs ls hP hz hS hL
  exact lv_icmp_eq hx hb hd ht (fun q => kt (by simpa using q) H locs ls hP hz hS hL) (fun q => kf (by simpa using q) H locs ls hP hz hS hL)

theorem r_if_eq (hg : q_Ok l Γ own cc nL R nm rt g) {x : Int32} {off : Int} (tgt : Nat) (hd : q_at cc pc (.ifCond .eq off) 3 n) (ht : (pc : Int) + off = (tgt : Int)) (kt : (x = 0) → g cells slots tgt L (S) I X) (kf : ¬ (x = 0) → g cells slots n L (S) I X) : g cells slots pc L (.int x :: S) I X := by
  obtain ⟨p, e, s, m, args, below, meth, c, Q, ⟨hx, hb, hr, hml, hown, hts, hK, hO, hlk, hnm⟩, rfl⟩ := hg
  obtain ⟨hd, rfl⟩ := hd
  intro H locs ls hP hz hS hL
  exact lv_if_eq hx hb hd ht (fun q => kt (by simpa using q) H locs ls hP hz hS hL) (fun q => kf (by simpa using q) H locs ls hP hz hS hL)

theorem r_icmp_ne (hg : q_Ok l Γ own cc nL R nm rt g) {x y : Int32} {off : Int} (tgt : Nat) (hd : q_at cc pc (.if_icmp .ne off) 3 n) (ht : (pc : Int) + off = (tgt : Int)) (kt : (¬ x = y) → g cells slots tgt L (S) I X) (kf : ¬ (¬ x = y) → g cells slots n L (S) I X) : g cells slots pc L (.int y :: .int x :: S) I X := by
  obtain ⟨p, e, s, m, args, below, meth, c, Q, ⟨hx, hb, hr, hml, hown, hts, hK, hO, hlk, hnm⟩, rfl⟩ := hg
  obtain ⟨hd, rfl⟩ := hd
  intro H locs ls hP hz hS hL
  exact lv_icmp_ne hx hb hd ht (fun q => kt (by simpa using q) H locs ls hP hz hS hL) (fun q => kf (by simpa using q) H locs ls hP hz hS hL)

theorem r_if_ne (hg : q_Ok l Γ own cc nL R nm rt g) {x : Int32} {off : Int} (tgt : Nat) (hd : q_at cc pc (.ifCond .ne off) 3 n) (ht : (pc : Int) + off = (tgt : Int)) (kt : (¬ x = 0) → g cells slots tgt L (S) I X) (kf : ¬ (¬ x = 0) → g cells slots n L (S) I X) : g cells slots pc L (.int x :: S) I X := by
  obtain ⟨p, e, s, m, args, below, meth, c, Q, ⟨hx, hb, hr, hml, hown, hts, hK, hO, hlk, hnm⟩, rfl⟩ := hg
  obtain ⟨hd, rfl⟩ := hd
  intro H locs ls hP hz hS hL
  exact lv_if_ne hx hb hd ht (fun q => kt (by simpa using q) H locs ls hP hz hS hL) (fun q => kf (by simpa using q) H locs ls hP hz hS hL)

theorem r_icmp_lt (hg : q_Ok l Γ own cc nL R nm rt g) {x y : Int32} {off : Int} (tgt : Nat) (hd : q_at cc pc (.if_icmp .lt off) 3 n) (ht : (pc : Int) + off = (tgt : Int)) (kt : (x < y) → g cells slots tgt L (S) I X) (kf : ¬ (x < y) → g cells slots n L (S) I X) : g cells slots pc L (.int y :: .int x :: S) I X := by
  obtain ⟨p, e, s, m, args, below, meth, c, Q, ⟨hx, hb, hr, hml, hown, hts, hK, hO, hlk, hnm⟩, rfl⟩ := hg
  obtain ⟨hd, rfl⟩ := hd
  intro H locs ls hP hz hS hL
  exact lv_icmp_lt hx hb hd ht (fun q => kt (by simpa using q) H locs ls hP hz hS hL) (fun q => kf (by simpa using q) H locs ls hP hz hS hL)

theorem r_if_lt (hg : q_Ok l Γ own cc nL R nm rt g) {x : Int32} {off : Int} (tgt : Nat) (hd : q_at cc pc (.ifCond .lt off) 3 n) (ht : (pc : Int) + off = (tgt : Int)) (kt : (x < 0) → g cells slots tgt L (S) I X) (kf : ¬ (x < 0) → g cells slots n L (S) I X) : g cells slots pc L (.int x :: S) I X := by
  obtain ⟨p, e, s, m, args, below, meth, c, Q, ⟨hx, hb, hr, hml, hown, hts, hK, hO, hlk, hnm⟩, rfl⟩ := hg
  obtain ⟨hd, rfl⟩ := hd
  intro H locs ls hP hz hS hL
  exact lv_if_lt hx hb hd ht (fun q => kt (by simpa using q) H locs ls hP hz hS hL) (fun q => kf (by simpa using q) H locs ls hP hz hS hL)

theorem r_icmp_ge (hg : q_Ok l Γ own cc nL R nm rt g) {x y : Int32} {off : Int} (tgt : Nat) (hd : q_at cc pc (.if_icmp .ge off) 3 n) (ht : (pc : Int) + off = (tgt : Int)) (kt : (y ≤ x) → g cells slots tgt L (S) I X) (kf : ¬ (y ≤ x) → g cells slots n L (S) I X) : g cells slots pc L (.int y :: .int x :: S) I X := by
  obtain ⟨p, e, s, m, args, below, meth, c, Q, ⟨hx, hb, hr, hml, hown, hts, hK, hO, hlk, hnm⟩, rfl⟩ := hg
  obtain ⟨hd, rfl⟩ := hd
  intro H locs ls hP hz hS hL
  exact lv_icmp_ge hx hb hd ht (fun q => kt (by simpa using q) H locs ls hP hz hS hL) (fun q => kf (by simpa using q) H locs ls hP hz hS hL)

theorem r_if_ge (hg : q_Ok l Γ own cc nL R nm rt g) {x : Int32} {off : Int} (tgt : Nat) (hd : q_at cc pc (.ifCond .ge off) 3 n) (ht : (pc : Int) + off = (tgt : Int)) (kt : (0 ≤ x) → g cells slots tgt L (S) I X) (kf : ¬ (0 ≤ x) → g cells slots n L (S) I X) : g cells slots pc L (.int x :: S) I X := by
  obtain ⟨p, e, s, m, args, below, meth, c, Q, ⟨hx, hb, hr, hml, hown, hts, hK, hO, hlk, hnm⟩, rfl⟩ := hg
  obtain ⟨hd, rfl⟩ := hd
  intro H locs ls hP hz hS hL
  exact lv_if_ge hx hb hd ht (fun q => kt (by simpa using q) H locs ls hP hz hS hL) (fun q => kf (by simpa using q) H locs ls hP hz hS hL)

theorem r_icmp_gt (hg : q_Ok l Γ own cc nL R nm rt g) {x y : Int32} {off : Int} (tgt : Nat) (hd : q_at cc pc (.if_icmp .gt off) 3 n) (ht : (pc : Int) + off = (tgt : Int)) (kt : (y < x) → g cells slots tgt L (S) I X) (kf : ¬ (y < x) → g cells slots n L (S) I X) : g cells slots pc L (.int y :: .int x :: S) I X := by
  obtain ⟨p, e, s, m, args, below, meth, c, Q, ⟨hx, hb, hr, hml, hown, hts, hK, hO, hlk, hnm⟩, rfl⟩ := hg
  obtain ⟨hd, rfl⟩ := hd
  intro H locs ls hP hz hS hL
  exact lv_icmp_gt hx hb hd ht (fun q => kt (by simpa using q) H locs ls hP hz hS hL) (fun q => kf (by simpa using q) H locs ls hP hz hS hL)

theorem r_if_gt (hg : q_Ok l Γ own cc nL R nm rt g) {x : Int32} {off : Int} (tgt : Nat) (hd : q_at cc pc (.ifCond .gt off) 3 n) (ht : (pc : Int) + off = (tgt : Int)) (kt : (0 < x) → g cells slots tgt L (S) I X) (kf : ¬ (0 < x) → g cells slots n L (S) I X) : g cells slots pc L (.int x :: S) I X := by
  obtain ⟨p, e, s, m, args, below, meth, c, Q, ⟨hx, hb, hr, hml, hown, hts, hK, hO, hlk, hnm⟩, rfl⟩ := hg
  obtain ⟨hd, rfl⟩ := hd
  intro H locs ls hP hz hS hL
  exact lv_if_gt hx hb hd ht (fun q => kt (by simpa using q) H locs ls hP hz hS hL) (fun q => kf (by simpa using q) H locs ls hP hz hS hL)

theorem r_icmp_le (hg : q_Ok l Γ own cc nL R nm rt g) {x y : Int32} {off : Int} (tgt : Nat) (hd : q_at cc pc (.if_icmp .le off) 3 n) (ht : (pc : Int) + off = (tgt : Int)) (kt : (x ≤ y) → g cells slots tgt L (S) I X) (kf : ¬ (x ≤ y) → g cells slots n L (S) I X) : g cells slots pc L (.int y :: .int x :: S) I X := by
  obtain ⟨p, e, s, m, args, below, meth, c, Q, ⟨hx, hb, hr, hml, hown, hts, hK, hO, hlk, hnm⟩, rfl⟩ := hg
  obtain ⟨hd, rfl⟩ := hd
  intro H locs ls hP hz hS hL
  exact lv_icmp_le hx hb hd ht (fun q => kt (by simpa using q) H locs ls hP hz hS hL) (fun q => kf (by simpa using q) H locs ls hP hz hS hL)

theorem r_if_le (hg : q_Ok l Γ own cc nL R nm rt g) {x : Int32} {off : Int} (tgt : Nat) (hd : q_at cc pc (.ifCond .le off) 3 n) (ht : (pc : Int) + off = (tgt : Int)) (kt : (x ≤ 0) → g cells slots tgt L (S) I X) (kf : ¬ (x ≤ 0) → g cells slots n L (S) I X) : g cells slots pc L (.int x :: S) I X := by
  obtain ⟨p, e, s, m, args, below, meth, c, Q, ⟨hx, hb, hr, hml, hown, hts, hK, hO, hlk, hnm⟩, rfl⟩ := hg
  obtain ⟨hd, rfl⟩ := hd
  intro H locs ls hP hz hS hL
  exact lv_if_le hx hb hd ht (fun q => kt (by simpa using q) H locs ls hP hz hS hL) (fun q => kf (by simpa using q) H locs ls hP hz hS hL)

theorem r_goto (hg : q_Ok l Γ own cc nL R nm rt g) {off : Int} (tgt : Nat) (hd : q_at cc pc (.goto off) 3 n) (ht : (pc : Int) + off = (tgt : Int)) (k : g cells slots tgt L (S) I X) : g cells slots pc L (S) I X := by
  obtain ⟨p, e, s, m, args, below, meth, c, Q, ⟨hx, hb, hr, hml, hown, hts, hK, hO, hlk, hnm⟩, rfl⟩ := hg
  obtain ⟨hd, rfl⟩ := hd
  intro H locs ls hP hz hS hL
  exact lv_goto hx hb hd ht (k H locs ls hP hz hS hL)
theorem r_ifnull (hg : q_Ok l Γ own cc nL R nm rt g) {off : Int} {r : Option Nat} (tgt : Nat) (hd : q_at cc pc (.ifnull off) 3 n) (ht : (pc : Int) + off = (tgt : Int)) (kn : r = none → g cells slots tgt L (S) I X) (ks : ∀ a, r = some a → g cells slots n L (S) I X) : g cells slots pc L (va_rf r :: S) I X := by
  obtain ⟨p, e, s, m, args, below, meth, c, Q, ⟨hx, hb, hr, hml, hown, hts, hK, hO, hlk, hnm⟩, rfl⟩ := hg
  obtain ⟨hd, rfl⟩ := hd
  intro H locs ls hP hz hS hL
  cases r with
  | none => exact lv_ifnullN hx hb hd ht (kn rfl H locs ls hP hz hS hL)
  | some a => exact lv_ifnull hx hb hd (ks a rfl H locs ls hP hz hS hL)
theorem r_ifnonnull (hg : q_Ok l Γ own cc nL R nm rt g) {off : Int} {r : Option Nat} (tgt : Nat) (hd : q_at cc pc (.ifnonnull off) 3 n) (ht : (pc : Int) + off = (tgt : Int)) (kn : r = none → g cells slots n L (S) I X) (ks : ∀ a, r = some a → g cells slots tgt L (S) I X) : g cells slots pc L (va_rf r :: S) I X := by
  obtain ⟨p, e, s, m, args, below, meth, c, Q, ⟨hx, hb, hr, hml, hown, hts, hK, hO, hlk, hnm⟩, rfl⟩ := hg
  obtain ⟨hd, rfl⟩ := hd
  intro H locs ls hP hz hS hL
  cases r with
  | none => exact lv_ifnonnullN hx hb hd (kn rfl H locs ls hP hz hS hL)
  | some a => exact lv_ifnonnull hx hb hd ht (ks a rfl H locs ls hP hz hS hL)
/-- a table: the place it names, by the int's own value -/
theorem r_table (hg : q_Ok l Γ own cc nL R nm rt g) {dflt lo hi : Int} {offs : Array Int} {x : Int32} {len : Nat} (hd : q_at cc pc (.tableswitch dflt lo hi offs) len n) (ki : ∀ off, ¬ x.toInt < lo → ¬ hi < x.toInt → offs[(x.toInt - lo).toNat]? = some off → ∃ tgt : Nat, (pc : Int) + off = (tgt : Int) ∧ g cells slots tgt L (S) I X) (hsz : (offs.size : Int) = hi - lo + 1) (ko : x.toInt < lo ∨ hi < x.toInt → ∃ tgt : Nat, (pc : Int) + dflt = (tgt : Int) ∧ g cells slots tgt L (S) I X) : g cells slots pc L (.int x :: S) I X := by
  obtain ⟨p, e, s, m, args, below, meth, c, Q, ⟨hx, hb, hr, hml, hown, hts, hK, hO, hlk, hnm⟩, rfl⟩ := hg
  obtain ⟨hd, rfl⟩ := hd
  intro H locs ls hP hz hS hL
  by_cases h : x.toInt < lo ∨ hi < x.toInt
  · obtain ⟨tgt, ht, k⟩ := ko h
    exact lv_tableOut hx hb hd h ht (k H locs ls hP hz hS hL)
  · have h1 : ¬ x.toInt < lo := fun q => h (Or.inl q)
    have h2 : ¬ hi < x.toInt := fun q => h (Or.inr q)
    have hlt : (x.toInt - lo).toNat < offs.size := by omega
    obtain ⟨tgt, ht, k⟩ := ki offs[(x.toInt - lo).toNat] h1 h2 (Array.getElem?_eq_getElem hlt)
    exact lv_tableIn hx hb hd h1 h2 (Array.getElem?_eq_getElem hlt) ht (k H locs ls hP hz hS hL)
theorem r_lookup (hg : q_Ok l Γ own cc nL R nm rt g) {dflt : Int} {ps : Array (Int × Int)} {x : Int32} {len : Nat} {off : Int} (tgt : Nat) (hd : q_at cc pc (.lookupswitch dflt ps) len n) (hp : (ps.toList.zip (ps.toList.drop 1)).all (fun (a, next) => a.1 < next.1) = true) (ho : Op.lookupswitch.offset ps.toList dflt x.toInt = off) (ht : (pc : Int) + off = (tgt : Int)) (k : g cells slots tgt L (S) I X) : g cells slots pc L (.int x :: S) I X := by
  obtain ⟨p, e, s, m, args, below, meth, c, Q, ⟨hx, hb, hr, hml, hown, hts, hK, hO, hlk, hnm⟩, rfl⟩ := hg
  obtain ⟨hd, rfl⟩ := hd
  intro H locs ls hP hz hS hL
  exact lv_lookup hx hb hd hp ho ht (k H locs ls hP hz hS hL)
end RU

