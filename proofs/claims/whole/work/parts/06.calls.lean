/-! CONTRACTS: a method's answer and end are told in the pure heap; a call, a return -/
def q_P (Γ : qC) (av : List Value) (I : qI) (X : qX) : Array Value → State → Prop := fun a U => a = (av.map (q_v Γ)).toArray ∧ U.heap.size = q_sz Γ + X.2.length ∧ va_P (q_D Γ) vwCl (q_w Γ I X) U.heap ∧ va_K (q_D Γ) vwCl (q_tys Γ) U ∧ q_Old Γ U
def q_Q (Γ : qC) (res : Option Value × qI × qX) : Array Value → State → Outcome → State → Prop := fun _ st oc t => oc = .returned (res.1.map (q_v Γ)) ∧ t.heap.size = q_sz Γ + res.2.2.2.length ∧ va_P (q_D Γ) vwCl (q_w Γ res.2.1 res.2.2) t.heap ∧ va_F (q_A Γ) st t
def q_rm (d mc ms : Nat) : Room := { frames := d, cells := mc, slots := ms, locals := 64 * d }
def q_Sem (l : Launch) (Γ : qC) (rm : Room) (y : MethodName) (cc : ByteArray) (mL : Nat) (ret : Option FieldType) (av : List Value) (I : qI) (X : qX) (res : Option Value × qI × qX) : Prop :=
  Met l y (Cond.code y cc mL ret :: q_tbl) rm (q_P Γ av I X) (q_Q Γ res) rm.cells rm.slots (q_A Γ)
def q_Rt (cc : ByteArray) (rt : Option FieldType) (R : Room) (res : Option Value × qI × qX) (g : qG) : Prop :=
  (∀ (cells slots pc : Nat) (L : List (Nat × Value)) (v : Int32), cells ≤ R.cells → slots ≤ R.slots → decode cc pc = .ok (.ireturn, 1) → (∃ ty, rt = some ty ∧ narrow ty (.int v) = .int v) → res.1 = some (.int v) → g cells slots pc L [.int v] res.2.1 res.2.2) ∧
  (∀ (cells slots pc : Nat) (L : List (Nat × Value)) (r : Option Nat), cells ≤ R.cells → slots ≤ R.slots → decode cc pc = .ok (.areturn, 1) → (∃ ty, rt = some ty ∧ ((∃ n, ty = .object n) ∨ ∃ t, ty = .array t)) → res.1 = some (va_rf r) → g cells slots pc L [va_rf r] res.2.1 res.2.2) ∧
  (∀ (cells slots pc : Nat) (L : List (Nat × Value)), cells ≤ R.cells → slots ≤ R.slots → decode cc pc = .ok (.return_, 1) → rt = none → res.1 = none → g cells slots pc L [] res.2.1 res.2.2)
theorem q_lv_args (Γ : qC) : ∀ (vs : List Value) (i : Nat), lv_args i (vs.map (q_v Γ)) = (lv_args i vs).map (fun q => (q.1, q_v Γ q.2))
  | [], _ => rfl
  | v :: vs, i => by
    simp only [List.map_cons, lv_args, q_v_cat]
    rw [q_lv_args Γ vs]
theorem q_lg_len (Γ : qC) (vs : List Value) : (lg_sl (vs.map (q_v Γ))).length = (lg_sl vs).length := by
  induction vs with
  | nil => rfl
  | cons v t ih =>
    simp only [lg_sl, List.map_cons, List.flatMap_cons, List.length_append, q_v_cat] at ih ⊢
    rw [ih]
    congr 1
    by_cases h : v.category = 2 <;> simp [h]
theorem q_met {l : Launch} {Γ : qC} {rm : Room} {y : MethodName} {cc : ByteArray} {mL : Nat} {ret : Option FieldType} {av : List Value} {I : qI} {X : qX} {res : Option Value × qI × qX} (hy : plainName y.cls = true) (hlen : (lg_sl av).length ≤ mL)
    (body : ∀ g : qG, q_Ok l Γ y.cls cc mL rm y.name ret g → q_Rt cc ret rm res g → g 0 0 0 (lv_args 0 av) [] I X) : q_Sem l Γ rm y cc mL ret av I X res := by
  refine Met.ofW (cc := cc) (maxL := mL) (ret := ret) hy rfl ?_
  intro p e s m args below meth c s₁ B hml hv
  obtain ⟨rfl, hz, hP, hK, hO⟩ := hv
  have hts0 := atoms_spec (ws := Cond.code y cc mL ret :: q_tbl) B.pre
  have hts : ∀ w ∈ q_tbl, w.before (av.map (q_v Γ)).toArray s = true := fun w h => hts0 w (List.mem_cons_of_mem _ h)
  have hown : s.vm.findClass y.cls = some m.cls := findClass_of_methodNamed B.named
  have hnm : meth.name = y.name := (name_of_methodNamed B.named B.method).1
  have hS : va_S (q_A Γ) s.heap s.heap [] := va_S.rf
  have hl := lv_entry (av.map (q_v Γ)) (n := mL) (by rw [q_lg_len]; exact hlen)
  rw [lg_entry_eq]
  generalize (lg_sl (av.map (q_v Γ)) ++ List.replicate (mL - (lg_sl (av.map (q_v Γ))).length) Slot.unset).toArray = ls at hl ⊢
  rw [q_lv_args] at hl
  have hr := B.returns
  have hx := B.exec
  have hb := B.bytes
  have hlk := B.notSynchronized
  refine body (q_G p l e rm s m (av.map (q_v Γ)).toArray below meth c Γ mL (MQ below (q_Q Γ res) (av.map (q_v Γ)).toArray s rm.cells rm.slots (q_A Γ))) ⟨p, e, s, m, _, below, meth, c, _, ⟨hx, hb, hr, hml, hown, hts, hK, hO, hlk, hnm⟩, rfl⟩ ⟨?_, ?_, ?_⟩ s.heap [] ls hP hz hS hl
  · intro cells slots pc L v h1 h2 hd ⟨ty, ht, hn⟩ he H locs ls hP hz hS hL
    refine W.widen h1 h2 ?_
    exact W.zret (v := v) (ty := ty) hx hb (hr.trans ht) hn (fun t ht hW => ⟨by rw [he]; rfl, by rw [ht]; exact hz, by rw [ht]; exact hP, hS.F ht⟩) hS.2.2 hd hlk
  · intro cells slots pc L r h1 h2 hd ⟨ty, ht, hn⟩ he H locs ls hP hz hS hL
    refine W.widen h1 h2 ?_
    rw [List.map_cons, q_v_rf]
    exact W.aret (v := va_rf (r.map (q_ad Γ))) (rt := ty) hx hb (hr.trans ht) hn (by cases r <;> simp [va_rf]) (fun t ht hW => ⟨by rw [he]; simp [q_v_rf], by rw [ht]; exact hz, by rw [ht]; exact hP, hS.F ht⟩) hS.2.2 hd hlk
  · intro cells slots pc L h1 h2 hd ht he H locs ls hP hz hS hL
    refine W.widen h1 h2 ?_
    exact W.vret hx hb (hr.trans ht) (fun t ht hW => ⟨by rw [he]; rfl, by rw [ht]; exact hz, by rw [ht]; exact hP, hS.F ht⟩) hS.2.2 hd hlk
section CA
variable {l : Launch} {Γ : qC} {own : String} {cc : ByteArray} {nL : Nat} {R : Room} {nm : String} {rt : Option FieldType} {g : qG} {cells slots pc n : Nat} {L : List (Nat × Value)} {S : List Value} {I : qI} {X : qX}
variable {res : Option Value × qI × qX}
theorem r_ireturn (hr : q_Rt cc rt R res g) {v : Int32} (hd : q_at cc pc (.ireturn) 1 n) (hc : cells ≤ R.cells ∧ slots ≤ R.slots) (ht : ∃ ty, rt = some ty ∧ narrow ty (.int v) = .int v) (he : (some (.int v), I, X) = res) : g cells slots pc L [.int v] I X := by
  subst he
  exact hr.1 cells slots pc L v hc.1 hc.2 hd.1 ht rfl
theorem r_areturn (hr : q_Rt cc rt R res g) {r : Option Nat} (hd : q_at cc pc (.areturn) 1 n) (hc : cells ≤ R.cells ∧ slots ≤ R.slots) (ht : ∃ ty, rt = some ty ∧ ((∃ n, ty = .object n) ∨ ∃ t, ty = .array t)) (he : (some (va_rf r), I, X) = res) : g cells slots pc L [va_rf r] I X := by
  subst he
  exact hr.2.1 cells slots pc L r hc.1 hc.2 hd.1 ht rfl
theorem r_return (hr : q_Rt cc rt R res g) (hd : q_at cc pc (.return_) 1 n) (hc : cells ≤ R.cells ∧ slots ≤ R.slots) (ht : rt = none) (he : ((none : Option Value), I, X) = res) : g cells slots pc L [] I X := by
  subst he
  exact hr.2.2 cells slots pc L hc.1 hc.2 hd.1 ht rfl
theorem q_catS (S : List Value) : ((S.map (q_v Γ)).map fun v => v.category) = S.map fun v => v.category := by rw [List.map_map]; exact List.map_congr_left (fun v _ => q_v_cat Γ v)
theorem q_blind (av : List Value) : FrameBlind (q_P Γ av I X) := by
  intro a U g mk q
  obtain ⟨q0, q1, qP, qK, qO⟩ := q
  exact ⟨q0, q1, qP, va_K.moved (u := U) (U := U.calling g mk a) (Vm.Alike.refl U.vm) qK, qO.go (U := U.calling g mk a) (State.WarmedH.refl U) (Nat.le_refl _) (fun _ _ _ => rfl)⟩
theorem q_pre {s : State} {H : Heap} {locs : List Loc} {av : List Value} (hP : va_P (q_D Γ) vwCl (q_w Γ I X) H) (hz : H.size = q_sz Γ + X.2.length) (hS : va_S (q_A Γ) s.heap H locs) (hK : va_K (q_D Γ) vwCl (q_tys Γ) s) (hO : q_Old Γ s) (U : State) (hU : U.heap = H) (hW : s.WarmedH U.vm) : q_P Γ av I X (av.map (q_v Γ)).toArray U :=
  ⟨rfl, by rw [hU]; exact hz, by rw [hU]; exact hP, va_K.moved hW.alike hK, hO.go hW (by rw [hU]; exact hS.1) (fun q h1 h2 => by rw [hU]; exact hS.2.1 q h1 h2)⟩
/-- behind a call -/
theorem q_back {p : Program} {e : Env} {s : State} {m : MethodId} {args : Array Value} {below : List Frame} {meth : Method} {c : Code} {Q : State → Prop} {H : Heap} {locs : List Loc} {ls : Array Slot} {st0 rest : List Value} {a : Array Value} {mc ms : Nat} {r : Option Value} {J : qI} {Y : qX}
    (hrun : va_Run p l e R s m args below meth c H locs cells slots mc ms (F0 m pc ls st0) rest (q_Q Γ (r, J, Y) a) (q_A Γ)) (hS : va_S (q_A Γ) s.heap H locs) (hL : lv_has ls nL (L.map (fun q => (q.1, q_v Γ q.2)))) (hrest : rest = S.map (q_v Γ))
    (k : q_G p l e R s m args below meth c Γ nL Q (cells + mc) (slots + ms) (pc + 3) L (r.toList ++ S) J Y) : W p l e R s m args below meth c H locs cells slots Q (F0 m pc ls st0) := by
  intro T hT X'
  obtain ⟨v, st₀, t, T', Lc, h0, X2, hLc, e1, e2, ⟨q1, q2, q3, q4⟩, st⟩ := hrun T hT X'
  have hv : v = r.map (q_v Γ) := Outcome.returned.inj q1
  obtain ⟨hz4, hk4⟩ := q4
  rw [h0] at hz4 hk4
  have kk := k T'.heap (locs ++ Lc) ls (by rw [e1]; exact q3) (by rw [e1]; exact q2)
    ⟨Nat.le_trans hS.1 (by rw [e1]; exact hz4), fun q g1 g2 => by rw [e1, hk4 q (Nat.lt_of_lt_of_le g1 hS.1) g2]; exact hS.2.1 q g1 g2, fun q hq => (List.mem_append.mp hq).elim (hS.2.2 q) (hLc q)⟩ hL
  obtain ⟨t2, a1, b1⟩ := kk T' rfl X2
  refine ⟨t2, st t2 ?_, b1⟩
  have es : v.toList ++ rest = (r.toList ++ S).map (q_v Γ) := by
    rw [hv, hrest]
    cases r <;> rfl
  show Steps p.tables e below (T'.setTop { F0 m pc ls st0 with pc := pc + 3, stack := v.toList ++ rest }) t2
  rw [es]
  exact a1
/-- what the tables say of a method -/
def q_mt (y : MethodName) (cy : ByteArray) (mL : Nat) (ret : Option FieldType) (np : Nat) : Prop := Cond.code y cy mL ret ∈ q_tbl ∧ Cond.initialized y.cls ∈ q_tbl ∧ (y.cls ≠ "java/lang/invoke/MethodHandle" ∧ y.cls ≠ "java/lang/invoke/VarHandle" ∧ (parseMethodDescriptor y.desc).map (fun d => d.parameters.length) = some np)
theorem q_callB {s : State} {args : Array Value} {i mL np : Nat} {y : MethodName} {cy : ByteArray} {ret : Option FieldType} {rm : Room} (hts : ∀ w ∈ q_tbl, w.before args s = true) (hm : q_mt y cy mL ret np) (hl : Cond.methodLink own i y ∈ q_tbl) (hR : rm.frames + 1 ≤ R.frames ∧ 8 + (mL + 11) + rm.locals ≤ R.locals) : CallB R s args own i y cy mL ret (Cond.code y cy mL ret :: q_tbl) rm rm.cells rm.slots np := by
  obtain ⟨h1, h2, h3, h4, h5⟩ := hm
  refine callB_of (Ts := q_tbl) np hts (fun w hw => ?_) rfl rfl rfl (hts _ h2) (hts _ hl) ⟨h3, h4, h5⟩ hR
  rcases List.mem_cons.mp hw with rfl | hw
  · exact q_goodIn _ h1
  · exact q_goodIn _ hw
theorem r_callS (hg : q_Ok l Γ own cc nL R nm rt g) {i mL np : Nat} {y : MethodName} {cy : ByteArray} {ret : Option FieldType} {rm : Room} {av : List Value} {r : Option Value} {J : qI} {Y : qX} (hd : q_at cc pc (.invokestatic i) 3 n) (hm : q_mt y cy mL ret np) (hw : Cond.methodLink own i y ∈ q_tbl ∧ Cond.static y ∈ q_tbl) (hs : q_Sem l Γ rm y cy mL ret av I X (r, J, Y)) (hn : av.length = np) (hR : rm.frames + 1 ≤ R.frames ∧ 8 + (mL + 11) + rm.locals ≤ R.locals) (hc : cells + rm.cells ≤ R.cells ∧ slots + rm.slots ≤ R.slots) (hst : (S.map fun v => v.category).sum ≤ 8) (k : g (cells + rm.cells) (slots + rm.slots) n L (r.toList ++ S) J Y) : g cells slots pc L (av.reverse ++ S) I X := by
  obtain ⟨p, e, s, m, args, below, meth, c, Q, ⟨hx, hb, hr, hml, hown, hts, hK, hO, hlk, hnm⟩, rfl⟩ := hg
  obtain ⟨hd, rfl⟩ := hd
  intro H locs ls hP hz hS hL
  refine q_back (va_runS (As := av.map (q_v Γ)) (rest := S.map (q_v Γ)) ⟨hx, hb, hml, hown, hts⟩ hs ⟨q_callB hts hm hw.1 hR, hts _ hw.2⟩ ⟨q_blind av, q_pre hP hz hS hK hO⟩ rfl (by rw [List.length_map]; exact hn) hL.1 (by rw [List.map_append, List.map_reverse]) (lv_room (by rw [q_catS]; exact hst)) hd hc) hS hL rfl k
theorem r_callV (hg : q_Ok l Γ own cc nL R nm rt g) {i mL np ci N b : Nat} {y : MethodName} {cy : ByteArray} {ret : Option FieldType} {rm : Room} {av : List Value} {r : Option Value} {J : qI} {Y : qX} (hd : q_at cc pc (.invokevirtual i) 3 n) (hm : q_mt y cy mL ret np) (hw : Cond.methodLink own i y ∈ q_tbl) (hv : Cond.instanceMethod y ∈ q_tbl ∧ Cond.selects y.cls y y ∈ q_tbl ∧ ∃ T : u_T, vwCl[ci]? = some (y.cls, T, N)) (hk : q_kd X b = some (ci + 2, N)) (hs : q_Sem l Γ rm y cy mL ret (.ref b :: av) I X (r, J, Y)) (hn : av.length = np) (hR : rm.frames + 1 ≤ R.frames ∧ 8 + (mL + 11) + rm.locals ≤ R.locals) (hc : cells + rm.cells ≤ R.cells ∧ slots + rm.slots ≤ R.slots) (hst : (S.map fun v => v.category).sum ≤ 8) (k : g (cells + rm.cells) (slots + rm.slots) n L (r.toList ++ S) J Y) : g cells slots pc L (av.reverse ++ .ref b :: S) I X := by
  obtain ⟨p, e, s, m, args, below, meth, c, Q, ⟨hx, hb, hr, hml, hown, hts, hK, hO, hlk, hnm⟩, rfl⟩ := hg
  obtain ⟨hd, rfl⟩ := hd
  intro H locs ls hP hz hS hL
  obtain ⟨v1, v2, T, hC⟩ := hv
  refine q_back (va_runV (As := av.map (q_v Γ)) (b := q_ad Γ b) (rest := S.map (q_v Γ)) (C := y.cls) ⟨hx, hb, hml, hown, hts⟩ hs ⟨q_callB hts hm hw hR, hts _ v1, hts _ v2⟩ ⟨q_blind (.ref b :: av), va_recv hK hP hC (q_w_at Γ I hk), q_pre (av := .ref b :: av) hP hz hS hK hO⟩ rfl (by rw [List.length_map]; exact hn) hL.1 (by rw [List.map_append, List.map_reverse]; rfl) (lv_room (by rw [q_catS]; exact hst)) hd hc) hS hL rfl k
theorem r_callI (hg : q_Ok l Γ own cc nL R nm rt g) {i mL np b : Nat} {y : MethodName} {cy : ByteArray} {rm : Room} {av : List Value} {J : qI} {Y : qX} (hd : q_at cc pc (.invokespecial i) 3 n) (hm : q_mt y cy mL none np) (hw : Cond.methodLink own i y ∈ q_tbl) (hv : Cond.instanceMethod y ∈ q_tbl ∧ y.name = "<init>") (hs : q_Sem l Γ rm y cy mL none (.ref b :: av) I X (none, J, Y)) (hn : av.length = np) (hR : rm.frames + 1 ≤ R.frames ∧ 8 + (mL + 11) + rm.locals ≤ R.locals) (hc : cells + rm.cells ≤ R.cells ∧ slots + rm.slots ≤ R.slots) (hst : (S.map fun v => v.category).sum ≤ 8) (k : g (cells + rm.cells) (slots + rm.slots) n L S J Y) : g cells slots pc L (av.reverse ++ .ref b :: S) I X := by
  obtain ⟨p, e, s, m, args, below, meth, c, Q, ⟨hx, hb, hr, hml, hown, hts, hK, hO, hlk, hnm⟩, rfl⟩ := hg
  obtain ⟨hd, rfl⟩ := hd
  intro H locs ls hP hz hS hL
  refine q_back (va_runI (As := av.map (q_v Γ)) (b := q_ad Γ b) (rest := S.map (q_v Γ)) ⟨hx, hb, hml, hown, hts⟩ hs ⟨q_callB hts hm hw hR, hv.2, hts _ hv.1⟩ ⟨q_blind (.ref b :: av), q_pre (av := .ref b :: av) hP hz hS hK hO⟩ rfl (by rw [List.length_map]; exact hn) hL.1 (by rw [List.map_append, List.map_reverse]; rfl) (lv_room (by rw [q_catS]; exact hst)) hd hc) hS hL rfl k
theorem r_callIN (hg : q_Ok l Γ own cc nL R nm rt g) {i mL np b : Nat} {y : MethodName} {host : String} {cy : ByteArray} {rm : Room} {av : List Value} {J : qI} {Y : qX} (hd : q_at cc pc (.invokespecial i) 3 n) (hm : q_mt y cy mL none np) (hw : Cond.methodLinkNest own i y host ∈ q_nest) (hv : Cond.instanceMethod y ∈ q_tbl ∧ y.name = "<init>") (hs : q_Sem l Γ rm y cy mL none (.ref b :: av) I X (none, J, Y)) (hn : av.length = np) (hR : rm.frames + 1 ≤ R.frames ∧ 8 + (mL + 11) + rm.locals ≤ R.locals) (hc : cells + rm.cells ≤ R.cells ∧ slots + rm.slots ≤ R.slots) (hst : (S.map fun v => v.category).sum ≤ 8) (k : g (cells + rm.cells) (slots + rm.slots) n L S J Y) : g cells slots pc L (av.reverse ++ .ref b :: S) I X := by
  obtain ⟨p, e, s, m, args, below, meth, c, Q, ⟨hx, hb, hr, hml, hown, hts, hK, hO, hlk, hnm⟩, rfl⟩ := hg
  obtain ⟨hd, rfl⟩ := hd
  intro H locs ls hP hz hS hL
  obtain ⟨h1, h2, h3, h4, h5⟩ := hm
  have hG : GoodIn q_tbl (Cond.code y cy mL none :: q_tbl) := fun w hw => (List.mem_cons.mp hw).elim (fun e => e ▸ q_goodIn _ h1) (q_goodIn w)
  refine q_back (va_runIN (As := av.map (q_v Γ)) (b := q_ad Γ b) (rest := S.map (q_v Γ)) (host := host) ⟨hx, hb, hml, hown, hts⟩ hs ⟨va_cnB np hts hG rfl rfl rfl (hO.2.2.2.1 _ hw) (hts _ h2) ⟨h3, h4, h5⟩ hR, hv.2, hts _ hv.1⟩ ⟨q_blind (.ref b :: av), q_pre (av := .ref b :: av) hP hz hS hK hO⟩ rfl (by rw [List.length_map]; exact hn) hL.1 (by rw [List.map_append, List.map_reverse]; rfl) (lv_room (by rw [q_catS]; exact hst)) hd hc) hS hL rfl k
theorem r_objInit (hg : q_Ok l Γ own cc nL R nm rt g) {i b : Nat} (hd : q_at cc pc (.invokespecial i) 3 n) (hw : Cond.methodLink own i objectInit ∈ q_tbl ∧ Cond.instanceMethod objectInit ∈ q_tbl ∧ Cond.code objectInit ⟨#[0xb1]⟩ 1 none ∈ q_tbl) (hR : 1 ≤ R.frames ∧ (S.map fun v => v.category).sum + 12 ≤ R.locals) (k : g cells slots n L S I X) : g cells slots pc L (.ref b :: S) I X := by
  obtain ⟨p, e, s, m, args, below, meth, c, Q, ⟨hx, hb, hr, hml, hown, hts, hK, hO, hlk, hnm⟩, rfl⟩ := hg
  obtain ⟨hd, rfl⟩ := hd
  intro H locs ls hP hz hS hL
  refine W.objInit hx hb hown (hts _ hw.1) (hts _ hw.2.1) (hts _ hw.2.2) rfl (by rw [hml]; exact hL.1) rfl hd hR.1 ?_ (k H locs ls hP hz hS hL)
  show 2 * 0 + (((S.map (q_v Γ)).map fun v => v.category)).sum + 12 ≤ R.locals
  rw [q_catS]
  omega
theorem r_copy (hg : q_Ok l Γ own cc nL R nm rt g) {i sr d N M : Nat} {sp dp z : Int32} (hd : q_at cc pc (.invokestatic i) 3 n) (hw : Cond.methodLink own i arraycopyName ∈ q_tbl ∧ Cond.native arraycopyName ∈ q_tbl ∧ Cond.static arraycopyName ∈ q_tbl ∧ Cond.initialized "java/lang/System" ∈ q_tbl) (hks : q_kd X sr = some (0, N)) (hkd : q_kd X d = some (0, M)) (h1 : ¬ sp < 0) (h2 : ¬ dp < 0) (h3 : ¬ z < 0) (h4 : sp.toNatClampNeg + z.toNatClampNeg ≤ N) (h5 : dp.toNatClampNeg + z.toNatClampNeg ≤ M) (hR : 1 ≤ R.frames ∧ (S.map fun v => v.category).sum + (nativeFrameWords "java/lang/System" "arraycopy" 5 + 11) ≤ R.locals) (k : g cells slots n L S (q_upA I d (va_cpy (I sr) (I d) sp.toNatClampNeg dp.toNatClampNeg z.toNatClampNeg)) X) : g cells slots pc L (.int z :: .int dp :: .ref d :: .int sp :: .ref sr :: S) I X := by
  obtain ⟨p, e, s, m, args, below, meth, c, Q, ⟨hx, hb, hr, hml, hown, hts, hK, hO, hlk, hnm⟩, rfl⟩ := hg
  obtain ⟨hd, rfl⟩ := hd
  intro H locs ls hP hz hS hL
  have nn : ∀ z : Int32, ¬ z < 0 → z.toInt = (z.toNatClampNeg : Int) := by
    intro z hz
    have hz0 : (0 : Int) ≤ z.toInt := by
      have := Int32.not_lt.mp hz
      simpa using Int32.le_iff_toInt_le.mp this
    show z.toInt = ((z.toInt.toNat : Nat) : Int)
    omega
  intro T hT X'
  have he0 := q_w_at Γ I hks
  have he1 := q_w_at Γ I hkd
  have hc0 : H[q_ad Γ sr]? = some (vp_cell (q_cI Γ) (N, .inl (I sr))) := hP _ _ he0
  have hc1 : H[q_ad Γ d]? = some (vp_cell (q_cI Γ) (M, .inl (I d))) := hP _ _ he1
  obtain ⟨-, k0, hk0, cm0, hkk0⟩ := (hK.2 0 _ rfl).1 N (fun j => .int (I sr j))
  obtain ⟨-, k1, hk1, cm1, hkk1⟩ := (hK.2 0 _ rfl).1 M (fun j => .int (I d j))
  obtain ⟨vm', X2, step⟩ := X'.arraycopy hx hown (hts _ hw.1) (hts _ hw.2.1) (hts _ hw.2.2.1) (hts _ hw.2.2.2) (src := q_ad Γ sr) (dst := q_ad Γ d) (cs := vp_cell (q_cI Γ) (N, .inl (I sr))) (cd := vp_cell (q_cI Γ) (M, .inl (I d))) (srcPos := sp) (destPos := dp) (n := z) (by rw [hT]; exact hc0) (by rw [hT]; exact hc1)
    (fun _ h => by cases h) (fun _ h => by cases h) (fun h => by cases h) (fun h => by cases h) hk0 hk1 hkk0 hkk1 (by simp [refKind]) h1 h2 h3
    (by rw [nn sp h1, nn z h3]; show ¬ _ > ((arrV (q_cI Γ) N (fun j => .int (I sr j))).slots.size : Int); rw [arrV_size]; omega)
    (by rw [nn dp h2, nn z h3]; show ¬ _ > ((arrV (q_cI Γ) M (fun j => .int (I d j))).slots.size : Int); rw [arrV_size]; omega)
    (fun vm₁ _ i hi => by
      have e : (vp_cell (q_cI Γ) (N, .inl (I sr))).slots.getD (sp.toNatClampNeg + i) .null = .int (I sr (sp.toNatClampNeg + i)) := by
        show (arrV (q_cI Γ) N (fun j => .int (I sr j))).slots.getD _ _ = _
        rw [Array.getD_eq_getD_getElem?, arrV_read _ _ (by omega)]
        rfl
      refine ⟨?_, ?_⟩
      · rw [e]; rfl
      · rw [e]; exact trivial)
    (g := F0 m pc ls (.int z :: .int dp :: .ref (q_ad Γ d) :: .int sp :: .ref (q_ad Γ sr) :: S.map (q_v Γ))) rfl (by rw [hml, ← hL.1]) (rest := S.map (q_v Γ)) rfl (by rw [hb]; exact hd) hR.1 (by show 2 * 0 + (((S.map (q_v Γ)).map fun v => v.category)).sum + _ ≤ _; rw [q_catS]; omega)
  have e1 : copied (vp_cell (q_cI Γ) (N, .inl (I sr))) (vp_cell (q_cI Γ) (M, .inl (I d))) sp dp z = vp_cell (q_cI Γ) (M, .inl (va_cpy (I sr) (I d) sp.toNatClampNeg dp.toNatClampNeg z.toNatClampNeg)) := va_copied (fun z => .int z) _ _ _ _ h4
  rw [e1] at X2 step
  have hl : q_ad Γ d < H.size := (Array.getElem?_eq_some_iff.mp hc1).1
  generalize hcell : vp_cell (q_cI Γ) (M, .inl (va_cpy (I sr) (I d) sp.toNatClampNeg dp.toNatClampNeg z.toNatClampNeg)) = cell at X2 step
  have oq : ∀ q : Nat, q ≠ q_ad Γ d → (H.setIfInBounds (q_ad Γ d) cell)[q]? = H[q]? := fun q hq => by simp [Array.getElem?_setIfInBounds, Ne.symm hq]
  have hheap : ((T.setVm vm').setCell (q_ad Γ d) cell).heap = H.setIfInBounds (q_ad Γ d) cell := by rw [← hT]; rfl
  have hA : q_A Γ (q_ad Γ d) := (q_w_D Γ I X).2 _ _ he1
  have e := q_w_I (I' := q_upA I d (va_cpy (I sr) (I d) sp.toNatClampNeg dp.toNatClampNeg z.toNatClampNeg)) Γ hkd rfl
  obtain ⟨t, a1, b1⟩ := k (H.setIfInBounds (q_ad Γ d) cell) _ ls (by
      rw [← e]
      refine hP.set (q_w_D Γ I X) he1 ?_ oq
      show (H.setIfInBounds (q_ad Γ d) cell)[q_ad Γ d]? = some (vp_cell (q_cI Γ) (M, .inl (q_upA I d (va_cpy (I sr) (I d) sp.toNatClampNeg dp.toNatClampNeg z.toNatClampNeg) d)))
      rw [show q_upA I d (va_cpy (I sr) (I d) sp.toNatClampNeg dp.toNatClampNeg z.toNatClampNeg) d = va_cpy (I sr) (I d) sp.toNatClampNeg dp.toNatClampNeg z.toNatClampNeg from if_pos rfl, hcell]
      simp [Array.getElem?_setIfInBounds, hl]) (by simp; exact hz) ⟨by simp; exact hS.1, fun q g1 g2 => by
      rw [oq q (fun e => g2 (by rw [e]; exact hA))]
      exact hS.2.1 q g1 g2, fun q hq => by
      rcases List.mem_append.mp hq with h | h
      · exact hS.2.2 q h
      · obtain ⟨z, -, hz⟩ := List.mem_map.mp h
        rw [← hz]
        exact hA⟩ hL _ hheap X2
  exact ⟨t, step t a1, b1⟩
end CA

