/-! constructors: cells come one by one -/
def q_nA (n : Nat) (I : qI) (X : qX) : Option (Nat × qI × qX) := some (X.2.length + 64, q_upA I (X.2.length + 64) (fun _ => 0), (X.1, X.2 ++ [(0, n)]))
def q_nB (n : Nat) (I : qI) (X : qX) : Option (Nat × qI × qX) := some (X.2.length + 64, q_upA I (X.2.length + 64) (fun _ => 0), ((fun b => if b = X.2.length + 64 then (fun _ => none) else X.1 b), X.2 ++ [(1, n)]))
def q_nO (c n : Nat) (I : qI) (X : qX) : Option (Nat × qI × qX) := some (X.2.length + 64, q_upA I (X.2.length + 64) (fun _ => 0), ((fun b => if b = X.2.length + 64 then (fun _ => none) else X.1 b), X.2 ++ [(c + 2, n)]))
theorem q_nA_some {n : Nat} {I J : qI} {X Y : qX} {a : Nat} (h : q_nA n I X = some (a, J, Y)) : a = X.2.length + 64 ∧ J = q_upA I (X.2.length + 64) (fun _ => 0) ∧ Y = (X.1, X.2 ++ [(0, n)]) := by
  cases h; exact ⟨rfl, rfl, rfl⟩
theorem q_nB_some {n : Nat} {I J : qI} {X Y : qX} {a : Nat} (h : q_nB n I X = some (a, J, Y)) : a = X.2.length + 64 ∧ J = q_upA I (X.2.length + 64) (fun _ => 0) ∧ Y = ((fun b => if b = X.2.length + 64 then (fun _ => none) else X.1 b), X.2 ++ [(1, n)]) := by
  cases h; exact ⟨rfl, rfl, rfl⟩
theorem q_nO_some {c n : Nat} {I J : qI} {X Y : qX} {a : Nat} (h : q_nO c n I X = some (a, J, Y)) : a = X.2.length + 64 ∧ J = q_upA I (X.2.length + 64) (fun _ => 0) ∧ Y = ((fun b => if b = X.2.length + 64 then (fun _ => none) else X.1 b), X.2 ++ [(c + 2, n)]) := by
  cases h; exact ⟨rfl, rfl, rfl⟩
def q_pR (X : qX) (b j a : Nat) : Option qX := some (q_upR X.1 b j (some a), X.2)
theorem q_pR_kd {X Y : qX} {b j a : Nat} (h : q_pR X b j a = some Y) : ∀ (k : Nat) (d : Nat × Nat), q_kd X k = some d → q_kd Y k = some d := by
  cases h; exact fun _ _ h => h
theorem q_nA_kd {n : Nat} {I J : qI} {X Y : qX} {a : Nat} (h : q_nA n I X = some (a, J, Y)) : q_kd Y a = some (0, n) ∧ ∀ (k : Nat) (d : Nat × Nat), q_kd X k = some d → q_kd Y k = some d := by
  obtain ⟨rfl, -, rfl⟩ := q_nA_some h; exact ⟨q_kd_last, fun _ _ h => q_kd_push h⟩
theorem q_nB_kd {n : Nat} {I J : qI} {X Y : qX} {a : Nat} (h : q_nB n I X = some (a, J, Y)) : q_kd Y a = some (1, n) ∧ ∀ (k : Nat) (d : Nat × Nat), q_kd X k = some d → q_kd Y k = some d := by
  obtain ⟨rfl, -, rfl⟩ := q_nB_some h; exact ⟨q_kd_last, fun _ _ h => q_kd_push (R := (fun b => if b = X.2.length + 64 then (fun _ => none) else X.1 b)) h⟩
theorem q_nO_kd {c n : Nat} {I J : qI} {X Y : qX} {a : Nat} (h : q_nO c n I X = some (a, J, Y)) : q_kd Y a = some (c + 2, n) ∧ ∀ (k : Nat) (d : Nat × Nat), q_kd X k = some d → q_kd Y k = some d := by
  obtain ⟨rfl, -, rfl⟩ := q_nO_some h; exact ⟨q_kd_last, fun _ _ h => q_kd_push (R := (fun b => if b = X.2.length + 64 then (fun _ => none) else X.1 b)) h⟩
theorem r_nAD {l : Launch} {Γ : qC} {own : String} {cc : ByteArray} {nL : Nat} {R : Room} {nm : String} {rt : Option FieldType} {g : qG} {cells slots pc n : Nat} {L : List (Nat × Value)} {S : List Value} {I : qI} {X : qX} (hg : q_Ok l Γ own cc nL R nm rt g) {z : Int32} {N a : Nat} {J : qI} {Y : qX} (hd : q_at cc pc (.newarray .int) 2 n) (hw : Cond.arrayClass .int ∈ q_tbl) (hn : ¬ z < 0) (hN : z.toNatClampNeg = N) (hby : N * 4 ≤ 536870912) (hc : cells + 1 ≤ R.cells) (hs : slots + N ≤ R.slots) (e : q_nA N I X = some (a, J, Y)) (k : g (cells + 1) (slots + N) n L (.ref a :: S) J Y) : g cells slots pc L (.int z :: S) I X := by
  obtain ⟨rfl, rfl, rfl⟩ := q_nA_some e; exact r_newa hg hd hw hn hN hby hc hs k
theorem r_nBD {l : Launch} {Γ : qC} {own : String} {cc : ByteArray} {nL : Nat} {R : Room} {nm : String} {rt : Option FieldType} {g : qG} {cells slots pc n : Nat} {L : List (Nat × Value)} {S : List Value} {I : qI} {X : qX} (hg : q_Ok l Γ own cc nL R nm rt g) {z : Int32} {i N a : Nat} {J : qI} {Y : qX} (hd : q_at cc pc (.anewarray i) 3 n) (hw : Cond.classLink own i "[I" ∈ q_tbl) (hn : ¬ z < 0) (hN : z.toNatClampNeg = N) (hby : N * 4 ≤ 536870912) (hc : cells + 1 ≤ R.cells) (hs : slots + N ≤ R.slots) (e : q_nB N I X = some (a, J, Y)) (k : g (cells + 1) (slots + N) n L (.ref a :: S) J Y) : g cells slots pc L (.int z :: S) I X := by
  obtain ⟨rfl, rfl, rfl⟩ := q_nB_some e; exact r_anewA hg hd hw hn hN hby hc hs k
theorem r_nOD {l : Launch} {Γ : qC} {own : String} {cc : ByteArray} {nL : Nat} {R : Room} {nm : String} {rt : Option FieldType} {g : qG} {cells slots pc n : Nat} {L : List (Nat × Value)} {S : List Value} {I : qI} {X : qX} (hg : q_Ok l Γ own cc nL R nm rt g) {i ci N a : Nat} {C : String} {T : u_T} {J : qI} {Y : qX} (hd : q_at cc pc (.new i) 3 n) (hC : vwCl[ci]? = some (C, T, N)) (hw : Cond.classLink own i C ∈ q_tbl ∧ Cond.instantiable C N ∈ q_tbl ∧ Cond.initialized C ∈ q_tbl) (hdf : ∀ j, j < N → defaultValue (q_ty ci j) = if q_isR ci j = true then .null else .int 0) (hc : cells + 1 ≤ R.cells) (hs : slots + N ≤ R.slots) (e : q_nO ci N I X = some (a, J, Y)) (k : g (cells + 1) (slots + N) n L (.ref a :: S) J Y) : g cells slots pc L S I X := by
  obtain ⟨rfl, rfl, rfl⟩ := q_nO_some e; exact r_new hg hd hC hw hdf hc hs k
theorem r_pRD {l : Launch} {Γ : qC} {own : String} {cc : ByteArray} {nL : Nat} {R : Room} {nm : String} {rt : Option FieldType} {g : qG} {cells slots pc n : Nat} {L : List (Nat × Value)} {S : List Value} {I : qI} {X : qX} (hg : q_Ok l Γ own cc nL R nm rt g) {i ci N j b a : Nat} {Y : qX} (hd : q_at cc pc (.putfield i) 3 n) (hf : q_fl own i ci N j true) (hC : ∃ T : u_T, vwCl[ci]? = some (own, T, N)) (hin : nm = "<init>") (hk : q_kd X b = some (ci + 2, N)) (hq : q_isR ci j = true) (e : q_pR X b j a = some Y) (k : g cells slots n L S I Y) : g cells slots pc L (.ref a :: .ref b :: S) I X := by
  obtain rfl := Option.some.inj e; exact r_putFR hg hd hf hC hin hk hq k
theorem cb_20 : (Int8.ofInt (20)).toInt32 = (nI 20) := by decide +kernel
theorem cb_72 : (Int8.ofInt (72)).toInt32 = (nI 72) := by decide +kernel
theorem cs_128 : (Int16.ofInt (128)).toInt32 = (nI 128) := by decide +kernel
theorem cs_240 : (Int16.ofInt (240)).toInt32 = (nI 240) := by decide +kernel
theorem mt_X0_init : q_mt yX0_init cX0_init 2 none 0 := ⟨(q_wt2 (i := 181) rfl rfl), (q_wt1 (i := 12) (by decide +kernel) rfl), by decide +kernel, by decide +kernel, by decide +kernel⟩
theorem mt_X10_init : q_mt yX10_init cX10_init 1 none 0 := ⟨(q_wt2 (i := 3) rfl rfl), (q_wt1 (i := 8) (by decide +kernel) rfl), by decide +kernel, by decide +kernel, by decide +kernel⟩
theorem mt_X1_init : q_mt yX1_init cX1_init 1 none 0 := ⟨(q_wt1 (i := 169) rfl rfl), (q_wt1 (i := 6) (by decide +kernel) rfl), by decide +kernel, by decide +kernel, by decide +kernel⟩
theorem mt_X2_init : q_mt yX2_init cX2_init 2 none 0 := ⟨(q_wt1 (i := 99) rfl rfl), (q_wt1 (i := 5) (by decide +kernel) rfl), by decide +kernel, by decide +kernel, by decide +kernel⟩
theorem mt_X3_init : q_mt yX3_init cX3_init 2 none 0 := ⟨(q_wt1 (i := 40) rfl rfl), (q_wt1 (i := 3) (by decide +kernel) rfl), by decide +kernel, by decide +kernel, by decide +kernel⟩
theorem mt_X4_init : q_mt yX4_init cX4_init 1 none 0 := ⟨(q_wt2 (i := 50) rfl rfl), (q_wt1 (i := 10) (by decide +kernel) rfl), by decide +kernel, by decide +kernel, by decide +kernel⟩
theorem mt_X5_init : q_mt yX5_init cX5_init 1 none 0 := ⟨(q_wt2 (i := 144) rfl rfl), (q_wt1 (i := 11) (by decide +kernel) rfl), by decide +kernel, by decide +kernel, by decide +kernel⟩
theorem mt_X6_init : q_mt yX6_init cX6_init 1 none 0 := ⟨(q_wt2 (i := 14) rfl rfl), (q_wt1 (i := 9) (by decide +kernel) rfl), by decide +kernel, by decide +kernel, by decide +kernel⟩
theorem mt_X7_init : q_mt yX7_init cX7_init 1 none 0 := ⟨(q_wt1 (i := 214) rfl rfl), (q_wt1 (i := 7) (by decide +kernel) rfl), by decide +kernel, by decide +kernel, by decide +kernel⟩
theorem mt_X8_init : q_mt yX8_init cX8_init 1 none 0 := ⟨(q_wt1 (i := 70) rfl rfl), (q_wt1 (i := 4) (by decide +kernel) rfl), by decide +kernel, by decide +kernel, by decide +kernel⟩
theorem mt_X9_init : q_mt yX9_init cX9_init 1 none 0 := ⟨(q_wt1 (i := 34) rfl rfl), (q_wt1 (i := 2) (by decide +kernel) rfl), by decide +kernel, by decide +kernel, by decide +kernel⟩
theorem ml_X11_9 : Cond.methodLink RX11 9 yX9_init ∈ q_tbl := (q_wt1 (i := 32) (by decide +kernel) rfl)
theorem ml_X11_31 : Cond.methodLink RX11 31 yX0_init ∈ q_tbl := (q_wt2 (i := 179) (by decide +kernel) rfl)
theorem ml_X9_11 : Cond.methodLink RX9 11 yX3_init ∈ q_tbl := (q_wt1 (i := 38) (by decide +kernel) rfl)
theorem ml_X9_27 : Cond.methodLink RX9 27 yX2_init ∈ q_tbl := (q_wt1 (i := 97) (by decide +kernel) rfl)
theorem nw_X11_7 : Cond.classLink RX11 7 RX9 ∈ q_tbl ∧ Cond.instantiable RX9 14 ∈ q_tbl ∧ Cond.initialized RX9 ∈ q_tbl := ⟨(q_wt1 (i := 30) (by decide +kernel) rfl), (q_wt1 (i := 31) (by decide +kernel) rfl), (q_wt1 (i := 2) (by decide +kernel) rfl)⟩
theorem nw_X11_22 : Cond.classLink RX11 22 RX5 ∈ q_tbl ∧ Cond.instantiable RX5 9 ∈ q_tbl ∧ Cond.initialized RX5 ∈ q_tbl := ⟨(q_wt2 (i := 140) (by decide +kernel) rfl), (q_wt2 (i := 141) (by decide +kernel) rfl), (q_wt1 (i := 11) (by decide +kernel) rfl)⟩
theorem nw_X11_29 : Cond.classLink RX11 29 RX0 ∈ q_tbl ∧ Cond.instantiable RX0 3 ∈ q_tbl ∧ Cond.initialized RX0 ∈ q_tbl := ⟨(q_wt2 (i := 177) (by decide +kernel) rfl), (q_wt2 (i := 178) (by decide +kernel) rfl), (q_wt1 (i := 12) (by decide +kernel) rfl)⟩
theorem nw_X9_9 : Cond.classLink RX9 9 RX3 ∈ q_tbl ∧ Cond.instantiable RX3 5 ∈ q_tbl ∧ Cond.initialized RX3 ∈ q_tbl := ⟨(q_wt1 (i := 36) (by decide +kernel) rfl), (q_wt1 (i := 37) (by decide +kernel) rfl), (q_wt1 (i := 3) (by decide +kernel) rfl)⟩
theorem nw_X9_18 : Cond.classLink RX9 18 RX8 ∈ q_tbl ∧ Cond.instantiable RX8 5 ∈ q_tbl ∧ Cond.initialized RX8 ∈ q_tbl := ⟨(q_wt1 (i := 66) (by decide +kernel) rfl), (q_wt1 (i := 67) (by decide +kernel) rfl), (q_wt1 (i := 4) (by decide +kernel) rfl)⟩
theorem nw_X9_25 : Cond.classLink RX9 25 RX2 ∈ q_tbl ∧ Cond.instantiable RX2 15 ∈ q_tbl ∧ Cond.initialized RX2 ∈ q_tbl := ⟨(q_wt1 (i := 95) (by decide +kernel) rfl), (q_wt1 (i := 96) (by decide +kernel) rfl), (q_wt1 (i := 5) (by decide +kernel) rfl)⟩
theorem nw_X9_32 : Cond.classLink RX9 32 RX1 ∈ q_tbl ∧ Cond.instantiable RX1 9 ∈ q_tbl ∧ Cond.initialized RX1 ∈ q_tbl := ⟨(q_wt1 (i := 165) (by decide +kernel) rfl), (q_wt1 (i := 166) (by decide +kernel) rfl), (q_wt1 (i := 6) (by decide +kernel) rfl)⟩
theorem nw_X9_39 : Cond.classLink RX9 39 RX7 ∈ q_tbl ∧ Cond.instantiable RX7 6 ∈ q_tbl ∧ Cond.initialized RX7 ∈ q_tbl := ⟨(q_wt1 (i := 210) (by decide +kernel) rfl), (q_wt1 (i := 211) (by decide +kernel) rfl), (q_wt1 (i := 7) (by decide +kernel) rfl)⟩
theorem nw_X9_46 : Cond.classLink RX9 46 RX10 ∈ q_tbl ∧ Cond.instantiable RX10 1 ∈ q_tbl ∧ Cond.initialized RX10 ∈ q_tbl := ⟨(q_wt1 (i := 239) (by decide +kernel) rfl), (q_wt2 (i := 0) (by decide +kernel) rfl), (q_wt1 (i := 8) (by decide +kernel) rfl)⟩
theorem nw_X9_53 : Cond.classLink RX9 53 RX6 ∈ q_tbl ∧ Cond.instantiable RX6 9 ∈ q_tbl ∧ Cond.initialized RX6 ∈ q_tbl := ⟨(q_wt2 (i := 10) (by decide +kernel) rfl), (q_wt2 (i := 11) (by decide +kernel) rfl), (q_wt1 (i := 9) (by decide +kernel) rfl)⟩
theorem nw_X9_60 : Cond.classLink RX9 60 RX4 ∈ q_tbl ∧ Cond.instantiable RX4 10 ∈ q_tbl ∧ Cond.initialized RX4 ∈ q_tbl := ⟨(q_wt2 (i := 46) (by decide +kernel) rfl), (q_wt2 (i := 47) (by decide +kernel) rfl), (q_wt1 (i := 10) (by decide +kernel) rfl)⟩
theorem df_0 : ∀ j, j < 3 → defaultValue (q_ty 0 j) = if q_isR 0 j = true then .null else .int 0 := by decide +kernel
theorem df_1 : ∀ j, j < 9 → defaultValue (q_ty 1 j) = if q_isR 1 j = true then .null else .int 0 := by decide +kernel
theorem df_2 : ∀ j, j < 15 → defaultValue (q_ty 2 j) = if q_isR 2 j = true then .null else .int 0 := by decide +kernel
theorem df_3 : ∀ j, j < 5 → defaultValue (q_ty 3 j) = if q_isR 3 j = true then .null else .int 0 := by decide +kernel
theorem df_4 : ∀ j, j < 10 → defaultValue (q_ty 4 j) = if q_isR 4 j = true then .null else .int 0 := by decide +kernel
theorem df_5 : ∀ j, j < 9 → defaultValue (q_ty 5 j) = if q_isR 5 j = true then .null else .int 0 := by decide +kernel
theorem df_6 : ∀ j, j < 9 → defaultValue (q_ty 6 j) = if q_isR 6 j = true then .null else .int 0 := by decide +kernel
theorem df_7 : ∀ j, j < 6 → defaultValue (q_ty 7 j) = if q_isR 7 j = true then .null else .int 0 := by decide +kernel
theorem df_8 : ∀ j, j < 5 → defaultValue (q_ty 8 j) = if q_isR 8 j = true then .null else .int 0 := by decide +kernel
theorem df_9 : ∀ j, j < 14 → defaultValue (q_ty 9 j) = if q_isR 9 j = true then .null else .int 0 := by decide +kernel
theorem df_10 : ∀ j, j < 1 → defaultValue (q_ty 10 j) = if q_isR 10 j = true then .null else .int 0 := by decide +kernel
theorem df_11 : ∀ j, j < 9 → defaultValue (q_ty 11 j) = if q_isR 11 j = true then .null else .int 0 := by decide +kernel
theorem df_12 : ∀ j, j < 42 → defaultValue (q_ty 12 j) = if q_isR 12 j = true then .null else .int 0 := by decide +kernel
theorem ob_X0_3 : Cond.methodLink RX0 3 objectInit ∈ q_tbl ∧ Cond.instanceMethod objectInit ∈ q_tbl ∧ Cond.code objectInit ⟨#[0xb1]⟩ 1 none ∈ q_tbl := ⟨(q_wt2 (i := 182) (by decide +kernel) rfl), (q_wt1 (i := 28) (by decide +kernel) rfl), (q_wt1 (i := 29) (by decide +kernel) rfl)⟩
theorem ob_X1_3 : Cond.methodLink RX1 3 objectInit ∈ q_tbl ∧ Cond.instanceMethod objectInit ∈ q_tbl ∧ Cond.code objectInit ⟨#[0xb1]⟩ 1 none ∈ q_tbl := ⟨(q_wt1 (i := 170) (by decide +kernel) rfl), (q_wt1 (i := 28) (by decide +kernel) rfl), (q_wt1 (i := 29) (by decide +kernel) rfl)⟩
theorem ob_X10_1 : Cond.methodLink RX10 1 objectInit ∈ q_tbl ∧ Cond.instanceMethod objectInit ∈ q_tbl ∧ Cond.code objectInit ⟨#[0xb1]⟩ 1 none ∈ q_tbl := ⟨(q_wt2 (i := 4) (by decide +kernel) rfl), (q_wt1 (i := 28) (by decide +kernel) rfl), (q_wt1 (i := 29) (by decide +kernel) rfl)⟩
theorem ob_X11_1 : Cond.methodLink RX11 1 objectInit ∈ q_tbl ∧ Cond.instanceMethod objectInit ∈ q_tbl ∧ Cond.code objectInit ⟨#[0xb1]⟩ 1 none ∈ q_tbl := ⟨(q_wt1 (i := 27) (by decide +kernel) rfl), (q_wt1 (i := 28) (by decide +kernel) rfl), (q_wt1 (i := 29) (by decide +kernel) rfl)⟩
theorem ob_X12_1 : Cond.methodLink RX12 1 objectInit ∈ q_tbl ∧ Cond.instanceMethod objectInit ∈ q_tbl ∧ Cond.code objectInit ⟨#[0xb1]⟩ 1 none ∈ q_tbl := ⟨(q_wt6 (i := 188) (by decide +kernel) rfl), (q_wt1 (i := 28) (by decide +kernel) rfl), (q_wt1 (i := 29) (by decide +kernel) rfl)⟩
theorem ob_X2_3 : Cond.methodLink RX2 3 objectInit ∈ q_tbl ∧ Cond.instanceMethod objectInit ∈ q_tbl ∧ Cond.code objectInit ⟨#[0xb1]⟩ 1 none ∈ q_tbl := ⟨(q_wt1 (i := 100) (by decide +kernel) rfl), (q_wt1 (i := 28) (by decide +kernel) rfl), (q_wt1 (i := 29) (by decide +kernel) rfl)⟩
theorem ob_X3_1 : Cond.methodLink RX3 1 objectInit ∈ q_tbl ∧ Cond.instanceMethod objectInit ∈ q_tbl ∧ Cond.code objectInit ⟨#[0xb1]⟩ 1 none ∈ q_tbl := ⟨(q_wt1 (i := 41) (by decide +kernel) rfl), (q_wt1 (i := 28) (by decide +kernel) rfl), (q_wt1 (i := 29) (by decide +kernel) rfl)⟩
theorem ob_X4_3 : Cond.methodLink RX4 3 objectInit ∈ q_tbl ∧ Cond.instanceMethod objectInit ∈ q_tbl ∧ Cond.code objectInit ⟨#[0xb1]⟩ 1 none ∈ q_tbl := ⟨(q_wt2 (i := 51) (by decide +kernel) rfl), (q_wt1 (i := 28) (by decide +kernel) rfl), (q_wt1 (i := 29) (by decide +kernel) rfl)⟩
theorem ob_X5_1 : Cond.methodLink RX5 1 objectInit ∈ q_tbl ∧ Cond.instanceMethod objectInit ∈ q_tbl ∧ Cond.code objectInit ⟨#[0xb1]⟩ 1 none ∈ q_tbl := ⟨(q_wt2 (i := 145) (by decide +kernel) rfl), (q_wt1 (i := 28) (by decide +kernel) rfl), (q_wt1 (i := 29) (by decide +kernel) rfl)⟩
theorem ob_X6_3 : Cond.methodLink RX6 3 objectInit ∈ q_tbl ∧ Cond.instanceMethod objectInit ∈ q_tbl ∧ Cond.code objectInit ⟨#[0xb1]⟩ 1 none ∈ q_tbl := ⟨(q_wt2 (i := 15) (by decide +kernel) rfl), (q_wt1 (i := 28) (by decide +kernel) rfl), (q_wt1 (i := 29) (by decide +kernel) rfl)⟩
theorem ob_X7_3 : Cond.methodLink RX7 3 objectInit ∈ q_tbl ∧ Cond.instanceMethod objectInit ∈ q_tbl ∧ Cond.code objectInit ⟨#[0xb1]⟩ 1 none ∈ q_tbl := ⟨(q_wt1 (i := 215) (by decide +kernel) rfl), (q_wt1 (i := 28) (by decide +kernel) rfl), (q_wt1 (i := 29) (by decide +kernel) rfl)⟩
theorem ob_X8_3 : Cond.methodLink RX8 3 objectInit ∈ q_tbl ∧ Cond.instanceMethod objectInit ∈ q_tbl ∧ Cond.code objectInit ⟨#[0xb1]⟩ 1 none ∈ q_tbl := ⟨(q_wt1 (i := 71) (by decide +kernel) rfl), (q_wt1 (i := 28) (by decide +kernel) rfl), (q_wt1 (i := 29) (by decide +kernel) rfl)⟩
theorem ob_X9_3 : Cond.methodLink RX9 3 objectInit ∈ q_tbl ∧ Cond.instanceMethod objectInit ∈ q_tbl ∧ Cond.code objectInit ⟨#[0xb1]⟩ 1 none ∈ q_tbl := ⟨(q_wt1 (i := 35) (by decide +kernel) rfl), (q_wt1 (i := 28) (by decide +kernel) rfl), (q_wt1 (i := 29) (by decide +kernel) rfl)⟩
theorem ns_X11_24 : Cond.methodLinkNest RX11 24 yX5_init RX11 ∈ q_nest := List.mem_of_getElem? (i := 6) rfl
theorem ns_X9_20 : Cond.methodLinkNest RX9 20 yX8_init RX11 ∈ q_nest := List.mem_of_getElem? (i := 0) rfl
theorem ns_X9_34 : Cond.methodLinkNest RX9 34 yX1_init RX11 ∈ q_nest := List.mem_of_getElem? (i := 1) rfl
theorem ns_X9_41 : Cond.methodLinkNest RX9 41 yX7_init RX11 ∈ q_nest := List.mem_of_getElem? (i := 2) rfl
theorem ns_X9_48 : Cond.methodLinkNest RX9 48 yX10_init RX11 ∈ q_nest := List.mem_of_getElem? (i := 3) rfl
theorem ns_X9_55 : Cond.methodLinkNest RX9 55 yX6_init RX11 ∈ q_nest := List.mem_of_getElem? (i := 4) rfl
theorem ns_X9_62 : Cond.methodLinkNest RX9 62 yX4_init RX11 ∈ q_nest := List.mem_of_getElem? (i := 5) rfl
theorem mi_X0_init : Cond.instanceMethod yX0_init ∈ q_tbl ∧ yX0_init.name = "<init>" := ⟨(q_wt2 (i := 180) (by decide +kernel) rfl), rfl⟩
theorem mi_X10_init : Cond.instanceMethod yX10_init ∈ q_tbl ∧ yX10_init.name = "<init>" := ⟨(q_wt2 (i := 2) (by decide +kernel) rfl), rfl⟩
theorem mi_X11_init : Cond.instanceMethod yX11_init ∈ q_tbl ∧ yX11_init.name = "<init>" := ⟨(q_wt1 (i := 25) (by decide +kernel) rfl), rfl⟩
theorem mi_X12_init : Cond.instanceMethod yX12_init ∈ q_tbl ∧ yX12_init.name = "<init>" := ⟨(q_wt6 (i := 186) (by decide +kernel) rfl), rfl⟩
theorem mi_X1_init : Cond.instanceMethod yX1_init ∈ q_tbl ∧ yX1_init.name = "<init>" := ⟨(q_wt1 (i := 168) (by decide +kernel) rfl), rfl⟩
theorem mi_X2_init : Cond.instanceMethod yX2_init ∈ q_tbl ∧ yX2_init.name = "<init>" := ⟨(q_wt1 (i := 98) (by decide +kernel) rfl), rfl⟩
theorem mi_X3_init : Cond.instanceMethod yX3_init ∈ q_tbl ∧ yX3_init.name = "<init>" := ⟨(q_wt1 (i := 39) (by decide +kernel) rfl), rfl⟩
theorem mi_X4_init : Cond.instanceMethod yX4_init ∈ q_tbl ∧ yX4_init.name = "<init>" := ⟨(q_wt2 (i := 49) (by decide +kernel) rfl), rfl⟩
theorem mi_X5_init : Cond.instanceMethod yX5_init ∈ q_tbl ∧ yX5_init.name = "<init>" := ⟨(q_wt2 (i := 143) (by decide +kernel) rfl), rfl⟩
theorem mi_X6_init : Cond.instanceMethod yX6_init ∈ q_tbl ∧ yX6_init.name = "<init>" := ⟨(q_wt2 (i := 13) (by decide +kernel) rfl), rfl⟩
theorem mi_X7_init : Cond.instanceMethod yX7_init ∈ q_tbl ∧ yX7_init.name = "<init>" := ⟨(q_wt1 (i := 213) (by decide +kernel) rfl), rfl⟩
theorem mi_X8_init : Cond.instanceMethod yX8_init ∈ q_tbl ∧ yX8_init.name = "<init>" := ⟨(q_wt1 (i := 69) (by decide +kernel) rfl), rfl⟩
theorem mi_X9_init : Cond.instanceMethod yX9_init ∈ q_tbl ∧ yX9_init.name = "<init>" := ⟨(q_wt1 (i := 33) (by decide +kernel) rfl), rfl⟩
theorem q_aA : Cond.classLink RX7 21 "[I" ∈ q_tbl := (q_wt1 (i := 216) (by decide +kernel) rfl)
theorem dX3_init_0 : q_at cX3_init 0 (.aload_n 0) 1 1 := ⟨by decide +kernel, rfl⟩
theorem dX3_init_1 : q_at cX3_init 1 (.invokespecial 1) 3 4 := ⟨by decide +kernel, rfl⟩
theorem dX3_init_4 : q_at cX3_init 4 (.aload_n 0) 1 5 := ⟨by decide +kernel, rfl⟩
theorem dX3_init_5 : q_at cX3_init 5 (.bipush 8) 2 7 := ⟨by decide +kernel, rfl⟩
theorem dX3_init_7 : q_at cX3_init 7 (.newarray .int) 2 9 := ⟨by decide +kernel, rfl⟩
theorem dX3_init_9 : q_at cX3_init 9 (.putfield 9) 3 12 := ⟨by decide +kernel, rfl⟩
theorem dX3_init_12 : q_at cX3_init 12 (.aload_n 0) 1 13 := ⟨by decide +kernel, rfl⟩
theorem dX3_init_13 : q_at cX3_init 13 (.bipush 8) 2 15 := ⟨by decide +kernel, rfl⟩
theorem dX3_init_15 : q_at cX3_init 15 (.newarray .int) 2 17 := ⟨by decide +kernel, rfl⟩
theorem dX3_init_17 : q_at cX3_init 17 (.putfield 13) 3 20 := ⟨by decide +kernel, rfl⟩
theorem dX3_init_20 : q_at cX3_init 20 (.aload_n 0) 1 21 := ⟨by decide +kernel, rfl⟩
theorem dX3_init_21 : q_at cX3_init 21 (.bipush 8) 2 23 := ⟨by decide +kernel, rfl⟩
theorem dX3_init_23 : q_at cX3_init 23 (.newarray .int) 2 25 := ⟨by decide +kernel, rfl⟩
theorem dX3_init_25 : q_at cX3_init 25 (.putfield 16) 3 28 := ⟨by decide +kernel, rfl⟩
theorem dX3_init_28 : q_at cX3_init 28 (.aload_n 0) 1 29 := ⟨by decide +kernel, rfl⟩
theorem dX3_init_29 : q_at cX3_init 29 (.bipush 8) 2 31 := ⟨by decide +kernel, rfl⟩
theorem dX3_init_31 : q_at cX3_init 31 (.newarray .int) 2 33 := ⟨by decide +kernel, rfl⟩
theorem dX3_init_33 : q_at cX3_init 33 (.putfield 19) 3 36 := ⟨by decide +kernel, rfl⟩
theorem dX3_init_36 : q_at cX3_init 36 (.aload_n 0) 1 37 := ⟨by decide +kernel, rfl⟩
theorem dX3_init_37 : q_at cX3_init 37 (.bipush 8) 2 39 := ⟨by decide +kernel, rfl⟩
theorem dX3_init_39 : q_at cX3_init 39 (.newarray .int) 2 41 := ⟨by decide +kernel, rfl⟩
theorem dX3_init_41 : q_at cX3_init 41 (.putfield 22) 3 44 := ⟨by decide +kernel, rfl⟩
theorem dX3_init_44 : q_at cX3_init 44 (.iconst 0) 1 45 := ⟨by decide +kernel, rfl⟩
theorem dX3_init_45 : q_at cX3_init 45 (.istore_n 1) 1 46 := ⟨by decide +kernel, rfl⟩
theorem dX3_init_46 : q_at cX3_init 46 (.iload_n 1) 1 47 := ⟨by decide +kernel, rfl⟩
theorem dX3_init_47 : q_at cX3_init 47 (.bipush 8) 2 49 := ⟨by decide +kernel, rfl⟩
theorem dX3_init_49 : q_at cX3_init 49 (.if_icmp .ge 25) 3 52 := ⟨by decide +kernel, rfl⟩
theorem dX3_init_52 : q_at cX3_init 52 (.aload_n 0) 1 53 := ⟨by decide +kernel, rfl⟩
theorem dX3_init_53 : q_at cX3_init 53 (.getfield 9) 3 56 := ⟨by decide +kernel, rfl⟩
theorem dX3_init_56 : q_at cX3_init 56 (.iload_n 1) 1 57 := ⟨by decide +kernel, rfl⟩
theorem dX3_init_57 : q_at cX3_init 57 (.bipush 20) 2 59 := ⟨by decide +kernel, rfl⟩
theorem dX3_init_59 : q_at cX3_init 59 (.iastore) 1 60 := ⟨by decide +kernel, rfl⟩
theorem dX3_init_60 : q_at cX3_init 60 (.aload_n 0) 1 61 := ⟨by decide +kernel, rfl⟩
theorem dX3_init_61 : q_at cX3_init 61 (.getfield 13) 3 64 := ⟨by decide +kernel, rfl⟩
theorem dX3_init_64 : q_at cX3_init 64 (.iload_n 1) 1 65 := ⟨by decide +kernel, rfl⟩
theorem dX3_init_65 : q_at cX3_init 65 (.bipush 100) 2 67 := ⟨by decide +kernel, rfl⟩
theorem dX3_init_67 : q_at cX3_init 67 (.iastore) 1 68 := ⟨by decide +kernel, rfl⟩
theorem dX3_init_68 : q_at cX3_init 68 (.iinc 1 1) 3 71 := ⟨by decide +kernel, rfl⟩
theorem dX3_init_71 : q_at cX3_init 71 (.goto (-25)) 3 74 := ⟨by decide +kernel, rfl⟩
theorem dX3_init_74 : q_at cX3_init 74 (.return_) 1 75 := ⟨by decide +kernel, rfl⟩
def b_X3_init_46 (this : Nat) (k46 : Int32 → qX → qI → Option (qI × qX)) (x1 : Int32) (X : qX) (I : qI) : Option (qI × qX) :=
  if (nI 8) ≤ x1 then
    some (I, X)
  else
    q_b1 (X.1 this 0) fun a2 =>
    q_b2 (q_arr X (some a2)) fun a4 n5 =>
    q_b1 (q_wr I a4 n5 x1 (nI 20)) fun I9 =>
    q_b1 (X.1 this 1) fun a11 =>
    q_b2 (q_arr X (some a11)) fun a13 n14 =>
    q_b1 (q_wr I9 a13 n14 x1 (nI 100)) fun I18 =>
    k46 (x1 + (nI 1)) X I18
set_option maxRecDepth 100000 in
set_option maxHeartbeats 4000000 in
theorem p_X3_init_46 {l : Launch} {Γ : qC} {g : qG} {z : qI × qX} {this : Nat} (hΓ : q_gm Γ) (hg : q_Ok l Γ RX3 cX3_init 2 (q_rm 2 5 40) "<init>" none g) (hr : q_Rt cX3_init none (q_rm 2 5 40) (none, z.1, z.2) g) {k46 : Int32 → qX → qI → Option (qI × qX)} (hk46 : ∀ (x1 : Int32) (X : qX) (I : qI) (k_this : q_kd X this = some (5, 5)), k46 x1 X I = some z → g 5 40 46 [(0, .ref this), (1, .int x1)] [] I X) (x1 : Int32) (X : qX) (I : qI) (k_this : q_kd X this = some (5, 5)) (h : b_X3_init_46 this k46 x1 X I = some z) : g 5 40 46 [(0, .ref this), (1, .int x1)] [] I X := by
  unfold b_X3_init_46 at h
  refine r_iload_n hg 1 dX3_init_46 rfl rfl ?_
  refine r_bipush hg dX3_init_47 cb_8 ?_
  refine r_icmp_ge hg 74 dX3_init_49 (by decide) (fun c1 => ?_) (fun c1 => ?_)
  · rw [if_pos c1] at h
    exact r_return hr dX3_init_74 ⟨Nat.le_of_ble_eq_true rfl, Nat.le_of_ble_eq_true rfl⟩ rfl (by cases h; rfl)
  · rw [if_neg c1] at h
    refine r_aload_n hg 0 dX3_init_52 rfl rfl ?_
    replace h := q_b1_some h; obtain ⟨a2, e3, h⟩ := h
    refine r_getR hg dX3_init_53 fl_X3_9 k_this rfl e3 ?_
    refine r_iload_n hg 1 dX3_init_56 rfl rfl ?_
    refine r_bipush hg dX3_init_57 cb_20 ?_
    replace h := q_b2_some h
    obtain ⟨a4, n5, e6, h⟩ := h
    obtain ⟨e8, k7⟩ := q_arr_some e6
    obtain rfl := Option.some.inj e8
    replace h := q_b1_some h; obtain ⟨I9, e10, h⟩ := h
    refine r_iast hg dX3_init_59 k7 e10 ?_
    refine r_aload_n hg 0 dX3_init_60 rfl rfl ?_
    replace h := q_b1_some h; obtain ⟨a11, e12, h⟩ := h
    refine r_getR hg dX3_init_61 fl_X3_13 k_this rfl e12 ?_
    refine r_iload_n hg 1 dX3_init_64 rfl rfl ?_
    refine r_bipush hg dX3_init_65 cb_100 ?_
    replace h := q_b2_some h
    obtain ⟨a13, n14, e15, h⟩ := h
    obtain ⟨e17, k16⟩ := q_arr_some e15
    obtain rfl := Option.some.inj e17
    replace h := q_b1_some h; obtain ⟨I18, e19, h⟩ := h
    refine r_iast hg dX3_init_67 k16 e19 ?_
    refine r_iinc hg 1 (v := (x1 + (nI 1))) (L' := [(1, .int (x1 + (nI 1))), (0, .ref this)]) dX3_init_68 rfl (by rw [ci_1]) (by decide) rfl ?_
    refine r_goto hg 46 dX3_init_71 (by decide) ?_
    refine r_sub hg [1, 0] rfl ?_
    exact hk46 _ _ _ k_this h
theorem pl_X3_init_46 {l : Launch} {Γ : qC} {g : qG} {z : qI × qX} {this : Nat} (hΓ : q_gm Γ) (hg : q_Ok l Γ RX3 cX3_init 2 (q_rm 2 5 40) "<init>" none g) (hr : q_Rt cX3_init none (q_rm 2 5 40) (none, z.1, z.2) g) : ∀ (n : Nat) (x1 : Int32) (X : qX) (I : qI) (k_this : q_kd X this = some (5, 5)), q_fix (fun _ _ _ => none) (b_X3_init_46 this) n x1 X I = some z → g 5 40 46 [(0, .ref this), (1, .int x1)] [] I X := by
  intro n
  induction n with
  | zero =>
    intro x1 X I k_this h
    cases (show (none : Option (qI × qX)) = some z from h)
  | succ n ih =>
    intro x1 X I k_this h
    exact p_X3_init_46 hΓ hg hr ih _ _ _ k_this h
def f_X3_init (this : Nat) (X : qX) (I : qI) : Option (qI × qX) :=
  q_b3 (q_nA 8 I X) fun a1 I2 X3 =>
  q_b1 (q_pR X3 this 0 a1) fun X6 =>
  q_b3 (q_nA 8 I2 X6) fun a9 I10 X11 =>
  q_b1 (q_pR X11 this 1 a9) fun X14 =>
  q_b3 (q_nA 8 I10 X14) fun a17 I18 X19 =>
  q_b1 (q_pR X19 this 2 a17) fun X22 =>
  q_b3 (q_nA 8 I18 X22) fun a25 I26 X27 =>
  q_b1 (q_pR X27 this 3 a25) fun X30 =>
  q_b3 (q_nA 8 I26 X30) fun a33 I34 X35 =>
  q_b1 (q_pR X35 this 4 a33) fun X38 =>
  q_fix (fun _ _ _ => none) (b_X3_init_46 this) q_fu (nI 0) X38 I34
set_option maxRecDepth 100000 in
set_option maxHeartbeats 4000000 in
theorem s_X3_init {l : Launch} {Γ : qC} (hΓ : q_gm Γ) {X : qX} {this : Nat} (k_this : q_kd X this = some (5, 5)) {I : qI} {z : qI × qX} (h : f_X3_init this X I = some z) : q_Sem l Γ (q_rm 2 5 40) yX3_init cX3_init 2 none [.ref this] I X (none, z.1, z.2) := by
  refine q_met (by decide) (Nat.le_of_ble_eq_true rfl) (fun g hg hr => ?_)
  unfold f_X3_init at h
  show g 0 0 0 [(0, .ref this)] [] I X
  refine r_aload_n hg 0 dX3_init_0 rfl rfl ?_
  refine r_objInit hg dX3_init_1 ob_X3_1 ⟨Nat.le_of_ble_eq_true rfl, Nat.le_of_ble_eq_true rfl⟩ ?_
  refine r_aload_n hg 0 dX3_init_4 rfl rfl ?_
  refine r_bipush hg dX3_init_5 cb_8 ?_
  replace h := q_b3_some h; obtain ⟨a1, I2, X3, e4, h⟩ := h
  refine r_nAD hg (N := 8) dX3_init_7 q_aI (by decide +kernel) (by decide +kernel) (Nat.le_of_ble_eq_true rfl) (Nat.le_of_ble_eq_true rfl) (Nat.le_of_ble_eq_true rfl) e4 ?_
  have q5 := q_nA_kd e4
  replace h := q_b1_some h; obtain ⟨X6, e7, h⟩ := h
  refine r_pRD hg dX3_init_9 fl_X3_9 ⟨_, rfl⟩ rfl (q5.2 _ _ k_this) rfl e7 ?_
  have q8 := q_pR_kd e7
  refine r_aload_n hg 0 dX3_init_12 rfl rfl ?_
  refine r_bipush hg dX3_init_13 cb_8 ?_
  replace h := q_b3_some h; obtain ⟨a9, I10, X11, e12, h⟩ := h
  refine r_nAD hg (N := 8) dX3_init_15 q_aI (by decide +kernel) (by decide +kernel) (Nat.le_of_ble_eq_true rfl) (Nat.le_of_ble_eq_true rfl) (Nat.le_of_ble_eq_true rfl) e12 ?_
  have q13 := q_nA_kd e12
  replace h := q_b1_some h; obtain ⟨X14, e15, h⟩ := h
  refine r_pRD hg dX3_init_17 fl_X3_13 ⟨_, rfl⟩ rfl (q13.2 _ _ (q8 _ _ (q5.2 _ _ k_this))) rfl e15 ?_
  have q16 := q_pR_kd e15
  refine r_aload_n hg 0 dX3_init_20 rfl rfl ?_
  refine r_bipush hg dX3_init_21 cb_8 ?_
  replace h := q_b3_some h; obtain ⟨a17, I18, X19, e20, h⟩ := h
  refine r_nAD hg (N := 8) dX3_init_23 q_aI (by decide +kernel) (by decide +kernel) (Nat.le_of_ble_eq_true rfl) (Nat.le_of_ble_eq_true rfl) (Nat.le_of_ble_eq_true rfl) e20 ?_
  have q21 := q_nA_kd e20
  replace h := q_b1_some h; obtain ⟨X22, e23, h⟩ := h
  refine r_pRD hg dX3_init_25 fl_X3_16 ⟨_, rfl⟩ rfl (q21.2 _ _ (q16 _ _ (q13.2 _ _ (q8 _ _ (q5.2 _ _ k_this))))) rfl e23 ?_
  have q24 := q_pR_kd e23
  refine r_aload_n hg 0 dX3_init_28 rfl rfl ?_
  refine r_bipush hg dX3_init_29 cb_8 ?_
  replace h := q_b3_some h; obtain ⟨a25, I26, X27, e28, h⟩ := h
  refine r_nAD hg (N := 8) dX3_init_31 q_aI (by decide +kernel) (by decide +kernel) (Nat.le_of_ble_eq_true rfl) (Nat.le_of_ble_eq_true rfl) (Nat.le_of_ble_eq_true rfl) e28 ?_
  have q29 := q_nA_kd e28
  replace h := q_b1_some h; obtain ⟨X30, e31, h⟩ := h
  refine r_pRD hg dX3_init_33 fl_X3_19 ⟨_, rfl⟩ rfl (q29.2 _ _ (q24 _ _ (q21.2 _ _ (q16 _ _ (q13.2 _ _ (q8 _ _ (q5.2 _ _ k_this))))))) rfl e31 ?_
  have q32 := q_pR_kd e31
  refine r_aload_n hg 0 dX3_init_36 rfl rfl ?_
  refine r_bipush hg dX3_init_37 cb_8 ?_
  replace h := q_b3_some h; obtain ⟨a33, I34, X35, e36, h⟩ := h
  refine r_nAD hg (N := 8) dX3_init_39 q_aI (by decide +kernel) (by decide +kernel) (Nat.le_of_ble_eq_true rfl) (Nat.le_of_ble_eq_true rfl) (Nat.le_of_ble_eq_true rfl) e36 ?_
  have q37 := q_nA_kd e36
  replace h := q_b1_some h; obtain ⟨X38, e39, h⟩ := h
  refine r_pRD hg dX3_init_41 fl_X3_22 ⟨_, rfl⟩ rfl (q37.2 _ _ (q32 _ _ (q29.2 _ _ (q24 _ _ (q21.2 _ _ (q16 _ _ (q13.2 _ _ (q8 _ _ (q5.2 _ _ k_this))))))))) rfl e39 ?_
  have q40 := q_pR_kd e39
  refine r_iconst hg dX3_init_44 ci_0 ?_
  refine r_istore_n hg (L' := [(1, .int (nI 0)), (0, .ref this)]) dX3_init_45 rfl (by decide) rfl ?_
  refine r_sub hg [1, 0] rfl ?_
  exact pl_X3_init_46 hΓ hg hr _ _ _ _ (q40 _ _ (q37.2 _ _ (q32 _ _ (q29.2 _ _ (q24 _ _ (q21.2 _ _ (q16 _ _ (q13.2 _ _ (q8 _ _ (q5.2 _ _ k_this)))))))))) h
theorem xl_X3_init_46 {this : Nat} {z : qI × qX} : ∀ (n : Nat) (x1 : Int32) (X : qX) (I : qI), q_fix (fun _ _ _ => none) (b_X3_init_46 this) n x1 X I = some z → z.2 = X := by
  intro n
  induction n with
  | zero => intro x1 X I h; cases (show (none : Option (qI × qX)) = some z from h)
  | succ n ih =>
    intro x1 X I h
    have h : b_X3_init_46 this (q_fix (fun _ _ _ => none) (b_X3_init_46 this) n) x1 X I = some z := h
    unfold b_X3_init_46 at h

    split at h
    · cases h; rfl
    · skip
      replace h := q_b1_some h; obtain ⟨_, -, h⟩ := h
      replace h := q_b2_some h; obtain ⟨_, _, -, h⟩ := h
      replace h := q_b1_some h; obtain ⟨_, -, h⟩ := h
      replace h := q_b1_some h; obtain ⟨_, -, h⟩ := h
      replace h := q_b2_some h; obtain ⟨_, _, -, h⟩ := h
      replace h := q_b1_some h; obtain ⟨_, -, h⟩ := h
      exact ih _ _ _ h
theorem xi_X3_init {X : qX} {this : Nat} {I : qI} {z : qI × qX} (h : f_X3_init this X I = some z) : ∀ (k : Nat) (d : Nat × Nat), q_kd X k = some d → q_kd z.2 k = some d := by
  intro k d hk
  unfold f_X3_init at h
  replace h := q_b3_some h; obtain ⟨_, _, _, e1, h⟩ := h
  replace h := q_b1_some h; obtain ⟨_, e2, h⟩ := h
  replace h := q_b3_some h; obtain ⟨_, _, _, e3, h⟩ := h
  replace h := q_b1_some h; obtain ⟨_, e4, h⟩ := h
  replace h := q_b3_some h; obtain ⟨_, _, _, e5, h⟩ := h
  replace h := q_b1_some h; obtain ⟨_, e6, h⟩ := h
  replace h := q_b3_some h; obtain ⟨_, _, _, e7, h⟩ := h
  replace h := q_b1_some h; obtain ⟨_, e8, h⟩ := h
  replace h := q_b3_some h; obtain ⟨_, _, _, e9, h⟩ := h
  replace h := q_b1_some h; obtain ⟨_, e10, h⟩ := h
  have hz := xl_X3_init_46 _ _ _ _ h
  rw [hz]
  exact (q_pR_kd e10 _ _ ((q_nA_kd e9).2 _ _ (q_pR_kd e8 _ _ ((q_nA_kd e7).2 _ _ (q_pR_kd e6 _ _ ((q_nA_kd e5).2 _ _ (q_pR_kd e4 _ _ ((q_nA_kd e3).2 _ _ (q_pR_kd e2 _ _ ((q_nA_kd e1).2 _ _ hk))))))))))
theorem dX8_init_0 : q_at cX8_init 0 (.aload_n 0) 1 1 := ⟨by decide +kernel, rfl⟩
theorem dX8_init_1 : q_at cX8_init 1 (.invokespecial 3) 3 4 := ⟨by decide +kernel, rfl⟩
theorem dX8_init_4 : q_at cX8_init 4 (.aload_n 0) 1 5 := ⟨by decide +kernel, rfl⟩
theorem dX8_init_5 : q_at cX8_init 5 (.bipush 6) 2 7 := ⟨by decide +kernel, rfl⟩
theorem dX8_init_7 : q_at cX8_init 7 (.newarray .int) 2 9 := ⟨by decide +kernel, rfl⟩
theorem dX8_init_9 : q_at cX8_init 9 (.putfield 11) 3 12 := ⟨by decide +kernel, rfl⟩
theorem dX8_init_12 : q_at cX8_init 12 (.aload_n 0) 1 13 := ⟨by decide +kernel, rfl⟩
theorem dX8_init_13 : q_at cX8_init 13 (.bipush 6) 2 15 := ⟨by decide +kernel, rfl⟩
theorem dX8_init_15 : q_at cX8_init 15 (.newarray .int) 2 17 := ⟨by decide +kernel, rfl⟩
theorem dX8_init_17 : q_at cX8_init 17 (.putfield 15) 3 20 := ⟨by decide +kernel, rfl⟩
theorem dX8_init_20 : q_at cX8_init 20 (.aload_n 0) 1 21 := ⟨by decide +kernel, rfl⟩
theorem dX8_init_21 : q_at cX8_init 21 (.bipush 6) 2 23 := ⟨by decide +kernel, rfl⟩
theorem dX8_init_23 : q_at cX8_init 23 (.newarray .int) 2 25 := ⟨by decide +kernel, rfl⟩
theorem dX8_init_25 : q_at cX8_init 25 (.putfield 18) 3 28 := ⟨by decide +kernel, rfl⟩
theorem dX8_init_28 : q_at cX8_init 28 (.aload_n 0) 1 29 := ⟨by decide +kernel, rfl⟩
theorem dX8_init_29 : q_at cX8_init 29 (.bipush 6) 2 31 := ⟨by decide +kernel, rfl⟩
theorem dX8_init_31 : q_at cX8_init 31 (.newarray .int) 2 33 := ⟨by decide +kernel, rfl⟩
theorem dX8_init_33 : q_at cX8_init 33 (.putfield 21) 3 36 := ⟨by decide +kernel, rfl⟩
theorem dX8_init_36 : q_at cX8_init 36 (.return_) 1 37 := ⟨by decide +kernel, rfl⟩
def f_X8_init (this : Nat) (X : qX) (I : qI) : Option (qI × qX) :=
  q_b3 (q_nA 6 I X) fun a1 I2 X3 =>
  q_b1 (q_pR X3 this 0 a1) fun X6 =>
  q_b3 (q_nA 6 I2 X6) fun a9 I10 X11 =>
  q_b1 (q_pR X11 this 1 a9) fun X14 =>
  q_b3 (q_nA 6 I10 X14) fun a17 I18 X19 =>
  q_b1 (q_pR X19 this 2 a17) fun X22 =>
  q_b3 (q_nA 6 I18 X22) fun a25 I26 X27 =>
  q_b1 (q_pR X27 this 3 a25) fun X30 =>
  some (I26, X30)
set_option maxRecDepth 100000 in
set_option maxHeartbeats 4000000 in
theorem s_X8_init {l : Launch} {Γ : qC} (hΓ : q_gm Γ) {X : qX} {this : Nat} (k_this : q_kd X this = some (10, 5)) {I : qI} {z : qI × qX} (h : f_X8_init this X I = some z) : q_Sem l Γ (q_rm 2 4 24) yX8_init cX8_init 1 none [.ref this] I X (none, z.1, z.2) := by
  refine q_met (by decide) (Nat.le_of_ble_eq_true rfl) (fun g hg hr => ?_)
  unfold f_X8_init at h
  show g 0 0 0 [(0, .ref this)] [] I X
  refine r_aload_n hg 0 dX8_init_0 rfl rfl ?_
  refine r_objInit hg dX8_init_1 ob_X8_3 ⟨Nat.le_of_ble_eq_true rfl, Nat.le_of_ble_eq_true rfl⟩ ?_
  refine r_aload_n hg 0 dX8_init_4 rfl rfl ?_
  refine r_bipush hg dX8_init_5 cb_6 ?_
  replace h := q_b3_some h; obtain ⟨a1, I2, X3, e4, h⟩ := h
  refine r_nAD hg (N := 6) dX8_init_7 q_aI (by decide +kernel) (by decide +kernel) (Nat.le_of_ble_eq_true rfl) (Nat.le_of_ble_eq_true rfl) (Nat.le_of_ble_eq_true rfl) e4 ?_
  have q5 := q_nA_kd e4
  replace h := q_b1_some h; obtain ⟨X6, e7, h⟩ := h
  refine r_pRD hg dX8_init_9 fl_X8_11 ⟨_, rfl⟩ rfl (q5.2 _ _ k_this) rfl e7 ?_
  have q8 := q_pR_kd e7
  refine r_aload_n hg 0 dX8_init_12 rfl rfl ?_
  refine r_bipush hg dX8_init_13 cb_6 ?_
  replace h := q_b3_some h; obtain ⟨a9, I10, X11, e12, h⟩ := h
  refine r_nAD hg (N := 6) dX8_init_15 q_aI (by decide +kernel) (by decide +kernel) (Nat.le_of_ble_eq_true rfl) (Nat.le_of_ble_eq_true rfl) (Nat.le_of_ble_eq_true rfl) e12 ?_
  have q13 := q_nA_kd e12
  replace h := q_b1_some h; obtain ⟨X14, e15, h⟩ := h
  refine r_pRD hg dX8_init_17 fl_X8_15 ⟨_, rfl⟩ rfl (q13.2 _ _ (q8 _ _ (q5.2 _ _ k_this))) rfl e15 ?_
  have q16 := q_pR_kd e15
  refine r_aload_n hg 0 dX8_init_20 rfl rfl ?_
  refine r_bipush hg dX8_init_21 cb_6 ?_
  replace h := q_b3_some h; obtain ⟨a17, I18, X19, e20, h⟩ := h
  refine r_nAD hg (N := 6) dX8_init_23 q_aI (by decide +kernel) (by decide +kernel) (Nat.le_of_ble_eq_true rfl) (Nat.le_of_ble_eq_true rfl) (Nat.le_of_ble_eq_true rfl) e20 ?_
  have q21 := q_nA_kd e20
  replace h := q_b1_some h; obtain ⟨X22, e23, h⟩ := h
  refine r_pRD hg dX8_init_25 fl_X8_18 ⟨_, rfl⟩ rfl (q21.2 _ _ (q16 _ _ (q13.2 _ _ (q8 _ _ (q5.2 _ _ k_this))))) rfl e23 ?_
  have q24 := q_pR_kd e23
  refine r_aload_n hg 0 dX8_init_28 rfl rfl ?_
  refine r_bipush hg dX8_init_29 cb_6 ?_
  replace h := q_b3_some h; obtain ⟨a25, I26, X27, e28, h⟩ := h
  refine r_nAD hg (N := 6) dX8_init_31 q_aI (by decide +kernel) (by decide +kernel) (Nat.le_of_ble_eq_true rfl) (Nat.le_of_ble_eq_true rfl) (Nat.le_of_ble_eq_true rfl) e28 ?_
  have q29 := q_nA_kd e28
  replace h := q_b1_some h; obtain ⟨X30, e31, h⟩ := h
  refine r_pRD hg dX8_init_33 fl_X8_21 ⟨_, rfl⟩ rfl (q29.2 _ _ (q24 _ _ (q21.2 _ _ (q16 _ _ (q13.2 _ _ (q8 _ _ (q5.2 _ _ k_this))))))) rfl e31 ?_
  have q32 := q_pR_kd e31
  exact r_return hr dX8_init_36 ⟨Nat.le_of_ble_eq_true rfl, Nat.le_of_ble_eq_true rfl⟩ rfl (by cases h; rfl)
theorem xi_X8_init {X : qX} {this : Nat} {I : qI} {z : qI × qX} (h : f_X8_init this X I = some z) : ∀ (k : Nat) (d : Nat × Nat), q_kd X k = some d → q_kd z.2 k = some d := by
  intro k d hk
  unfold f_X8_init at h
  replace h := q_b3_some h; obtain ⟨_, _, _, e1, h⟩ := h
  replace h := q_b1_some h; obtain ⟨_, e2, h⟩ := h
  replace h := q_b3_some h; obtain ⟨_, _, _, e3, h⟩ := h
  replace h := q_b1_some h; obtain ⟨_, e4, h⟩ := h
  replace h := q_b3_some h; obtain ⟨_, _, _, e5, h⟩ := h
  replace h := q_b1_some h; obtain ⟨_, e6, h⟩ := h
  replace h := q_b3_some h; obtain ⟨_, _, _, e7, h⟩ := h
  replace h := q_b1_some h; obtain ⟨_, e8, h⟩ := h
  cases h
  exact (q_pR_kd e8 _ _ ((q_nA_kd e7).2 _ _ (q_pR_kd e6 _ _ ((q_nA_kd e5).2 _ _ (q_pR_kd e4 _ _ ((q_nA_kd e3).2 _ _ (q_pR_kd e2 _ _ ((q_nA_kd e1).2 _ _ hk))))))))
theorem dX2_init_0 : q_at cX2_init 0 (.aload_n 0) 1 1 := ⟨by decide +kernel, rfl⟩
theorem dX2_init_1 : q_at cX2_init 1 (.invokespecial 3) 3 4 := ⟨by decide +kernel, rfl⟩
theorem dX2_init_4 : q_at cX2_init 4 (.aload_n 0) 1 5 := ⟨by decide +kernel, rfl⟩
theorem dX2_init_5 : q_at cX2_init 5 (.bipush 12) 2 7 := ⟨by decide +kernel, rfl⟩
theorem dX2_init_7 : q_at cX2_init 7 (.newarray .int) 2 9 := ⟨by decide +kernel, rfl⟩
theorem dX2_init_9 : q_at cX2_init 9 (.putfield 11) 3 12 := ⟨by decide +kernel, rfl⟩
theorem dX2_init_12 : q_at cX2_init 12 (.aload_n 0) 1 13 := ⟨by decide +kernel, rfl⟩
theorem dX2_init_13 : q_at cX2_init 13 (.bipush 12) 2 15 := ⟨by decide +kernel, rfl⟩
theorem dX2_init_15 : q_at cX2_init 15 (.newarray .int) 2 17 := ⟨by decide +kernel, rfl⟩
theorem dX2_init_17 : q_at cX2_init 17 (.putfield 15) 3 20 := ⟨by decide +kernel, rfl⟩
theorem dX2_init_20 : q_at cX2_init 20 (.aload_n 0) 1 21 := ⟨by decide +kernel, rfl⟩
theorem dX2_init_21 : q_at cX2_init 21 (.bipush 12) 2 23 := ⟨by decide +kernel, rfl⟩
theorem dX2_init_23 : q_at cX2_init 23 (.newarray .int) 2 25 := ⟨by decide +kernel, rfl⟩
theorem dX2_init_25 : q_at cX2_init 25 (.putfield 18) 3 28 := ⟨by decide +kernel, rfl⟩
theorem dX2_init_28 : q_at cX2_init 28 (.aload_n 0) 1 29 := ⟨by decide +kernel, rfl⟩
theorem dX2_init_29 : q_at cX2_init 29 (.bipush 12) 2 31 := ⟨by decide +kernel, rfl⟩
theorem dX2_init_31 : q_at cX2_init 31 (.newarray .int) 2 33 := ⟨by decide +kernel, rfl⟩
theorem dX2_init_33 : q_at cX2_init 33 (.putfield 21) 3 36 := ⟨by decide +kernel, rfl⟩
theorem dX2_init_36 : q_at cX2_init 36 (.aload_n 0) 1 37 := ⟨by decide +kernel, rfl⟩
theorem dX2_init_37 : q_at cX2_init 37 (.bipush 12) 2 39 := ⟨by decide +kernel, rfl⟩
theorem dX2_init_39 : q_at cX2_init 39 (.newarray .int) 2 41 := ⟨by decide +kernel, rfl⟩
theorem dX2_init_41 : q_at cX2_init 41 (.putfield 24) 3 44 := ⟨by decide +kernel, rfl⟩
theorem dX2_init_44 : q_at cX2_init 44 (.aload_n 0) 1 45 := ⟨by decide +kernel, rfl⟩
theorem dX2_init_45 : q_at cX2_init 45 (.bipush 12) 2 47 := ⟨by decide +kernel, rfl⟩
theorem dX2_init_47 : q_at cX2_init 47 (.newarray .int) 2 49 := ⟨by decide +kernel, rfl⟩
theorem dX2_init_49 : q_at cX2_init 49 (.putfield 27) 3 52 := ⟨by decide +kernel, rfl⟩
theorem dX2_init_52 : q_at cX2_init 52 (.aload_n 0) 1 53 := ⟨by decide +kernel, rfl⟩
theorem dX2_init_53 : q_at cX2_init 53 (.bipush 12) 2 55 := ⟨by decide +kernel, rfl⟩
theorem dX2_init_55 : q_at cX2_init 55 (.newarray .int) 2 57 := ⟨by decide +kernel, rfl⟩
theorem dX2_init_57 : q_at cX2_init 57 (.putfield 30) 3 60 := ⟨by decide +kernel, rfl⟩
theorem dX2_init_60 : q_at cX2_init 60 (.aload_n 0) 1 61 := ⟨by decide +kernel, rfl⟩
theorem dX2_init_61 : q_at cX2_init 61 (.bipush 12) 2 63 := ⟨by decide +kernel, rfl⟩
theorem dX2_init_63 : q_at cX2_init 63 (.newarray .int) 2 65 := ⟨by decide +kernel, rfl⟩
theorem dX2_init_65 : q_at cX2_init 65 (.putfield 33) 3 68 := ⟨by decide +kernel, rfl⟩
theorem dX2_init_68 : q_at cX2_init 68 (.aload_n 0) 1 69 := ⟨by decide +kernel, rfl⟩
theorem dX2_init_69 : q_at cX2_init 69 (.bipush 12) 2 71 := ⟨by decide +kernel, rfl⟩
theorem dX2_init_71 : q_at cX2_init 71 (.newarray .int) 2 73 := ⟨by decide +kernel, rfl⟩
theorem dX2_init_73 : q_at cX2_init 73 (.putfield 36) 3 76 := ⟨by decide +kernel, rfl⟩
theorem dX2_init_76 : q_at cX2_init 76 (.aload_n 0) 1 77 := ⟨by decide +kernel, rfl⟩
theorem dX2_init_77 : q_at cX2_init 77 (.bipush 12) 2 79 := ⟨by decide +kernel, rfl⟩
theorem dX2_init_79 : q_at cX2_init 79 (.newarray .int) 2 81 := ⟨by decide +kernel, rfl⟩
theorem dX2_init_81 : q_at cX2_init 81 (.putfield 39) 3 84 := ⟨by decide +kernel, rfl⟩
theorem dX2_init_84 : q_at cX2_init 84 (.aload_n 0) 1 85 := ⟨by decide +kernel, rfl⟩
theorem dX2_init_85 : q_at cX2_init 85 (.bipush 12) 2 87 := ⟨by decide +kernel, rfl⟩
theorem dX2_init_87 : q_at cX2_init 87 (.newarray .int) 2 89 := ⟨by decide +kernel, rfl⟩
theorem dX2_init_89 : q_at cX2_init 89 (.putfield 42) 3 92 := ⟨by decide +kernel, rfl⟩
theorem dX2_init_92 : q_at cX2_init 92 (.aload_n 0) 1 93 := ⟨by decide +kernel, rfl⟩
theorem dX2_init_93 : q_at cX2_init 93 (.bipush 12) 2 95 := ⟨by decide +kernel, rfl⟩
theorem dX2_init_95 : q_at cX2_init 95 (.newarray .int) 2 97 := ⟨by decide +kernel, rfl⟩
theorem dX2_init_97 : q_at cX2_init 97 (.putfield 45) 3 100 := ⟨by decide +kernel, rfl⟩
theorem dX2_init_100 : q_at cX2_init 100 (.aload_n 0) 1 101 := ⟨by decide +kernel, rfl⟩
theorem dX2_init_101 : q_at cX2_init 101 (.bipush 72) 2 103 := ⟨by decide +kernel, rfl⟩
theorem dX2_init_103 : q_at cX2_init 103 (.newarray .int) 2 105 := ⟨by decide +kernel, rfl⟩
theorem dX2_init_105 : q_at cX2_init 105 (.putfield 50) 3 108 := ⟨by decide +kernel, rfl⟩
theorem dX2_init_108 : q_at cX2_init 108 (.aload_n 0) 1 109 := ⟨by decide +kernel, rfl⟩
theorem dX2_init_109 : q_at cX2_init 109 (.bipush 72) 2 111 := ⟨by decide +kernel, rfl⟩
theorem dX2_init_111 : q_at cX2_init 111 (.newarray .int) 2 113 := ⟨by decide +kernel, rfl⟩
theorem dX2_init_113 : q_at cX2_init 113 (.putfield 53) 3 116 := ⟨by decide +kernel, rfl⟩
theorem dX2_init_116 : q_at cX2_init 116 (.iconst 0) 1 117 := ⟨by decide +kernel, rfl⟩
theorem dX2_init_117 : q_at cX2_init 117 (.istore_n 1) 1 118 := ⟨by decide +kernel, rfl⟩
theorem dX2_init_118 : q_at cX2_init 118 (.iload_n 1) 1 119 := ⟨by decide +kernel, rfl⟩
theorem dX2_init_119 : q_at cX2_init 119 (.aload_n 0) 1 120 := ⟨by decide +kernel, rfl⟩
theorem dX2_init_120 : q_at cX2_init 120 (.getfield 53) 3 123 := ⟨by decide +kernel, rfl⟩
theorem dX2_init_123 : q_at cX2_init 123 (.arraylength) 1 124 := ⟨by decide +kernel, rfl⟩
theorem dX2_init_124 : q_at cX2_init 124 (.if_icmp .ge 16) 3 127 := ⟨by decide +kernel, rfl⟩
theorem dX2_init_127 : q_at cX2_init 127 (.aload_n 0) 1 128 := ⟨by decide +kernel, rfl⟩
theorem dX2_init_128 : q_at cX2_init 128 (.getfield 53) 3 131 := ⟨by decide +kernel, rfl⟩
theorem dX2_init_131 : q_at cX2_init 131 (.iload_n 1) 1 132 := ⟨by decide +kernel, rfl⟩
theorem dX2_init_132 : q_at cX2_init 132 (.iconst (-1)) 1 133 := ⟨by decide +kernel, rfl⟩
theorem dX2_init_133 : q_at cX2_init 133 (.iastore) 1 134 := ⟨by decide +kernel, rfl⟩
theorem dX2_init_134 : q_at cX2_init 134 (.iinc 1 1) 3 137 := ⟨by decide +kernel, rfl⟩
theorem dX2_init_137 : q_at cX2_init 137 (.goto (-19)) 3 140 := ⟨by decide +kernel, rfl⟩
theorem dX2_init_140 : q_at cX2_init 140 (.return_) 1 141 := ⟨by decide +kernel, rfl⟩
def b_X2_init_118 (this : Nat) (k118 : Int32 → qX → qI → Option (qI × qX)) (x1 : Int32) (X : qX) (I : qI) : Option (qI × qX) :=
  q_b1 (X.1 this 13) fun a1 =>
  q_b2 (q_arr X (some a1)) fun a3 n4 =>
  if (nI n4) ≤ x1 then
    some (I, X)
  else
    q_b1 (X.1 this 13) fun a9 =>
    q_b2 (q_arr X (some a9)) fun a11 n12 =>
    q_b1 (q_wr I a11 n12 x1 (-1)) fun I16 =>
    k118 (x1 + (nI 1)) X I16
set_option maxRecDepth 100000 in
set_option maxHeartbeats 4000000 in
theorem p_X2_init_118 {l : Launch} {Γ : qC} {g : qG} {z : qI × qX} {this : Nat} (hΓ : q_gm Γ) (hg : q_Ok l Γ RX2 cX2_init 2 (q_rm 2 14 288) "<init>" none g) (hr : q_Rt cX2_init none (q_rm 2 14 288) (none, z.1, z.2) g) {k118 : Int32 → qX → qI → Option (qI × qX)} (hk118 : ∀ (x1 : Int32) (X : qX) (I : qI) (k_this : q_kd X this = some (4, 15)), k118 x1 X I = some z → g 14 288 118 [(0, .ref this), (1, .int x1)] [] I X) (x1 : Int32) (X : qX) (I : qI) (k_this : q_kd X this = some (4, 15)) (h : b_X2_init_118 this k118 x1 X I = some z) : g 14 288 118 [(0, .ref this), (1, .int x1)] [] I X := by
  unfold b_X2_init_118 at h
  refine r_iload_n hg 1 dX2_init_118 rfl rfl ?_
  refine r_aload_n hg 0 dX2_init_119 rfl rfl ?_
  replace h := q_b1_some h; obtain ⟨a1, e2, h⟩ := h
  refine r_getR hg dX2_init_120 fl_X2_53 k_this rfl e2 ?_
  replace h := q_b2_some h
  obtain ⟨a3, n4, e5, h⟩ := h
  obtain ⟨e7, k6⟩ := q_arr_some e5
  obtain rfl := Option.some.inj e7
  refine r_alen hg dX2_init_123 k6 ?_
  refine r_icmp_ge hg 140 dX2_init_124 (by decide) (fun c8 => ?_) (fun c8 => ?_)
  · rw [if_pos c8] at h
    exact r_return hr dX2_init_140 ⟨Nat.le_of_ble_eq_true rfl, Nat.le_of_ble_eq_true rfl⟩ rfl (by cases h; rfl)
  · rw [if_neg c8] at h
    refine r_aload_n hg 0 dX2_init_127 rfl rfl ?_
    replace h := q_b1_some h; obtain ⟨a9, e10, h⟩ := h
    refine r_getR hg dX2_init_128 fl_X2_53 k_this rfl e10 ?_
    refine r_iload_n hg 1 dX2_init_131 rfl rfl ?_
    refine r_iconst hg dX2_init_132 ci_m1 ?_
    replace h := q_b2_some h
    obtain ⟨a11, n12, e13, h⟩ := h
    obtain ⟨e15, k14⟩ := q_arr_some e13
    obtain rfl := Option.some.inj e15
    replace h := q_b1_some h; obtain ⟨I16, e17, h⟩ := h
    refine r_iast hg dX2_init_133 k14 e17 ?_
    refine r_iinc hg 1 (v := (x1 + (nI 1))) (L' := [(1, .int (x1 + (nI 1))), (0, .ref this)]) dX2_init_134 rfl (by rw [ci_1]) (by decide) rfl ?_
    refine r_goto hg 118 dX2_init_137 (by decide) ?_
    refine r_sub hg [1, 0] rfl ?_
    exact hk118 _ _ _ k_this h
theorem pl_X2_init_118 {l : Launch} {Γ : qC} {g : qG} {z : qI × qX} {this : Nat} (hΓ : q_gm Γ) (hg : q_Ok l Γ RX2 cX2_init 2 (q_rm 2 14 288) "<init>" none g) (hr : q_Rt cX2_init none (q_rm 2 14 288) (none, z.1, z.2) g) : ∀ (n : Nat) (x1 : Int32) (X : qX) (I : qI) (k_this : q_kd X this = some (4, 15)), q_fix (fun _ _ _ => none) (b_X2_init_118 this) n x1 X I = some z → g 14 288 118 [(0, .ref this), (1, .int x1)] [] I X := by
  intro n
  induction n with
  | zero =>
    intro x1 X I k_this h
    cases (show (none : Option (qI × qX)) = some z from h)
  | succ n ih =>
    intro x1 X I k_this h
    exact p_X2_init_118 hΓ hg hr ih _ _ _ k_this h
def f_X2_init (this : Nat) (X : qX) (I : qI) : Option (qI × qX) :=
  q_b3 (q_nA 12 I X) fun a1 I2 X3 =>
  q_b1 (q_pR X3 this 0 a1) fun X6 =>
  q_b3 (q_nA 12 I2 X6) fun a9 I10 X11 =>
  q_b1 (q_pR X11 this 1 a9) fun X14 =>
  q_b3 (q_nA 12 I10 X14) fun a17 I18 X19 =>
  q_b1 (q_pR X19 this 2 a17) fun X22 =>
  q_b3 (q_nA 12 I18 X22) fun a25 I26 X27 =>
  q_b1 (q_pR X27 this 3 a25) fun X30 =>
  q_b3 (q_nA 12 I26 X30) fun a33 I34 X35 =>
  q_b1 (q_pR X35 this 4 a33) fun X38 =>
  q_b3 (q_nA 12 I34 X38) fun a41 I42 X43 =>
  q_b1 (q_pR X43 this 5 a41) fun X46 =>
  q_b3 (q_nA 12 I42 X46) fun a49 I50 X51 =>
  q_b1 (q_pR X51 this 6 a49) fun X54 =>
  q_b3 (q_nA 12 I50 X54) fun a57 I58 X59 =>
  q_b1 (q_pR X59 this 7 a57) fun X62 =>
  q_b3 (q_nA 12 I58 X62) fun a65 I66 X67 =>
  q_b1 (q_pR X67 this 8 a65) fun X70 =>
  q_b3 (q_nA 12 I66 X70) fun a73 I74 X75 =>
  q_b1 (q_pR X75 this 9 a73) fun X78 =>
  q_b3 (q_nA 12 I74 X78) fun a81 I82 X83 =>
  q_b1 (q_pR X83 this 10 a81) fun X86 =>
  q_b3 (q_nA 12 I82 X86) fun a89 I90 X91 =>
  q_b1 (q_pR X91 this 11 a89) fun X94 =>
  q_b3 (q_nA 72 I90 X94) fun a97 I98 X99 =>
  q_b1 (q_pR X99 this 12 a97) fun X102 =>
  q_b3 (q_nA 72 I98 X102) fun a105 I106 X107 =>
  q_b1 (q_pR X107 this 13 a105) fun X110 =>
  q_fix (fun _ _ _ => none) (b_X2_init_118 this) q_fu (nI 0) X110 I106
set_option maxRecDepth 100000 in
set_option maxHeartbeats 4000000 in
theorem s_X2_init {l : Launch} {Γ : qC} (hΓ : q_gm Γ) {X : qX} {this : Nat} (k_this : q_kd X this = some (4, 15)) {I : qI} {z : qI × qX} (h : f_X2_init this X I = some z) : q_Sem l Γ (q_rm 2 14 288) yX2_init cX2_init 2 none [.ref this] I X (none, z.1, z.2) := by
  refine q_met (by decide) (Nat.le_of_ble_eq_true rfl) (fun g hg hr => ?_)
  unfold f_X2_init at h
  show g 0 0 0 [(0, .ref this)] [] I X
  refine r_aload_n hg 0 dX2_init_0 rfl rfl ?_
  refine r_objInit hg dX2_init_1 ob_X2_3 ⟨Nat.le_of_ble_eq_true rfl, Nat.le_of_ble_eq_true rfl⟩ ?_
  refine r_aload_n hg 0 dX2_init_4 rfl rfl ?_
  refine r_bipush hg dX2_init_5 cb_12 ?_
  replace h := q_b3_some h; obtain ⟨a1, I2, X3, e4, h⟩ := h
  refine r_nAD hg (N := 12) dX2_init_7 q_aI (by decide +kernel) (by decide +kernel) (Nat.le_of_ble_eq_true rfl) (Nat.le_of_ble_eq_true rfl) (Nat.le_of_ble_eq_true rfl) e4 ?_
  have q5 := q_nA_kd e4
  replace h := q_b1_some h; obtain ⟨X6, e7, h⟩ := h
  refine r_pRD hg dX2_init_9 fl_X2_11 ⟨_, rfl⟩ rfl (q5.2 _ _ k_this) rfl e7 ?_
  have q8 := q_pR_kd e7
  refine r_aload_n hg 0 dX2_init_12 rfl rfl ?_
  refine r_bipush hg dX2_init_13 cb_12 ?_
  replace h := q_b3_some h; obtain ⟨a9, I10, X11, e12, h⟩ := h
  refine r_nAD hg (N := 12) dX2_init_15 q_aI (by decide +kernel) (by decide +kernel) (Nat.le_of_ble_eq_true rfl) (Nat.le_of_ble_eq_true rfl) (Nat.le_of_ble_eq_true rfl) e12 ?_
  have q13 := q_nA_kd e12
  replace h := q_b1_some h; obtain ⟨X14, e15, h⟩ := h
  refine r_pRD hg dX2_init_17 fl_X2_15 ⟨_, rfl⟩ rfl (q13.2 _ _ (q8 _ _ (q5.2 _ _ k_this))) rfl e15 ?_
  have q16 := q_pR_kd e15
  refine r_aload_n hg 0 dX2_init_20 rfl rfl ?_
  refine r_bipush hg dX2_init_21 cb_12 ?_
  replace h := q_b3_some h; obtain ⟨a17, I18, X19, e20, h⟩ := h
  refine r_nAD hg (N := 12) dX2_init_23 q_aI (by decide +kernel) (by decide +kernel) (Nat.le_of_ble_eq_true rfl) (Nat.le_of_ble_eq_true rfl) (Nat.le_of_ble_eq_true rfl) e20 ?_
  have q21 := q_nA_kd e20
  replace h := q_b1_some h; obtain ⟨X22, e23, h⟩ := h
  refine r_pRD hg dX2_init_25 fl_X2_18 ⟨_, rfl⟩ rfl (q21.2 _ _ (q16 _ _ (q13.2 _ _ (q8 _ _ (q5.2 _ _ k_this))))) rfl e23 ?_
  have q24 := q_pR_kd e23
  refine r_aload_n hg 0 dX2_init_28 rfl rfl ?_
  refine r_bipush hg dX2_init_29 cb_12 ?_
  replace h := q_b3_some h; obtain ⟨a25, I26, X27, e28, h⟩ := h
  refine r_nAD hg (N := 12) dX2_init_31 q_aI (by decide +kernel) (by decide +kernel) (Nat.le_of_ble_eq_true rfl) (Nat.le_of_ble_eq_true rfl) (Nat.le_of_ble_eq_true rfl) e28 ?_
  have q29 := q_nA_kd e28
  replace h := q_b1_some h; obtain ⟨X30, e31, h⟩ := h
  refine r_pRD hg dX2_init_33 fl_X2_21 ⟨_, rfl⟩ rfl (q29.2 _ _ (q24 _ _ (q21.2 _ _ (q16 _ _ (q13.2 _ _ (q8 _ _ (q5.2 _ _ k_this))))))) rfl e31 ?_
  have q32 := q_pR_kd e31
  refine r_aload_n hg 0 dX2_init_36 rfl rfl ?_
  refine r_bipush hg dX2_init_37 cb_12 ?_
  replace h := q_b3_some h; obtain ⟨a33, I34, X35, e36, h⟩ := h
  refine r_nAD hg (N := 12) dX2_init_39 q_aI (by decide +kernel) (by decide +kernel) (Nat.le_of_ble_eq_true rfl) (Nat.le_of_ble_eq_true rfl) (Nat.le_of_ble_eq_true rfl) e36 ?_
  have q37 := q_nA_kd e36
  replace h := q_b1_some h; obtain ⟨X38, e39, h⟩ := h
  refine r_pRD hg dX2_init_41 fl_X2_24 ⟨_, rfl⟩ rfl (q37.2 _ _ (q32 _ _ (q29.2 _ _ (q24 _ _ (q21.2 _ _ (q16 _ _ (q13.2 _ _ (q8 _ _ (q5.2 _ _ k_this))))))))) rfl e39 ?_
  have q40 := q_pR_kd e39
  refine r_aload_n hg 0 dX2_init_44 rfl rfl ?_
  refine r_bipush hg dX2_init_45 cb_12 ?_
  replace h := q_b3_some h; obtain ⟨a41, I42, X43, e44, h⟩ := h
  refine r_nAD hg (N := 12) dX2_init_47 q_aI (by decide +kernel) (by decide +kernel) (Nat.le_of_ble_eq_true rfl) (Nat.le_of_ble_eq_true rfl) (Nat.le_of_ble_eq_true rfl) e44 ?_
  have q45 := q_nA_kd e44
  replace h := q_b1_some h; obtain ⟨X46, e47, h⟩ := h
  refine r_pRD hg dX2_init_49 fl_X2_27 ⟨_, rfl⟩ rfl (q45.2 _ _ (q40 _ _ (q37.2 _ _ (q32 _ _ (q29.2 _ _ (q24 _ _ (q21.2 _ _ (q16 _ _ (q13.2 _ _ (q8 _ _ (q5.2 _ _ k_this))))))))))) rfl e47 ?_
  have q48 := q_pR_kd e47
  refine r_aload_n hg 0 dX2_init_52 rfl rfl ?_
  refine r_bipush hg dX2_init_53 cb_12 ?_
  replace h := q_b3_some h; obtain ⟨a49, I50, X51, e52, h⟩ := h
  refine r_nAD hg (N := 12) dX2_init_55 q_aI (by decide +kernel) (by decide +kernel) (Nat.le_of_ble_eq_true rfl) (Nat.le_of_ble_eq_true rfl) (Nat.le_of_ble_eq_true rfl) e52 ?_
  have q53 := q_nA_kd e52
  replace h := q_b1_some h; obtain ⟨X54, e55, h⟩ := h
  refine r_pRD hg dX2_init_57 fl_X2_30 ⟨_, rfl⟩ rfl (q53.2 _ _ (q48 _ _ (q45.2 _ _ (q40 _ _ (q37.2 _ _ (q32 _ _ (q29.2 _ _ (q24 _ _ (q21.2 _ _ (q16 _ _ (q13.2 _ _ (q8 _ _ (q5.2 _ _ k_this))))))))))))) rfl e55 ?_
  have q56 := q_pR_kd e55
  refine r_aload_n hg 0 dX2_init_60 rfl rfl ?_
  refine r_bipush hg dX2_init_61 cb_12 ?_
  replace h := q_b3_some h; obtain ⟨a57, I58, X59, e60, h⟩ := h
  refine r_nAD hg (N := 12) dX2_init_63 q_aI (by decide +kernel) (by decide +kernel) (Nat.le_of_ble_eq_true rfl) (Nat.le_of_ble_eq_true rfl) (Nat.le_of_ble_eq_true rfl) e60 ?_
  have q61 := q_nA_kd e60
  replace h := q_b1_some h; obtain ⟨X62, e63, h⟩ := h
  refine r_pRD hg dX2_init_65 fl_X2_33 ⟨_, rfl⟩ rfl (q61.2 _ _ (q56 _ _ (q53.2 _ _ (q48 _ _ (q45.2 _ _ (q40 _ _ (q37.2 _ _ (q32 _ _ (q29.2 _ _ (q24 _ _ (q21.2 _ _ (q16 _ _ (q13.2 _ _ (q8 _ _ (q5.2 _ _ k_this))))))))))))))) rfl e63 ?_
  have q64 := q_pR_kd e63
  refine r_aload_n hg 0 dX2_init_68 rfl rfl ?_
  refine r_bipush hg dX2_init_69 cb_12 ?_
  replace h := q_b3_some h; obtain ⟨a65, I66, X67, e68, h⟩ := h
  refine r_nAD hg (N := 12) dX2_init_71 q_aI (by decide +kernel) (by decide +kernel) (Nat.le_of_ble_eq_true rfl) (Nat.le_of_ble_eq_true rfl) (Nat.le_of_ble_eq_true rfl) e68 ?_
  have q69 := q_nA_kd e68
  replace h := q_b1_some h; obtain ⟨X70, e71, h⟩ := h
  refine r_pRD hg dX2_init_73 fl_X2_36 ⟨_, rfl⟩ rfl (q69.2 _ _ (q64 _ _ (q61.2 _ _ (q56 _ _ (q53.2 _ _ (q48 _ _ (q45.2 _ _ (q40 _ _ (q37.2 _ _ (q32 _ _ (q29.2 _ _ (q24 _ _ (q21.2 _ _ (q16 _ _ (q13.2 _ _ (q8 _ _ (q5.2 _ _ k_this))))))))))))))))) rfl e71 ?_
  have q72 := q_pR_kd e71
  refine r_aload_n hg 0 dX2_init_76 rfl rfl ?_
  refine r_bipush hg dX2_init_77 cb_12 ?_
  replace h := q_b3_some h; obtain ⟨a73, I74, X75, e76, h⟩ := h
  refine r_nAD hg (N := 12) dX2_init_79 q_aI (by decide +kernel) (by decide +kernel) (Nat.le_of_ble_eq_true rfl) (Nat.le_of_ble_eq_true rfl) (Nat.le_of_ble_eq_true rfl) e76 ?_
  have q77 := q_nA_kd e76
  replace h := q_b1_some h; obtain ⟨X78, e79, h⟩ := h
  refine r_pRD hg dX2_init_81 fl_X2_39 ⟨_, rfl⟩ rfl (q77.2 _ _ (q72 _ _ (q69.2 _ _ (q64 _ _ (q61.2 _ _ (q56 _ _ (q53.2 _ _ (q48 _ _ (q45.2 _ _ (q40 _ _ (q37.2 _ _ (q32 _ _ (q29.2 _ _ (q24 _ _ (q21.2 _ _ (q16 _ _ (q13.2 _ _ (q8 _ _ (q5.2 _ _ k_this))))))))))))))))))) rfl e79 ?_
  have q80 := q_pR_kd e79
  refine r_aload_n hg 0 dX2_init_84 rfl rfl ?_
  refine r_bipush hg dX2_init_85 cb_12 ?_
  replace h := q_b3_some h; obtain ⟨a81, I82, X83, e84, h⟩ := h
  refine r_nAD hg (N := 12) dX2_init_87 q_aI (by decide +kernel) (by decide +kernel) (Nat.le_of_ble_eq_true rfl) (Nat.le_of_ble_eq_true rfl) (Nat.le_of_ble_eq_true rfl) e84 ?_
  have q85 := q_nA_kd e84
  replace h := q_b1_some h; obtain ⟨X86, e87, h⟩ := h
  refine r_pRD hg dX2_init_89 fl_X2_42 ⟨_, rfl⟩ rfl (q85.2 _ _ (q80 _ _ (q77.2 _ _ (q72 _ _ (q69.2 _ _ (q64 _ _ (q61.2 _ _ (q56 _ _ (q53.2 _ _ (q48 _ _ (q45.2 _ _ (q40 _ _ (q37.2 _ _ (q32 _ _ (q29.2 _ _ (q24 _ _ (q21.2 _ _ (q16 _ _ (q13.2 _ _ (q8 _ _ (q5.2 _ _ k_this))))))))))))))))))))) rfl e87 ?_
  have q88 := q_pR_kd e87
  refine r_aload_n hg 0 dX2_init_92 rfl rfl ?_
  refine r_bipush hg dX2_init_93 cb_12 ?_
  replace h := q_b3_some h; obtain ⟨a89, I90, X91, e92, h⟩ := h
  refine r_nAD hg (N := 12) dX2_init_95 q_aI (by decide +kernel) (by decide +kernel) (Nat.le_of_ble_eq_true rfl) (Nat.le_of_ble_eq_true rfl) (Nat.le_of_ble_eq_true rfl) e92 ?_
  have q93 := q_nA_kd e92
  replace h := q_b1_some h; obtain ⟨X94, e95, h⟩ := h
  refine r_pRD hg dX2_init_97 fl_X2_45 ⟨_, rfl⟩ rfl (q93.2 _ _ (q88 _ _ (q85.2 _ _ (q80 _ _ (q77.2 _ _ (q72 _ _ (q69.2 _ _ (q64 _ _ (q61.2 _ _ (q56 _ _ (q53.2 _ _ (q48 _ _ (q45.2 _ _ (q40 _ _ (q37.2 _ _ (q32 _ _ (q29.2 _ _ (q24 _ _ (q21.2 _ _ (q16 _ _ (q13.2 _ _ (q8 _ _ (q5.2 _ _ k_this))))))))))))))))))))))) rfl e95 ?_
  have q96 := q_pR_kd e95
  refine r_aload_n hg 0 dX2_init_100 rfl rfl ?_
  refine r_bipush hg dX2_init_101 cb_72 ?_
  replace h := q_b3_some h; obtain ⟨a97, I98, X99, e100, h⟩ := h
  refine r_nAD hg (N := 72) dX2_init_103 q_aI (by decide +kernel) (by decide +kernel) (Nat.le_of_ble_eq_true rfl) (Nat.le_of_ble_eq_true rfl) (Nat.le_of_ble_eq_true rfl) e100 ?_
  have q101 := q_nA_kd e100
  replace h := q_b1_some h; obtain ⟨X102, e103, h⟩ := h
  refine r_pRD hg dX2_init_105 fl_X2_50 ⟨_, rfl⟩ rfl (q101.2 _ _ (q96 _ _ (q93.2 _ _ (q88 _ _ (q85.2 _ _ (q80 _ _ (q77.2 _ _ (q72 _ _ (q69.2 _ _ (q64 _ _ (q61.2 _ _ (q56 _ _ (q53.2 _ _ (q48 _ _ (q45.2 _ _ (q40 _ _ (q37.2 _ _ (q32 _ _ (q29.2 _ _ (q24 _ _ (q21.2 _ _ (q16 _ _ (q13.2 _ _ (q8 _ _ (q5.2 _ _ k_this))))))))))))))))))))))))) rfl e103 ?_
  have q104 := q_pR_kd e103
  refine r_aload_n hg 0 dX2_init_108 rfl rfl ?_
  refine r_bipush hg dX2_init_109 cb_72 ?_
  replace h := q_b3_some h; obtain ⟨a105, I106, X107, e108, h⟩ := h
  refine r_nAD hg (N := 72) dX2_init_111 q_aI (by decide +kernel) (by decide +kernel) (Nat.le_of_ble_eq_true rfl) (Nat.le_of_ble_eq_true rfl) (Nat.le_of_ble_eq_true rfl) e108 ?_
  have q109 := q_nA_kd e108
  replace h := q_b1_some h; obtain ⟨X110, e111, h⟩ := h
  refine r_pRD hg dX2_init_113 fl_X2_53 ⟨_, rfl⟩ rfl (q109.2 _ _ (q104 _ _ (q101.2 _ _ (q96 _ _ (q93.2 _ _ (q88 _ _ (q85.2 _ _ (q80 _ _ (q77.2 _ _ (q72 _ _ (q69.2 _ _ (q64 _ _ (q61.2 _ _ (q56 _ _ (q53.2 _ _ (q48 _ _ (q45.2 _ _ (q40 _ _ (q37.2 _ _ (q32 _ _ (q29.2 _ _ (q24 _ _ (q21.2 _ _ (q16 _ _ (q13.2 _ _ (q8 _ _ (q5.2 _ _ k_this))))))))))))))))))))))))))) rfl e111 ?_
  have q112 := q_pR_kd e111
  refine r_iconst hg dX2_init_116 ci_0 ?_
  refine r_istore_n hg (L' := [(1, .int (nI 0)), (0, .ref this)]) dX2_init_117 rfl (by decide) rfl ?_
  refine r_sub hg [1, 0] rfl ?_
  exact pl_X2_init_118 hΓ hg hr _ _ _ _ (q112 _ _ (q109.2 _ _ (q104 _ _ (q101.2 _ _ (q96 _ _ (q93.2 _ _ (q88 _ _ (q85.2 _ _ (q80 _ _ (q77.2 _ _ (q72 _ _ (q69.2 _ _ (q64 _ _ (q61.2 _ _ (q56 _ _ (q53.2 _ _ (q48 _ _ (q45.2 _ _ (q40 _ _ (q37.2 _ _ (q32 _ _ (q29.2 _ _ (q24 _ _ (q21.2 _ _ (q16 _ _ (q13.2 _ _ (q8 _ _ (q5.2 _ _ k_this)))))))))))))))))))))))))))) h
theorem xl_X2_init_118 {this : Nat} {z : qI × qX} : ∀ (n : Nat) (x1 : Int32) (X : qX) (I : qI), q_fix (fun _ _ _ => none) (b_X2_init_118 this) n x1 X I = some z → z.2 = X := by
  intro n
  induction n with
  | zero => intro x1 X I h; cases (show (none : Option (qI × qX)) = some z from h)
  | succ n ih =>
    intro x1 X I h
    have h : b_X2_init_118 this (q_fix (fun _ _ _ => none) (b_X2_init_118 this) n) x1 X I = some z := h
    unfold b_X2_init_118 at h
    replace h := q_b1_some h; obtain ⟨_, -, h⟩ := h
    replace h := q_b2_some h; obtain ⟨_, _, -, h⟩ := h
    split at h
    · cases h; rfl
    · skip
      replace h := q_b1_some h; obtain ⟨_, -, h⟩ := h
      replace h := q_b2_some h; obtain ⟨_, _, -, h⟩ := h
      replace h := q_b1_some h; obtain ⟨_, -, h⟩ := h
      exact ih _ _ _ h
theorem xi_X2_init {X : qX} {this : Nat} {I : qI} {z : qI × qX} (h : f_X2_init this X I = some z) : ∀ (k : Nat) (d : Nat × Nat), q_kd X k = some d → q_kd z.2 k = some d := by
  intro k d hk
  unfold f_X2_init at h
  replace h := q_b3_some h; obtain ⟨_, _, _, e1, h⟩ := h
  replace h := q_b1_some h; obtain ⟨_, e2, h⟩ := h
  replace h := q_b3_some h; obtain ⟨_, _, _, e3, h⟩ := h
  replace h := q_b1_some h; obtain ⟨_, e4, h⟩ := h
  replace h := q_b3_some h; obtain ⟨_, _, _, e5, h⟩ := h
  replace h := q_b1_some h; obtain ⟨_, e6, h⟩ := h
  replace h := q_b3_some h; obtain ⟨_, _, _, e7, h⟩ := h
  replace h := q_b1_some h; obtain ⟨_, e8, h⟩ := h
  replace h := q_b3_some h; obtain ⟨_, _, _, e9, h⟩ := h
  replace h := q_b1_some h; obtain ⟨_, e10, h⟩ := h
  replace h := q_b3_some h; obtain ⟨_, _, _, e11, h⟩ := h
  replace h := q_b1_some h; obtain ⟨_, e12, h⟩ := h
  replace h := q_b3_some h; obtain ⟨_, _, _, e13, h⟩ := h
  replace h := q_b1_some h; obtain ⟨_, e14, h⟩ := h
  replace h := q_b3_some h; obtain ⟨_, _, _, e15, h⟩ := h
  replace h := q_b1_some h; obtain ⟨_, e16, h⟩ := h
  replace h := q_b3_some h; obtain ⟨_, _, _, e17, h⟩ := h
  replace h := q_b1_some h; obtain ⟨_, e18, h⟩ := h
  replace h := q_b3_some h; obtain ⟨_, _, _, e19, h⟩ := h
  replace h := q_b1_some h; obtain ⟨_, e20, h⟩ := h
  replace h := q_b3_some h; obtain ⟨_, _, _, e21, h⟩ := h
  replace h := q_b1_some h; obtain ⟨_, e22, h⟩ := h
  replace h := q_b3_some h; obtain ⟨_, _, _, e23, h⟩ := h
  replace h := q_b1_some h; obtain ⟨_, e24, h⟩ := h
  replace h := q_b3_some h; obtain ⟨_, _, _, e25, h⟩ := h
  replace h := q_b1_some h; obtain ⟨_, e26, h⟩ := h
  replace h := q_b3_some h; obtain ⟨_, _, _, e27, h⟩ := h
  replace h := q_b1_some h; obtain ⟨_, e28, h⟩ := h
  have hz := xl_X2_init_118 _ _ _ _ h
  rw [hz]
  exact (q_pR_kd e28 _ _ ((q_nA_kd e27).2 _ _ (q_pR_kd e26 _ _ ((q_nA_kd e25).2 _ _ (q_pR_kd e24 _ _ ((q_nA_kd e23).2 _ _ (q_pR_kd e22 _ _ ((q_nA_kd e21).2 _ _ (q_pR_kd e20 _ _ ((q_nA_kd e19).2 _ _ (q_pR_kd e18 _ _ ((q_nA_kd e17).2 _ _ (q_pR_kd e16 _ _ ((q_nA_kd e15).2 _ _ (q_pR_kd e14 _ _ ((q_nA_kd e13).2 _ _ (q_pR_kd e12 _ _ ((q_nA_kd e11).2 _ _ (q_pR_kd e10 _ _ ((q_nA_kd e9).2 _ _ (q_pR_kd e8 _ _ ((q_nA_kd e7).2 _ _ (q_pR_kd e6 _ _ ((q_nA_kd e5).2 _ _ (q_pR_kd e4 _ _ ((q_nA_kd e3).2 _ _ (q_pR_kd e2 _ _ ((q_nA_kd e1).2 _ _ hk))))))))))))))))))))))))))))
theorem dX1_init_0 : q_at cX1_init 0 (.aload_n 0) 1 1 := ⟨by decide +kernel, rfl⟩
theorem dX1_init_1 : q_at cX1_init 1 (.invokespecial 3) 3 4 := ⟨by decide +kernel, rfl⟩
theorem dX1_init_4 : q_at cX1_init 4 (.aload_n 0) 1 5 := ⟨by decide +kernel, rfl⟩
theorem dX1_init_5 : q_at cX1_init 5 (.bipush 60) 2 7 := ⟨by decide +kernel, rfl⟩
theorem dX1_init_7 : q_at cX1_init 7 (.newarray .int) 2 9 := ⟨by decide +kernel, rfl⟩
theorem dX1_init_9 : q_at cX1_init 9 (.putfield 11) 3 12 := ⟨by decide +kernel, rfl⟩
theorem dX1_init_12 : q_at cX1_init 12 (.aload_n 0) 1 13 := ⟨by decide +kernel, rfl⟩
theorem dX1_init_13 : q_at cX1_init 13 (.bipush 60) 2 15 := ⟨by decide +kernel, rfl⟩
theorem dX1_init_15 : q_at cX1_init 15 (.newarray .int) 2 17 := ⟨by decide +kernel, rfl⟩
theorem dX1_init_17 : q_at cX1_init 17 (.putfield 15) 3 20 := ⟨by decide +kernel, rfl⟩
theorem dX1_init_20 : q_at cX1_init 20 (.aload_n 0) 1 21 := ⟨by decide +kernel, rfl⟩
theorem dX1_init_21 : q_at cX1_init 21 (.bipush 60) 2 23 := ⟨by decide +kernel, rfl⟩
theorem dX1_init_23 : q_at cX1_init 23 (.newarray .int) 2 25 := ⟨by decide +kernel, rfl⟩
theorem dX1_init_25 : q_at cX1_init 25 (.putfield 18) 3 28 := ⟨by decide +kernel, rfl⟩
theorem dX1_init_28 : q_at cX1_init 28 (.aload_n 0) 1 29 := ⟨by decide +kernel, rfl⟩
theorem dX1_init_29 : q_at cX1_init 29 (.bipush 60) 2 31 := ⟨by decide +kernel, rfl⟩
theorem dX1_init_31 : q_at cX1_init 31 (.newarray .int) 2 33 := ⟨by decide +kernel, rfl⟩
theorem dX1_init_33 : q_at cX1_init 33 (.putfield 21) 3 36 := ⟨by decide +kernel, rfl⟩
theorem dX1_init_36 : q_at cX1_init 36 (.aload_n 0) 1 37 := ⟨by decide +kernel, rfl⟩
theorem dX1_init_37 : q_at cX1_init 37 (.bipush 60) 2 39 := ⟨by decide +kernel, rfl⟩
theorem dX1_init_39 : q_at cX1_init 39 (.newarray .int) 2 41 := ⟨by decide +kernel, rfl⟩
theorem dX1_init_41 : q_at cX1_init 41 (.putfield 24) 3 44 := ⟨by decide +kernel, rfl⟩
theorem dX1_init_44 : q_at cX1_init 44 (.aload_n 0) 1 45 := ⟨by decide +kernel, rfl⟩
theorem dX1_init_45 : q_at cX1_init 45 (.bipush 60) 2 47 := ⟨by decide +kernel, rfl⟩
theorem dX1_init_47 : q_at cX1_init 47 (.newarray .int) 2 49 := ⟨by decide +kernel, rfl⟩
theorem dX1_init_49 : q_at cX1_init 49 (.putfield 27) 3 52 := ⟨by decide +kernel, rfl⟩
theorem dX1_init_52 : q_at cX1_init 52 (.aload_n 0) 1 53 := ⟨by decide +kernel, rfl⟩
theorem dX1_init_53 : q_at cX1_init 53 (.bipush 60) 2 55 := ⟨by decide +kernel, rfl⟩
theorem dX1_init_55 : q_at cX1_init 55 (.newarray .int) 2 57 := ⟨by decide +kernel, rfl⟩
theorem dX1_init_57 : q_at cX1_init 57 (.putfield 30) 3 60 := ⟨by decide +kernel, rfl⟩
theorem dX1_init_60 : q_at cX1_init 60 (.aload_n 0) 1 61 := ⟨by decide +kernel, rfl⟩
theorem dX1_init_61 : q_at cX1_init 61 (.bipush 60) 2 63 := ⟨by decide +kernel, rfl⟩
theorem dX1_init_63 : q_at cX1_init 63 (.newarray .int) 2 65 := ⟨by decide +kernel, rfl⟩
theorem dX1_init_65 : q_at cX1_init 65 (.putfield 33) 3 68 := ⟨by decide +kernel, rfl⟩
theorem dX1_init_68 : q_at cX1_init 68 (.return_) 1 69 := ⟨by decide +kernel, rfl⟩
def f_X1_init (this : Nat) (X : qX) (I : qI) : Option (qI × qX) :=
  q_b3 (q_nA 60 I X) fun a1 I2 X3 =>
  q_b1 (q_pR X3 this 0 a1) fun X6 =>
  q_b3 (q_nA 60 I2 X6) fun a9 I10 X11 =>
  q_b1 (q_pR X11 this 1 a9) fun X14 =>
  q_b3 (q_nA 60 I10 X14) fun a17 I18 X19 =>
  q_b1 (q_pR X19 this 2 a17) fun X22 =>
  q_b3 (q_nA 60 I18 X22) fun a25 I26 X27 =>
  q_b1 (q_pR X27 this 3 a25) fun X30 =>
  q_b3 (q_nA 60 I26 X30) fun a33 I34 X35 =>
  q_b1 (q_pR X35 this 4 a33) fun X38 =>
  q_b3 (q_nA 60 I34 X38) fun a41 I42 X43 =>
  q_b1 (q_pR X43 this 5 a41) fun X46 =>
  q_b3 (q_nA 60 I42 X46) fun a49 I50 X51 =>
  q_b1 (q_pR X51 this 6 a49) fun X54 =>
  q_b3 (q_nA 60 I50 X54) fun a57 I58 X59 =>
  q_b1 (q_pR X59 this 7 a57) fun X62 =>
  some (I58, X62)
set_option maxRecDepth 100000 in
set_option maxHeartbeats 4000000 in
theorem s_X1_init {l : Launch} {Γ : qC} (hΓ : q_gm Γ) {X : qX} {this : Nat} (k_this : q_kd X this = some (3, 9)) {I : qI} {z : qI × qX} (h : f_X1_init this X I = some z) : q_Sem l Γ (q_rm 2 8 480) yX1_init cX1_init 1 none [.ref this] I X (none, z.1, z.2) := by
  refine q_met (by decide) (Nat.le_of_ble_eq_true rfl) (fun g hg hr => ?_)
  unfold f_X1_init at h
  show g 0 0 0 [(0, .ref this)] [] I X
  refine r_aload_n hg 0 dX1_init_0 rfl rfl ?_
  refine r_objInit hg dX1_init_1 ob_X1_3 ⟨Nat.le_of_ble_eq_true rfl, Nat.le_of_ble_eq_true rfl⟩ ?_
  refine r_aload_n hg 0 dX1_init_4 rfl rfl ?_
  refine r_bipush hg dX1_init_5 cb_60 ?_
  replace h := q_b3_some h; obtain ⟨a1, I2, X3, e4, h⟩ := h
  refine r_nAD hg (N := 60) dX1_init_7 q_aI (by decide +kernel) (by decide +kernel) (Nat.le_of_ble_eq_true rfl) (Nat.le_of_ble_eq_true rfl) (Nat.le_of_ble_eq_true rfl) e4 ?_
  have q5 := q_nA_kd e4
  replace h := q_b1_some h; obtain ⟨X6, e7, h⟩ := h
  refine r_pRD hg dX1_init_9 fl_X1_11 ⟨_, rfl⟩ rfl (q5.2 _ _ k_this) rfl e7 ?_
  have q8 := q_pR_kd e7
  refine r_aload_n hg 0 dX1_init_12 rfl rfl ?_
  refine r_bipush hg dX1_init_13 cb_60 ?_
  replace h := q_b3_some h; obtain ⟨a9, I10, X11, e12, h⟩ := h
  refine r_nAD hg (N := 60) dX1_init_15 q_aI (by decide +kernel) (by decide +kernel) (Nat.le_of_ble_eq_true rfl) (Nat.le_of_ble_eq_true rfl) (Nat.le_of_ble_eq_true rfl) e12 ?_
  have q13 := q_nA_kd e12
  replace h := q_b1_some h; obtain ⟨X14, e15, h⟩ := h
  refine r_pRD hg dX1_init_17 fl_X1_15 ⟨_, rfl⟩ rfl (q13.2 _ _ (q8 _ _ (q5.2 _ _ k_this))) rfl e15 ?_
  have q16 := q_pR_kd e15
  refine r_aload_n hg 0 dX1_init_20 rfl rfl ?_
  refine r_bipush hg dX1_init_21 cb_60 ?_
  replace h := q_b3_some h; obtain ⟨a17, I18, X19, e20, h⟩ := h
  refine r_nAD hg (N := 60) dX1_init_23 q_aI (by decide +kernel) (by decide +kernel) (Nat.le_of_ble_eq_true rfl) (Nat.le_of_ble_eq_true rfl) (Nat.le_of_ble_eq_true rfl) e20 ?_
  have q21 := q_nA_kd e20
  replace h := q_b1_some h; obtain ⟨X22, e23, h⟩ := h
  refine r_pRD hg dX1_init_25 fl_X1_18 ⟨_, rfl⟩ rfl (q21.2 _ _ (q16 _ _ (q13.2 _ _ (q8 _ _ (q5.2 _ _ k_this))))) rfl e23 ?_
  have q24 := q_pR_kd e23
  refine r_aload_n hg 0 dX1_init_28 rfl rfl ?_
  refine r_bipush hg dX1_init_29 cb_60 ?_
  replace h := q_b3_some h; obtain ⟨a25, I26, X27, e28, h⟩ := h
  refine r_nAD hg (N := 60) dX1_init_31 q_aI (by decide +kernel) (by decide +kernel) (Nat.le_of_ble_eq_true rfl) (Nat.le_of_ble_eq_true rfl) (Nat.le_of_ble_eq_true rfl) e28 ?_
  have q29 := q_nA_kd e28
  replace h := q_b1_some h; obtain ⟨X30, e31, h⟩ := h
  refine r_pRD hg dX1_init_33 fl_X1_21 ⟨_, rfl⟩ rfl (q29.2 _ _ (q24 _ _ (q21.2 _ _ (q16 _ _ (q13.2 _ _ (q8 _ _ (q5.2 _ _ k_this))))))) rfl e31 ?_
  have q32 := q_pR_kd e31
  refine r_aload_n hg 0 dX1_init_36 rfl rfl ?_
  refine r_bipush hg dX1_init_37 cb_60 ?_
  replace h := q_b3_some h; obtain ⟨a33, I34, X35, e36, h⟩ := h
  refine r_nAD hg (N := 60) dX1_init_39 q_aI (by decide +kernel) (by decide +kernel) (Nat.le_of_ble_eq_true rfl) (Nat.le_of_ble_eq_true rfl) (Nat.le_of_ble_eq_true rfl) e36 ?_
  have q37 := q_nA_kd e36
  replace h := q_b1_some h; obtain ⟨X38, e39, h⟩ := h
  refine r_pRD hg dX1_init_41 fl_X1_24 ⟨_, rfl⟩ rfl (q37.2 _ _ (q32 _ _ (q29.2 _ _ (q24 _ _ (q21.2 _ _ (q16 _ _ (q13.2 _ _ (q8 _ _ (q5.2 _ _ k_this))))))))) rfl e39 ?_
  have q40 := q_pR_kd e39
  refine r_aload_n hg 0 dX1_init_44 rfl rfl ?_
  refine r_bipush hg dX1_init_45 cb_60 ?_
  replace h := q_b3_some h; obtain ⟨a41, I42, X43, e44, h⟩ := h
  refine r_nAD hg (N := 60) dX1_init_47 q_aI (by decide +kernel) (by decide +kernel) (Nat.le_of_ble_eq_true rfl) (Nat.le_of_ble_eq_true rfl) (Nat.le_of_ble_eq_true rfl) e44 ?_
  have q45 := q_nA_kd e44
  replace h := q_b1_some h; obtain ⟨X46, e47, h⟩ := h
  refine r_pRD hg dX1_init_49 fl_X1_27 ⟨_, rfl⟩ rfl (q45.2 _ _ (q40 _ _ (q37.2 _ _ (q32 _ _ (q29.2 _ _ (q24 _ _ (q21.2 _ _ (q16 _ _ (q13.2 _ _ (q8 _ _ (q5.2 _ _ k_this))))))))))) rfl e47 ?_
  have q48 := q_pR_kd e47
  refine r_aload_n hg 0 dX1_init_52 rfl rfl ?_
  refine r_bipush hg dX1_init_53 cb_60 ?_
  replace h := q_b3_some h; obtain ⟨a49, I50, X51, e52, h⟩ := h
  refine r_nAD hg (N := 60) dX1_init_55 q_aI (by decide +kernel) (by decide +kernel) (Nat.le_of_ble_eq_true rfl) (Nat.le_of_ble_eq_true rfl) (Nat.le_of_ble_eq_true rfl) e52 ?_
  have q53 := q_nA_kd e52
  replace h := q_b1_some h; obtain ⟨X54, e55, h⟩ := h
  refine r_pRD hg dX1_init_57 fl_X1_30 ⟨_, rfl⟩ rfl (q53.2 _ _ (q48 _ _ (q45.2 _ _ (q40 _ _ (q37.2 _ _ (q32 _ _ (q29.2 _ _ (q24 _ _ (q21.2 _ _ (q16 _ _ (q13.2 _ _ (q8 _ _ (q5.2 _ _ k_this))))))))))))) rfl e55 ?_
  have q56 := q_pR_kd e55
  refine r_aload_n hg 0 dX1_init_60 rfl rfl ?_
  refine r_bipush hg dX1_init_61 cb_60 ?_
  replace h := q_b3_some h; obtain ⟨a57, I58, X59, e60, h⟩ := h
  refine r_nAD hg (N := 60) dX1_init_63 q_aI (by decide +kernel) (by decide +kernel) (Nat.le_of_ble_eq_true rfl) (Nat.le_of_ble_eq_true rfl) (Nat.le_of_ble_eq_true rfl) e60 ?_
  have q61 := q_nA_kd e60
  replace h := q_b1_some h; obtain ⟨X62, e63, h⟩ := h
  refine r_pRD hg dX1_init_65 fl_X1_33 ⟨_, rfl⟩ rfl (q61.2 _ _ (q56 _ _ (q53.2 _ _ (q48 _ _ (q45.2 _ _ (q40 _ _ (q37.2 _ _ (q32 _ _ (q29.2 _ _ (q24 _ _ (q21.2 _ _ (q16 _ _ (q13.2 _ _ (q8 _ _ (q5.2 _ _ k_this))))))))))))))) rfl e63 ?_
  have q64 := q_pR_kd e63
  exact r_return hr dX1_init_68 ⟨Nat.le_of_ble_eq_true rfl, Nat.le_of_ble_eq_true rfl⟩ rfl (by cases h; rfl)
theorem xi_X1_init {X : qX} {this : Nat} {I : qI} {z : qI × qX} (h : f_X1_init this X I = some z) : ∀ (k : Nat) (d : Nat × Nat), q_kd X k = some d → q_kd z.2 k = some d := by
  intro k d hk
  unfold f_X1_init at h
  replace h := q_b3_some h; obtain ⟨_, _, _, e1, h⟩ := h
  replace h := q_b1_some h; obtain ⟨_, e2, h⟩ := h
  replace h := q_b3_some h; obtain ⟨_, _, _, e3, h⟩ := h
  replace h := q_b1_some h; obtain ⟨_, e4, h⟩ := h
  replace h := q_b3_some h; obtain ⟨_, _, _, e5, h⟩ := h
  replace h := q_b1_some h; obtain ⟨_, e6, h⟩ := h
  replace h := q_b3_some h; obtain ⟨_, _, _, e7, h⟩ := h
  replace h := q_b1_some h; obtain ⟨_, e8, h⟩ := h
  replace h := q_b3_some h; obtain ⟨_, _, _, e9, h⟩ := h
  replace h := q_b1_some h; obtain ⟨_, e10, h⟩ := h
  replace h := q_b3_some h; obtain ⟨_, _, _, e11, h⟩ := h
  replace h := q_b1_some h; obtain ⟨_, e12, h⟩ := h
  replace h := q_b3_some h; obtain ⟨_, _, _, e13, h⟩ := h
  replace h := q_b1_some h; obtain ⟨_, e14, h⟩ := h
  replace h := q_b3_some h; obtain ⟨_, _, _, e15, h⟩ := h
  replace h := q_b1_some h; obtain ⟨_, e16, h⟩ := h
  cases h
  exact (q_pR_kd e16 _ _ ((q_nA_kd e15).2 _ _ (q_pR_kd e14 _ _ ((q_nA_kd e13).2 _ _ (q_pR_kd e12 _ _ ((q_nA_kd e11).2 _ _ (q_pR_kd e10 _ _ ((q_nA_kd e9).2 _ _ (q_pR_kd e8 _ _ ((q_nA_kd e7).2 _ _ (q_pR_kd e6 _ _ ((q_nA_kd e5).2 _ _ (q_pR_kd e4 _ _ ((q_nA_kd e3).2 _ _ (q_pR_kd e2 _ _ ((q_nA_kd e1).2 _ _ hk))))))))))))))))
theorem dX7_init_0 : q_at cX7_init 0 (.aload_n 0) 1 1 := ⟨by decide +kernel, rfl⟩
theorem dX7_init_1 : q_at cX7_init 1 (.invokespecial 3) 3 4 := ⟨by decide +kernel, rfl⟩
theorem dX7_init_4 : q_at cX7_init 4 (.aload_n 0) 1 5 := ⟨by decide +kernel, rfl⟩
theorem dX7_init_5 : q_at cX7_init 5 (.bipush 12) 2 7 := ⟨by decide +kernel, rfl⟩
theorem dX7_init_7 : q_at cX7_init 7 (.newarray .int) 2 9 := ⟨by decide +kernel, rfl⟩
theorem dX7_init_9 : q_at cX7_init 9 (.putfield 11) 3 12 := ⟨by decide +kernel, rfl⟩
theorem dX7_init_12 : q_at cX7_init 12 (.aload_n 0) 1 13 := ⟨by decide +kernel, rfl⟩
theorem dX7_init_13 : q_at cX7_init 13 (.bipush 12) 2 15 := ⟨by decide +kernel, rfl⟩
theorem dX7_init_15 : q_at cX7_init 15 (.newarray .int) 2 17 := ⟨by decide +kernel, rfl⟩
theorem dX7_init_17 : q_at cX7_init 17 (.putfield 15) 3 20 := ⟨by decide +kernel, rfl⟩
theorem dX7_init_20 : q_at cX7_init 20 (.aload_n 0) 1 21 := ⟨by decide +kernel, rfl⟩
theorem dX7_init_21 : q_at cX7_init 21 (.bipush 12) 2 23 := ⟨by decide +kernel, rfl⟩
theorem dX7_init_23 : q_at cX7_init 23 (.newarray .int) 2 25 := ⟨by decide +kernel, rfl⟩
theorem dX7_init_25 : q_at cX7_init 25 (.putfield 18) 3 28 := ⟨by decide +kernel, rfl⟩
theorem dX7_init_28 : q_at cX7_init 28 (.aload_n 0) 1 29 := ⟨by decide +kernel, rfl⟩
theorem dX7_init_29 : q_at cX7_init 29 (.bipush 12) 2 31 := ⟨by decide +kernel, rfl⟩
theorem dX7_init_31 : q_at cX7_init 31 (.anewarray 21) 3 34 := ⟨by decide +kernel, rfl⟩
theorem dX7_init_34 : q_at cX7_init 34 (.putfield 22) 3 37 := ⟨by decide +kernel, rfl⟩
theorem dX7_init_37 : q_at cX7_init 37 (.aload_n 0) 1 38 := ⟨by decide +kernel, rfl⟩
theorem dX7_init_38 : q_at cX7_init 38 (.bipush 96) 2 40 := ⟨by decide +kernel, rfl⟩
theorem dX7_init_40 : q_at cX7_init 40 (.newarray .int) 2 42 := ⟨by decide +kernel, rfl⟩
theorem dX7_init_42 : q_at cX7_init 42 (.putfield 28) 3 45 := ⟨by decide +kernel, rfl⟩
theorem dX7_init_45 : q_at cX7_init 45 (.return_) 1 46 := ⟨by decide +kernel, rfl⟩
def f_X7_init (this : Nat) (X : qX) (I : qI) : Option (qI × qX) :=
  q_b3 (q_nA 12 I X) fun a1 I2 X3 =>
  q_b1 (q_pR X3 this 0 a1) fun X6 =>
  q_b3 (q_nA 12 I2 X6) fun a9 I10 X11 =>
  q_b1 (q_pR X11 this 1 a9) fun X14 =>
  q_b3 (q_nA 12 I10 X14) fun a17 I18 X19 =>
  q_b1 (q_pR X19 this 2 a17) fun X22 =>
  q_b3 (q_nB 12 I18 X22) fun a25 I26 X27 =>
  q_b1 (q_pR X27 this 3 a25) fun X30 =>
  q_b3 (q_nA 96 I26 X30) fun a33 I34 X35 =>
  q_b1 (q_pR X35 this 4 a33) fun X38 =>
  some (I34, X38)
set_option maxRecDepth 100000 in
set_option maxHeartbeats 4000000 in
theorem s_X7_init {l : Launch} {Γ : qC} (hΓ : q_gm Γ) {X : qX} {this : Nat} (k_this : q_kd X this = some (9, 6)) {I : qI} {z : qI × qX} (h : f_X7_init this X I = some z) : q_Sem l Γ (q_rm 2 5 144) yX7_init cX7_init 1 none [.ref this] I X (none, z.1, z.2) := by
  refine q_met (by decide) (Nat.le_of_ble_eq_true rfl) (fun g hg hr => ?_)
  unfold f_X7_init at h
  show g 0 0 0 [(0, .ref this)] [] I X
  refine r_aload_n hg 0 dX7_init_0 rfl rfl ?_
  refine r_objInit hg dX7_init_1 ob_X7_3 ⟨Nat.le_of_ble_eq_true rfl, Nat.le_of_ble_eq_true rfl⟩ ?_
  refine r_aload_n hg 0 dX7_init_4 rfl rfl ?_
  refine r_bipush hg dX7_init_5 cb_12 ?_
  replace h := q_b3_some h; obtain ⟨a1, I2, X3, e4, h⟩ := h
  refine r_nAD hg (N := 12) dX7_init_7 q_aI (by decide +kernel) (by decide +kernel) (Nat.le_of_ble_eq_true rfl) (Nat.le_of_ble_eq_true rfl) (Nat.le_of_ble_eq_true rfl) e4 ?_
  have q5 := q_nA_kd e4
  replace h := q_b1_some h; obtain ⟨X6, e7, h⟩ := h
  refine r_pRD hg dX7_init_9 fl_X7_11 ⟨_, rfl⟩ rfl (q5.2 _ _ k_this) rfl e7 ?_
  have q8 := q_pR_kd e7
  refine r_aload_n hg 0 dX7_init_12 rfl rfl ?_
  refine r_bipush hg dX7_init_13 cb_12 ?_
  replace h := q_b3_some h; obtain ⟨a9, I10, X11, e12, h⟩ := h
  refine r_nAD hg (N := 12) dX7_init_15 q_aI (by decide +kernel) (by decide +kernel) (Nat.le_of_ble_eq_true rfl) (Nat.le_of_ble_eq_true rfl) (Nat.le_of_ble_eq_true rfl) e12 ?_
  have q13 := q_nA_kd e12
  replace h := q_b1_some h; obtain ⟨X14, e15, h⟩ := h
  refine r_pRD hg dX7_init_17 fl_X7_15 ⟨_, rfl⟩ rfl (q13.2 _ _ (q8 _ _ (q5.2 _ _ k_this))) rfl e15 ?_
  have q16 := q_pR_kd e15
  refine r_aload_n hg 0 dX7_init_20 rfl rfl ?_
  refine r_bipush hg dX7_init_21 cb_12 ?_
  replace h := q_b3_some h; obtain ⟨a17, I18, X19, e20, h⟩ := h
  refine r_nAD hg (N := 12) dX7_init_23 q_aI (by decide +kernel) (by decide +kernel) (Nat.le_of_ble_eq_true rfl) (Nat.le_of_ble_eq_true rfl) (Nat.le_of_ble_eq_true rfl) e20 ?_
  have q21 := q_nA_kd e20
  replace h := q_b1_some h; obtain ⟨X22, e23, h⟩ := h
  refine r_pRD hg dX7_init_25 fl_X7_18 ⟨_, rfl⟩ rfl (q21.2 _ _ (q16 _ _ (q13.2 _ _ (q8 _ _ (q5.2 _ _ k_this))))) rfl e23 ?_
  have q24 := q_pR_kd e23
  refine r_aload_n hg 0 dX7_init_28 rfl rfl ?_
  refine r_bipush hg dX7_init_29 cb_12 ?_
  replace h := q_b3_some h; obtain ⟨a25, I26, X27, e28, h⟩ := h
  refine r_nBD hg (N := 12) dX7_init_31 q_aA (by decide +kernel) (by decide +kernel) (Nat.le_of_ble_eq_true rfl) (Nat.le_of_ble_eq_true rfl) (Nat.le_of_ble_eq_true rfl) e28 ?_
  have q29 := q_nB_kd e28
  replace h := q_b1_some h; obtain ⟨X30, e31, h⟩ := h
  refine r_pRD hg dX7_init_34 fl_X7_22 ⟨_, rfl⟩ rfl (q29.2 _ _ (q24 _ _ (q21.2 _ _ (q16 _ _ (q13.2 _ _ (q8 _ _ (q5.2 _ _ k_this))))))) rfl e31 ?_
  have q32 := q_pR_kd e31
  refine r_aload_n hg 0 dX7_init_37 rfl rfl ?_
  refine r_bipush hg dX7_init_38 cb_96 ?_
  replace h := q_b3_some h; obtain ⟨a33, I34, X35, e36, h⟩ := h
  refine r_nAD hg (N := 96) dX7_init_40 q_aI (by decide +kernel) (by decide +kernel) (Nat.le_of_ble_eq_true rfl) (Nat.le_of_ble_eq_true rfl) (Nat.le_of_ble_eq_true rfl) e36 ?_
  have q37 := q_nA_kd e36
  replace h := q_b1_some h; obtain ⟨X38, e39, h⟩ := h
  refine r_pRD hg dX7_init_42 fl_X7_28 ⟨_, rfl⟩ rfl (q37.2 _ _ (q32 _ _ (q29.2 _ _ (q24 _ _ (q21.2 _ _ (q16 _ _ (q13.2 _ _ (q8 _ _ (q5.2 _ _ k_this))))))))) rfl e39 ?_
  have q40 := q_pR_kd e39
  exact r_return hr dX7_init_45 ⟨Nat.le_of_ble_eq_true rfl, Nat.le_of_ble_eq_true rfl⟩ rfl (by cases h; rfl)
theorem xi_X7_init {X : qX} {this : Nat} {I : qI} {z : qI × qX} (h : f_X7_init this X I = some z) : ∀ (k : Nat) (d : Nat × Nat), q_kd X k = some d → q_kd z.2 k = some d := by
  intro k d hk
  unfold f_X7_init at h
  replace h := q_b3_some h; obtain ⟨_, _, _, e1, h⟩ := h
  replace h := q_b1_some h; obtain ⟨_, e2, h⟩ := h
  replace h := q_b3_some h; obtain ⟨_, _, _, e3, h⟩ := h
  replace h := q_b1_some h; obtain ⟨_, e4, h⟩ := h
  replace h := q_b3_some h; obtain ⟨_, _, _, e5, h⟩ := h
  replace h := q_b1_some h; obtain ⟨_, e6, h⟩ := h
  replace h := q_b3_some h; obtain ⟨_, _, _, e7, h⟩ := h
  replace h := q_b1_some h; obtain ⟨_, e8, h⟩ := h
  replace h := q_b3_some h; obtain ⟨_, _, _, e9, h⟩ := h
  replace h := q_b1_some h; obtain ⟨_, e10, h⟩ := h
  cases h
  exact (q_pR_kd e10 _ _ ((q_nA_kd e9).2 _ _ (q_pR_kd e8 _ _ ((q_nB_kd e7).2 _ _ (q_pR_kd e6 _ _ ((q_nA_kd e5).2 _ _ (q_pR_kd e4 _ _ ((q_nA_kd e3).2 _ _ (q_pR_kd e2 _ _ ((q_nA_kd e1).2 _ _ hk))))))))))
theorem dX10_init_0 : q_at cX10_init 0 (.aload_n 0) 1 1 := ⟨by decide +kernel, rfl⟩
theorem dX10_init_1 : q_at cX10_init 1 (.invokespecial 1) 3 4 := ⟨by decide +kernel, rfl⟩
theorem dX10_init_4 : q_at cX10_init 4 (.aload_n 0) 1 5 := ⟨by decide +kernel, rfl⟩
theorem dX10_init_5 : q_at cX10_init 5 (.bipush 48) 2 7 := ⟨by decide +kernel, rfl⟩
theorem dX10_init_7 : q_at cX10_init 7 (.newarray .int) 2 9 := ⟨by decide +kernel, rfl⟩
theorem dX10_init_9 : q_at cX10_init 9 (.putfield 9) 3 12 := ⟨by decide +kernel, rfl⟩
theorem dX10_init_12 : q_at cX10_init 12 (.return_) 1 13 := ⟨by decide +kernel, rfl⟩
def f_X10_init (this : Nat) (X : qX) (I : qI) : Option (qI × qX) :=
  q_b3 (q_nA 48 I X) fun a1 I2 X3 =>
  q_b1 (q_pR X3 this 0 a1) fun X6 =>
  some (I2, X6)
set_option maxRecDepth 100000 in
set_option maxHeartbeats 4000000 in
theorem s_X10_init {l : Launch} {Γ : qC} (hΓ : q_gm Γ) {X : qX} {this : Nat} (k_this : q_kd X this = some (12, 1)) {I : qI} {z : qI × qX} (h : f_X10_init this X I = some z) : q_Sem l Γ (q_rm 2 1 48) yX10_init cX10_init 1 none [.ref this] I X (none, z.1, z.2) := by
  refine q_met (by decide) (Nat.le_of_ble_eq_true rfl) (fun g hg hr => ?_)
  unfold f_X10_init at h
  show g 0 0 0 [(0, .ref this)] [] I X
  refine r_aload_n hg 0 dX10_init_0 rfl rfl ?_
  refine r_objInit hg dX10_init_1 ob_X10_1 ⟨Nat.le_of_ble_eq_true rfl, Nat.le_of_ble_eq_true rfl⟩ ?_
  refine r_aload_n hg 0 dX10_init_4 rfl rfl ?_
  refine r_bipush hg dX10_init_5 cb_48 ?_
  replace h := q_b3_some h; obtain ⟨a1, I2, X3, e4, h⟩ := h
  refine r_nAD hg (N := 48) dX10_init_7 q_aI (by decide +kernel) (by decide +kernel) (Nat.le_of_ble_eq_true rfl) (Nat.le_of_ble_eq_true rfl) (Nat.le_of_ble_eq_true rfl) e4 ?_
  have q5 := q_nA_kd e4
  replace h := q_b1_some h; obtain ⟨X6, e7, h⟩ := h
  refine r_pRD hg dX10_init_9 fl_X10_9 ⟨_, rfl⟩ rfl (q5.2 _ _ k_this) rfl e7 ?_
  have q8 := q_pR_kd e7
  exact r_return hr dX10_init_12 ⟨Nat.le_of_ble_eq_true rfl, Nat.le_of_ble_eq_true rfl⟩ rfl (by cases h; rfl)
theorem xi_X10_init {X : qX} {this : Nat} {I : qI} {z : qI × qX} (h : f_X10_init this X I = some z) : ∀ (k : Nat) (d : Nat × Nat), q_kd X k = some d → q_kd z.2 k = some d := by
  intro k d hk
  unfold f_X10_init at h
  replace h := q_b3_some h; obtain ⟨_, _, _, e1, h⟩ := h
  replace h := q_b1_some h; obtain ⟨_, e2, h⟩ := h
  cases h
  exact (q_pR_kd e2 _ _ ((q_nA_kd e1).2 _ _ hk))
theorem dX6_init_0 : q_at cX6_init 0 (.aload_n 0) 1 1 := ⟨by decide +kernel, rfl⟩
theorem dX6_init_1 : q_at cX6_init 1 (.invokespecial 3) 3 4 := ⟨by decide +kernel, rfl⟩
theorem dX6_init_4 : q_at cX6_init 4 (.aload_n 0) 1 5 := ⟨by decide +kernel, rfl⟩
theorem dX6_init_5 : q_at cX6_init 5 (.bipush 16) 2 7 := ⟨by decide +kernel, rfl⟩
theorem dX6_init_7 : q_at cX6_init 7 (.newarray .int) 2 9 := ⟨by decide +kernel, rfl⟩
theorem dX6_init_9 : q_at cX6_init 9 (.putfield 11) 3 12 := ⟨by decide +kernel, rfl⟩
theorem dX6_init_12 : q_at cX6_init 12 (.aload_n 0) 1 13 := ⟨by decide +kernel, rfl⟩
theorem dX6_init_13 : q_at cX6_init 13 (.bipush 16) 2 15 := ⟨by decide +kernel, rfl⟩
theorem dX6_init_15 : q_at cX6_init 15 (.newarray .int) 2 17 := ⟨by decide +kernel, rfl⟩
theorem dX6_init_17 : q_at cX6_init 17 (.putfield 15) 3 20 := ⟨by decide +kernel, rfl⟩
theorem dX6_init_20 : q_at cX6_init 20 (.aload_n 0) 1 21 := ⟨by decide +kernel, rfl⟩
theorem dX6_init_21 : q_at cX6_init 21 (.bipush 16) 2 23 := ⟨by decide +kernel, rfl⟩
theorem dX6_init_23 : q_at cX6_init 23 (.newarray .int) 2 25 := ⟨by decide +kernel, rfl⟩
theorem dX6_init_25 : q_at cX6_init 25 (.putfield 18) 3 28 := ⟨by decide +kernel, rfl⟩
theorem dX6_init_28 : q_at cX6_init 28 (.aload_n 0) 1 29 := ⟨by decide +kernel, rfl⟩
theorem dX6_init_29 : q_at cX6_init 29 (.bipush 28) 2 31 := ⟨by decide +kernel, rfl⟩
theorem dX6_init_31 : q_at cX6_init 31 (.newarray .int) 2 33 := ⟨by decide +kernel, rfl⟩
theorem dX6_init_33 : q_at cX6_init 33 (.putfield 21) 3 36 := ⟨by decide +kernel, rfl⟩
theorem dX6_init_36 : q_at cX6_init 36 (.aload_n 0) 1 37 := ⟨by decide +kernel, rfl⟩
theorem dX6_init_37 : q_at cX6_init 37 (.bipush 8) 2 39 := ⟨by decide +kernel, rfl⟩
theorem dX6_init_39 : q_at cX6_init 39 (.newarray .int) 2 41 := ⟨by decide +kernel, rfl⟩
theorem dX6_init_41 : q_at cX6_init 41 (.putfield 24) 3 44 := ⟨by decide +kernel, rfl⟩
theorem dX6_init_44 : q_at cX6_init 44 (.aload_n 0) 1 45 := ⟨by decide +kernel, rfl⟩
theorem dX6_init_45 : q_at cX6_init 45 (.bipush 7) 2 47 := ⟨by decide +kernel, rfl⟩
theorem dX6_init_47 : q_at cX6_init 47 (.newarray .int) 2 49 := ⟨by decide +kernel, rfl⟩
theorem dX6_init_49 : q_at cX6_init 49 (.putfield 27) 3 52 := ⟨by decide +kernel, rfl⟩
theorem dX6_init_52 : q_at cX6_init 52 (.aload_n 0) 1 53 := ⟨by decide +kernel, rfl⟩
theorem dX6_init_53 : q_at cX6_init 53 (.bipush 7) 2 55 := ⟨by decide +kernel, rfl⟩
theorem dX6_init_55 : q_at cX6_init 55 (.newarray .int) 2 57 := ⟨by decide +kernel, rfl⟩
theorem dX6_init_57 : q_at cX6_init 57 (.putfield 30) 3 60 := ⟨by decide +kernel, rfl⟩
theorem dX6_init_60 : q_at cX6_init 60 (.return_) 1 61 := ⟨by decide +kernel, rfl⟩
def f_X6_init (this : Nat) (X : qX) (I : qI) : Option (qI × qX) :=
  q_b3 (q_nA 16 I X) fun a1 I2 X3 =>
  q_b1 (q_pR X3 this 0 a1) fun X6 =>
  q_b3 (q_nA 16 I2 X6) fun a9 I10 X11 =>
  q_b1 (q_pR X11 this 1 a9) fun X14 =>
  q_b3 (q_nA 16 I10 X14) fun a17 I18 X19 =>
  q_b1 (q_pR X19 this 2 a17) fun X22 =>
  q_b3 (q_nA 28 I18 X22) fun a25 I26 X27 =>
  q_b1 (q_pR X27 this 3 a25) fun X30 =>
  q_b3 (q_nA 8 I26 X30) fun a33 I34 X35 =>
  q_b1 (q_pR X35 this 4 a33) fun X38 =>
  q_b3 (q_nA 7 I34 X38) fun a41 I42 X43 =>
  q_b1 (q_pR X43 this 5 a41) fun X46 =>
  q_b3 (q_nA 7 I42 X46) fun a49 I50 X51 =>
  q_b1 (q_pR X51 this 6 a49) fun X54 =>
  some (I50, X54)
set_option maxRecDepth 100000 in
set_option maxHeartbeats 4000000 in
theorem s_X6_init {l : Launch} {Γ : qC} (hΓ : q_gm Γ) {X : qX} {this : Nat} (k_this : q_kd X this = some (8, 9)) {I : qI} {z : qI × qX} (h : f_X6_init this X I = some z) : q_Sem l Γ (q_rm 2 7 98) yX6_init cX6_init 1 none [.ref this] I X (none, z.1, z.2) := by
  refine q_met (by decide) (Nat.le_of_ble_eq_true rfl) (fun g hg hr => ?_)
  unfold f_X6_init at h
  show g 0 0 0 [(0, .ref this)] [] I X
  refine r_aload_n hg 0 dX6_init_0 rfl rfl ?_
  refine r_objInit hg dX6_init_1 ob_X6_3 ⟨Nat.le_of_ble_eq_true rfl, Nat.le_of_ble_eq_true rfl⟩ ?_
  refine r_aload_n hg 0 dX6_init_4 rfl rfl ?_
  refine r_bipush hg dX6_init_5 cb_16 ?_
  replace h := q_b3_some h; obtain ⟨a1, I2, X3, e4, h⟩ := h
  refine r_nAD hg (N := 16) dX6_init_7 q_aI (by decide +kernel) (by decide +kernel) (Nat.le_of_ble_eq_true rfl) (Nat.le_of_ble_eq_true rfl) (Nat.le_of_ble_eq_true rfl) e4 ?_
  have q5 := q_nA_kd e4
  replace h := q_b1_some h; obtain ⟨X6, e7, h⟩ := h
  refine r_pRD hg dX6_init_9 fl_X6_11 ⟨_, rfl⟩ rfl (q5.2 _ _ k_this) rfl e7 ?_
  have q8 := q_pR_kd e7
  refine r_aload_n hg 0 dX6_init_12 rfl rfl ?_
  refine r_bipush hg dX6_init_13 cb_16 ?_
  replace h := q_b3_some h; obtain ⟨a9, I10, X11, e12, h⟩ := h
  refine r_nAD hg (N := 16) dX6_init_15 q_aI (by decide +kernel) (by decide +kernel) (Nat.le_of_ble_eq_true rfl) (Nat.le_of_ble_eq_true rfl) (Nat.le_of_ble_eq_true rfl) e12 ?_
  have q13 := q_nA_kd e12
  replace h := q_b1_some h; obtain ⟨X14, e15, h⟩ := h
  refine r_pRD hg dX6_init_17 fl_X6_15 ⟨_, rfl⟩ rfl (q13.2 _ _ (q8 _ _ (q5.2 _ _ k_this))) rfl e15 ?_
  have q16 := q_pR_kd e15
  refine r_aload_n hg 0 dX6_init_20 rfl rfl ?_
  refine r_bipush hg dX6_init_21 cb_16 ?_
  replace h := q_b3_some h; obtain ⟨a17, I18, X19, e20, h⟩ := h
  refine r_nAD hg (N := 16) dX6_init_23 q_aI (by decide +kernel) (by decide +kernel) (Nat.le_of_ble_eq_true rfl) (Nat.le_of_ble_eq_true rfl) (Nat.le_of_ble_eq_true rfl) e20 ?_
  have q21 := q_nA_kd e20
  replace h := q_b1_some h; obtain ⟨X22, e23, h⟩ := h
  refine r_pRD hg dX6_init_25 fl_X6_18 ⟨_, rfl⟩ rfl (q21.2 _ _ (q16 _ _ (q13.2 _ _ (q8 _ _ (q5.2 _ _ k_this))))) rfl e23 ?_
  have q24 := q_pR_kd e23
  refine r_aload_n hg 0 dX6_init_28 rfl rfl ?_
  refine r_bipush hg dX6_init_29 cb_28 ?_
  replace h := q_b3_some h; obtain ⟨a25, I26, X27, e28, h⟩ := h
  refine r_nAD hg (N := 28) dX6_init_31 q_aI (by decide +kernel) (by decide +kernel) (Nat.le_of_ble_eq_true rfl) (Nat.le_of_ble_eq_true rfl) (Nat.le_of_ble_eq_true rfl) e28 ?_
  have q29 := q_nA_kd e28
  replace h := q_b1_some h; obtain ⟨X30, e31, h⟩ := h
  refine r_pRD hg dX6_init_33 fl_X6_21 ⟨_, rfl⟩ rfl (q29.2 _ _ (q24 _ _ (q21.2 _ _ (q16 _ _ (q13.2 _ _ (q8 _ _ (q5.2 _ _ k_this))))))) rfl e31 ?_
  have q32 := q_pR_kd e31
  refine r_aload_n hg 0 dX6_init_36 rfl rfl ?_
  refine r_bipush hg dX6_init_37 cb_8 ?_
  replace h := q_b3_some h; obtain ⟨a33, I34, X35, e36, h⟩ := h
  refine r_nAD hg (N := 8) dX6_init_39 q_aI (by decide +kernel) (by decide +kernel) (Nat.le_of_ble_eq_true rfl) (Nat.le_of_ble_eq_true rfl) (Nat.le_of_ble_eq_true rfl) e36 ?_
  have q37 := q_nA_kd e36
  replace h := q_b1_some h; obtain ⟨X38, e39, h⟩ := h
  refine r_pRD hg dX6_init_41 fl_X6_24 ⟨_, rfl⟩ rfl (q37.2 _ _ (q32 _ _ (q29.2 _ _ (q24 _ _ (q21.2 _ _ (q16 _ _ (q13.2 _ _ (q8 _ _ (q5.2 _ _ k_this))))))))) rfl e39 ?_
  have q40 := q_pR_kd e39
  refine r_aload_n hg 0 dX6_init_44 rfl rfl ?_
  refine r_bipush hg dX6_init_45 cb_7 ?_
  replace h := q_b3_some h; obtain ⟨a41, I42, X43, e44, h⟩ := h
  refine r_nAD hg (N := 7) dX6_init_47 q_aI (by decide +kernel) (by decide +kernel) (Nat.le_of_ble_eq_true rfl) (Nat.le_of_ble_eq_true rfl) (Nat.le_of_ble_eq_true rfl) e44 ?_
  have q45 := q_nA_kd e44
  replace h := q_b1_some h; obtain ⟨X46, e47, h⟩ := h
  refine r_pRD hg dX6_init_49 fl_X6_27 ⟨_, rfl⟩ rfl (q45.2 _ _ (q40 _ _ (q37.2 _ _ (q32 _ _ (q29.2 _ _ (q24 _ _ (q21.2 _ _ (q16 _ _ (q13.2 _ _ (q8 _ _ (q5.2 _ _ k_this))))))))))) rfl e47 ?_
  have q48 := q_pR_kd e47
  refine r_aload_n hg 0 dX6_init_52 rfl rfl ?_
  refine r_bipush hg dX6_init_53 cb_7 ?_
  replace h := q_b3_some h; obtain ⟨a49, I50, X51, e52, h⟩ := h
  refine r_nAD hg (N := 7) dX6_init_55 q_aI (by decide +kernel) (by decide +kernel) (Nat.le_of_ble_eq_true rfl) (Nat.le_of_ble_eq_true rfl) (Nat.le_of_ble_eq_true rfl) e52 ?_
  have q53 := q_nA_kd e52
  replace h := q_b1_some h; obtain ⟨X54, e55, h⟩ := h
  refine r_pRD hg dX6_init_57 fl_X6_30 ⟨_, rfl⟩ rfl (q53.2 _ _ (q48 _ _ (q45.2 _ _ (q40 _ _ (q37.2 _ _ (q32 _ _ (q29.2 _ _ (q24 _ _ (q21.2 _ _ (q16 _ _ (q13.2 _ _ (q8 _ _ (q5.2 _ _ k_this))))))))))))) rfl e55 ?_
  have q56 := q_pR_kd e55
  exact r_return hr dX6_init_60 ⟨Nat.le_of_ble_eq_true rfl, Nat.le_of_ble_eq_true rfl⟩ rfl (by cases h; rfl)
theorem xi_X6_init {X : qX} {this : Nat} {I : qI} {z : qI × qX} (h : f_X6_init this X I = some z) : ∀ (k : Nat) (d : Nat × Nat), q_kd X k = some d → q_kd z.2 k = some d := by
  intro k d hk
  unfold f_X6_init at h
  replace h := q_b3_some h; obtain ⟨_, _, _, e1, h⟩ := h
  replace h := q_b1_some h; obtain ⟨_, e2, h⟩ := h
  replace h := q_b3_some h; obtain ⟨_, _, _, e3, h⟩ := h
  replace h := q_b1_some h; obtain ⟨_, e4, h⟩ := h
  replace h := q_b3_some h; obtain ⟨_, _, _, e5, h⟩ := h
  replace h := q_b1_some h; obtain ⟨_, e6, h⟩ := h
  replace h := q_b3_some h; obtain ⟨_, _, _, e7, h⟩ := h
  replace h := q_b1_some h; obtain ⟨_, e8, h⟩ := h
  replace h := q_b3_some h; obtain ⟨_, _, _, e9, h⟩ := h
  replace h := q_b1_some h; obtain ⟨_, e10, h⟩ := h
  replace h := q_b3_some h; obtain ⟨_, _, _, e11, h⟩ := h
  replace h := q_b1_some h; obtain ⟨_, e12, h⟩ := h
  replace h := q_b3_some h; obtain ⟨_, _, _, e13, h⟩ := h
  replace h := q_b1_some h; obtain ⟨_, e14, h⟩ := h
  cases h
  exact (q_pR_kd e14 _ _ ((q_nA_kd e13).2 _ _ (q_pR_kd e12 _ _ ((q_nA_kd e11).2 _ _ (q_pR_kd e10 _ _ ((q_nA_kd e9).2 _ _ (q_pR_kd e8 _ _ ((q_nA_kd e7).2 _ _ (q_pR_kd e6 _ _ ((q_nA_kd e5).2 _ _ (q_pR_kd e4 _ _ ((q_nA_kd e3).2 _ _ (q_pR_kd e2 _ _ ((q_nA_kd e1).2 _ _ hk))))))))))))))
theorem dX4_init_0 : q_at cX4_init 0 (.aload_n 0) 1 1 := ⟨by decide +kernel, rfl⟩
theorem dX4_init_1 : q_at cX4_init 1 (.invokespecial 3) 3 4 := ⟨by decide +kernel, rfl⟩
theorem dX4_init_4 : q_at cX4_init 4 (.aload_n 0) 1 5 := ⟨by decide +kernel, rfl⟩
theorem dX4_init_5 : q_at cX4_init 5 (.bipush 8) 2 7 := ⟨by decide +kernel, rfl⟩
theorem dX4_init_7 : q_at cX4_init 7 (.newarray .int) 2 9 := ⟨by decide +kernel, rfl⟩
theorem dX4_init_9 : q_at cX4_init 9 (.putfield 11) 3 12 := ⟨by decide +kernel, rfl⟩
theorem dX4_init_12 : q_at cX4_init 12 (.aload_n 0) 1 13 := ⟨by decide +kernel, rfl⟩
theorem dX4_init_13 : q_at cX4_init 13 (.bipush 8) 2 15 := ⟨by decide +kernel, rfl⟩
theorem dX4_init_15 : q_at cX4_init 15 (.newarray .int) 2 17 := ⟨by decide +kernel, rfl⟩
theorem dX4_init_17 : q_at cX4_init 17 (.putfield 15) 3 20 := ⟨by decide +kernel, rfl⟩
theorem dX4_init_20 : q_at cX4_init 20 (.aload_n 0) 1 21 := ⟨by decide +kernel, rfl⟩
theorem dX4_init_21 : q_at cX4_init 21 (.bipush 8) 2 23 := ⟨by decide +kernel, rfl⟩
theorem dX4_init_23 : q_at cX4_init 23 (.newarray .int) 2 25 := ⟨by decide +kernel, rfl⟩
theorem dX4_init_25 : q_at cX4_init 25 (.putfield 18) 3 28 := ⟨by decide +kernel, rfl⟩
theorem dX4_init_28 : q_at cX4_init 28 (.aload_n 0) 1 29 := ⟨by decide +kernel, rfl⟩
theorem dX4_init_29 : q_at cX4_init 29 (.bipush 8) 2 31 := ⟨by decide +kernel, rfl⟩
theorem dX4_init_31 : q_at cX4_init 31 (.newarray .int) 2 33 := ⟨by decide +kernel, rfl⟩
theorem dX4_init_33 : q_at cX4_init 33 (.putfield 21) 3 36 := ⟨by decide +kernel, rfl⟩
theorem dX4_init_36 : q_at cX4_init 36 (.aload_n 0) 1 37 := ⟨by decide +kernel, rfl⟩
theorem dX4_init_37 : q_at cX4_init 37 (.bipush 8) 2 39 := ⟨by decide +kernel, rfl⟩
theorem dX4_init_39 : q_at cX4_init 39 (.newarray .int) 2 41 := ⟨by decide +kernel, rfl⟩
theorem dX4_init_41 : q_at cX4_init 41 (.putfield 24) 3 44 := ⟨by decide +kernel, rfl⟩
theorem dX4_init_44 : q_at cX4_init 44 (.aload_n 0) 1 45 := ⟨by decide +kernel, rfl⟩
theorem dX4_init_45 : q_at cX4_init 45 (.bipush 8) 2 47 := ⟨by decide +kernel, rfl⟩
theorem dX4_init_47 : q_at cX4_init 47 (.newarray .int) 2 49 := ⟨by decide +kernel, rfl⟩
theorem dX4_init_49 : q_at cX4_init 49 (.putfield 27) 3 52 := ⟨by decide +kernel, rfl⟩
theorem dX4_init_52 : q_at cX4_init 52 (.aload_n 0) 1 53 := ⟨by decide +kernel, rfl⟩
theorem dX4_init_53 : q_at cX4_init 53 (.bipush 8) 2 55 := ⟨by decide +kernel, rfl⟩
theorem dX4_init_55 : q_at cX4_init 55 (.newarray .int) 2 57 := ⟨by decide +kernel, rfl⟩
theorem dX4_init_57 : q_at cX4_init 57 (.putfield 30) 3 60 := ⟨by decide +kernel, rfl⟩
theorem dX4_init_60 : q_at cX4_init 60 (.return_) 1 61 := ⟨by decide +kernel, rfl⟩
def f_X4_init (this : Nat) (X : qX) (I : qI) : Option (qI × qX) :=
  q_b3 (q_nA 8 I X) fun a1 I2 X3 =>
  q_b1 (q_pR X3 this 0 a1) fun X6 =>
  q_b3 (q_nA 8 I2 X6) fun a9 I10 X11 =>
  q_b1 (q_pR X11 this 1 a9) fun X14 =>
  q_b3 (q_nA 8 I10 X14) fun a17 I18 X19 =>
  q_b1 (q_pR X19 this 2 a17) fun X22 =>
  q_b3 (q_nA 8 I18 X22) fun a25 I26 X27 =>
  q_b1 (q_pR X27 this 3 a25) fun X30 =>
  q_b3 (q_nA 8 I26 X30) fun a33 I34 X35 =>
  q_b1 (q_pR X35 this 4 a33) fun X38 =>
  q_b3 (q_nA 8 I34 X38) fun a41 I42 X43 =>
  q_b1 (q_pR X43 this 5 a41) fun X46 =>
  q_b3 (q_nA 8 I42 X46) fun a49 I50 X51 =>
  q_b1 (q_pR X51 this 6 a49) fun X54 =>
  some (I50, X54)
set_option maxRecDepth 100000 in
set_option maxHeartbeats 4000000 in
theorem s_X4_init {l : Launch} {Γ : qC} (hΓ : q_gm Γ) {X : qX} {this : Nat} (k_this : q_kd X this = some (6, 10)) {I : qI} {z : qI × qX} (h : f_X4_init this X I = some z) : q_Sem l Γ (q_rm 2 7 56) yX4_init cX4_init 1 none [.ref this] I X (none, z.1, z.2) := by
  refine q_met (by decide) (Nat.le_of_ble_eq_true rfl) (fun g hg hr => ?_)
  unfold f_X4_init at h
  show g 0 0 0 [(0, .ref this)] [] I X
  refine r_aload_n hg 0 dX4_init_0 rfl rfl ?_
  refine r_objInit hg dX4_init_1 ob_X4_3 ⟨Nat.le_of_ble_eq_true rfl, Nat.le_of_ble_eq_true rfl⟩ ?_
  refine r_aload_n hg 0 dX4_init_4 rfl rfl ?_
  refine r_bipush hg dX4_init_5 cb_8 ?_
  replace h := q_b3_some h; obtain ⟨a1, I2, X3, e4, h⟩ := h
  refine r_nAD hg (N := 8) dX4_init_7 q_aI (by decide +kernel) (by decide +kernel) (Nat.le_of_ble_eq_true rfl) (Nat.le_of_ble_eq_true rfl) (Nat.le_of_ble_eq_true rfl) e4 ?_
  have q5 := q_nA_kd e4
  replace h := q_b1_some h; obtain ⟨X6, e7, h⟩ := h
  refine r_pRD hg dX4_init_9 fl_X4_11 ⟨_, rfl⟩ rfl (q5.2 _ _ k_this) rfl e7 ?_
  have q8 := q_pR_kd e7
  refine r_aload_n hg 0 dX4_init_12 rfl rfl ?_
  refine r_bipush hg dX4_init_13 cb_8 ?_
  replace h := q_b3_some h; obtain ⟨a9, I10, X11, e12, h⟩ := h
  refine r_nAD hg (N := 8) dX4_init_15 q_aI (by decide +kernel) (by decide +kernel) (Nat.le_of_ble_eq_true rfl) (Nat.le_of_ble_eq_true rfl) (Nat.le_of_ble_eq_true rfl) e12 ?_
  have q13 := q_nA_kd e12
  replace h := q_b1_some h; obtain ⟨X14, e15, h⟩ := h
  refine r_pRD hg dX4_init_17 fl_X4_15 ⟨_, rfl⟩ rfl (q13.2 _ _ (q8 _ _ (q5.2 _ _ k_this))) rfl e15 ?_
  have q16 := q_pR_kd e15
  refine r_aload_n hg 0 dX4_init_20 rfl rfl ?_
  refine r_bipush hg dX4_init_21 cb_8 ?_
  replace h := q_b3_some h; obtain ⟨a17, I18, X19, e20, h⟩ := h
  refine r_nAD hg (N := 8) dX4_init_23 q_aI (by decide +kernel) (by decide +kernel) (Nat.le_of_ble_eq_true rfl) (Nat.le_of_ble_eq_true rfl) (Nat.le_of_ble_eq_true rfl) e20 ?_
  have q21 := q_nA_kd e20
  replace h := q_b1_some h; obtain ⟨X22, e23, h⟩ := h
  refine r_pRD hg dX4_init_25 fl_X4_18 ⟨_, rfl⟩ rfl (q21.2 _ _ (q16 _ _ (q13.2 _ _ (q8 _ _ (q5.2 _ _ k_this))))) rfl e23 ?_
  have q24 := q_pR_kd e23
  refine r_aload_n hg 0 dX4_init_28 rfl rfl ?_
  refine r_bipush hg dX4_init_29 cb_8 ?_
  replace h := q_b3_some h; obtain ⟨a25, I26, X27, e28, h⟩ := h
  refine r_nAD hg (N := 8) dX4_init_31 q_aI (by decide +kernel) (by decide +kernel) (Nat.le_of_ble_eq_true rfl) (Nat.le_of_ble_eq_true rfl) (Nat.le_of_ble_eq_true rfl) e28 ?_
  have q29 := q_nA_kd e28
  replace h := q_b1_some h; obtain ⟨X30, e31, h⟩ := h
  refine r_pRD hg dX4_init_33 fl_X4_21 ⟨_, rfl⟩ rfl (q29.2 _ _ (q24 _ _ (q21.2 _ _ (q16 _ _ (q13.2 _ _ (q8 _ _ (q5.2 _ _ k_this))))))) rfl e31 ?_
  have q32 := q_pR_kd e31
  refine r_aload_n hg 0 dX4_init_36 rfl rfl ?_
  refine r_bipush hg dX4_init_37 cb_8 ?_
  replace h := q_b3_some h; obtain ⟨a33, I34, X35, e36, h⟩ := h
  refine r_nAD hg (N := 8) dX4_init_39 q_aI (by decide +kernel) (by decide +kernel) (Nat.le_of_ble_eq_true rfl) (Nat.le_of_ble_eq_true rfl) (Nat.le_of_ble_eq_true rfl) e36 ?_
  have q37 := q_nA_kd e36
  replace h := q_b1_some h; obtain ⟨X38, e39, h⟩ := h
  refine r_pRD hg dX4_init_41 fl_X4_24 ⟨_, rfl⟩ rfl (q37.2 _ _ (q32 _ _ (q29.2 _ _ (q24 _ _ (q21.2 _ _ (q16 _ _ (q13.2 _ _ (q8 _ _ (q5.2 _ _ k_this))))))))) rfl e39 ?_
  have q40 := q_pR_kd e39
  refine r_aload_n hg 0 dX4_init_44 rfl rfl ?_
  refine r_bipush hg dX4_init_45 cb_8 ?_
  replace h := q_b3_some h; obtain ⟨a41, I42, X43, e44, h⟩ := h
  refine r_nAD hg (N := 8) dX4_init_47 q_aI (by decide +kernel) (by decide +kernel) (Nat.le_of_ble_eq_true rfl) (Nat.le_of_ble_eq_true rfl) (Nat.le_of_ble_eq_true rfl) e44 ?_
  have q45 := q_nA_kd e44
  replace h := q_b1_some h; obtain ⟨X46, e47, h⟩ := h
  refine r_pRD hg dX4_init_49 fl_X4_27 ⟨_, rfl⟩ rfl (q45.2 _ _ (q40 _ _ (q37.2 _ _ (q32 _ _ (q29.2 _ _ (q24 _ _ (q21.2 _ _ (q16 _ _ (q13.2 _ _ (q8 _ _ (q5.2 _ _ k_this))))))))))) rfl e47 ?_
  have q48 := q_pR_kd e47
  refine r_aload_n hg 0 dX4_init_52 rfl rfl ?_
  refine r_bipush hg dX4_init_53 cb_8 ?_
  replace h := q_b3_some h; obtain ⟨a49, I50, X51, e52, h⟩ := h
  refine r_nAD hg (N := 8) dX4_init_55 q_aI (by decide +kernel) (by decide +kernel) (Nat.le_of_ble_eq_true rfl) (Nat.le_of_ble_eq_true rfl) (Nat.le_of_ble_eq_true rfl) e52 ?_
  have q53 := q_nA_kd e52
  replace h := q_b1_some h; obtain ⟨X54, e55, h⟩ := h
  refine r_pRD hg dX4_init_57 fl_X4_30 ⟨_, rfl⟩ rfl (q53.2 _ _ (q48 _ _ (q45.2 _ _ (q40 _ _ (q37.2 _ _ (q32 _ _ (q29.2 _ _ (q24 _ _ (q21.2 _ _ (q16 _ _ (q13.2 _ _ (q8 _ _ (q5.2 _ _ k_this))))))))))))) rfl e55 ?_
  have q56 := q_pR_kd e55
  exact r_return hr dX4_init_60 ⟨Nat.le_of_ble_eq_true rfl, Nat.le_of_ble_eq_true rfl⟩ rfl (by cases h; rfl)
theorem xi_X4_init {X : qX} {this : Nat} {I : qI} {z : qI × qX} (h : f_X4_init this X I = some z) : ∀ (k : Nat) (d : Nat × Nat), q_kd X k = some d → q_kd z.2 k = some d := by
  intro k d hk
  unfold f_X4_init at h
  replace h := q_b3_some h; obtain ⟨_, _, _, e1, h⟩ := h
  replace h := q_b1_some h; obtain ⟨_, e2, h⟩ := h
  replace h := q_b3_some h; obtain ⟨_, _, _, e3, h⟩ := h
  replace h := q_b1_some h; obtain ⟨_, e4, h⟩ := h
  replace h := q_b3_some h; obtain ⟨_, _, _, e5, h⟩ := h
  replace h := q_b1_some h; obtain ⟨_, e6, h⟩ := h
  replace h := q_b3_some h; obtain ⟨_, _, _, e7, h⟩ := h
  replace h := q_b1_some h; obtain ⟨_, e8, h⟩ := h
  replace h := q_b3_some h; obtain ⟨_, _, _, e9, h⟩ := h
  replace h := q_b1_some h; obtain ⟨_, e10, h⟩ := h
  replace h := q_b3_some h; obtain ⟨_, _, _, e11, h⟩ := h
  replace h := q_b1_some h; obtain ⟨_, e12, h⟩ := h
  replace h := q_b3_some h; obtain ⟨_, _, _, e13, h⟩ := h
  replace h := q_b1_some h; obtain ⟨_, e14, h⟩ := h
  cases h
  exact (q_pR_kd e14 _ _ ((q_nA_kd e13).2 _ _ (q_pR_kd e12 _ _ ((q_nA_kd e11).2 _ _ (q_pR_kd e10 _ _ ((q_nA_kd e9).2 _ _ (q_pR_kd e8 _ _ ((q_nA_kd e7).2 _ _ (q_pR_kd e6 _ _ ((q_nA_kd e5).2 _ _ (q_pR_kd e4 _ _ ((q_nA_kd e3).2 _ _ (q_pR_kd e2 _ _ ((q_nA_kd e1).2 _ _ hk))))))))))))))
theorem dX5_init_0 : q_at cX5_init 0 (.aload_n 0) 1 1 := ⟨by decide +kernel, rfl⟩
theorem dX5_init_1 : q_at cX5_init 1 (.invokespecial 1) 3 4 := ⟨by decide +kernel, rfl⟩
theorem dX5_init_4 : q_at cX5_init 4 (.aload_n 0) 1 5 := ⟨by decide +kernel, rfl⟩
theorem dX5_init_5 : q_at cX5_init 5 (.bipush 96) 2 7 := ⟨by decide +kernel, rfl⟩
theorem dX5_init_7 : q_at cX5_init 7 (.newarray .int) 2 9 := ⟨by decide +kernel, rfl⟩
theorem dX5_init_9 : q_at cX5_init 9 (.putfield 9) 3 12 := ⟨by decide +kernel, rfl⟩
theorem dX5_init_12 : q_at cX5_init 12 (.aload_n 0) 1 13 := ⟨by decide +kernel, rfl⟩
theorem dX5_init_13 : q_at cX5_init 13 (.bipush 96) 2 15 := ⟨by decide +kernel, rfl⟩
theorem dX5_init_15 : q_at cX5_init 15 (.newarray .int) 2 17 := ⟨by decide +kernel, rfl⟩
theorem dX5_init_17 : q_at cX5_init 17 (.putfield 13) 3 20 := ⟨by decide +kernel, rfl⟩
theorem dX5_init_20 : q_at cX5_init 20 (.return_) 1 21 := ⟨by decide +kernel, rfl⟩
def f_X5_init (this : Nat) (X : qX) (I : qI) : Option (qI × qX) :=
  q_b3 (q_nA 96 I X) fun a1 I2 X3 =>
  q_b1 (q_pR X3 this 0 a1) fun X6 =>
  q_b3 (q_nA 96 I2 X6) fun a9 I10 X11 =>
  q_b1 (q_pR X11 this 1 a9) fun X14 =>
  some (I10, X14)
set_option maxRecDepth 100000 in
set_option maxHeartbeats 4000000 in
theorem s_X5_init {l : Launch} {Γ : qC} (hΓ : q_gm Γ) {X : qX} {this : Nat} (k_this : q_kd X this = some (7, 9)) {I : qI} {z : qI × qX} (h : f_X5_init this X I = some z) : q_Sem l Γ (q_rm 2 2 192) yX5_init cX5_init 1 none [.ref this] I X (none, z.1, z.2) := by
  refine q_met (by decide) (Nat.le_of_ble_eq_true rfl) (fun g hg hr => ?_)
  unfold f_X5_init at h
  show g 0 0 0 [(0, .ref this)] [] I X
  refine r_aload_n hg 0 dX5_init_0 rfl rfl ?_
  refine r_objInit hg dX5_init_1 ob_X5_1 ⟨Nat.le_of_ble_eq_true rfl, Nat.le_of_ble_eq_true rfl⟩ ?_
  refine r_aload_n hg 0 dX5_init_4 rfl rfl ?_
  refine r_bipush hg dX5_init_5 cb_96 ?_
  replace h := q_b3_some h; obtain ⟨a1, I2, X3, e4, h⟩ := h
  refine r_nAD hg (N := 96) dX5_init_7 q_aI (by decide +kernel) (by decide +kernel) (Nat.le_of_ble_eq_true rfl) (Nat.le_of_ble_eq_true rfl) (Nat.le_of_ble_eq_true rfl) e4 ?_
  have q5 := q_nA_kd e4
  replace h := q_b1_some h; obtain ⟨X6, e7, h⟩ := h
  refine r_pRD hg dX5_init_9 fl_X5_9 ⟨_, rfl⟩ rfl (q5.2 _ _ k_this) rfl e7 ?_
  have q8 := q_pR_kd e7
  refine r_aload_n hg 0 dX5_init_12 rfl rfl ?_
  refine r_bipush hg dX5_init_13 cb_96 ?_
  replace h := q_b3_some h; obtain ⟨a9, I10, X11, e12, h⟩ := h
  refine r_nAD hg (N := 96) dX5_init_15 q_aI (by decide +kernel) (by decide +kernel) (Nat.le_of_ble_eq_true rfl) (Nat.le_of_ble_eq_true rfl) (Nat.le_of_ble_eq_true rfl) e12 ?_
  have q13 := q_nA_kd e12
  replace h := q_b1_some h; obtain ⟨X14, e15, h⟩ := h
  refine r_pRD hg dX5_init_17 fl_X5_13 ⟨_, rfl⟩ rfl (q13.2 _ _ (q8 _ _ (q5.2 _ _ k_this))) rfl e15 ?_
  have q16 := q_pR_kd e15
  exact r_return hr dX5_init_20 ⟨Nat.le_of_ble_eq_true rfl, Nat.le_of_ble_eq_true rfl⟩ rfl (by cases h; rfl)
theorem xi_X5_init {X : qX} {this : Nat} {I : qI} {z : qI × qX} (h : f_X5_init this X I = some z) : ∀ (k : Nat) (d : Nat × Nat), q_kd X k = some d → q_kd z.2 k = some d := by
  intro k d hk
  unfold f_X5_init at h
  replace h := q_b3_some h; obtain ⟨_, _, _, e1, h⟩ := h
  replace h := q_b1_some h; obtain ⟨_, e2, h⟩ := h
  replace h := q_b3_some h; obtain ⟨_, _, _, e3, h⟩ := h
  replace h := q_b1_some h; obtain ⟨_, e4, h⟩ := h
  cases h
  exact (q_pR_kd e4 _ _ ((q_nA_kd e3).2 _ _ (q_pR_kd e2 _ _ ((q_nA_kd e1).2 _ _ hk))))
theorem dX0_init_0 : q_at cX0_init 0 (.aload_n 0) 1 1 := ⟨by decide +kernel, rfl⟩
theorem dX0_init_1 : q_at cX0_init 1 (.invokespecial 3) 3 4 := ⟨by decide +kernel, rfl⟩
theorem dX0_init_4 : q_at cX0_init 4 (.aload_n 0) 1 5 := ⟨by decide +kernel, rfl⟩
theorem dX0_init_5 : q_at cX0_init 5 (.bipush 8) 2 7 := ⟨by decide +kernel, rfl⟩
theorem dX0_init_7 : q_at cX0_init 7 (.newarray .int) 2 9 := ⟨by decide +kernel, rfl⟩
theorem dX0_init_9 : q_at cX0_init 9 (.putfield 11) 3 12 := ⟨by decide +kernel, rfl⟩
theorem dX0_init_12 : q_at cX0_init 12 (.aload_n 0) 1 13 := ⟨by decide +kernel, rfl⟩
theorem dX0_init_13 : q_at cX0_init 13 (.bipush 8) 2 15 := ⟨by decide +kernel, rfl⟩
theorem dX0_init_15 : q_at cX0_init 15 (.newarray .int) 2 17 := ⟨by decide +kernel, rfl⟩
theorem dX0_init_17 : q_at cX0_init 17 (.putfield 17) 3 20 := ⟨by decide +kernel, rfl⟩
theorem dX0_init_20 : q_at cX0_init 20 (.aload_n 0) 1 21 := ⟨by decide +kernel, rfl⟩
theorem dX0_init_21 : q_at cX0_init 21 (.sipush 240) 3 24 := ⟨by decide +kernel, rfl⟩
theorem dX0_init_24 : q_at cX0_init 24 (.newarray .int) 2 26 := ⟨by decide +kernel, rfl⟩
theorem dX0_init_26 : q_at cX0_init 26 (.putfield 20) 3 29 := ⟨by decide +kernel, rfl⟩
theorem dX0_init_29 : q_at cX0_init 29 (.iconst 0) 1 30 := ⟨by decide +kernel, rfl⟩
theorem dX0_init_30 : q_at cX0_init 30 (.istore_n 1) 1 31 := ⟨by decide +kernel, rfl⟩
theorem dX0_init_31 : q_at cX0_init 31 (.iload_n 1) 1 32 := ⟨by decide +kernel, rfl⟩
theorem dX0_init_32 : q_at cX0_init 32 (.bipush 8) 2 34 := ⟨by decide +kernel, rfl⟩
theorem dX0_init_34 : q_at cX0_init 34 (.if_icmp .ge 16) 3 37 := ⟨by decide +kernel, rfl⟩
theorem dX0_init_37 : q_at cX0_init 37 (.aload_n 0) 1 38 := ⟨by decide +kernel, rfl⟩
theorem dX0_init_38 : q_at cX0_init 38 (.getfield 11) 3 41 := ⟨by decide +kernel, rfl⟩
theorem dX0_init_41 : q_at cX0_init 41 (.iload_n 1) 1 42 := ⟨by decide +kernel, rfl⟩
theorem dX0_init_42 : q_at cX0_init 42 (.iconst (-1)) 1 43 := ⟨by decide +kernel, rfl⟩
theorem dX0_init_43 : q_at cX0_init 43 (.iastore) 1 44 := ⟨by decide +kernel, rfl⟩
theorem dX0_init_44 : q_at cX0_init 44 (.iinc 1 1) 3 47 := ⟨by decide +kernel, rfl⟩
theorem dX0_init_47 : q_at cX0_init 47 (.goto (-16)) 3 50 := ⟨by decide +kernel, rfl⟩
theorem dX0_init_50 : q_at cX0_init 50 (.return_) 1 51 := ⟨by decide +kernel, rfl⟩
def b_X0_init_31 (this : Nat) (k31 : Int32 → qX → qI → Option (qI × qX)) (x1 : Int32) (X : qX) (I : qI) : Option (qI × qX) :=
  if (nI 8) ≤ x1 then
    some (I, X)
  else
    q_b1 (X.1 this 0) fun a2 =>
    q_b2 (q_arr X (some a2)) fun a4 n5 =>
    q_b1 (q_wr I a4 n5 x1 (-1)) fun I9 =>
    k31 (x1 + (nI 1)) X I9
set_option maxRecDepth 100000 in
set_option maxHeartbeats 4000000 in
theorem p_X0_init_31 {l : Launch} {Γ : qC} {g : qG} {z : qI × qX} {this : Nat} (hΓ : q_gm Γ) (hg : q_Ok l Γ RX0 cX0_init 2 (q_rm 2 3 256) "<init>" none g) (hr : q_Rt cX0_init none (q_rm 2 3 256) (none, z.1, z.2) g) {k31 : Int32 → qX → qI → Option (qI × qX)} (hk31 : ∀ (x1 : Int32) (X : qX) (I : qI) (k_this : q_kd X this = some (2, 3)), k31 x1 X I = some z → g 3 256 31 [(0, .ref this), (1, .int x1)] [] I X) (x1 : Int32) (X : qX) (I : qI) (k_this : q_kd X this = some (2, 3)) (h : b_X0_init_31 this k31 x1 X I = some z) : g 3 256 31 [(0, .ref this), (1, .int x1)] [] I X := by
  unfold b_X0_init_31 at h
  refine r_iload_n hg 1 dX0_init_31 rfl rfl ?_
  refine r_bipush hg dX0_init_32 cb_8 ?_
  refine r_icmp_ge hg 50 dX0_init_34 (by decide) (fun c1 => ?_) (fun c1 => ?_)
  · rw [if_pos c1] at h
    exact r_return hr dX0_init_50 ⟨Nat.le_of_ble_eq_true rfl, Nat.le_of_ble_eq_true rfl⟩ rfl (by cases h; rfl)
  · rw [if_neg c1] at h
    refine r_aload_n hg 0 dX0_init_37 rfl rfl ?_
    replace h := q_b1_some h; obtain ⟨a2, e3, h⟩ := h
    refine r_getR hg dX0_init_38 fl_X0_11 k_this rfl e3 ?_
    refine r_iload_n hg 1 dX0_init_41 rfl rfl ?_
    refine r_iconst hg dX0_init_42 ci_m1 ?_
    replace h := q_b2_some h
    obtain ⟨a4, n5, e6, h⟩ := h
    obtain ⟨e8, k7⟩ := q_arr_some e6
    obtain rfl := Option.some.inj e8
    replace h := q_b1_some h; obtain ⟨I9, e10, h⟩ := h
    refine r_iast hg dX0_init_43 k7 e10 ?_
    refine r_iinc hg 1 (v := (x1 + (nI 1))) (L' := [(1, .int (x1 + (nI 1))), (0, .ref this)]) dX0_init_44 rfl (by rw [ci_1]) (by decide) rfl ?_
    refine r_goto hg 31 dX0_init_47 (by decide) ?_
    refine r_sub hg [1, 0] rfl ?_
    exact hk31 _ _ _ k_this h
theorem pl_X0_init_31 {l : Launch} {Γ : qC} {g : qG} {z : qI × qX} {this : Nat} (hΓ : q_gm Γ) (hg : q_Ok l Γ RX0 cX0_init 2 (q_rm 2 3 256) "<init>" none g) (hr : q_Rt cX0_init none (q_rm 2 3 256) (none, z.1, z.2) g) : ∀ (n : Nat) (x1 : Int32) (X : qX) (I : qI) (k_this : q_kd X this = some (2, 3)), q_fix (fun _ _ _ => none) (b_X0_init_31 this) n x1 X I = some z → g 3 256 31 [(0, .ref this), (1, .int x1)] [] I X := by
  intro n
  induction n with
  | zero =>
    intro x1 X I k_this h
    cases (show (none : Option (qI × qX)) = some z from h)
  | succ n ih =>
    intro x1 X I k_this h
    exact p_X0_init_31 hΓ hg hr ih _ _ _ k_this h
def f_X0_init (this : Nat) (X : qX) (I : qI) : Option (qI × qX) :=
  q_b3 (q_nA 8 I X) fun a1 I2 X3 =>
  q_b1 (q_pR X3 this 0 a1) fun X6 =>
  q_b3 (q_nA 8 I2 X6) fun a9 I10 X11 =>
  q_b1 (q_pR X11 this 1 a9) fun X14 =>
  q_b3 (q_nA 240 I10 X14) fun a17 I18 X19 =>
  q_b1 (q_pR X19 this 2 a17) fun X22 =>
  q_fix (fun _ _ _ => none) (b_X0_init_31 this) q_fu (nI 0) X22 I18
set_option maxRecDepth 100000 in
set_option maxHeartbeats 4000000 in
theorem s_X0_init {l : Launch} {Γ : qC} (hΓ : q_gm Γ) {X : qX} {this : Nat} (k_this : q_kd X this = some (2, 3)) {I : qI} {z : qI × qX} (h : f_X0_init this X I = some z) : q_Sem l Γ (q_rm 2 3 256) yX0_init cX0_init 2 none [.ref this] I X (none, z.1, z.2) := by
  refine q_met (by decide) (Nat.le_of_ble_eq_true rfl) (fun g hg hr => ?_)
  unfold f_X0_init at h
  show g 0 0 0 [(0, .ref this)] [] I X
  refine r_aload_n hg 0 dX0_init_0 rfl rfl ?_
  refine r_objInit hg dX0_init_1 ob_X0_3 ⟨Nat.le_of_ble_eq_true rfl, Nat.le_of_ble_eq_true rfl⟩ ?_
  refine r_aload_n hg 0 dX0_init_4 rfl rfl ?_
  refine r_bipush hg dX0_init_5 cb_8 ?_
  replace h := q_b3_some h; obtain ⟨a1, I2, X3, e4, h⟩ := h
  refine r_nAD hg (N := 8) dX0_init_7 q_aI (by decide +kernel) (by decide +kernel) (Nat.le_of_ble_eq_true rfl) (Nat.le_of_ble_eq_true rfl) (Nat.le_of_ble_eq_true rfl) e4 ?_
  have q5 := q_nA_kd e4
  replace h := q_b1_some h; obtain ⟨X6, e7, h⟩ := h
  refine r_pRD hg dX0_init_9 fl_X0_11 ⟨_, rfl⟩ rfl (q5.2 _ _ k_this) rfl e7 ?_
  have q8 := q_pR_kd e7
  refine r_aload_n hg 0 dX0_init_12 rfl rfl ?_
  refine r_bipush hg dX0_init_13 cb_8 ?_
  replace h := q_b3_some h; obtain ⟨a9, I10, X11, e12, h⟩ := h
  refine r_nAD hg (N := 8) dX0_init_15 q_aI (by decide +kernel) (by decide +kernel) (Nat.le_of_ble_eq_true rfl) (Nat.le_of_ble_eq_true rfl) (Nat.le_of_ble_eq_true rfl) e12 ?_
  have q13 := q_nA_kd e12
  replace h := q_b1_some h; obtain ⟨X14, e15, h⟩ := h
  refine r_pRD hg dX0_init_17 fl_X0_17 ⟨_, rfl⟩ rfl (q13.2 _ _ (q8 _ _ (q5.2 _ _ k_this))) rfl e15 ?_
  have q16 := q_pR_kd e15
  refine r_aload_n hg 0 dX0_init_20 rfl rfl ?_
  refine r_sipush hg dX0_init_21 cs_240 ?_
  replace h := q_b3_some h; obtain ⟨a17, I18, X19, e20, h⟩ := h
  refine r_nAD hg (N := 240) dX0_init_24 q_aI (by decide +kernel) (by decide +kernel) (Nat.le_of_ble_eq_true rfl) (Nat.le_of_ble_eq_true rfl) (Nat.le_of_ble_eq_true rfl) e20 ?_
  have q21 := q_nA_kd e20
  replace h := q_b1_some h; obtain ⟨X22, e23, h⟩ := h
  refine r_pRD hg dX0_init_26 fl_X0_20 ⟨_, rfl⟩ rfl (q21.2 _ _ (q16 _ _ (q13.2 _ _ (q8 _ _ (q5.2 _ _ k_this))))) rfl e23 ?_
  have q24 := q_pR_kd e23
  refine r_iconst hg dX0_init_29 ci_0 ?_
  refine r_istore_n hg (L' := [(1, .int (nI 0)), (0, .ref this)]) dX0_init_30 rfl (by decide) rfl ?_
  refine r_sub hg [1, 0] rfl ?_
  exact pl_X0_init_31 hΓ hg hr _ _ _ _ (q24 _ _ (q21.2 _ _ (q16 _ _ (q13.2 _ _ (q8 _ _ (q5.2 _ _ k_this)))))) h
theorem xl_X0_init_31 {this : Nat} {z : qI × qX} : ∀ (n : Nat) (x1 : Int32) (X : qX) (I : qI), q_fix (fun _ _ _ => none) (b_X0_init_31 this) n x1 X I = some z → z.2 = X := by
  intro n
  induction n with
  | zero => intro x1 X I h; cases (show (none : Option (qI × qX)) = some z from h)
  | succ n ih =>
    intro x1 X I h
    have h : b_X0_init_31 this (q_fix (fun _ _ _ => none) (b_X0_init_31 this) n) x1 X I = some z := h
    unfold b_X0_init_31 at h

    split at h
    · cases h; rfl
    · skip
      replace h := q_b1_some h; obtain ⟨_, -, h⟩ := h
      replace h := q_b2_some h; obtain ⟨_, _, -, h⟩ := h
      replace h := q_b1_some h; obtain ⟨_, -, h⟩ := h
      exact ih _ _ _ h
theorem xi_X0_init {X : qX} {this : Nat} {I : qI} {z : qI × qX} (h : f_X0_init this X I = some z) : ∀ (k : Nat) (d : Nat × Nat), q_kd X k = some d → q_kd z.2 k = some d := by
  intro k d hk
  unfold f_X0_init at h
  replace h := q_b3_some h; obtain ⟨_, _, _, e1, h⟩ := h
  replace h := q_b1_some h; obtain ⟨_, e2, h⟩ := h
  replace h := q_b3_some h; obtain ⟨_, _, _, e3, h⟩ := h
  replace h := q_b1_some h; obtain ⟨_, e4, h⟩ := h
  replace h := q_b3_some h; obtain ⟨_, _, _, e5, h⟩ := h
  replace h := q_b1_some h; obtain ⟨_, e6, h⟩ := h
  have hz := xl_X0_init_31 _ _ _ _ h
  rw [hz]
  exact (q_pR_kd e6 _ _ ((q_nA_kd e5).2 _ _ (q_pR_kd e4 _ _ ((q_nA_kd e3).2 _ _ (q_pR_kd e2 _ _ ((q_nA_kd e1).2 _ _ hk))))))
theorem dX9_init_0 : q_at cX9_init 0 (.aload_n 0) 1 1 := ⟨by decide +kernel, rfl⟩
theorem dX9_init_1 : q_at cX9_init 1 (.invokespecial 3) 3 4 := ⟨by decide +kernel, rfl⟩
theorem dX9_init_4 : q_at cX9_init 4 (.aload_n 0) 1 5 := ⟨by decide +kernel, rfl⟩
theorem dX9_init_5 : q_at cX9_init 5 (.new 9) 3 8 := ⟨by decide +kernel, rfl⟩
theorem dX9_init_8 : q_at cX9_init 8 (.dup) 1 9 := ⟨by decide +kernel, rfl⟩
theorem dX9_init_9 : q_at cX9_init 9 (.invokespecial 11) 3 12 := ⟨by decide +kernel, rfl⟩
theorem dX9_init_12 : q_at cX9_init 12 (.putfield 12) 3 15 := ⟨by decide +kernel, rfl⟩
theorem dX9_init_15 : q_at cX9_init 15 (.aload_n 0) 1 16 := ⟨by decide +kernel, rfl⟩
theorem dX9_init_16 : q_at cX9_init 16 (.new 18) 3 19 := ⟨by decide +kernel, rfl⟩
theorem dX9_init_19 : q_at cX9_init 19 (.dup) 1 20 := ⟨by decide +kernel, rfl⟩
theorem dX9_init_20 : q_at cX9_init 20 (.invokespecial 20) 3 23 := ⟨by decide +kernel, rfl⟩
theorem dX9_init_23 : q_at cX9_init 23 (.putfield 21) 3 26 := ⟨by decide +kernel, rfl⟩
theorem dX9_init_26 : q_at cX9_init 26 (.aload_n 0) 1 27 := ⟨by decide +kernel, rfl⟩
theorem dX9_init_27 : q_at cX9_init 27 (.new 25) 3 30 := ⟨by decide +kernel, rfl⟩
theorem dX9_init_30 : q_at cX9_init 30 (.dup) 1 31 := ⟨by decide +kernel, rfl⟩
theorem dX9_init_31 : q_at cX9_init 31 (.invokespecial 27) 3 34 := ⟨by decide +kernel, rfl⟩
theorem dX9_init_34 : q_at cX9_init 34 (.putfield 28) 3 37 := ⟨by decide +kernel, rfl⟩
theorem dX9_init_37 : q_at cX9_init 37 (.aload_n 0) 1 38 := ⟨by decide +kernel, rfl⟩
theorem dX9_init_38 : q_at cX9_init 38 (.new 32) 3 41 := ⟨by decide +kernel, rfl⟩
theorem dX9_init_41 : q_at cX9_init 41 (.dup) 1 42 := ⟨by decide +kernel, rfl⟩
theorem dX9_init_42 : q_at cX9_init 42 (.invokespecial 34) 3 45 := ⟨by decide +kernel, rfl⟩
theorem dX9_init_45 : q_at cX9_init 45 (.putfield 35) 3 48 := ⟨by decide +kernel, rfl⟩
theorem dX9_init_48 : q_at cX9_init 48 (.aload_n 0) 1 49 := ⟨by decide +kernel, rfl⟩
theorem dX9_init_49 : q_at cX9_init 49 (.new 39) 3 52 := ⟨by decide +kernel, rfl⟩
theorem dX9_init_52 : q_at cX9_init 52 (.dup) 1 53 := ⟨by decide +kernel, rfl⟩
theorem dX9_init_53 : q_at cX9_init 53 (.invokespecial 41) 3 56 := ⟨by decide +kernel, rfl⟩
theorem dX9_init_56 : q_at cX9_init 56 (.putfield 42) 3 59 := ⟨by decide +kernel, rfl⟩
theorem dX9_init_59 : q_at cX9_init 59 (.aload_n 0) 1 60 := ⟨by decide +kernel, rfl⟩
theorem dX9_init_60 : q_at cX9_init 60 (.new 46) 3 63 := ⟨by decide +kernel, rfl⟩
theorem dX9_init_63 : q_at cX9_init 63 (.dup) 1 64 := ⟨by decide +kernel, rfl⟩
theorem dX9_init_64 : q_at cX9_init 64 (.invokespecial 48) 3 67 := ⟨by decide +kernel, rfl⟩
theorem dX9_init_67 : q_at cX9_init 67 (.putfield 49) 3 70 := ⟨by decide +kernel, rfl⟩
theorem dX9_init_70 : q_at cX9_init 70 (.aload_n 0) 1 71 := ⟨by decide +kernel, rfl⟩
theorem dX9_init_71 : q_at cX9_init 71 (.new 53) 3 74 := ⟨by decide +kernel, rfl⟩
theorem dX9_init_74 : q_at cX9_init 74 (.dup) 1 75 := ⟨by decide +kernel, rfl⟩
theorem dX9_init_75 : q_at cX9_init 75 (.invokespecial 55) 3 78 := ⟨by decide +kernel, rfl⟩
theorem dX9_init_78 : q_at cX9_init 78 (.putfield 56) 3 81 := ⟨by decide +kernel, rfl⟩
theorem dX9_init_81 : q_at cX9_init 81 (.aload_n 0) 1 82 := ⟨by decide +kernel, rfl⟩
theorem dX9_init_82 : q_at cX9_init 82 (.new 60) 3 85 := ⟨by decide +kernel, rfl⟩
theorem dX9_init_85 : q_at cX9_init 85 (.dup) 1 86 := ⟨by decide +kernel, rfl⟩
theorem dX9_init_86 : q_at cX9_init 86 (.invokespecial 62) 3 89 := ⟨by decide +kernel, rfl⟩
theorem dX9_init_89 : q_at cX9_init 89 (.putfield 63) 3 92 := ⟨by decide +kernel, rfl⟩
theorem dX9_init_92 : q_at cX9_init 92 (.aload_n 0) 1 93 := ⟨by decide +kernel, rfl⟩
theorem dX9_init_93 : q_at cX9_init 93 (.iconst 3) 1 94 := ⟨by decide +kernel, rfl⟩
theorem dX9_init_94 : q_at cX9_init 94 (.newarray .int) 2 96 := ⟨by decide +kernel, rfl⟩
theorem dX9_init_96 : q_at cX9_init 96 (.dup) 1 97 := ⟨by decide +kernel, rfl⟩
theorem dX9_init_97 : q_at cX9_init 97 (.iconst 0) 1 98 := ⟨by decide +kernel, rfl⟩
theorem dX9_init_98 : q_at cX9_init 98 (.bipush 100) 2 100 := ⟨by decide +kernel, rfl⟩
theorem dX9_init_100 : q_at cX9_init 100 (.iastore) 1 101 := ⟨by decide +kernel, rfl⟩
theorem dX9_init_101 : q_at cX9_init 101 (.dup) 1 102 := ⟨by decide +kernel, rfl⟩
theorem dX9_init_102 : q_at cX9_init 102 (.iconst 1) 1 103 := ⟨by decide +kernel, rfl⟩
theorem dX9_init_103 : q_at cX9_init 103 (.iconst 0) 1 104 := ⟨by decide +kernel, rfl⟩
theorem dX9_init_104 : q_at cX9_init 104 (.iastore) 1 105 := ⟨by decide +kernel, rfl⟩
theorem dX9_init_105 : q_at cX9_init 105 (.dup) 1 106 := ⟨by decide +kernel, rfl⟩
theorem dX9_init_106 : q_at cX9_init 106 (.iconst 2) 1 107 := ⟨by decide +kernel, rfl⟩
theorem dX9_init_107 : q_at cX9_init 107 (.iconst 0) 1 108 := ⟨by decide +kernel, rfl⟩
theorem dX9_init_108 : q_at cX9_init 108 (.iastore) 1 109 := ⟨by decide +kernel, rfl⟩
theorem dX9_init_109 : q_at cX9_init 109 (.putfield 67) 3 112 := ⟨by decide +kernel, rfl⟩
theorem dX9_init_112 : q_at cX9_init 112 (.aload_n 0) 1 113 := ⟨by decide +kernel, rfl⟩
theorem dX9_init_113 : q_at cX9_init 113 (.bipush 7) 2 115 := ⟨by decide +kernel, rfl⟩
theorem dX9_init_115 : q_at cX9_init 115 (.newarray .int) 2 117 := ⟨by decide +kernel, rfl⟩
theorem dX9_init_117 : q_at cX9_init 117 (.putfield 71) 3 120 := ⟨by decide +kernel, rfl⟩
theorem dX9_init_120 : q_at cX9_init 120 (.aload_n 0) 1 121 := ⟨by decide +kernel, rfl⟩
theorem dX9_init_121 : q_at cX9_init 121 (.bipush 8) 2 123 := ⟨by decide +kernel, rfl⟩
theorem dX9_init_123 : q_at cX9_init 123 (.newarray .int) 2 125 := ⟨by decide +kernel, rfl⟩
theorem dX9_init_125 : q_at cX9_init 125 (.putfield 74) 3 128 := ⟨by decide +kernel, rfl⟩
theorem dX9_init_128 : q_at cX9_init 128 (.aload_n 0) 1 129 := ⟨by decide +kernel, rfl⟩
theorem dX9_init_129 : q_at cX9_init 129 (.bipush 8) 2 131 := ⟨by decide +kernel, rfl⟩
theorem dX9_init_131 : q_at cX9_init 131 (.newarray .int) 2 133 := ⟨by decide +kernel, rfl⟩
theorem dX9_init_133 : q_at cX9_init 133 (.putfield 77) 3 136 := ⟨by decide +kernel, rfl⟩
theorem dX9_init_136 : q_at cX9_init 136 (.aload_n 0) 1 137 := ⟨by decide +kernel, rfl⟩
theorem dX9_init_137 : q_at cX9_init 137 (.bipush 8) 2 139 := ⟨by decide +kernel, rfl⟩
theorem dX9_init_139 : q_at cX9_init 139 (.newarray .int) 2 141 := ⟨by decide +kernel, rfl⟩
theorem dX9_init_141 : q_at cX9_init 141 (.putfield 80) 3 144 := ⟨by decide +kernel, rfl⟩
theorem dX9_init_144 : q_at cX9_init 144 (.aload_n 0) 1 145 := ⟨by decide +kernel, rfl⟩
theorem dX9_init_145 : q_at cX9_init 145 (.iconst 0) 1 146 := ⟨by decide +kernel, rfl⟩
theorem dX9_init_146 : q_at cX9_init 146 (.putfield 83) 3 149 := ⟨by decide +kernel, rfl⟩
theorem dX9_init_149 : q_at cX9_init 149 (.return_) 1 150 := ⟨by decide +kernel, rfl⟩
def f_X9_init (this : Nat) (X : qX) (I : qI) : Option (qI × qX) :=
  q_b3 (q_nO 3 5 I X) fun a1 I2 X3 =>
  q_b2 (f_X3_init a1 X3 I2) fun I6 X7 =>
  q_b1 (q_pR X7 this 0 a1) fun X9 =>
  q_b3 (q_nO 8 5 I6 X9) fun a12 I13 X14 =>
  q_b2 (f_X8_init a12 X14 I13) fun I17 X18 =>
  q_b1 (q_pR X18 this 1 a12) fun X20 =>
  q_b3 (q_nO 2 15 I17 X20) fun a23 I24 X25 =>
  q_b2 (f_X2_init a23 X25 I24) fun I28 X29 =>
  q_b1 (q_pR X29 this 2 a23) fun X31 =>
  q_b3 (q_nO 1 9 I28 X31) fun a34 I35 X36 =>
  q_b2 (f_X1_init a34 X36 I35) fun I39 X40 =>
  q_b1 (q_pR X40 this 3 a34) fun X42 =>
  q_b3 (q_nO 7 6 I39 X42) fun a45 I46 X47 =>
  q_b2 (f_X7_init a45 X47 I46) fun I50 X51 =>
  q_b1 (q_pR X51 this 4 a45) fun X53 =>
  q_b3 (q_nO 10 1 I50 X53) fun a56 I57 X58 =>
  q_b2 (f_X10_init a56 X58 I57) fun I61 X62 =>
  q_b1 (q_pR X62 this 5 a56) fun X64 =>
  q_b3 (q_nO 6 9 I61 X64) fun a67 I68 X69 =>
  q_b2 (f_X6_init a67 X69 I68) fun I72 X73 =>
  q_b1 (q_pR X73 this 6 a67) fun X75 =>
  q_b3 (q_nO 4 10 I72 X75) fun a78 I79 X80 =>
  q_b2 (f_X4_init a78 X80 I79) fun I83 X84 =>
  q_b1 (q_pR X84 this 7 a78) fun X86 =>
  q_b3 (q_nA 3 I83 X86) fun a89 I90 X91 =>
  q_b1 (q_wr I90 a89 3 (nI 0) (nI 100)) fun I94 =>
  q_b1 (q_wr I94 a89 3 (nI 1) (nI 0)) fun I96 =>
  q_b1 (q_wr I96 a89 3 (nI 2) (nI 0)) fun I98 =>
  q_b1 (q_pR X91 this 8 a89) fun X100 =>
  q_b3 (q_nA 7 I98 X100) fun a103 I104 X105 =>
  q_b1 (q_pR X105 this 9 a103) fun X108 =>
  q_b3 (q_nA 8 I104 X108) fun a111 I112 X113 =>
  q_b1 (q_pR X113 this 10 a111) fun X116 =>
  q_b3 (q_nA 8 I112 X116) fun a119 I120 X121 =>
  q_b1 (q_pR X121 this 11 a119) fun X124 =>
  q_b3 (q_nA 8 I120 X124) fun a127 I128 X129 =>
  q_b1 (q_pR X129 this 12 a127) fun X132 =>
  q_b1 (some (q_up I128 this 13 (nI 0))) fun I135 =>
  some (I135, X132)
set_option maxRecDepth 100000 in
set_option maxHeartbeats 4000000 in
theorem s_X9_init {l : Launch} {Γ : qC} (hΓ : q_gm Γ) {X : qX} {this : Nat} (k_this : q_kd X this = some (11, 14)) {I : qI} {z : qI × qX} (h : f_X9_init this X I = some z) : q_Sem l Γ (q_rm 3 64 1272) yX9_init cX9_init 1 none [.ref this] I X (none, z.1, z.2) := by
  refine q_met (by decide) (Nat.le_of_ble_eq_true rfl) (fun g hg hr => ?_)
  unfold f_X9_init at h
  show g 0 0 0 [(0, .ref this)] [] I X
  refine r_aload_n hg 0 dX9_init_0 rfl rfl ?_
  refine r_objInit hg dX9_init_1 ob_X9_3 ⟨Nat.le_of_ble_eq_true rfl, Nat.le_of_ble_eq_true rfl⟩ ?_
  refine r_aload_n hg 0 dX9_init_4 rfl rfl ?_
  replace h := q_b3_some h; obtain ⟨a1, I2, X3, e4, h⟩ := h
  refine r_nOD hg dX9_init_5 (ci := 3) rfl nw_X9_9 df_3 (Nat.le_of_ble_eq_true rfl) (Nat.le_of_ble_eq_true rfl) e4 ?_
  have q5 := q_nO_kd e4
  refine r_dup hg dX9_init_8 rfl ?_
  replace h := q_b2_some h; obtain ⟨I6, X7, e8, h⟩ := h
  refine r_callI (av := []) hg dX9_init_9 mt_X3_init ml_X9_11 mi_X3_init (s_X3_init hΓ q5.1 e8) rfl (q_room (Nat.le_of_ble_eq_true rfl) (Nat.le_of_ble_eq_true rfl)) ⟨Nat.le_of_ble_eq_true rfl, Nat.le_of_ble_eq_true rfl⟩ (Nat.le_of_ble_eq_true rfl) ?_
  replace h := q_b1_some h; obtain ⟨X9, e10, h⟩ := h
  refine r_pRD hg dX9_init_12 fl_X9_12 ⟨_, rfl⟩ rfl (xi_X3_init e8 _ _ (q5.2 _ _ k_this)) rfl e10 ?_
  have q11 := q_pR_kd e10
  refine r_aload_n hg 0 dX9_init_15 rfl rfl ?_
  replace h := q_b3_some h; obtain ⟨a12, I13, X14, e15, h⟩ := h
  refine r_nOD hg dX9_init_16 (ci := 8) rfl nw_X9_18 df_8 (Nat.le_of_ble_eq_true rfl) (Nat.le_of_ble_eq_true rfl) e15 ?_
  have q16 := q_nO_kd e15
  refine r_dup hg dX9_init_19 rfl ?_
  replace h := q_b2_some h; obtain ⟨I17, X18, e19, h⟩ := h
  refine r_callIN (av := []) hg dX9_init_20 mt_X8_init ns_X9_20 mi_X8_init (s_X8_init hΓ q16.1 e19) rfl (q_room (Nat.le_of_ble_eq_true rfl) (Nat.le_of_ble_eq_true rfl)) ⟨Nat.le_of_ble_eq_true rfl, Nat.le_of_ble_eq_true rfl⟩ (Nat.le_of_ble_eq_true rfl) ?_
  replace h := q_b1_some h; obtain ⟨X20, e21, h⟩ := h
  refine r_pRD hg dX9_init_23 fl_X9_21 ⟨_, rfl⟩ rfl (xi_X8_init e19 _ _ (q16.2 _ _ (q11 _ _ (xi_X3_init e8 _ _ (q5.2 _ _ k_this))))) rfl e21 ?_
  have q22 := q_pR_kd e21
  refine r_aload_n hg 0 dX9_init_26 rfl rfl ?_
  replace h := q_b3_some h; obtain ⟨a23, I24, X25, e26, h⟩ := h
  refine r_nOD hg dX9_init_27 (ci := 2) rfl nw_X9_25 df_2 (Nat.le_of_ble_eq_true rfl) (Nat.le_of_ble_eq_true rfl) e26 ?_
  have q27 := q_nO_kd e26
  refine r_dup hg dX9_init_30 rfl ?_
  replace h := q_b2_some h; obtain ⟨I28, X29, e30, h⟩ := h
  refine r_callI (av := []) hg dX9_init_31 mt_X2_init ml_X9_27 mi_X2_init (s_X2_init hΓ q27.1 e30) rfl (q_room (Nat.le_of_ble_eq_true rfl) (Nat.le_of_ble_eq_true rfl)) ⟨Nat.le_of_ble_eq_true rfl, Nat.le_of_ble_eq_true rfl⟩ (Nat.le_of_ble_eq_true rfl) ?_
  replace h := q_b1_some h; obtain ⟨X31, e32, h⟩ := h
  refine r_pRD hg dX9_init_34 fl_X9_28 ⟨_, rfl⟩ rfl (xi_X2_init e30 _ _ (q27.2 _ _ (q22 _ _ (xi_X8_init e19 _ _ (q16.2 _ _ (q11 _ _ (xi_X3_init e8 _ _ (q5.2 _ _ k_this)))))))) rfl e32 ?_
  have q33 := q_pR_kd e32
  refine r_aload_n hg 0 dX9_init_37 rfl rfl ?_
  replace h := q_b3_some h; obtain ⟨a34, I35, X36, e37, h⟩ := h
  refine r_nOD hg dX9_init_38 (ci := 1) rfl nw_X9_32 df_1 (Nat.le_of_ble_eq_true rfl) (Nat.le_of_ble_eq_true rfl) e37 ?_
  have q38 := q_nO_kd e37
  refine r_dup hg dX9_init_41 rfl ?_
  replace h := q_b2_some h; obtain ⟨I39, X40, e41, h⟩ := h
  refine r_callIN (av := []) hg dX9_init_42 mt_X1_init ns_X9_34 mi_X1_init (s_X1_init hΓ q38.1 e41) rfl (q_room (Nat.le_of_ble_eq_true rfl) (Nat.le_of_ble_eq_true rfl)) ⟨Nat.le_of_ble_eq_true rfl, Nat.le_of_ble_eq_true rfl⟩ (Nat.le_of_ble_eq_true rfl) ?_
  replace h := q_b1_some h; obtain ⟨X42, e43, h⟩ := h
  refine r_pRD hg dX9_init_45 fl_X9_35 ⟨_, rfl⟩ rfl (xi_X1_init e41 _ _ (q38.2 _ _ (q33 _ _ (xi_X2_init e30 _ _ (q27.2 _ _ (q22 _ _ (xi_X8_init e19 _ _ (q16.2 _ _ (q11 _ _ (xi_X3_init e8 _ _ (q5.2 _ _ k_this))))))))))) rfl e43 ?_
  have q44 := q_pR_kd e43
  refine r_aload_n hg 0 dX9_init_48 rfl rfl ?_
  replace h := q_b3_some h; obtain ⟨a45, I46, X47, e48, h⟩ := h
  refine r_nOD hg dX9_init_49 (ci := 7) rfl nw_X9_39 df_7 (Nat.le_of_ble_eq_true rfl) (Nat.le_of_ble_eq_true rfl) e48 ?_
  have q49 := q_nO_kd e48
  refine r_dup hg dX9_init_52 rfl ?_
  replace h := q_b2_some h; obtain ⟨I50, X51, e52, h⟩ := h
  refine r_callIN (av := []) hg dX9_init_53 mt_X7_init ns_X9_41 mi_X7_init (s_X7_init hΓ q49.1 e52) rfl (q_room (Nat.le_of_ble_eq_true rfl) (Nat.le_of_ble_eq_true rfl)) ⟨Nat.le_of_ble_eq_true rfl, Nat.le_of_ble_eq_true rfl⟩ (Nat.le_of_ble_eq_true rfl) ?_
  replace h := q_b1_some h; obtain ⟨X53, e54, h⟩ := h
  refine r_pRD hg dX9_init_56 fl_X9_42 ⟨_, rfl⟩ rfl (xi_X7_init e52 _ _ (q49.2 _ _ (q44 _ _ (xi_X1_init e41 _ _ (q38.2 _ _ (q33 _ _ (xi_X2_init e30 _ _ (q27.2 _ _ (q22 _ _ (xi_X8_init e19 _ _ (q16.2 _ _ (q11 _ _ (xi_X3_init e8 _ _ (q5.2 _ _ k_this)))))))))))))) rfl e54 ?_
  have q55 := q_pR_kd e54
  refine r_aload_n hg 0 dX9_init_59 rfl rfl ?_
  replace h := q_b3_some h; obtain ⟨a56, I57, X58, e59, h⟩ := h
  refine r_nOD hg dX9_init_60 (ci := 10) rfl nw_X9_46 df_10 (Nat.le_of_ble_eq_true rfl) (Nat.le_of_ble_eq_true rfl) e59 ?_
  have q60 := q_nO_kd e59
  refine r_dup hg dX9_init_63 rfl ?_
  replace h := q_b2_some h; obtain ⟨I61, X62, e63, h⟩ := h
  refine r_callIN (av := []) hg dX9_init_64 mt_X10_init ns_X9_48 mi_X10_init (s_X10_init hΓ q60.1 e63) rfl (q_room (Nat.le_of_ble_eq_true rfl) (Nat.le_of_ble_eq_true rfl)) ⟨Nat.le_of_ble_eq_true rfl, Nat.le_of_ble_eq_true rfl⟩ (Nat.le_of_ble_eq_true rfl) ?_
  replace h := q_b1_some h; obtain ⟨X64, e65, h⟩ := h
  refine r_pRD hg dX9_init_67 fl_X9_49 ⟨_, rfl⟩ rfl (xi_X10_init e63 _ _ (q60.2 _ _ (q55 _ _ (xi_X7_init e52 _ _ (q49.2 _ _ (q44 _ _ (xi_X1_init e41 _ _ (q38.2 _ _ (q33 _ _ (xi_X2_init e30 _ _ (q27.2 _ _ (q22 _ _ (xi_X8_init e19 _ _ (q16.2 _ _ (q11 _ _ (xi_X3_init e8 _ _ (q5.2 _ _ k_this))))))))))))))))) rfl e65 ?_
  have q66 := q_pR_kd e65
  refine r_aload_n hg 0 dX9_init_70 rfl rfl ?_
  replace h := q_b3_some h; obtain ⟨a67, I68, X69, e70, h⟩ := h
  refine r_nOD hg dX9_init_71 (ci := 6) rfl nw_X9_53 df_6 (Nat.le_of_ble_eq_true rfl) (Nat.le_of_ble_eq_true rfl) e70 ?_
  have q71 := q_nO_kd e70
  refine r_dup hg dX9_init_74 rfl ?_
  replace h := q_b2_some h; obtain ⟨I72, X73, e74, h⟩ := h
  refine r_callIN (av := []) hg dX9_init_75 mt_X6_init ns_X9_55 mi_X6_init (s_X6_init hΓ q71.1 e74) rfl (q_room (Nat.le_of_ble_eq_true rfl) (Nat.le_of_ble_eq_true rfl)) ⟨Nat.le_of_ble_eq_true rfl, Nat.le_of_ble_eq_true rfl⟩ (Nat.le_of_ble_eq_true rfl) ?_
  replace h := q_b1_some h; obtain ⟨X75, e76, h⟩ := h
  refine r_pRD hg dX9_init_78 fl_X9_56 ⟨_, rfl⟩ rfl (xi_X6_init e74 _ _ (q71.2 _ _ (q66 _ _ (xi_X10_init e63 _ _ (q60.2 _ _ (q55 _ _ (xi_X7_init e52 _ _ (q49.2 _ _ (q44 _ _ (xi_X1_init e41 _ _ (q38.2 _ _ (q33 _ _ (xi_X2_init e30 _ _ (q27.2 _ _ (q22 _ _ (xi_X8_init e19 _ _ (q16.2 _ _ (q11 _ _ (xi_X3_init e8 _ _ (q5.2 _ _ k_this)))))))))))))))))))) rfl e76 ?_
  have q77 := q_pR_kd e76
  refine r_aload_n hg 0 dX9_init_81 rfl rfl ?_
  replace h := q_b3_some h; obtain ⟨a78, I79, X80, e81, h⟩ := h
  refine r_nOD hg dX9_init_82 (ci := 4) rfl nw_X9_60 df_4 (Nat.le_of_ble_eq_true rfl) (Nat.le_of_ble_eq_true rfl) e81 ?_
  have q82 := q_nO_kd e81
  refine r_dup hg dX9_init_85 rfl ?_
  replace h := q_b2_some h; obtain ⟨I83, X84, e85, h⟩ := h
  refine r_callIN (av := []) hg dX9_init_86 mt_X4_init ns_X9_62 mi_X4_init (s_X4_init hΓ q82.1 e85) rfl (q_room (Nat.le_of_ble_eq_true rfl) (Nat.le_of_ble_eq_true rfl)) ⟨Nat.le_of_ble_eq_true rfl, Nat.le_of_ble_eq_true rfl⟩ (Nat.le_of_ble_eq_true rfl) ?_
  replace h := q_b1_some h; obtain ⟨X86, e87, h⟩ := h
  refine r_pRD hg dX9_init_89 fl_X9_63 ⟨_, rfl⟩ rfl (xi_X4_init e85 _ _ (q82.2 _ _ (q77 _ _ (xi_X6_init e74 _ _ (q71.2 _ _ (q66 _ _ (xi_X10_init e63 _ _ (q60.2 _ _ (q55 _ _ (xi_X7_init e52 _ _ (q49.2 _ _ (q44 _ _ (xi_X1_init e41 _ _ (q38.2 _ _ (q33 _ _ (xi_X2_init e30 _ _ (q27.2 _ _ (q22 _ _ (xi_X8_init e19 _ _ (q16.2 _ _ (q11 _ _ (xi_X3_init e8 _ _ (q5.2 _ _ k_this))))))))))))))))))))))) rfl e87 ?_
  have q88 := q_pR_kd e87
  refine r_aload_n hg 0 dX9_init_92 rfl rfl ?_
  refine r_iconst hg dX9_init_93 ci_3 ?_
  replace h := q_b3_some h; obtain ⟨a89, I90, X91, e92, h⟩ := h
  refine r_nAD hg (N := 3) dX9_init_94 q_aI (by decide +kernel) (by decide +kernel) (Nat.le_of_ble_eq_true rfl) (Nat.le_of_ble_eq_true rfl) (Nat.le_of_ble_eq_true rfl) e92 ?_
  have q93 := q_nA_kd e92
  refine r_dup hg dX9_init_96 rfl ?_
  refine r_iconst hg dX9_init_97 ci_0 ?_
  refine r_bipush hg dX9_init_98 cb_100 ?_
  replace h := q_b1_some h; obtain ⟨I94, e95, h⟩ := h
  refine r_iast hg dX9_init_100 q93.1 e95 ?_
  refine r_dup hg dX9_init_101 rfl ?_
  refine r_iconst hg dX9_init_102 ci_1 ?_
  refine r_iconst hg dX9_init_103 ci_0 ?_
  replace h := q_b1_some h; obtain ⟨I96, e97, h⟩ := h
  refine r_iast hg dX9_init_104 q93.1 e97 ?_
  refine r_dup hg dX9_init_105 rfl ?_
  refine r_iconst hg dX9_init_106 ci_2 ?_
  refine r_iconst hg dX9_init_107 ci_0 ?_
  replace h := q_b1_some h; obtain ⟨I98, e99, h⟩ := h
  refine r_iast hg dX9_init_108 q93.1 e99 ?_
  replace h := q_b1_some h; obtain ⟨X100, e101, h⟩ := h
  refine r_pRD hg dX9_init_109 fl_X9_67 ⟨_, rfl⟩ rfl (q93.2 _ _ (q88 _ _ (xi_X4_init e85 _ _ (q82.2 _ _ (q77 _ _ (xi_X6_init e74 _ _ (q71.2 _ _ (q66 _ _ (xi_X10_init e63 _ _ (q60.2 _ _ (q55 _ _ (xi_X7_init e52 _ _ (q49.2 _ _ (q44 _ _ (xi_X1_init e41 _ _ (q38.2 _ _ (q33 _ _ (xi_X2_init e30 _ _ (q27.2 _ _ (q22 _ _ (xi_X8_init e19 _ _ (q16.2 _ _ (q11 _ _ (xi_X3_init e8 _ _ (q5.2 _ _ k_this))))))))))))))))))))))))) rfl e101 ?_
  have q102 := q_pR_kd e101
  refine r_aload_n hg 0 dX9_init_112 rfl rfl ?_
  refine r_bipush hg dX9_init_113 cb_7 ?_
  replace h := q_b3_some h; obtain ⟨a103, I104, X105, e106, h⟩ := h
  refine r_nAD hg (N := 7) dX9_init_115 q_aI (by decide +kernel) (by decide +kernel) (Nat.le_of_ble_eq_true rfl) (Nat.le_of_ble_eq_true rfl) (Nat.le_of_ble_eq_true rfl) e106 ?_
  have q107 := q_nA_kd e106
  replace h := q_b1_some h; obtain ⟨X108, e109, h⟩ := h
  refine r_pRD hg dX9_init_117 fl_X9_71 ⟨_, rfl⟩ rfl (q107.2 _ _ (q102 _ _ (q93.2 _ _ (q88 _ _ (xi_X4_init e85 _ _ (q82.2 _ _ (q77 _ _ (xi_X6_init e74 _ _ (q71.2 _ _ (q66 _ _ (xi_X10_init e63 _ _ (q60.2 _ _ (q55 _ _ (xi_X7_init e52 _ _ (q49.2 _ _ (q44 _ _ (xi_X1_init e41 _ _ (q38.2 _ _ (q33 _ _ (xi_X2_init e30 _ _ (q27.2 _ _ (q22 _ _ (xi_X8_init e19 _ _ (q16.2 _ _ (q11 _ _ (xi_X3_init e8 _ _ (q5.2 _ _ k_this))))))))))))))))))))))))))) rfl e109 ?_
  have q110 := q_pR_kd e109
  refine r_aload_n hg 0 dX9_init_120 rfl rfl ?_
  refine r_bipush hg dX9_init_121 cb_8 ?_
  replace h := q_b3_some h; obtain ⟨a111, I112, X113, e114, h⟩ := h
  refine r_nAD hg (N := 8) dX9_init_123 q_aI (by decide +kernel) (by decide +kernel) (Nat.le_of_ble_eq_true rfl) (Nat.le_of_ble_eq_true rfl) (Nat.le_of_ble_eq_true rfl) e114 ?_
  have q115 := q_nA_kd e114
  replace h := q_b1_some h; obtain ⟨X116, e117, h⟩ := h
  refine r_pRD hg dX9_init_125 fl_X9_74 ⟨_, rfl⟩ rfl (q115.2 _ _ (q110 _ _ (q107.2 _ _ (q102 _ _ (q93.2 _ _ (q88 _ _ (xi_X4_init e85 _ _ (q82.2 _ _ (q77 _ _ (xi_X6_init e74 _ _ (q71.2 _ _ (q66 _ _ (xi_X10_init e63 _ _ (q60.2 _ _ (q55 _ _ (xi_X7_init e52 _ _ (q49.2 _ _ (q44 _ _ (xi_X1_init e41 _ _ (q38.2 _ _ (q33 _ _ (xi_X2_init e30 _ _ (q27.2 _ _ (q22 _ _ (xi_X8_init e19 _ _ (q16.2 _ _ (q11 _ _ (xi_X3_init e8 _ _ (q5.2 _ _ k_this))))))))))))))))))))))))))))) rfl e117 ?_
  have q118 := q_pR_kd e117
  refine r_aload_n hg 0 dX9_init_128 rfl rfl ?_
  refine r_bipush hg dX9_init_129 cb_8 ?_
  replace h := q_b3_some h; obtain ⟨a119, I120, X121, e122, h⟩ := h
  refine r_nAD hg (N := 8) dX9_init_131 q_aI (by decide +kernel) (by decide +kernel) (Nat.le_of_ble_eq_true rfl) (Nat.le_of_ble_eq_true rfl) (Nat.le_of_ble_eq_true rfl) e122 ?_
  have q123 := q_nA_kd e122
  replace h := q_b1_some h; obtain ⟨X124, e125, h⟩ := h
  refine r_pRD hg dX9_init_133 fl_X9_77 ⟨_, rfl⟩ rfl (q123.2 _ _ (q118 _ _ (q115.2 _ _ (q110 _ _ (q107.2 _ _ (q102 _ _ (q93.2 _ _ (q88 _ _ (xi_X4_init e85 _ _ (q82.2 _ _ (q77 _ _ (xi_X6_init e74 _ _ (q71.2 _ _ (q66 _ _ (xi_X10_init e63 _ _ (q60.2 _ _ (q55 _ _ (xi_X7_init e52 _ _ (q49.2 _ _ (q44 _ _ (xi_X1_init e41 _ _ (q38.2 _ _ (q33 _ _ (xi_X2_init e30 _ _ (q27.2 _ _ (q22 _ _ (xi_X8_init e19 _ _ (q16.2 _ _ (q11 _ _ (xi_X3_init e8 _ _ (q5.2 _ _ k_this))))))))))))))))))))))))))))))) rfl e125 ?_
  have q126 := q_pR_kd e125
  refine r_aload_n hg 0 dX9_init_136 rfl rfl ?_
  refine r_bipush hg dX9_init_137 cb_8 ?_
  replace h := q_b3_some h; obtain ⟨a127, I128, X129, e130, h⟩ := h
  refine r_nAD hg (N := 8) dX9_init_139 q_aI (by decide +kernel) (by decide +kernel) (Nat.le_of_ble_eq_true rfl) (Nat.le_of_ble_eq_true rfl) (Nat.le_of_ble_eq_true rfl) e130 ?_
  have q131 := q_nA_kd e130
  replace h := q_b1_some h; obtain ⟨X132, e133, h⟩ := h
  refine r_pRD hg dX9_init_141 fl_X9_80 ⟨_, rfl⟩ rfl (q131.2 _ _ (q126 _ _ (q123.2 _ _ (q118 _ _ (q115.2 _ _ (q110 _ _ (q107.2 _ _ (q102 _ _ (q93.2 _ _ (q88 _ _ (xi_X4_init e85 _ _ (q82.2 _ _ (q77 _ _ (xi_X6_init e74 _ _ (q71.2 _ _ (q66 _ _ (xi_X10_init e63 _ _ (q60.2 _ _ (q55 _ _ (xi_X7_init e52 _ _ (q49.2 _ _ (q44 _ _ (xi_X1_init e41 _ _ (q38.2 _ _ (q33 _ _ (xi_X2_init e30 _ _ (q27.2 _ _ (q22 _ _ (xi_X8_init e19 _ _ (q16.2 _ _ (q11 _ _ (xi_X3_init e8 _ _ (q5.2 _ _ k_this))))))))))))))))))))))))))))))))) rfl e133 ?_
  have q134 := q_pR_kd e133
  refine r_aload_n hg 0 dX9_init_144 rfl rfl ?_
  refine r_iconst hg dX9_init_145 ci_0 ?_
  replace h := q_b1_some h; obtain ⟨I135, e136, h⟩ := h
  obtain rfl := Option.some.inj e136
  refine r_putI hg dX9_init_146 fl_X9_83 (q134 _ _ (q131.2 _ _ (q126 _ _ (q123.2 _ _ (q118 _ _ (q115.2 _ _ (q110 _ _ (q107.2 _ _ (q102 _ _ (q93.2 _ _ (q88 _ _ (xi_X4_init e85 _ _ (q82.2 _ _ (q77 _ _ (xi_X6_init e74 _ _ (q71.2 _ _ (q66 _ _ (xi_X10_init e63 _ _ (q60.2 _ _ (q55 _ _ (xi_X7_init e52 _ _ (q49.2 _ _ (q44 _ _ (xi_X1_init e41 _ _ (q38.2 _ _ (q33 _ _ (xi_X2_init e30 _ _ (q27.2 _ _ (q22 _ _ (xi_X8_init e19 _ _ (q16.2 _ _ (q11 _ _ (xi_X3_init e8 _ _ (q5.2 _ _ k_this)))))))))))))))))))))))))))))))))) rfl ⟨rfl, rfl⟩ ?_
  exact r_return hr dX9_init_149 ⟨Nat.le_of_ble_eq_true rfl, Nat.le_of_ble_eq_true rfl⟩ rfl (by cases h; rfl)
theorem xi_X9_init {X : qX} {this : Nat} {I : qI} {z : qI × qX} (h : f_X9_init this X I = some z) : ∀ (k : Nat) (d : Nat × Nat), q_kd X k = some d → q_kd z.2 k = some d := by
  intro k d hk
  unfold f_X9_init at h
  replace h := q_b3_some h; obtain ⟨_, _, _, e1, h⟩ := h
  replace h := q_b2_some h; obtain ⟨_, _, e2, h⟩ := h
  replace h := q_b1_some h; obtain ⟨_, e3, h⟩ := h
  replace h := q_b3_some h; obtain ⟨_, _, _, e4, h⟩ := h
  replace h := q_b2_some h; obtain ⟨_, _, e5, h⟩ := h
  replace h := q_b1_some h; obtain ⟨_, e6, h⟩ := h
  replace h := q_b3_some h; obtain ⟨_, _, _, e7, h⟩ := h
  replace h := q_b2_some h; obtain ⟨_, _, e8, h⟩ := h
  replace h := q_b1_some h; obtain ⟨_, e9, h⟩ := h
  replace h := q_b3_some h; obtain ⟨_, _, _, e10, h⟩ := h
  replace h := q_b2_some h; obtain ⟨_, _, e11, h⟩ := h
  replace h := q_b1_some h; obtain ⟨_, e12, h⟩ := h
  replace h := q_b3_some h; obtain ⟨_, _, _, e13, h⟩ := h
  replace h := q_b2_some h; obtain ⟨_, _, e14, h⟩ := h
  replace h := q_b1_some h; obtain ⟨_, e15, h⟩ := h
  replace h := q_b3_some h; obtain ⟨_, _, _, e16, h⟩ := h
  replace h := q_b2_some h; obtain ⟨_, _, e17, h⟩ := h
  replace h := q_b1_some h; obtain ⟨_, e18, h⟩ := h
  replace h := q_b3_some h; obtain ⟨_, _, _, e19, h⟩ := h
  replace h := q_b2_some h; obtain ⟨_, _, e20, h⟩ := h
  replace h := q_b1_some h; obtain ⟨_, e21, h⟩ := h
  replace h := q_b3_some h; obtain ⟨_, _, _, e22, h⟩ := h
  replace h := q_b2_some h; obtain ⟨_, _, e23, h⟩ := h
  replace h := q_b1_some h; obtain ⟨_, e24, h⟩ := h
  replace h := q_b3_some h; obtain ⟨_, _, _, e25, h⟩ := h
  replace h := q_b1_some h; obtain ⟨_, -, h⟩ := h
  replace h := q_b1_some h; obtain ⟨_, -, h⟩ := h
  replace h := q_b1_some h; obtain ⟨_, -, h⟩ := h
  replace h := q_b1_some h; obtain ⟨_, e29, h⟩ := h
  replace h := q_b3_some h; obtain ⟨_, _, _, e30, h⟩ := h
  replace h := q_b1_some h; obtain ⟨_, e31, h⟩ := h
  replace h := q_b3_some h; obtain ⟨_, _, _, e32, h⟩ := h
  replace h := q_b1_some h; obtain ⟨_, e33, h⟩ := h
  replace h := q_b3_some h; obtain ⟨_, _, _, e34, h⟩ := h
  replace h := q_b1_some h; obtain ⟨_, e35, h⟩ := h
  replace h := q_b3_some h; obtain ⟨_, _, _, e36, h⟩ := h
  replace h := q_b1_some h; obtain ⟨_, e37, h⟩ := h
  replace h := q_b1_some h; obtain ⟨_, -, h⟩ := h
  cases h
  exact (q_pR_kd e37 _ _ ((q_nA_kd e36).2 _ _ (q_pR_kd e35 _ _ ((q_nA_kd e34).2 _ _ (q_pR_kd e33 _ _ ((q_nA_kd e32).2 _ _ (q_pR_kd e31 _ _ ((q_nA_kd e30).2 _ _ (q_pR_kd e29 _ _ ((q_nA_kd e25).2 _ _ (q_pR_kd e24 _ _ (xi_X4_init e23 _ _ ((q_nO_kd e22).2 _ _ (q_pR_kd e21 _ _ (xi_X6_init e20 _ _ ((q_nO_kd e19).2 _ _ (q_pR_kd e18 _ _ (xi_X10_init e17 _ _ ((q_nO_kd e16).2 _ _ (q_pR_kd e15 _ _ (xi_X7_init e14 _ _ ((q_nO_kd e13).2 _ _ (q_pR_kd e12 _ _ (xi_X1_init e11 _ _ ((q_nO_kd e10).2 _ _ (q_pR_kd e9 _ _ (xi_X2_init e8 _ _ ((q_nO_kd e7).2 _ _ (q_pR_kd e6 _ _ (xi_X8_init e5 _ _ ((q_nO_kd e4).2 _ _ (q_pR_kd e3 _ _ (xi_X3_init e2 _ _ ((q_nO_kd e1).2 _ _ hk))))))))))))))))))))))))))))))))))
theorem dX11_init_0 : q_at cX11_init 0 (.aload_n 0) 1 1 := ⟨by decide +kernel, rfl⟩
theorem dX11_init_1 : q_at cX11_init 1 (.invokespecial 1) 3 4 := ⟨by decide +kernel, rfl⟩
theorem dX11_init_4 : q_at cX11_init 4 (.aload_n 0) 1 5 := ⟨by decide +kernel, rfl⟩
theorem dX11_init_5 : q_at cX11_init 5 (.new 7) 3 8 := ⟨by decide +kernel, rfl⟩
theorem dX11_init_8 : q_at cX11_init 8 (.dup) 1 9 := ⟨by decide +kernel, rfl⟩
theorem dX11_init_9 : q_at cX11_init 9 (.invokespecial 9) 3 12 := ⟨by decide +kernel, rfl⟩
theorem dX11_init_12 : q_at cX11_init 12 (.putfield 10) 3 15 := ⟨by decide +kernel, rfl⟩
theorem dX11_init_15 : q_at cX11_init 15 (.aload_n 0) 1 16 := ⟨by decide +kernel, rfl⟩
theorem dX11_init_16 : q_at cX11_init 16 (.new 7) 3 19 := ⟨by decide +kernel, rfl⟩
theorem dX11_init_19 : q_at cX11_init 19 (.dup) 1 20 := ⟨by decide +kernel, rfl⟩
theorem dX11_init_20 : q_at cX11_init 20 (.invokespecial 9) 3 23 := ⟨by decide +kernel, rfl⟩
theorem dX11_init_23 : q_at cX11_init 23 (.putfield 16) 3 26 := ⟨by decide +kernel, rfl⟩
theorem dX11_init_26 : q_at cX11_init 26 (.aload_n 0) 1 27 := ⟨by decide +kernel, rfl⟩
theorem dX11_init_27 : q_at cX11_init 27 (.new 7) 3 30 := ⟨by decide +kernel, rfl⟩
theorem dX11_init_30 : q_at cX11_init 30 (.dup) 1 31 := ⟨by decide +kernel, rfl⟩
theorem dX11_init_31 : q_at cX11_init 31 (.invokespecial 9) 3 34 := ⟨by decide +kernel, rfl⟩
theorem dX11_init_34 : q_at cX11_init 34 (.putfield 19) 3 37 := ⟨by decide +kernel, rfl⟩
theorem dX11_init_37 : q_at cX11_init 37 (.aload_n 0) 1 38 := ⟨by decide +kernel, rfl⟩
theorem dX11_init_38 : q_at cX11_init 38 (.new 22) 3 41 := ⟨by decide +kernel, rfl⟩
theorem dX11_init_41 : q_at cX11_init 41 (.dup) 1 42 := ⟨by decide +kernel, rfl⟩
theorem dX11_init_42 : q_at cX11_init 42 (.invokespecial 24) 3 45 := ⟨by decide +kernel, rfl⟩
theorem dX11_init_45 : q_at cX11_init 45 (.putfield 25) 3 48 := ⟨by decide +kernel, rfl⟩
theorem dX11_init_48 : q_at cX11_init 48 (.aload_n 0) 1 49 := ⟨by decide +kernel, rfl⟩
theorem dX11_init_49 : q_at cX11_init 49 (.new 29) 3 52 := ⟨by decide +kernel, rfl⟩
theorem dX11_init_52 : q_at cX11_init 52 (.dup) 1 53 := ⟨by decide +kernel, rfl⟩
theorem dX11_init_53 : q_at cX11_init 53 (.invokespecial 31) 3 56 := ⟨by decide +kernel, rfl⟩
theorem dX11_init_56 : q_at cX11_init 56 (.putfield 32) 3 59 := ⟨by decide +kernel, rfl⟩
theorem dX11_init_59 : q_at cX11_init 59 (.aload_n 0) 1 60 := ⟨by decide +kernel, rfl⟩
theorem dX11_init_60 : q_at cX11_init 60 (.bipush 60) 2 62 := ⟨by decide +kernel, rfl⟩
theorem dX11_init_62 : q_at cX11_init 62 (.newarray .int) 2 64 := ⟨by decide +kernel, rfl⟩
theorem dX11_init_64 : q_at cX11_init 64 (.putfield 36) 3 67 := ⟨by decide +kernel, rfl⟩
theorem dX11_init_67 : q_at cX11_init 67 (.aload_n 0) 1 68 := ⟨by decide +kernel, rfl⟩
theorem dX11_init_68 : q_at cX11_init 68 (.bipush 60) 2 70 := ⟨by decide +kernel, rfl⟩
theorem dX11_init_70 : q_at cX11_init 70 (.newarray .int) 2 72 := ⟨by decide +kernel, rfl⟩
theorem dX11_init_72 : q_at cX11_init 72 (.putfield 40) 3 75 := ⟨by decide +kernel, rfl⟩
theorem dX11_init_75 : q_at cX11_init 75 (.aload_n 0) 1 76 := ⟨by decide +kernel, rfl⟩
theorem dX11_init_76 : q_at cX11_init 76 (.iconst 0) 1 77 := ⟨by decide +kernel, rfl⟩
theorem dX11_init_77 : q_at cX11_init 77 (.putfield 43) 3 80 := ⟨by decide +kernel, rfl⟩
theorem dX11_init_80 : q_at cX11_init 80 (.aload_n 0) 1 81 := ⟨by decide +kernel, rfl⟩
theorem dX11_init_81 : q_at cX11_init 81 (.iconst 0) 1 82 := ⟨by decide +kernel, rfl⟩
theorem dX11_init_82 : q_at cX11_init 82 (.putfield 47) 3 85 := ⟨by decide +kernel, rfl⟩
theorem dX11_init_85 : q_at cX11_init 85 (.return_) 1 86 := ⟨by decide +kernel, rfl⟩
def f_X11_init (this : Nat) (X : qX) (I : qI) : Option (qI × qX) :=
  q_b3 (q_nO 9 14 I X) fun a1 I2 X3 =>
  q_b2 (f_X9_init a1 X3 I2) fun I6 X7 =>
  q_b1 (q_pR X7 this 0 a1) fun X9 =>
  q_b3 (q_nO 9 14 I6 X9) fun a12 I13 X14 =>
  q_b2 (f_X9_init a12 X14 I13) fun I17 X18 =>
  q_b1 (q_pR X18 this 1 a12) fun X20 =>
  q_b3 (q_nO 9 14 I17 X20) fun a23 I24 X25 =>
  q_b2 (f_X9_init a23 X25 I24) fun I28 X29 =>
  q_b1 (q_pR X29 this 2 a23) fun X31 =>
  q_b3 (q_nO 5 9 I28 X31) fun a34 I35 X36 =>
  q_b2 (f_X5_init a34 X36 I35) fun I39 X40 =>
  q_b1 (q_pR X40 this 3 a34) fun X42 =>
  q_b3 (q_nO 0 3 I39 X42) fun a45 I46 X47 =>
  q_b2 (f_X0_init a45 X47 I46) fun I50 X51 =>
  q_b1 (q_pR X51 this 4 a45) fun X53 =>
  q_b3 (q_nA 60 I50 X53) fun a56 I57 X58 =>
  q_b1 (q_pR X58 this 5 a56) fun X61 =>
  q_b3 (q_nA 60 I57 X61) fun a64 I65 X66 =>
  q_b1 (q_pR X66 this 6 a64) fun X69 =>
  q_b1 (some (q_up I65 this 7 (nI 0))) fun I72 =>
  q_b1 (some (q_up I72 this 8 (nI 0))) fun I74 =>
  some (I74, X69)
set_option maxRecDepth 100000 in
set_option maxHeartbeats 4000000 in
theorem s_X11_init {l : Launch} {Γ : qC} (hΓ : q_gm Γ) {X : qX} {this : Nat} (k_this : q_kd X this = some (13, 9)) {I : qI} {z : qI × qX} (h : f_X11_init this X I = some z) : q_Sem l Γ (q_rm 4 204 4438) yX11_init cX11_init 1 none [.ref this] I X (none, z.1, z.2) := by
  refine q_met (by decide) (Nat.le_of_ble_eq_true rfl) (fun g hg hr => ?_)
  unfold f_X11_init at h
  show g 0 0 0 [(0, .ref this)] [] I X
  refine r_aload_n hg 0 dX11_init_0 rfl rfl ?_
  refine r_objInit hg dX11_init_1 ob_X11_1 ⟨Nat.le_of_ble_eq_true rfl, Nat.le_of_ble_eq_true rfl⟩ ?_
  refine r_aload_n hg 0 dX11_init_4 rfl rfl ?_
  replace h := q_b3_some h; obtain ⟨a1, I2, X3, e4, h⟩ := h
  refine r_nOD hg dX11_init_5 (ci := 9) rfl nw_X11_7 df_9 (Nat.le_of_ble_eq_true rfl) (Nat.le_of_ble_eq_true rfl) e4 ?_
  have q5 := q_nO_kd e4
  refine r_dup hg dX11_init_8 rfl ?_
  replace h := q_b2_some h; obtain ⟨I6, X7, e8, h⟩ := h
  refine r_callI (av := []) hg dX11_init_9 mt_X9_init ml_X11_9 mi_X9_init (s_X9_init hΓ q5.1 e8) rfl (q_room (Nat.le_of_ble_eq_true rfl) (Nat.le_of_ble_eq_true rfl)) ⟨Nat.le_of_ble_eq_true rfl, Nat.le_of_ble_eq_true rfl⟩ (Nat.le_of_ble_eq_true rfl) ?_
  replace h := q_b1_some h; obtain ⟨X9, e10, h⟩ := h
  refine r_pRD hg dX11_init_12 fl_X11_10 ⟨_, rfl⟩ rfl (xi_X9_init e8 _ _ (q5.2 _ _ k_this)) rfl e10 ?_
  have q11 := q_pR_kd e10
  refine r_aload_n hg 0 dX11_init_15 rfl rfl ?_
  replace h := q_b3_some h; obtain ⟨a12, I13, X14, e15, h⟩ := h
  refine r_nOD hg dX11_init_16 (ci := 9) rfl nw_X11_7 df_9 (Nat.le_of_ble_eq_true rfl) (Nat.le_of_ble_eq_true rfl) e15 ?_
  have q16 := q_nO_kd e15
  refine r_dup hg dX11_init_19 rfl ?_
  replace h := q_b2_some h; obtain ⟨I17, X18, e19, h⟩ := h
  refine r_callI (av := []) hg dX11_init_20 mt_X9_init ml_X11_9 mi_X9_init (s_X9_init hΓ q16.1 e19) rfl (q_room (Nat.le_of_ble_eq_true rfl) (Nat.le_of_ble_eq_true rfl)) ⟨Nat.le_of_ble_eq_true rfl, Nat.le_of_ble_eq_true rfl⟩ (Nat.le_of_ble_eq_true rfl) ?_
  replace h := q_b1_some h; obtain ⟨X20, e21, h⟩ := h
  refine r_pRD hg dX11_init_23 fl_X11_16 ⟨_, rfl⟩ rfl (xi_X9_init e19 _ _ (q16.2 _ _ (q11 _ _ (xi_X9_init e8 _ _ (q5.2 _ _ k_this))))) rfl e21 ?_
  have q22 := q_pR_kd e21
  refine r_aload_n hg 0 dX11_init_26 rfl rfl ?_
  replace h := q_b3_some h; obtain ⟨a23, I24, X25, e26, h⟩ := h
  refine r_nOD hg dX11_init_27 (ci := 9) rfl nw_X11_7 df_9 (Nat.le_of_ble_eq_true rfl) (Nat.le_of_ble_eq_true rfl) e26 ?_
  have q27 := q_nO_kd e26
  refine r_dup hg dX11_init_30 rfl ?_
  replace h := q_b2_some h; obtain ⟨I28, X29, e30, h⟩ := h
  refine r_callI (av := []) hg dX11_init_31 mt_X9_init ml_X11_9 mi_X9_init (s_X9_init hΓ q27.1 e30) rfl (q_room (Nat.le_of_ble_eq_true rfl) (Nat.le_of_ble_eq_true rfl)) ⟨Nat.le_of_ble_eq_true rfl, Nat.le_of_ble_eq_true rfl⟩ (Nat.le_of_ble_eq_true rfl) ?_
  replace h := q_b1_some h; obtain ⟨X31, e32, h⟩ := h
  refine r_pRD hg dX11_init_34 fl_X11_19 ⟨_, rfl⟩ rfl (xi_X9_init e30 _ _ (q27.2 _ _ (q22 _ _ (xi_X9_init e19 _ _ (q16.2 _ _ (q11 _ _ (xi_X9_init e8 _ _ (q5.2 _ _ k_this)))))))) rfl e32 ?_
  have q33 := q_pR_kd e32
  refine r_aload_n hg 0 dX11_init_37 rfl rfl ?_
  replace h := q_b3_some h; obtain ⟨a34, I35, X36, e37, h⟩ := h
  refine r_nOD hg dX11_init_38 (ci := 5) rfl nw_X11_22 df_5 (Nat.le_of_ble_eq_true rfl) (Nat.le_of_ble_eq_true rfl) e37 ?_
  have q38 := q_nO_kd e37
  refine r_dup hg dX11_init_41 rfl ?_
  replace h := q_b2_some h; obtain ⟨I39, X40, e41, h⟩ := h
  refine r_callIN (av := []) hg dX11_init_42 mt_X5_init ns_X11_24 mi_X5_init (s_X5_init hΓ q38.1 e41) rfl (q_room (Nat.le_of_ble_eq_true rfl) (Nat.le_of_ble_eq_true rfl)) ⟨Nat.le_of_ble_eq_true rfl, Nat.le_of_ble_eq_true rfl⟩ (Nat.le_of_ble_eq_true rfl) ?_
  replace h := q_b1_some h; obtain ⟨X42, e43, h⟩ := h
  refine r_pRD hg dX11_init_45 fl_X11_25 ⟨_, rfl⟩ rfl (xi_X5_init e41 _ _ (q38.2 _ _ (q33 _ _ (xi_X9_init e30 _ _ (q27.2 _ _ (q22 _ _ (xi_X9_init e19 _ _ (q16.2 _ _ (q11 _ _ (xi_X9_init e8 _ _ (q5.2 _ _ k_this))))))))))) rfl e43 ?_
  have q44 := q_pR_kd e43
  refine r_aload_n hg 0 dX11_init_48 rfl rfl ?_
  replace h := q_b3_some h; obtain ⟨a45, I46, X47, e48, h⟩ := h
  refine r_nOD hg dX11_init_49 (ci := 0) rfl nw_X11_29 df_0 (Nat.le_of_ble_eq_true rfl) (Nat.le_of_ble_eq_true rfl) e48 ?_
  have q49 := q_nO_kd e48
  refine r_dup hg dX11_init_52 rfl ?_
  replace h := q_b2_some h; obtain ⟨I50, X51, e52, h⟩ := h
  refine r_callI (av := []) hg dX11_init_53 mt_X0_init ml_X11_31 mi_X0_init (s_X0_init hΓ q49.1 e52) rfl (q_room (Nat.le_of_ble_eq_true rfl) (Nat.le_of_ble_eq_true rfl)) ⟨Nat.le_of_ble_eq_true rfl, Nat.le_of_ble_eq_true rfl⟩ (Nat.le_of_ble_eq_true rfl) ?_
  replace h := q_b1_some h; obtain ⟨X53, e54, h⟩ := h
  refine r_pRD hg dX11_init_56 fl_X11_32 ⟨_, rfl⟩ rfl (xi_X0_init e52 _ _ (q49.2 _ _ (q44 _ _ (xi_X5_init e41 _ _ (q38.2 _ _ (q33 _ _ (xi_X9_init e30 _ _ (q27.2 _ _ (q22 _ _ (xi_X9_init e19 _ _ (q16.2 _ _ (q11 _ _ (xi_X9_init e8 _ _ (q5.2 _ _ k_this)))))))))))))) rfl e54 ?_
  have q55 := q_pR_kd e54
  refine r_aload_n hg 0 dX11_init_59 rfl rfl ?_
  refine r_bipush hg dX11_init_60 cb_60 ?_
  replace h := q_b3_some h; obtain ⟨a56, I57, X58, e59, h⟩ := h
  refine r_nAD hg (N := 60) dX11_init_62 q_aI (by decide +kernel) (by decide +kernel) (Nat.le_of_ble_eq_true rfl) (Nat.le_of_ble_eq_true rfl) (Nat.le_of_ble_eq_true rfl) e59 ?_
  have q60 := q_nA_kd e59
  replace h := q_b1_some h; obtain ⟨X61, e62, h⟩ := h
  refine r_pRD hg dX11_init_64 fl_X11_36 ⟨_, rfl⟩ rfl (q60.2 _ _ (q55 _ _ (xi_X0_init e52 _ _ (q49.2 _ _ (q44 _ _ (xi_X5_init e41 _ _ (q38.2 _ _ (q33 _ _ (xi_X9_init e30 _ _ (q27.2 _ _ (q22 _ _ (xi_X9_init e19 _ _ (q16.2 _ _ (q11 _ _ (xi_X9_init e8 _ _ (q5.2 _ _ k_this)))))))))))))))) rfl e62 ?_
  have q63 := q_pR_kd e62
  refine r_aload_n hg 0 dX11_init_67 rfl rfl ?_
  refine r_bipush hg dX11_init_68 cb_60 ?_
  replace h := q_b3_some h; obtain ⟨a64, I65, X66, e67, h⟩ := h
  refine r_nAD hg (N := 60) dX11_init_70 q_aI (by decide +kernel) (by decide +kernel) (Nat.le_of_ble_eq_true rfl) (Nat.le_of_ble_eq_true rfl) (Nat.le_of_ble_eq_true rfl) e67 ?_
  have q68 := q_nA_kd e67
  replace h := q_b1_some h; obtain ⟨X69, e70, h⟩ := h
  refine r_pRD hg dX11_init_72 fl_X11_40 ⟨_, rfl⟩ rfl (q68.2 _ _ (q63 _ _ (q60.2 _ _ (q55 _ _ (xi_X0_init e52 _ _ (q49.2 _ _ (q44 _ _ (xi_X5_init e41 _ _ (q38.2 _ _ (q33 _ _ (xi_X9_init e30 _ _ (q27.2 _ _ (q22 _ _ (xi_X9_init e19 _ _ (q16.2 _ _ (q11 _ _ (xi_X9_init e8 _ _ (q5.2 _ _ k_this)))))))))))))))))) rfl e70 ?_
  have q71 := q_pR_kd e70
  refine r_aload_n hg 0 dX11_init_75 rfl rfl ?_
  refine r_iconst hg dX11_init_76 ci_0 ?_
  replace h := q_b1_some h; obtain ⟨I72, e73, h⟩ := h
  obtain rfl := Option.some.inj e73
  refine r_putI hg dX11_init_77 fl_X11_43 (q71 _ _ (q68.2 _ _ (q63 _ _ (q60.2 _ _ (q55 _ _ (xi_X0_init e52 _ _ (q49.2 _ _ (q44 _ _ (xi_X5_init e41 _ _ (q38.2 _ _ (q33 _ _ (xi_X9_init e30 _ _ (q27.2 _ _ (q22 _ _ (xi_X9_init e19 _ _ (q16.2 _ _ (q11 _ _ (xi_X9_init e8 _ _ (q5.2 _ _ k_this))))))))))))))))))) rfl ⟨rfl, rfl⟩ ?_
  refine r_aload_n hg 0 dX11_init_80 rfl rfl ?_
  refine r_iconst hg dX11_init_81 ci_0 ?_
  replace h := q_b1_some h; obtain ⟨I74, e75, h⟩ := h
  obtain rfl := Option.some.inj e75
  refine r_putI hg dX11_init_82 fl_X11_47 (q71 _ _ (q68.2 _ _ (q63 _ _ (q60.2 _ _ (q55 _ _ (xi_X0_init e52 _ _ (q49.2 _ _ (q44 _ _ (xi_X5_init e41 _ _ (q38.2 _ _ (q33 _ _ (xi_X9_init e30 _ _ (q27.2 _ _ (q22 _ _ (xi_X9_init e19 _ _ (q16.2 _ _ (q11 _ _ (xi_X9_init e8 _ _ (q5.2 _ _ k_this))))))))))))))))))) rfl bz_0 ?_
  exact r_return hr dX11_init_85 ⟨Nat.le_of_ble_eq_true rfl, Nat.le_of_ble_eq_true rfl⟩ rfl (by cases h; rfl)
theorem xi_X11_init {X : qX} {this : Nat} {I : qI} {z : qI × qX} (h : f_X11_init this X I = some z) : ∀ (k : Nat) (d : Nat × Nat), q_kd X k = some d → q_kd z.2 k = some d := by
  intro k d hk
  unfold f_X11_init at h
  replace h := q_b3_some h; obtain ⟨_, _, _, e1, h⟩ := h
  replace h := q_b2_some h; obtain ⟨_, _, e2, h⟩ := h
  replace h := q_b1_some h; obtain ⟨_, e3, h⟩ := h
  replace h := q_b3_some h; obtain ⟨_, _, _, e4, h⟩ := h
  replace h := q_b2_some h; obtain ⟨_, _, e5, h⟩ := h
  replace h := q_b1_some h; obtain ⟨_, e6, h⟩ := h
  replace h := q_b3_some h; obtain ⟨_, _, _, e7, h⟩ := h
  replace h := q_b2_some h; obtain ⟨_, _, e8, h⟩ := h
  replace h := q_b1_some h; obtain ⟨_, e9, h⟩ := h
  replace h := q_b3_some h; obtain ⟨_, _, _, e10, h⟩ := h
  replace h := q_b2_some h; obtain ⟨_, _, e11, h⟩ := h
  replace h := q_b1_some h; obtain ⟨_, e12, h⟩ := h
  replace h := q_b3_some h; obtain ⟨_, _, _, e13, h⟩ := h
  replace h := q_b2_some h; obtain ⟨_, _, e14, h⟩ := h
  replace h := q_b1_some h; obtain ⟨_, e15, h⟩ := h
  replace h := q_b3_some h; obtain ⟨_, _, _, e16, h⟩ := h
  replace h := q_b1_some h; obtain ⟨_, e17, h⟩ := h
  replace h := q_b3_some h; obtain ⟨_, _, _, e18, h⟩ := h
  replace h := q_b1_some h; obtain ⟨_, e19, h⟩ := h
  replace h := q_b1_some h; obtain ⟨_, -, h⟩ := h
  replace h := q_b1_some h; obtain ⟨_, -, h⟩ := h
  cases h
  exact (q_pR_kd e19 _ _ ((q_nA_kd e18).2 _ _ (q_pR_kd e17 _ _ ((q_nA_kd e16).2 _ _ (q_pR_kd e15 _ _ (xi_X0_init e14 _ _ ((q_nO_kd e13).2 _ _ (q_pR_kd e12 _ _ (xi_X5_init e11 _ _ ((q_nO_kd e10).2 _ _ (q_pR_kd e9 _ _ (xi_X9_init e8 _ _ ((q_nO_kd e7).2 _ _ (q_pR_kd e6 _ _ (xi_X9_init e5 _ _ ((q_nO_kd e4).2 _ _ (q_pR_kd e3 _ _ (xi_X9_init e2 _ _ ((q_nO_kd e1).2 _ _ hk)))))))))))))))))))
theorem dX12_init_0 : q_at cX12_init 0 (.aload_n 0) 1 1 := ⟨by decide +kernel, rfl⟩
theorem dX12_init_1 : q_at cX12_init 1 (.invokespecial 1) 3 4 := ⟨by decide +kernel, rfl⟩
theorem dX12_init_4 : q_at cX12_init 4 (.aload_n 0) 1 5 := ⟨by decide +kernel, rfl⟩
theorem dX12_init_5 : q_at cX12_init 5 (.sipush 3580) 3 8 := ⟨by decide +kernel, rfl⟩
theorem dX12_init_8 : q_at cX12_init 8 (.newarray .int) 2 10 := ⟨by decide +kernel, rfl⟩
theorem dX12_init_10 : q_at cX12_init 10 (.putfield 7) 3 13 := ⟨by decide +kernel, rfl⟩
theorem dX12_init_13 : q_at cX12_init 13 (.aload_n 0) 1 14 := ⟨by decide +kernel, rfl⟩
theorem dX12_init_14 : q_at cX12_init 14 (.sipush 3580) 3 17 := ⟨by decide +kernel, rfl⟩
theorem dX12_init_17 : q_at cX12_init 17 (.newarray .int) 2 19 := ⟨by decide +kernel, rfl⟩
theorem dX12_init_19 : q_at cX12_init 19 (.putfield 13) 3 22 := ⟨by decide +kernel, rfl⟩
theorem dX12_init_22 : q_at cX12_init 22 (.aload_n 0) 1 23 := ⟨by decide +kernel, rfl⟩
theorem dX12_init_23 : q_at cX12_init 23 (.sipush 3580) 3 26 := ⟨by decide +kernel, rfl⟩
theorem dX12_init_26 : q_at cX12_init 26 (.newarray .int) 2 28 := ⟨by decide +kernel, rfl⟩
theorem dX12_init_28 : q_at cX12_init 28 (.putfield 16) 3 31 := ⟨by decide +kernel, rfl⟩
theorem dX12_init_31 : q_at cX12_init 31 (.aload_n 0) 1 32 := ⟨by decide +kernel, rfl⟩
theorem dX12_init_32 : q_at cX12_init 32 (.bipush 8) 2 34 := ⟨by decide +kernel, rfl⟩
theorem dX12_init_34 : q_at cX12_init 34 (.newarray .int) 2 36 := ⟨by decide +kernel, rfl⟩
theorem dX12_init_36 : q_at cX12_init 36 (.putfield 19) 3 39 := ⟨by decide +kernel, rfl⟩
theorem dX12_init_39 : q_at cX12_init 39 (.aload_n 0) 1 40 := ⟨by decide +kernel, rfl⟩
theorem dX12_init_40 : q_at cX12_init 40 (.bipush 8) 2 42 := ⟨by decide +kernel, rfl⟩
theorem dX12_init_42 : q_at cX12_init 42 (.newarray .int) 2 44 := ⟨by decide +kernel, rfl⟩
theorem dX12_init_44 : q_at cX12_init 44 (.putfield 22) 3 47 := ⟨by decide +kernel, rfl⟩
theorem dX12_init_47 : q_at cX12_init 47 (.aload_n 0) 1 48 := ⟨by decide +kernel, rfl⟩
theorem dX12_init_48 : q_at cX12_init 48 (.sipush 240) 3 51 := ⟨by decide +kernel, rfl⟩
theorem dX12_init_51 : q_at cX12_init 51 (.newarray .int) 2 53 := ⟨by decide +kernel, rfl⟩
theorem dX12_init_53 : q_at cX12_init 53 (.putfield 25) 3 56 := ⟨by decide +kernel, rfl⟩
theorem dX12_init_56 : q_at cX12_init 56 (.aload_n 0) 1 57 := ⟨by decide +kernel, rfl⟩
theorem dX12_init_57 : q_at cX12_init 57 (.bipush 96) 2 59 := ⟨by decide +kernel, rfl⟩
theorem dX12_init_59 : q_at cX12_init 59 (.newarray .int) 2 61 := ⟨by decide +kernel, rfl⟩
theorem dX12_init_61 : q_at cX12_init 61 (.putfield 28) 3 64 := ⟨by decide +kernel, rfl⟩
theorem dX12_init_64 : q_at cX12_init 64 (.aload_n 0) 1 65 := ⟨by decide +kernel, rfl⟩
theorem dX12_init_65 : q_at cX12_init 65 (.sipush 128) 3 68 := ⟨by decide +kernel, rfl⟩
theorem dX12_init_68 : q_at cX12_init 68 (.newarray .int) 2 70 := ⟨by decide +kernel, rfl⟩
theorem dX12_init_70 : q_at cX12_init 70 (.putfield 31) 3 73 := ⟨by decide +kernel, rfl⟩
theorem dX12_init_73 : q_at cX12_init 73 (.aload_n 0) 1 74 := ⟨by decide +kernel, rfl⟩
theorem dX12_init_74 : q_at cX12_init 74 (.bipush 100) 2 76 := ⟨by decide +kernel, rfl⟩
theorem dX12_init_76 : q_at cX12_init 76 (.newarray .int) 2 78 := ⟨by decide +kernel, rfl⟩
theorem dX12_init_78 : q_at cX12_init 78 (.putfield 34) 3 81 := ⟨by decide +kernel, rfl⟩
theorem dX12_init_81 : q_at cX12_init 81 (.aload_n 0) 1 82 := ⟨by decide +kernel, rfl⟩
theorem dX12_init_82 : q_at cX12_init 82 (.bipush 30) 2 84 := ⟨by decide +kernel, rfl⟩
theorem dX12_init_84 : q_at cX12_init 84 (.newarray .int) 2 86 := ⟨by decide +kernel, rfl⟩
theorem dX12_init_86 : q_at cX12_init 86 (.putfield 37) 3 89 := ⟨by decide +kernel, rfl⟩
theorem dX12_init_89 : q_at cX12_init 89 (.aload_n 0) 1 90 := ⟨by decide +kernel, rfl⟩
theorem dX12_init_90 : q_at cX12_init 90 (.bipush 28) 2 92 := ⟨by decide +kernel, rfl⟩
theorem dX12_init_92 : q_at cX12_init 92 (.newarray .int) 2 94 := ⟨by decide +kernel, rfl⟩
theorem dX12_init_94 : q_at cX12_init 94 (.putfield 40) 3 97 := ⟨by decide +kernel, rfl⟩
theorem dX12_init_97 : q_at cX12_init 97 (.aload_n 0) 1 98 := ⟨by decide +kernel, rfl⟩
theorem dX12_init_98 : q_at cX12_init 98 (.bipush 8) 2 100 := ⟨by decide +kernel, rfl⟩
theorem dX12_init_100 : q_at cX12_init 100 (.newarray .int) 2 102 := ⟨by decide +kernel, rfl⟩
theorem dX12_init_102 : q_at cX12_init 102 (.putfield 43) 3 105 := ⟨by decide +kernel, rfl⟩
theorem dX12_init_105 : q_at cX12_init 105 (.aload_n 0) 1 106 := ⟨by decide +kernel, rfl⟩
theorem dX12_init_106 : q_at cX12_init 106 (.bipush 8) 2 108 := ⟨by decide +kernel, rfl⟩
theorem dX12_init_108 : q_at cX12_init 108 (.newarray .int) 2 110 := ⟨by decide +kernel, rfl⟩
theorem dX12_init_110 : q_at cX12_init 110 (.putfield 46) 3 113 := ⟨by decide +kernel, rfl⟩
theorem dX12_init_113 : q_at cX12_init 113 (.aload_n 0) 1 114 := ⟨by decide +kernel, rfl⟩
theorem dX12_init_114 : q_at cX12_init 114 (.bipush 8) 2 116 := ⟨by decide +kernel, rfl⟩
theorem dX12_init_116 : q_at cX12_init 116 (.newarray .int) 2 118 := ⟨by decide +kernel, rfl⟩
theorem dX12_init_118 : q_at cX12_init 118 (.putfield 49) 3 121 := ⟨by decide +kernel, rfl⟩
theorem dX12_init_121 : q_at cX12_init 121 (.aload_n 0) 1 122 := ⟨by decide +kernel, rfl⟩
theorem dX12_init_122 : q_at cX12_init 122 (.bipush 8) 2 124 := ⟨by decide +kernel, rfl⟩
theorem dX12_init_124 : q_at cX12_init 124 (.newarray .int) 2 126 := ⟨by decide +kernel, rfl⟩
theorem dX12_init_126 : q_at cX12_init 126 (.putfield 52) 3 129 := ⟨by decide +kernel, rfl⟩
theorem dX12_init_129 : q_at cX12_init 129 (.aload_n 0) 1 130 := ⟨by decide +kernel, rfl⟩
theorem dX12_init_130 : q_at cX12_init 130 (.bipush 60) 2 132 := ⟨by decide +kernel, rfl⟩
theorem dX12_init_132 : q_at cX12_init 132 (.newarray .int) 2 134 := ⟨by decide +kernel, rfl⟩
theorem dX12_init_134 : q_at cX12_init 134 (.putfield 55) 3 137 := ⟨by decide +kernel, rfl⟩
theorem dX12_init_137 : q_at cX12_init 137 (.aload_n 0) 1 138 := ⟨by decide +kernel, rfl⟩
theorem dX12_init_138 : q_at cX12_init 138 (.bipush 60) 2 140 := ⟨by decide +kernel, rfl⟩
theorem dX12_init_140 : q_at cX12_init 140 (.newarray .int) 2 142 := ⟨by decide +kernel, rfl⟩
theorem dX12_init_142 : q_at cX12_init 142 (.putfield 58) 3 145 := ⟨by decide +kernel, rfl⟩
theorem dX12_init_145 : q_at cX12_init 145 (.aload_n 0) 1 146 := ⟨by decide +kernel, rfl⟩
theorem dX12_init_146 : q_at cX12_init 146 (.getfield 7) 3 149 := ⟨by decide +kernel, rfl⟩
theorem dX12_init_149 : q_at cX12_init 149 (.bipush 7) 2 151 := ⟨by decide +kernel, rfl⟩
theorem dX12_init_151 : q_at cX12_init 151 (.bipush 100) 2 153 := ⟨by decide +kernel, rfl⟩
theorem dX12_init_153 : q_at cX12_init 153 (.iastore) 1 154 := ⟨by decide +kernel, rfl⟩
theorem dX12_init_154 : q_at cX12_init 154 (.iconst 0) 1 155 := ⟨by decide +kernel, rfl⟩
theorem dX12_init_155 : q_at cX12_init 155 (.istore_n 1) 1 156 := ⟨by decide +kernel, rfl⟩
theorem dX12_init_156 : q_at cX12_init 156 (.iload_n 1) 1 157 := ⟨by decide +kernel, rfl⟩
theorem dX12_init_157 : q_at cX12_init 157 (.bipush 8) 2 159 := ⟨by decide +kernel, rfl⟩
theorem dX12_init_159 : q_at cX12_init 159 (.if_icmp .ge 44) 3 162 := ⟨by decide +kernel, rfl⟩
theorem dX12_init_162 : q_at cX12_init 162 (.aload_n 0) 1 163 := ⟨by decide +kernel, rfl⟩
theorem dX12_init_163 : q_at cX12_init 163 (.getfield 7) 3 166 := ⟨by decide +kernel, rfl⟩
theorem dX12_init_166 : q_at cX12_init 166 (.bipush 10) 2 168 := ⟨by decide +kernel, rfl⟩
theorem dX12_init_168 : q_at cX12_init 168 (.iconst 5) 1 169 := ⟨by decide +kernel, rfl⟩
theorem dX12_init_169 : q_at cX12_init 169 (.iload_n 1) 1 170 := ⟨by decide +kernel, rfl⟩
theorem dX12_init_170 : q_at cX12_init 170 (.imul) 1 171 := ⟨by decide +kernel, rfl⟩
theorem dX12_init_171 : q_at cX12_init 171 (.iadd) 1 172 := ⟨by decide +kernel, rfl⟩
theorem dX12_init_172 : q_at cX12_init 172 (.bipush 20) 2 174 := ⟨by decide +kernel, rfl⟩
theorem dX12_init_174 : q_at cX12_init 174 (.iastore) 1 175 := ⟨by decide +kernel, rfl⟩
theorem dX12_init_175 : q_at cX12_init 175 (.aload_n 0) 1 176 := ⟨by decide +kernel, rfl⟩
theorem dX12_init_176 : q_at cX12_init 176 (.getfield 7) 3 179 := ⟨by decide +kernel, rfl⟩
theorem dX12_init_179 : q_at cX12_init 179 (.bipush 10) 2 181 := ⟨by decide +kernel, rfl⟩
theorem dX12_init_181 : q_at cX12_init 181 (.iconst 5) 1 182 := ⟨by decide +kernel, rfl⟩
theorem dX12_init_182 : q_at cX12_init 182 (.iload_n 1) 1 183 := ⟨by decide +kernel, rfl⟩
theorem dX12_init_183 : q_at cX12_init 183 (.imul) 1 184 := ⟨by decide +kernel, rfl⟩
theorem dX12_init_184 : q_at cX12_init 184 (.iadd) 1 185 := ⟨by decide +kernel, rfl⟩
theorem dX12_init_185 : q_at cX12_init 185 (.iconst 1) 1 186 := ⟨by decide +kernel, rfl⟩
theorem dX12_init_186 : q_at cX12_init 186 (.iadd) 1 187 := ⟨by decide +kernel, rfl⟩
theorem dX12_init_187 : q_at cX12_init 187 (.bipush 100) 2 189 := ⟨by decide +kernel, rfl⟩
theorem dX12_init_189 : q_at cX12_init 189 (.iastore) 1 190 := ⟨by decide +kernel, rfl⟩
theorem dX12_init_190 : q_at cX12_init 190 (.aload_n 0) 1 191 := ⟨by decide +kernel, rfl⟩
theorem dX12_init_191 : q_at cX12_init 191 (.getfield 19) 3 194 := ⟨by decide +kernel, rfl⟩
theorem dX12_init_194 : q_at cX12_init 194 (.iload_n 1) 1 195 := ⟨by decide +kernel, rfl⟩
theorem dX12_init_195 : q_at cX12_init 195 (.iconst (-1)) 1 196 := ⟨by decide +kernel, rfl⟩
theorem dX12_init_196 : q_at cX12_init 196 (.iastore) 1 197 := ⟨by decide +kernel, rfl⟩
theorem dX12_init_197 : q_at cX12_init 197 (.iinc 1 1) 3 200 := ⟨by decide +kernel, rfl⟩
theorem dX12_init_200 : q_at cX12_init 200 (.goto (-44)) 3 203 := ⟨by decide +kernel, rfl⟩
theorem dX12_init_203 : q_at cX12_init 203 (.return_) 1 204 := ⟨by decide +kernel, rfl⟩
def b_X12_init_156 (this : Nat) (k156 : Int32 → qX → qI → Option (qI × qX)) (x1 : Int32) (X : qX) (I : qI) : Option (qI × qX) :=
  if (nI 8) ≤ x1 then
    some (I, X)
  else
    q_b1 (X.1 this 0) fun a2 =>
    q_b2 (q_arr X (some a2)) fun a4 n5 =>
    q_b1 (q_wr I a4 n5 ((nI 10) + ((nI 5) * x1)) (nI 20)) fun I9 =>
    q_b1 (X.1 this 0) fun a11 =>
    q_b2 (q_arr X (some a11)) fun a13 n14 =>
    q_b1 (q_wr I9 a13 n14 (((nI 10) + ((nI 5) * x1)) + (nI 1)) (nI 100)) fun I18 =>
    q_b1 (X.1 this 4) fun a20 =>
    q_b2 (q_arr X (some a20)) fun a22 n23 =>
    q_b1 (q_wr I18 a22 n23 x1 (-1)) fun I27 =>
    k156 (x1 + (nI 1)) X I27
set_option maxRecDepth 100000 in
set_option maxHeartbeats 4000000 in
theorem p_X12_init_156 {l : Launch} {Γ : qC} {g : qG} {z : qI × qX} {this : Nat} (hΓ : q_gm Γ) (hg : q_Ok l Γ RX12 cX12_init 2 (q_rm 2 17 11530) "<init>" none g) (hr : q_Rt cX12_init none (q_rm 2 17 11530) (none, z.1, z.2) g) {k156 : Int32 → qX → qI → Option (qI × qX)} (hk156 : ∀ (x1 : Int32) (X : qX) (I : qI) (k_this : q_kd X this = some (14, 42)), k156 x1 X I = some z → g 17 11530 156 [(0, .ref this), (1, .int x1)] [] I X) (x1 : Int32) (X : qX) (I : qI) (k_this : q_kd X this = some (14, 42)) (h : b_X12_init_156 this k156 x1 X I = some z) : g 17 11530 156 [(0, .ref this), (1, .int x1)] [] I X := by
  unfold b_X12_init_156 at h
  refine r_iload_n hg 1 dX12_init_156 rfl rfl ?_
  refine r_bipush hg dX12_init_157 cb_8 ?_
  refine r_icmp_ge hg 203 dX12_init_159 (by decide) (fun c1 => ?_) (fun c1 => ?_)
  · rw [if_pos c1] at h
    exact r_return hr dX12_init_203 ⟨Nat.le_of_ble_eq_true rfl, Nat.le_of_ble_eq_true rfl⟩ rfl (by cases h; rfl)
  · rw [if_neg c1] at h
    refine r_aload_n hg 0 dX12_init_162 rfl rfl ?_
    replace h := q_b1_some h; obtain ⟨a2, e3, h⟩ := h
    refine r_getR hg dX12_init_163 fl_X12_7 k_this rfl e3 ?_
    refine r_bipush hg dX12_init_166 cb_10 ?_
    refine r_iconst hg dX12_init_168 ci_5 ?_
    refine r_iload_n hg 1 dX12_init_169 rfl rfl ?_
    refine r_imul hg dX12_init_170 ?_
    refine r_iadd hg dX12_init_171 ?_
    refine r_bipush hg dX12_init_172 cb_20 ?_
    replace h := q_b2_some h
    obtain ⟨a4, n5, e6, h⟩ := h
    obtain ⟨e8, k7⟩ := q_arr_some e6
    obtain rfl := Option.some.inj e8
    replace h := q_b1_some h; obtain ⟨I9, e10, h⟩ := h
    refine r_iast hg dX12_init_174 k7 e10 ?_
    refine r_aload_n hg 0 dX12_init_175 rfl rfl ?_
    replace h := q_b1_some h; obtain ⟨a11, e12, h⟩ := h
    refine r_getR hg dX12_init_176 fl_X12_7 k_this rfl e12 ?_
    refine r_bipush hg dX12_init_179 cb_10 ?_
    refine r_iconst hg dX12_init_181 ci_5 ?_
    refine r_iload_n hg 1 dX12_init_182 rfl rfl ?_
    refine r_imul hg dX12_init_183 ?_
    refine r_iadd hg dX12_init_184 ?_
    refine r_iconst hg dX12_init_185 ci_1 ?_
    refine r_iadd hg dX12_init_186 ?_
    refine r_bipush hg dX12_init_187 cb_100 ?_
    replace h := q_b2_some h
    obtain ⟨a13, n14, e15, h⟩ := h
    obtain ⟨e17, k16⟩ := q_arr_some e15
    obtain rfl := Option.some.inj e17
    replace h := q_b1_some h; obtain ⟨I18, e19, h⟩ := h
    refine r_iast hg dX12_init_189 k16 e19 ?_
    refine r_aload_n hg 0 dX12_init_190 rfl rfl ?_
    replace h := q_b1_some h; obtain ⟨a20, e21, h⟩ := h
    refine r_getR hg dX12_init_191 fl_X12_19 k_this rfl e21 ?_
    refine r_iload_n hg 1 dX12_init_194 rfl rfl ?_
    refine r_iconst hg dX12_init_195 ci_m1 ?_
    replace h := q_b2_some h
    obtain ⟨a22, n23, e24, h⟩ := h
    obtain ⟨e26, k25⟩ := q_arr_some e24
    obtain rfl := Option.some.inj e26
    replace h := q_b1_some h; obtain ⟨I27, e28, h⟩ := h
    refine r_iast hg dX12_init_196 k25 e28 ?_
    refine r_iinc hg 1 (v := (x1 + (nI 1))) (L' := [(1, .int (x1 + (nI 1))), (0, .ref this)]) dX12_init_197 rfl (by rw [ci_1]) (by decide) rfl ?_
    refine r_goto hg 156 dX12_init_200 (by decide) ?_
    refine r_sub hg [1, 0] rfl ?_
    exact hk156 _ _ _ k_this h
theorem pl_X12_init_156 {l : Launch} {Γ : qC} {g : qG} {z : qI × qX} {this : Nat} (hΓ : q_gm Γ) (hg : q_Ok l Γ RX12 cX12_init 2 (q_rm 2 17 11530) "<init>" none g) (hr : q_Rt cX12_init none (q_rm 2 17 11530) (none, z.1, z.2) g) : ∀ (n : Nat) (x1 : Int32) (X : qX) (I : qI) (k_this : q_kd X this = some (14, 42)), q_fix (fun _ _ _ => none) (b_X12_init_156 this) n x1 X I = some z → g 17 11530 156 [(0, .ref this), (1, .int x1)] [] I X := by
  intro n
  induction n with
  | zero =>
    intro x1 X I k_this h
    cases (show (none : Option (qI × qX)) = some z from h)
  | succ n ih =>
    intro x1 X I k_this h
    exact p_X12_init_156 hΓ hg hr ih _ _ _ k_this h
def f_X12_init (this : Nat) (X : qX) (I : qI) : Option (qI × qX) :=
  q_b3 (q_nA 3580 I X) fun a1 I2 X3 =>
  q_b1 (q_pR X3 this 0 a1) fun X6 =>
  q_b3 (q_nA 3580 I2 X6) fun a9 I10 X11 =>
  q_b1 (q_pR X11 this 1 a9) fun X14 =>
  q_b3 (q_nA 3580 I10 X14) fun a17 I18 X19 =>
  q_b1 (q_pR X19 this 2 a17) fun X22 =>
  q_b3 (q_nA 8 I18 X22) fun a25 I26 X27 =>
  q_b1 (q_pR X27 this 4 a25) fun X30 =>
  q_b3 (q_nA 8 I26 X30) fun a33 I34 X35 =>
  q_b1 (q_pR X35 this 5 a33) fun X38 =>
  q_b3 (q_nA 240 I34 X38) fun a41 I42 X43 =>
  q_b1 (q_pR X43 this 6 a41) fun X46 =>
  q_b3 (q_nA 96 I42 X46) fun a49 I50 X51 =>
  q_b1 (q_pR X51 this 13 a49) fun X54 =>
  q_b3 (q_nA 128 I50 X54) fun a57 I58 X59 =>
  q_b1 (q_pR X59 this 26 a57) fun X62 =>
  q_b3 (q_nA 100 I58 X62) fun a65 I66 X67 =>
  q_b1 (q_pR X67 this 27 a65) fun X70 =>
  q_b3 (q_nA 30 I66 X70) fun a73 I74 X75 =>
  q_b1 (q_pR X75 this 28 a73) fun X78 =>
  q_b3 (q_nA 28 I74 X78) fun a81 I82 X83 =>
  q_b1 (q_pR X83 this 29 a81) fun X86 =>
  q_b3 (q_nA 8 I82 X86) fun a89 I90 X91 =>
  q_b1 (q_pR X91 this 31 a89) fun X94 =>
  q_b3 (q_nA 8 I90 X94) fun a97 I98 X99 =>
  q_b1 (q_pR X99 this 32 a97) fun X102 =>
  q_b3 (q_nA 8 I98 X102) fun a105 I106 X107 =>
  q_b1 (q_pR X107 this 33 a105) fun X110 =>
  q_b3 (q_nA 8 I106 X110) fun a113 I114 X115 =>
  q_b1 (q_pR X115 this 34 a113) fun X118 =>
  q_b3 (q_nA 60 I114 X118) fun a121 I122 X123 =>
  q_b1 (q_pR X123 this 38 a121) fun X126 =>
  q_b3 (q_nA 60 I122 X126) fun a129 I130 X131 =>
  q_b1 (q_pR X131 this 40 a129) fun X134 =>
  q_b1 (X134.1 this 0) fun a137 =>
  q_b2 (q_arr X134 (some a137)) fun a139 n140 =>
  q_b1 (q_wr I130 a139 n140 (nI 7) (nI 100)) fun I144 =>
  q_fix (fun _ _ _ => none) (b_X12_init_156 this) q_fu (nI 0) X134 I144
set_option maxRecDepth 100000 in
set_option maxHeartbeats 4000000 in
theorem s_X12_init {l : Launch} {Γ : qC} (hΓ : q_gm Γ) {X : qX} {this : Nat} (k_this : q_kd X this = some (14, 42)) {I : qI} {z : qI × qX} (h : f_X12_init this X I = some z) : q_Sem l Γ (q_rm 2 17 11530) yX12_init cX12_init 2 none [.ref this] I X (none, z.1, z.2) := by
  refine q_met (by decide) (Nat.le_of_ble_eq_true rfl) (fun g hg hr => ?_)
  unfold f_X12_init at h
  show g 0 0 0 [(0, .ref this)] [] I X
  refine r_aload_n hg 0 dX12_init_0 rfl rfl ?_
  refine r_objInit hg dX12_init_1 ob_X12_1 ⟨Nat.le_of_ble_eq_true rfl, Nat.le_of_ble_eq_true rfl⟩ ?_
  refine r_aload_n hg 0 dX12_init_4 rfl rfl ?_
  refine r_sipush hg dX12_init_5 cs_3580 ?_
  replace h := q_b3_some h; obtain ⟨a1, I2, X3, e4, h⟩ := h
  refine r_nAD hg (N := 3580) dX12_init_8 q_aI (by decide +kernel) (by decide +kernel) (Nat.le_of_ble_eq_true rfl) (Nat.le_of_ble_eq_true rfl) (Nat.le_of_ble_eq_true rfl) e4 ?_
  have q5 := q_nA_kd e4
  replace h := q_b1_some h; obtain ⟨X6, e7, h⟩ := h
  refine r_pRD hg dX12_init_10 fl_X12_7 ⟨_, rfl⟩ rfl (q5.2 _ _ k_this) rfl e7 ?_
  have q8 := q_pR_kd e7
  refine r_aload_n hg 0 dX12_init_13 rfl rfl ?_
  refine r_sipush hg dX12_init_14 cs_3580 ?_
  replace h := q_b3_some h; obtain ⟨a9, I10, X11, e12, h⟩ := h
  refine r_nAD hg (N := 3580) dX12_init_17 q_aI (by decide +kernel) (by decide +kernel) (Nat.le_of_ble_eq_true rfl) (Nat.le_of_ble_eq_true rfl) (Nat.le_of_ble_eq_true rfl) e12 ?_
  have q13 := q_nA_kd e12
  replace h := q_b1_some h; obtain ⟨X14, e15, h⟩ := h
  refine r_pRD hg dX12_init_19 fl_X12_13 ⟨_, rfl⟩ rfl (q13.2 _ _ (q8 _ _ (q5.2 _ _ k_this))) rfl e15 ?_
  have q16 := q_pR_kd e15
  refine r_aload_n hg 0 dX12_init_22 rfl rfl ?_
  refine r_sipush hg dX12_init_23 cs_3580 ?_
  replace h := q_b3_some h; obtain ⟨a17, I18, X19, e20, h⟩ := h
  refine r_nAD hg (N := 3580) dX12_init_26 q_aI (by decide +kernel) (by decide +kernel) (Nat.le_of_ble_eq_true rfl) (Nat.le_of_ble_eq_true rfl) (Nat.le_of_ble_eq_true rfl) e20 ?_
  have q21 := q_nA_kd e20
  replace h := q_b1_some h; obtain ⟨X22, e23, h⟩ := h
  refine r_pRD hg dX12_init_28 fl_X12_16 ⟨_, rfl⟩ rfl (q21.2 _ _ (q16 _ _ (q13.2 _ _ (q8 _ _ (q5.2 _ _ k_this))))) rfl e23 ?_
  have q24 := q_pR_kd e23
  refine r_aload_n hg 0 dX12_init_31 rfl rfl ?_
  refine r_bipush hg dX12_init_32 cb_8 ?_
  replace h := q_b3_some h; obtain ⟨a25, I26, X27, e28, h⟩ := h
  refine r_nAD hg (N := 8) dX12_init_34 q_aI (by decide +kernel) (by decide +kernel) (Nat.le_of_ble_eq_true rfl) (Nat.le_of_ble_eq_true rfl) (Nat.le_of_ble_eq_true rfl) e28 ?_
  have q29 := q_nA_kd e28
  replace h := q_b1_some h; obtain ⟨X30, e31, h⟩ := h
  refine r_pRD hg dX12_init_36 fl_X12_19 ⟨_, rfl⟩ rfl (q29.2 _ _ (q24 _ _ (q21.2 _ _ (q16 _ _ (q13.2 _ _ (q8 _ _ (q5.2 _ _ k_this))))))) rfl e31 ?_
  have q32 := q_pR_kd e31
  refine r_aload_n hg 0 dX12_init_39 rfl rfl ?_
  refine r_bipush hg dX12_init_40 cb_8 ?_
  replace h := q_b3_some h; obtain ⟨a33, I34, X35, e36, h⟩ := h
  refine r_nAD hg (N := 8) dX12_init_42 q_aI (by decide +kernel) (by decide +kernel) (Nat.le_of_ble_eq_true rfl) (Nat.le_of_ble_eq_true rfl) (Nat.le_of_ble_eq_true rfl) e36 ?_
  have q37 := q_nA_kd e36
  replace h := q_b1_some h; obtain ⟨X38, e39, h⟩ := h
  refine r_pRD hg dX12_init_44 fl_X12_22 ⟨_, rfl⟩ rfl (q37.2 _ _ (q32 _ _ (q29.2 _ _ (q24 _ _ (q21.2 _ _ (q16 _ _ (q13.2 _ _ (q8 _ _ (q5.2 _ _ k_this))))))))) rfl e39 ?_
  have q40 := q_pR_kd e39
  refine r_aload_n hg 0 dX12_init_47 rfl rfl ?_
  refine r_sipush hg dX12_init_48 cs_240 ?_
  replace h := q_b3_some h; obtain ⟨a41, I42, X43, e44, h⟩ := h
  refine r_nAD hg (N := 240) dX12_init_51 q_aI (by decide +kernel) (by decide +kernel) (Nat.le_of_ble_eq_true rfl) (Nat.le_of_ble_eq_true rfl) (Nat.le_of_ble_eq_true rfl) e44 ?_
  have q45 := q_nA_kd e44
  replace h := q_b1_some h; obtain ⟨X46, e47, h⟩ := h
  refine r_pRD hg dX12_init_53 fl_X12_25 ⟨_, rfl⟩ rfl (q45.2 _ _ (q40 _ _ (q37.2 _ _ (q32 _ _ (q29.2 _ _ (q24 _ _ (q21.2 _ _ (q16 _ _ (q13.2 _ _ (q8 _ _ (q5.2 _ _ k_this))))))))))) rfl e47 ?_
  have q48 := q_pR_kd e47
  refine r_aload_n hg 0 dX12_init_56 rfl rfl ?_
  refine r_bipush hg dX12_init_57 cb_96 ?_
  replace h := q_b3_some h; obtain ⟨a49, I50, X51, e52, h⟩ := h
  refine r_nAD hg (N := 96) dX12_init_59 q_aI (by decide +kernel) (by decide +kernel) (Nat.le_of_ble_eq_true rfl) (Nat.le_of_ble_eq_true rfl) (Nat.le_of_ble_eq_true rfl) e52 ?_
  have q53 := q_nA_kd e52
  replace h := q_b1_some h; obtain ⟨X54, e55, h⟩ := h
  refine r_pRD hg dX12_init_61 fl_X12_28 ⟨_, rfl⟩ rfl (q53.2 _ _ (q48 _ _ (q45.2 _ _ (q40 _ _ (q37.2 _ _ (q32 _ _ (q29.2 _ _ (q24 _ _ (q21.2 _ _ (q16 _ _ (q13.2 _ _ (q8 _ _ (q5.2 _ _ k_this))))))))))))) rfl e55 ?_
  have q56 := q_pR_kd e55
  refine r_aload_n hg 0 dX12_init_64 rfl rfl ?_
  refine r_sipush hg dX12_init_65 cs_128 ?_
  replace h := q_b3_some h; obtain ⟨a57, I58, X59, e60, h⟩ := h
  refine r_nAD hg (N := 128) dX12_init_68 q_aI (by decide +kernel) (by decide +kernel) (Nat.le_of_ble_eq_true rfl) (Nat.le_of_ble_eq_true rfl) (Nat.le_of_ble_eq_true rfl) e60 ?_
  have q61 := q_nA_kd e60
  replace h := q_b1_some h; obtain ⟨X62, e63, h⟩ := h
  refine r_pRD hg dX12_init_70 fl_X12_31 ⟨_, rfl⟩ rfl (q61.2 _ _ (q56 _ _ (q53.2 _ _ (q48 _ _ (q45.2 _ _ (q40 _ _ (q37.2 _ _ (q32 _ _ (q29.2 _ _ (q24 _ _ (q21.2 _ _ (q16 _ _ (q13.2 _ _ (q8 _ _ (q5.2 _ _ k_this))))))))))))))) rfl e63 ?_
  have q64 := q_pR_kd e63
  refine r_aload_n hg 0 dX12_init_73 rfl rfl ?_
  refine r_bipush hg dX12_init_74 cb_100 ?_
  replace h := q_b3_some h; obtain ⟨a65, I66, X67, e68, h⟩ := h
  refine r_nAD hg (N := 100) dX12_init_76 q_aI (by decide +kernel) (by decide +kernel) (Nat.le_of_ble_eq_true rfl) (Nat.le_of_ble_eq_true rfl) (Nat.le_of_ble_eq_true rfl) e68 ?_
  have q69 := q_nA_kd e68
  replace h := q_b1_some h; obtain ⟨X70, e71, h⟩ := h
  refine r_pRD hg dX12_init_78 fl_X12_34 ⟨_, rfl⟩ rfl (q69.2 _ _ (q64 _ _ (q61.2 _ _ (q56 _ _ (q53.2 _ _ (q48 _ _ (q45.2 _ _ (q40 _ _ (q37.2 _ _ (q32 _ _ (q29.2 _ _ (q24 _ _ (q21.2 _ _ (q16 _ _ (q13.2 _ _ (q8 _ _ (q5.2 _ _ k_this))))))))))))))))) rfl e71 ?_
  have q72 := q_pR_kd e71
  refine r_aload_n hg 0 dX12_init_81 rfl rfl ?_
  refine r_bipush hg dX12_init_82 cb_30 ?_
  replace h := q_b3_some h; obtain ⟨a73, I74, X75, e76, h⟩ := h
  refine r_nAD hg (N := 30) dX12_init_84 q_aI (by decide +kernel) (by decide +kernel) (Nat.le_of_ble_eq_true rfl) (Nat.le_of_ble_eq_true rfl) (Nat.le_of_ble_eq_true rfl) e76 ?_
  have q77 := q_nA_kd e76
  replace h := q_b1_some h; obtain ⟨X78, e79, h⟩ := h
  refine r_pRD hg dX12_init_86 fl_X12_37 ⟨_, rfl⟩ rfl (q77.2 _ _ (q72 _ _ (q69.2 _ _ (q64 _ _ (q61.2 _ _ (q56 _ _ (q53.2 _ _ (q48 _ _ (q45.2 _ _ (q40 _ _ (q37.2 _ _ (q32 _ _ (q29.2 _ _ (q24 _ _ (q21.2 _ _ (q16 _ _ (q13.2 _ _ (q8 _ _ (q5.2 _ _ k_this))))))))))))))))))) rfl e79 ?_
  have q80 := q_pR_kd e79
  refine r_aload_n hg 0 dX12_init_89 rfl rfl ?_
  refine r_bipush hg dX12_init_90 cb_28 ?_
  replace h := q_b3_some h; obtain ⟨a81, I82, X83, e84, h⟩ := h
  refine r_nAD hg (N := 28) dX12_init_92 q_aI (by decide +kernel) (by decide +kernel) (Nat.le_of_ble_eq_true rfl) (Nat.le_of_ble_eq_true rfl) (Nat.le_of_ble_eq_true rfl) e84 ?_
  have q85 := q_nA_kd e84
  replace h := q_b1_some h; obtain ⟨X86, e87, h⟩ := h
  refine r_pRD hg dX12_init_94 fl_X12_40 ⟨_, rfl⟩ rfl (q85.2 _ _ (q80 _ _ (q77.2 _ _ (q72 _ _ (q69.2 _ _ (q64 _ _ (q61.2 _ _ (q56 _ _ (q53.2 _ _ (q48 _ _ (q45.2 _ _ (q40 _ _ (q37.2 _ _ (q32 _ _ (q29.2 _ _ (q24 _ _ (q21.2 _ _ (q16 _ _ (q13.2 _ _ (q8 _ _ (q5.2 _ _ k_this))))))))))))))))))))) rfl e87 ?_
  have q88 := q_pR_kd e87
  refine r_aload_n hg 0 dX12_init_97 rfl rfl ?_
  refine r_bipush hg dX12_init_98 cb_8 ?_
  replace h := q_b3_some h; obtain ⟨a89, I90, X91, e92, h⟩ := h
  refine r_nAD hg (N := 8) dX12_init_100 q_aI (by decide +kernel) (by decide +kernel) (Nat.le_of_ble_eq_true rfl) (Nat.le_of_ble_eq_true rfl) (Nat.le_of_ble_eq_true rfl) e92 ?_
  have q93 := q_nA_kd e92
  replace h := q_b1_some h; obtain ⟨X94, e95, h⟩ := h
  refine r_pRD hg dX12_init_102 fl_X12_43 ⟨_, rfl⟩ rfl (q93.2 _ _ (q88 _ _ (q85.2 _ _ (q80 _ _ (q77.2 _ _ (q72 _ _ (q69.2 _ _ (q64 _ _ (q61.2 _ _ (q56 _ _ (q53.2 _ _ (q48 _ _ (q45.2 _ _ (q40 _ _ (q37.2 _ _ (q32 _ _ (q29.2 _ _ (q24 _ _ (q21.2 _ _ (q16 _ _ (q13.2 _ _ (q8 _ _ (q5.2 _ _ k_this))))))))))))))))))))))) rfl e95 ?_
  have q96 := q_pR_kd e95
  refine r_aload_n hg 0 dX12_init_105 rfl rfl ?_
  refine r_bipush hg dX12_init_106 cb_8 ?_
  replace h := q_b3_some h; obtain ⟨a97, I98, X99, e100, h⟩ := h
  refine r_nAD hg (N := 8) dX12_init_108 q_aI (by decide +kernel) (by decide +kernel) (Nat.le_of_ble_eq_true rfl) (Nat.le_of_ble_eq_true rfl) (Nat.le_of_ble_eq_true rfl) e100 ?_
  have q101 := q_nA_kd e100
  replace h := q_b1_some h; obtain ⟨X102, e103, h⟩ := h
  refine r_pRD hg dX12_init_110 fl_X12_46 ⟨_, rfl⟩ rfl (q101.2 _ _ (q96 _ _ (q93.2 _ _ (q88 _ _ (q85.2 _ _ (q80 _ _ (q77.2 _ _ (q72 _ _ (q69.2 _ _ (q64 _ _ (q61.2 _ _ (q56 _ _ (q53.2 _ _ (q48 _ _ (q45.2 _ _ (q40 _ _ (q37.2 _ _ (q32 _ _ (q29.2 _ _ (q24 _ _ (q21.2 _ _ (q16 _ _ (q13.2 _ _ (q8 _ _ (q5.2 _ _ k_this))))))))))))))))))))))))) rfl e103 ?_
  have q104 := q_pR_kd e103
  refine r_aload_n hg 0 dX12_init_113 rfl rfl ?_
  refine r_bipush hg dX12_init_114 cb_8 ?_
  replace h := q_b3_some h; obtain ⟨a105, I106, X107, e108, h⟩ := h
  refine r_nAD hg (N := 8) dX12_init_116 q_aI (by decide +kernel) (by decide +kernel) (Nat.le_of_ble_eq_true rfl) (Nat.le_of_ble_eq_true rfl) (Nat.le_of_ble_eq_true rfl) e108 ?_
  have q109 := q_nA_kd e108
  replace h := q_b1_some h; obtain ⟨X110, e111, h⟩ := h
  refine r_pRD hg dX12_init_118 fl_X12_49 ⟨_, rfl⟩ rfl (q109.2 _ _ (q104 _ _ (q101.2 _ _ (q96 _ _ (q93.2 _ _ (q88 _ _ (q85.2 _ _ (q80 _ _ (q77.2 _ _ (q72 _ _ (q69.2 _ _ (q64 _ _ (q61.2 _ _ (q56 _ _ (q53.2 _ _ (q48 _ _ (q45.2 _ _ (q40 _ _ (q37.2 _ _ (q32 _ _ (q29.2 _ _ (q24 _ _ (q21.2 _ _ (q16 _ _ (q13.2 _ _ (q8 _ _ (q5.2 _ _ k_this))))))))))))))))))))))))))) rfl e111 ?_
  have q112 := q_pR_kd e111
  refine r_aload_n hg 0 dX12_init_121 rfl rfl ?_
  refine r_bipush hg dX12_init_122 cb_8 ?_
  replace h := q_b3_some h; obtain ⟨a113, I114, X115, e116, h⟩ := h
  refine r_nAD hg (N := 8) dX12_init_124 q_aI (by decide +kernel) (by decide +kernel) (Nat.le_of_ble_eq_true rfl) (Nat.le_of_ble_eq_true rfl) (Nat.le_of_ble_eq_true rfl) e116 ?_
  have q117 := q_nA_kd e116
  replace h := q_b1_some h; obtain ⟨X118, e119, h⟩ := h
  refine r_pRD hg dX12_init_126 fl_X12_52 ⟨_, rfl⟩ rfl (q117.2 _ _ (q112 _ _ (q109.2 _ _ (q104 _ _ (q101.2 _ _ (q96 _ _ (q93.2 _ _ (q88 _ _ (q85.2 _ _ (q80 _ _ (q77.2 _ _ (q72 _ _ (q69.2 _ _ (q64 _ _ (q61.2 _ _ (q56 _ _ (q53.2 _ _ (q48 _ _ (q45.2 _ _ (q40 _ _ (q37.2 _ _ (q32 _ _ (q29.2 _ _ (q24 _ _ (q21.2 _ _ (q16 _ _ (q13.2 _ _ (q8 _ _ (q5.2 _ _ k_this))))))))))))))))))))))))))))) rfl e119 ?_
  have q120 := q_pR_kd e119
  refine r_aload_n hg 0 dX12_init_129 rfl rfl ?_
  refine r_bipush hg dX12_init_130 cb_60 ?_
  replace h := q_b3_some h; obtain ⟨a121, I122, X123, e124, h⟩ := h
  refine r_nAD hg (N := 60) dX12_init_132 q_aI (by decide +kernel) (by decide +kernel) (Nat.le_of_ble_eq_true rfl) (Nat.le_of_ble_eq_true rfl) (Nat.le_of_ble_eq_true rfl) e124 ?_
  have q125 := q_nA_kd e124
  replace h := q_b1_some h; obtain ⟨X126, e127, h⟩ := h
  refine r_pRD hg dX12_init_134 fl_X12_55 ⟨_, rfl⟩ rfl (q125.2 _ _ (q120 _ _ (q117.2 _ _ (q112 _ _ (q109.2 _ _ (q104 _ _ (q101.2 _ _ (q96 _ _ (q93.2 _ _ (q88 _ _ (q85.2 _ _ (q80 _ _ (q77.2 _ _ (q72 _ _ (q69.2 _ _ (q64 _ _ (q61.2 _ _ (q56 _ _ (q53.2 _ _ (q48 _ _ (q45.2 _ _ (q40 _ _ (q37.2 _ _ (q32 _ _ (q29.2 _ _ (q24 _ _ (q21.2 _ _ (q16 _ _ (q13.2 _ _ (q8 _ _ (q5.2 _ _ k_this))))))))))))))))))))))))))))))) rfl e127 ?_
  have q128 := q_pR_kd e127
  refine r_aload_n hg 0 dX12_init_137 rfl rfl ?_
  refine r_bipush hg dX12_init_138 cb_60 ?_
  replace h := q_b3_some h; obtain ⟨a129, I130, X131, e132, h⟩ := h
  refine r_nAD hg (N := 60) dX12_init_140 q_aI (by decide +kernel) (by decide +kernel) (Nat.le_of_ble_eq_true rfl) (Nat.le_of_ble_eq_true rfl) (Nat.le_of_ble_eq_true rfl) e132 ?_
  have q133 := q_nA_kd e132
  replace h := q_b1_some h; obtain ⟨X134, e135, h⟩ := h
  refine r_pRD hg dX12_init_142 fl_X12_58 ⟨_, rfl⟩ rfl (q133.2 _ _ (q128 _ _ (q125.2 _ _ (q120 _ _ (q117.2 _ _ (q112 _ _ (q109.2 _ _ (q104 _ _ (q101.2 _ _ (q96 _ _ (q93.2 _ _ (q88 _ _ (q85.2 _ _ (q80 _ _ (q77.2 _ _ (q72 _ _ (q69.2 _ _ (q64 _ _ (q61.2 _ _ (q56 _ _ (q53.2 _ _ (q48 _ _ (q45.2 _ _ (q40 _ _ (q37.2 _ _ (q32 _ _ (q29.2 _ _ (q24 _ _ (q21.2 _ _ (q16 _ _ (q13.2 _ _ (q8 _ _ (q5.2 _ _ k_this))))))))))))))))))))))))))))))))) rfl e135 ?_
  have q136 := q_pR_kd e135
  refine r_aload_n hg 0 dX12_init_145 rfl rfl ?_
  replace h := q_b1_some h; obtain ⟨a137, e138, h⟩ := h
  refine r_getR hg dX12_init_146 fl_X12_7 (q136 _ _ (q133.2 _ _ (q128 _ _ (q125.2 _ _ (q120 _ _ (q117.2 _ _ (q112 _ _ (q109.2 _ _ (q104 _ _ (q101.2 _ _ (q96 _ _ (q93.2 _ _ (q88 _ _ (q85.2 _ _ (q80 _ _ (q77.2 _ _ (q72 _ _ (q69.2 _ _ (q64 _ _ (q61.2 _ _ (q56 _ _ (q53.2 _ _ (q48 _ _ (q45.2 _ _ (q40 _ _ (q37.2 _ _ (q32 _ _ (q29.2 _ _ (q24 _ _ (q21.2 _ _ (q16 _ _ (q13.2 _ _ (q8 _ _ (q5.2 _ _ k_this)))))))))))))))))))))))))))))))))) rfl e138 ?_
  refine r_bipush hg dX12_init_149 cb_7 ?_
  refine r_bipush hg dX12_init_151 cb_100 ?_
  replace h := q_b2_some h
  obtain ⟨a139, n140, e141, h⟩ := h
  obtain ⟨e143, k142⟩ := q_arr_some e141
  obtain rfl := Option.some.inj e143
  replace h := q_b1_some h; obtain ⟨I144, e145, h⟩ := h
  refine r_iast hg dX12_init_153 k142 e145 ?_
  refine r_iconst hg dX12_init_154 ci_0 ?_
  refine r_istore_n hg (L' := [(1, .int (nI 0)), (0, .ref this)]) dX12_init_155 rfl (by decide) rfl ?_
  refine r_sub hg [1, 0] rfl ?_
  exact pl_X12_init_156 hΓ hg hr _ _ _ _ (q136 _ _ (q133.2 _ _ (q128 _ _ (q125.2 _ _ (q120 _ _ (q117.2 _ _ (q112 _ _ (q109.2 _ _ (q104 _ _ (q101.2 _ _ (q96 _ _ (q93.2 _ _ (q88 _ _ (q85.2 _ _ (q80 _ _ (q77.2 _ _ (q72 _ _ (q69.2 _ _ (q64 _ _ (q61.2 _ _ (q56 _ _ (q53.2 _ _ (q48 _ _ (q45.2 _ _ (q40 _ _ (q37.2 _ _ (q32 _ _ (q29.2 _ _ (q24 _ _ (q21.2 _ _ (q16 _ _ (q13.2 _ _ (q8 _ _ (q5.2 _ _ k_this)))))))))))))))))))))))))))))))))) h
theorem xl_X12_init_156 {this : Nat} {z : qI × qX} : ∀ (n : Nat) (x1 : Int32) (X : qX) (I : qI), q_fix (fun _ _ _ => none) (b_X12_init_156 this) n x1 X I = some z → z.2 = X := by
  intro n
  induction n with
  | zero => intro x1 X I h; cases (show (none : Option (qI × qX)) = some z from h)
  | succ n ih =>
    intro x1 X I h
    have h : b_X12_init_156 this (q_fix (fun _ _ _ => none) (b_X12_init_156 this) n) x1 X I = some z := h
    unfold b_X12_init_156 at h

    split at h
    · cases h; rfl
    · skip
      replace h := q_b1_some h; obtain ⟨_, -, h⟩ := h
      replace h := q_b2_some h; obtain ⟨_, _, -, h⟩ := h
      replace h := q_b1_some h; obtain ⟨_, -, h⟩ := h
      replace h := q_b1_some h; obtain ⟨_, -, h⟩ := h
      replace h := q_b2_some h; obtain ⟨_, _, -, h⟩ := h
      replace h := q_b1_some h; obtain ⟨_, -, h⟩ := h
      replace h := q_b1_some h; obtain ⟨_, -, h⟩ := h
      replace h := q_b2_some h; obtain ⟨_, _, -, h⟩ := h
      replace h := q_b1_some h; obtain ⟨_, -, h⟩ := h
      exact ih _ _ _ h
theorem xi_X12_init {X : qX} {this : Nat} {I : qI} {z : qI × qX} (h : f_X12_init this X I = some z) : ∀ (k : Nat) (d : Nat × Nat), q_kd X k = some d → q_kd z.2 k = some d := by
  intro k d hk
  unfold f_X12_init at h
  replace h := q_b3_some h; obtain ⟨_, _, _, e1, h⟩ := h
  replace h := q_b1_some h; obtain ⟨_, e2, h⟩ := h
  replace h := q_b3_some h; obtain ⟨_, _, _, e3, h⟩ := h
  replace h := q_b1_some h; obtain ⟨_, e4, h⟩ := h
  replace h := q_b3_some h; obtain ⟨_, _, _, e5, h⟩ := h
  replace h := q_b1_some h; obtain ⟨_, e6, h⟩ := h
  replace h := q_b3_some h; obtain ⟨_, _, _, e7, h⟩ := h
  replace h := q_b1_some h; obtain ⟨_, e8, h⟩ := h
  replace h := q_b3_some h; obtain ⟨_, _, _, e9, h⟩ := h
  replace h := q_b1_some h; obtain ⟨_, e10, h⟩ := h
  replace h := q_b3_some h; obtain ⟨_, _, _, e11, h⟩ := h
  replace h := q_b1_some h; obtain ⟨_, e12, h⟩ := h
  replace h := q_b3_some h; obtain ⟨_, _, _, e13, h⟩ := h
  replace h := q_b1_some h; obtain ⟨_, e14, h⟩ := h
  replace h := q_b3_some h; obtain ⟨_, _, _, e15, h⟩ := h
  replace h := q_b1_some h; obtain ⟨_, e16, h⟩ := h
  replace h := q_b3_some h; obtain ⟨_, _, _, e17, h⟩ := h
  replace h := q_b1_some h; obtain ⟨_, e18, h⟩ := h
  replace h := q_b3_some h; obtain ⟨_, _, _, e19, h⟩ := h
  replace h := q_b1_some h; obtain ⟨_, e20, h⟩ := h
  replace h := q_b3_some h; obtain ⟨_, _, _, e21, h⟩ := h
  replace h := q_b1_some h; obtain ⟨_, e22, h⟩ := h
  replace h := q_b3_some h; obtain ⟨_, _, _, e23, h⟩ := h
  replace h := q_b1_some h; obtain ⟨_, e24, h⟩ := h
  replace h := q_b3_some h; obtain ⟨_, _, _, e25, h⟩ := h
  replace h := q_b1_some h; obtain ⟨_, e26, h⟩ := h
  replace h := q_b3_some h; obtain ⟨_, _, _, e27, h⟩ := h
  replace h := q_b1_some h; obtain ⟨_, e28, h⟩ := h
  replace h := q_b3_some h; obtain ⟨_, _, _, e29, h⟩ := h
  replace h := q_b1_some h; obtain ⟨_, e30, h⟩ := h
  replace h := q_b3_some h; obtain ⟨_, _, _, e31, h⟩ := h
  replace h := q_b1_some h; obtain ⟨_, e32, h⟩ := h
  replace h := q_b3_some h; obtain ⟨_, _, _, e33, h⟩ := h
  replace h := q_b1_some h; obtain ⟨_, e34, h⟩ := h
  replace h := q_b1_some h; obtain ⟨_, -, h⟩ := h
  replace h := q_b2_some h; obtain ⟨_, _, -, h⟩ := h
  replace h := q_b1_some h; obtain ⟨_, -, h⟩ := h
  have hz := xl_X12_init_156 _ _ _ _ h
  rw [hz]
  exact (q_pR_kd e34 _ _ ((q_nA_kd e33).2 _ _ (q_pR_kd e32 _ _ ((q_nA_kd e31).2 _ _ (q_pR_kd e30 _ _ ((q_nA_kd e29).2 _ _ (q_pR_kd e28 _ _ ((q_nA_kd e27).2 _ _ (q_pR_kd e26 _ _ ((q_nA_kd e25).2 _ _ (q_pR_kd e24 _ _ ((q_nA_kd e23).2 _ _ (q_pR_kd e22 _ _ ((q_nA_kd e21).2 _ _ (q_pR_kd e20 _ _ ((q_nA_kd e19).2 _ _ (q_pR_kd e18 _ _ ((q_nA_kd e17).2 _ _ (q_pR_kd e16 _ _ ((q_nA_kd e15).2 _ _ (q_pR_kd e14 _ _ ((q_nA_kd e13).2 _ _ (q_pR_kd e12 _ _ ((q_nA_kd e11).2 _ _ (q_pR_kd e10 _ _ ((q_nA_kd e9).2 _ _ (q_pR_kd e8 _ _ ((q_nA_kd e7).2 _ _ (q_pR_kd e6 _ _ ((q_nA_kd e5).2 _ _ (q_pR_kd e4 _ _ ((q_nA_kd e3).2 _ _ (q_pR_kd e2 _ _ ((q_nA_kd e1).2 _ _ hk))))))))))))))))))))))))))))))))))
