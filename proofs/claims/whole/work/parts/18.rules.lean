theorem dX7_added_0 : q_at cX7_added 0 (.aload_n 0) 1 1 := ⟨by decide +kernel, rfl⟩
theorem dX7_added_1 : q_at cX7_added 1 (.getfield 31) 3 4 := ⟨by decide +kernel, rfl⟩
theorem dX7_added_4 : q_at cX7_added 4 (.bipush 12) 2 6 := ⟨by decide +kernel, rfl⟩
theorem dX7_added_6 : q_at cX7_added 6 (.if_icmp .lt 6) 3 9 := ⟨by decide +kernel, rfl⟩
theorem dX7_added_9 : q_at cX7_added 9 (.ldc 35) 2 11 := ⟨by decide +kernel, rfl⟩
theorem dX7_added_11 : q_at cX7_added 11 (.ireturn) 1 12 := ⟨by decide +kernel, rfl⟩
theorem dX7_added_12 : q_at cX7_added 12 (.aload_n 0) 1 13 := ⟨by decide +kernel, rfl⟩
theorem dX7_added_13 : q_at cX7_added 13 (.getfield 11) 3 16 := ⟨by decide +kernel, rfl⟩
theorem dX7_added_16 : q_at cX7_added 16 (.aload_n 0) 1 17 := ⟨by decide +kernel, rfl⟩
theorem dX7_added_17 : q_at cX7_added 17 (.getfield 31) 3 20 := ⟨by decide +kernel, rfl⟩
theorem dX7_added_20 : q_at cX7_added 20 (.iload_n 1) 1 21 := ⟨by decide +kernel, rfl⟩
theorem dX7_added_21 : q_at cX7_added 21 (.iastore) 1 22 := ⟨by decide +kernel, rfl⟩
theorem dX7_added_22 : q_at cX7_added 22 (.aload_n 0) 1 23 := ⟨by decide +kernel, rfl⟩
theorem dX7_added_23 : q_at cX7_added 23 (.getfield 15) 3 26 := ⟨by decide +kernel, rfl⟩
theorem dX7_added_26 : q_at cX7_added 26 (.aload_n 0) 1 27 := ⟨by decide +kernel, rfl⟩
theorem dX7_added_27 : q_at cX7_added 27 (.getfield 31) 3 30 := ⟨by decide +kernel, rfl⟩
theorem dX7_added_30 : q_at cX7_added 30 (.iload_n 2) 1 31 := ⟨by decide +kernel, rfl⟩
theorem dX7_added_31 : q_at cX7_added 31 (.iastore) 1 32 := ⟨by decide +kernel, rfl⟩
theorem dX7_added_32 : q_at cX7_added 32 (.aload_n 0) 1 33 := ⟨by decide +kernel, rfl⟩
theorem dX7_added_33 : q_at cX7_added 33 (.getfield 18) 3 36 := ⟨by decide +kernel, rfl⟩
theorem dX7_added_36 : q_at cX7_added 36 (.aload_n 0) 1 37 := ⟨by decide +kernel, rfl⟩
theorem dX7_added_37 : q_at cX7_added 37 (.getfield 31) 3 40 := ⟨by decide +kernel, rfl⟩
theorem dX7_added_40 : q_at cX7_added 40 (.iload_n 3) 1 41 := ⟨by decide +kernel, rfl⟩
theorem dX7_added_41 : q_at cX7_added 41 (.iastore) 1 42 := ⟨by decide +kernel, rfl⟩
theorem dX7_added_42 : q_at cX7_added 42 (.aload_n 0) 1 43 := ⟨by decide +kernel, rfl⟩
theorem dX7_added_43 : q_at cX7_added 43 (.getfield 22) 3 46 := ⟨by decide +kernel, rfl⟩
theorem dX7_added_46 : q_at cX7_added 46 (.aload_n 0) 1 47 := ⟨by decide +kernel, rfl⟩
theorem dX7_added_47 : q_at cX7_added 47 (.getfield 31) 3 50 := ⟨by decide +kernel, rfl⟩
theorem dX7_added_50 : q_at cX7_added 50 (.aload 4) 2 52 := ⟨by decide +kernel, rfl⟩
theorem dX7_added_52 : q_at cX7_added 52 (.aastore) 1 53 := ⟨by decide +kernel, rfl⟩
theorem dX7_added_53 : q_at cX7_added 53 (.aload_n 0) 1 54 := ⟨by decide +kernel, rfl⟩
theorem dX7_added_54 : q_at cX7_added 54 (.dup) 1 55 := ⟨by decide +kernel, rfl⟩
theorem dX7_added_55 : q_at cX7_added 55 (.getfield 31) 3 58 := ⟨by decide +kernel, rfl⟩
theorem dX7_added_58 : q_at cX7_added 58 (.iconst 1) 1 59 := ⟨by decide +kernel, rfl⟩
theorem dX7_added_59 : q_at cX7_added 59 (.iadd) 1 60 := ⟨by decide +kernel, rfl⟩
theorem dX7_added_60 : q_at cX7_added 60 (.putfield 31) 3 63 := ⟨by decide +kernel, rfl⟩
theorem dX7_added_63 : q_at cX7_added 63 (.aload_n 0) 1 64 := ⟨by decide +kernel, rfl⟩
theorem dX7_added_64 : q_at cX7_added 64 (.getfield 31) 3 67 := ⟨by decide +kernel, rfl⟩
theorem dX7_added_67 : q_at cX7_added 67 (.iconst 1) 1 68 := ⟨by decide +kernel, rfl⟩
theorem dX7_added_68 : q_at cX7_added 68 (.isub) 1 69 := ⟨by decide +kernel, rfl⟩
theorem dX7_added_69 : q_at cX7_added 69 (.ireturn) 1 70 := ⟨by decide +kernel, rfl⟩
def f_X7_added (this : Nat) (x1 : Int32) (x2 : Int32) (x3 : Int32) (x4 : Option Nat) (X : qX) (I : qI) : Option (Int32 × qI × qX) :=
  if (I this 5) < (nI 12) then
    q_b1 (q_wr I (this + 1) 12 (I this 5) x1) fun I3 =>
    q_b1 (q_wr I3 (this + 2) 12 (I3 this 5) x2) fun I6 =>
    q_b1 (q_wr I6 (this + 3) 12 (I6 this 5) x3) fun I9 =>
    q_b1 (q_wrR X (this + 4) 12 (I9 this 5) x4) fun X12 =>
    q_b1 (some (q_up I9 this 5 ((I9 this 5) + (nI 1)))) fun I17 =>
    some (((I17 this 5) - (nI 1)), I17, X12)
  else
    some ((-1000000003), I, X)
set_option maxRecDepth 100000 in
set_option maxHeartbeats 4000000 in
theorem s_X7_added {l : Launch} {Γ : qC} (hΓ : q_gm Γ) {X : qX} (hX : q_Lay X) {this : Nat} {x1 : Int32} {x2 : Int32} {x3 : Int32} {x4 : Option Nat} (k_this : q_kd X this = some (9, 6)) {I : qI} {z : Int32 × qI × qX} (h : f_X7_added this x1 x2 x3 x4 X I = some z) : q_Sem l Γ (q_rm 2 0 0) yX7_added cX7_added 5 (some .int) [.ref this, .int x1, .int x2, .int x3, va_rf x4] I X (some (.int z.1), z.2.1, z.2.2) := by
  refine q_met (by decide) (by cases x4 <;> exact Nat.le_of_ble_eq_true rfl) (fun g hg hr => ?_)
  unfold f_X7_added at h
  have eL : lv_args 0 [.ref this, .int x1, .int x2, .int x3, va_rf x4] = [(0, .ref this), (1, .int x1), (2, .int x2), (3, .int x3), (4, va_rf x4)] := by cases x4 <;> rfl
  rw [eL]
  refine r_aload_n hg 0 dX7_added_0 rfl rfl ?_
  refine r_getI hg dX7_added_1 fl_X7_31 k_this rfl ?_
  refine r_bipush hg dX7_added_4 cb_12 ?_
  refine r_icmp_lt hg 12 dX7_added_6 (by decide) (fun c1 => ?_) (fun c1 => ?_)
  · rw [if_pos c1] at h
    refine r_aload_n hg 0 dX7_added_12 rfl rfl ?_
    have e2 := ly_7_0 hX k_this
    refine r_getR hg dX7_added_13 fl_X7_11 k_this rfl e2.1 ?_
    refine r_aload_n hg 0 dX7_added_16 rfl rfl ?_
    refine r_getI hg dX7_added_17 fl_X7_31 k_this rfl ?_
    refine r_iload_n hg 1 dX7_added_20 rfl rfl ?_
    obtain ⟨I3, e4, h⟩ := q_b1_some h
    refine r_iast hg dX7_added_21 e2.2 e4 ?_
    refine r_aload_n hg 0 dX7_added_22 rfl rfl ?_
    have e5 := ly_7_1 hX k_this
    refine r_getR hg dX7_added_23 fl_X7_15 k_this rfl e5.1 ?_
    refine r_aload_n hg 0 dX7_added_26 rfl rfl ?_
    refine r_getI hg dX7_added_27 fl_X7_31 k_this rfl ?_
    refine r_iload_n hg 2 dX7_added_30 rfl rfl ?_
    obtain ⟨I6, e7, h⟩ := q_b1_some h
    refine r_iast hg dX7_added_31 e5.2 e7 ?_
    refine r_aload_n hg 0 dX7_added_32 rfl rfl ?_
    have e8 := ly_7_2 hX k_this
    refine r_getR hg dX7_added_33 fl_X7_18 k_this rfl e8.1 ?_
    refine r_aload_n hg 0 dX7_added_36 rfl rfl ?_
    refine r_getI hg dX7_added_37 fl_X7_31 k_this rfl ?_
    refine r_iload_n hg 3 dX7_added_40 rfl rfl ?_
    obtain ⟨I9, e10, h⟩ := q_b1_some h
    refine r_iast hg dX7_added_41 e8.2 e10 ?_
    refine r_aload_n hg 0 dX7_added_42 rfl rfl ?_
    have e11 := ly_7_3 hX k_this
    refine r_getR hg dX7_added_43 fl_X7_22 k_this rfl e11.1 ?_
    refine r_aload_n hg 0 dX7_added_46 rfl rfl ?_
    refine r_getI hg dX7_added_47 fl_X7_31 k_this rfl ?_
    refine r_aloadq hg 4 dX7_added_50 rfl ?_
    obtain ⟨X12, e13, h⟩ := q_b1_some h
    refine r_aast hg dX7_added_52 e11.2 e13 ?_
    obtain ⟨hX15, e16⟩ := q_Ext.wr hX e11.2 e13
    refine r_aload_n hg 0 dX7_added_53 rfl rfl ?_
    refine r_dup hg dX7_added_54 rfl ?_
    refine r_getI hg dX7_added_55 fl_X7_31 (e16 _ _ k_this) rfl ?_
    refine r_iconst hg dX7_added_58 ci_1 ?_
    refine r_iadd hg dX7_added_59 ?_
    obtain ⟨I17, e18, h⟩ := q_b1_some h
    obtain rfl := Option.some.inj e18
    refine r_putI hg dX7_added_60 fl_X7_31 (e16 _ _ k_this) rfl ⟨rfl, rfl⟩ ?_
    refine r_aload_n hg 0 dX7_added_63 rfl rfl ?_
    refine r_getI hg dX7_added_64 fl_X7_31 (e16 _ _ k_this) rfl ?_
    refine r_iconst hg dX7_added_67 ci_1 ?_
    refine r_isub hg dX7_added_68 ?_
    exact r_ireturn hr dX7_added_69 ⟨Nat.zero_le _, Nat.zero_le _⟩ ⟨_, rfl, rfl⟩ (by cases h; rfl)
  · rw [if_neg c1] at h
    refine r_ldc hg dX7_added_9 kc_X7_35 ?_
    exact r_ireturn hr dX7_added_11 ⟨Nat.zero_le _, Nat.zero_le _⟩ ⟨_, rfl, rfl⟩ (by cases h; rfl)
theorem dX7_become_0 : q_at cX7_become 0 (.aload_n 1) 1 1 := ⟨by decide +kernel, rfl⟩
theorem dX7_become_1 : q_at cX7_become 1 (.getfield 11) 3 4 := ⟨by decide +kernel, rfl⟩
theorem dX7_become_4 : q_at cX7_become 4 (.iconst 0) 1 5 := ⟨by decide +kernel, rfl⟩
theorem dX7_become_5 : q_at cX7_become 5 (.aload_n 0) 1 6 := ⟨by decide +kernel, rfl⟩
theorem dX7_become_6 : q_at cX7_become 6 (.getfield 11) 3 9 := ⟨by decide +kernel, rfl⟩
theorem dX7_become_9 : q_at cX7_become 9 (.iconst 0) 1 10 := ⟨by decide +kernel, rfl⟩
theorem dX7_become_10 : q_at cX7_become 10 (.bipush 12) 2 12 := ⟨by decide +kernel, rfl⟩
theorem dX7_become_12 : q_at cX7_become 12 (.invokestatic 36) 3 15 := ⟨by decide +kernel, rfl⟩
theorem dX7_become_15 : q_at cX7_become 15 (.aload_n 1) 1 16 := ⟨by decide +kernel, rfl⟩
theorem dX7_become_16 : q_at cX7_become 16 (.getfield 15) 3 19 := ⟨by decide +kernel, rfl⟩
theorem dX7_become_19 : q_at cX7_become 19 (.iconst 0) 1 20 := ⟨by decide +kernel, rfl⟩
theorem dX7_become_20 : q_at cX7_become 20 (.aload_n 0) 1 21 := ⟨by decide +kernel, rfl⟩
theorem dX7_become_21 : q_at cX7_become 21 (.getfield 15) 3 24 := ⟨by decide +kernel, rfl⟩
theorem dX7_become_24 : q_at cX7_become 24 (.iconst 0) 1 25 := ⟨by decide +kernel, rfl⟩
theorem dX7_become_25 : q_at cX7_become 25 (.bipush 12) 2 27 := ⟨by decide +kernel, rfl⟩
theorem dX7_become_27 : q_at cX7_become 27 (.invokestatic 36) 3 30 := ⟨by decide +kernel, rfl⟩
theorem dX7_become_30 : q_at cX7_become 30 (.aload_n 1) 1 31 := ⟨by decide +kernel, rfl⟩
theorem dX7_become_31 : q_at cX7_become 31 (.getfield 18) 3 34 := ⟨by decide +kernel, rfl⟩
theorem dX7_become_34 : q_at cX7_become 34 (.iconst 0) 1 35 := ⟨by decide +kernel, rfl⟩
theorem dX7_become_35 : q_at cX7_become 35 (.aload_n 0) 1 36 := ⟨by decide +kernel, rfl⟩
theorem dX7_become_36 : q_at cX7_become 36 (.getfield 18) 3 39 := ⟨by decide +kernel, rfl⟩
theorem dX7_become_39 : q_at cX7_become 39 (.iconst 0) 1 40 := ⟨by decide +kernel, rfl⟩
theorem dX7_become_40 : q_at cX7_become 40 (.bipush 12) 2 42 := ⟨by decide +kernel, rfl⟩
theorem dX7_become_42 : q_at cX7_become 42 (.invokestatic 36) 3 45 := ⟨by decide +kernel, rfl⟩
theorem dX7_become_45 : q_at cX7_become 45 (.iconst 0) 1 46 := ⟨by decide +kernel, rfl⟩
theorem dX7_become_46 : q_at cX7_become 46 (.istore_n 2) 1 47 := ⟨by decide +kernel, rfl⟩
theorem dX7_become_47 : q_at cX7_become 47 (.iload_n 2) 1 48 := ⟨by decide +kernel, rfl⟩
theorem dX7_become_48 : q_at cX7_become 48 (.bipush 12) 2 50 := ⟨by decide +kernel, rfl⟩
theorem dX7_become_50 : q_at cX7_become 50 (.if_icmp .ge 21) 3 53 := ⟨by decide +kernel, rfl⟩
theorem dX7_become_53 : q_at cX7_become 53 (.aload_n 0) 1 54 := ⟨by decide +kernel, rfl⟩
theorem dX7_become_54 : q_at cX7_become 54 (.getfield 22) 3 57 := ⟨by decide +kernel, rfl⟩
theorem dX7_become_57 : q_at cX7_become 57 (.iload_n 2) 1 58 := ⟨by decide +kernel, rfl⟩
theorem dX7_become_58 : q_at cX7_become 58 (.aload_n 1) 1 59 := ⟨by decide +kernel, rfl⟩
theorem dX7_become_59 : q_at cX7_become 59 (.getfield 22) 3 62 := ⟨by decide +kernel, rfl⟩
theorem dX7_become_62 : q_at cX7_become 62 (.iload_n 2) 1 63 := ⟨by decide +kernel, rfl⟩
theorem dX7_become_63 : q_at cX7_become 63 (.aaload) 1 64 := ⟨by decide +kernel, rfl⟩
theorem dX7_become_64 : q_at cX7_become 64 (.aastore) 1 65 := ⟨by decide +kernel, rfl⟩
theorem dX7_become_65 : q_at cX7_become 65 (.iinc 2 1) 3 68 := ⟨by decide +kernel, rfl⟩
theorem dX7_become_68 : q_at cX7_become 68 (.goto (-21)) 3 71 := ⟨by decide +kernel, rfl⟩
theorem dX7_become_71 : q_at cX7_become 71 (.aload_n 0) 1 72 := ⟨by decide +kernel, rfl⟩
theorem dX7_become_72 : q_at cX7_become 72 (.aload_n 1) 1 73 := ⟨by decide +kernel, rfl⟩
theorem dX7_become_73 : q_at cX7_become 73 (.getfield 31) 3 76 := ⟨by decide +kernel, rfl⟩
theorem dX7_become_76 : q_at cX7_become 76 (.putfield 31) 3 79 := ⟨by decide +kernel, rfl⟩
theorem dX7_become_79 : q_at cX7_become 79 (.return_) 1 80 := ⟨by decide +kernel, rfl⟩
def b_X7_become_47 (this : Nat) (x1 : Nat) (k47 : Int32 → qX → qI → Option (qI × qX)) (x2 : Int32) (X : qX) (I : qI) : Option (qI × qX) :=
  if (nI 12) ≤ x2 then
    q_b1 (some (q_up I this 5 (I x1 5))) fun I2 =>
    some (I2, X)
  else
    q_b1 (q_rdR X (x1 + 4) 12 x2) fun r6 =>
    q_b1 (q_wrR X (this + 4) 12 x2 r6) fun X10 =>
    k47 (x2 + (nI 1)) X10 I
set_option maxRecDepth 100000 in
set_option maxHeartbeats 4000000 in
theorem p_X7_become_47 {l : Launch} {Γ : qC} {g : qG} {z : qI × qX} {this : Nat} {x1 : Nat} (hΓ : q_gm Γ) (hg : q_Ok l Γ RX7 cX7_become 3 (q_rm 2 0 0) "become" none g) (hr : q_Rt cX7_become none (q_rm 2 0 0) (none, z.1, z.2) g) {k47 : Int32 → qX → qI → Option (qI × qX)} (hk47 : ∀ (x2 : Int32) (X : qX) (I : qI) (hX : q_Lay X) (k_this : q_kd X this = some (9, 6)) (k_x1 : q_kd X x1 = some (9, 6)), k47 x2 X I = some z → g 0 0 47 [(0, .ref this), (1, .ref x1), (2, .int x2)] [] I X) (x2 : Int32) (X : qX) (I : qI) (hX : q_Lay X) (k_this : q_kd X this = some (9, 6)) (k_x1 : q_kd X x1 = some (9, 6)) (h : b_X7_become_47 this x1 k47 x2 X I = some z) : g 0 0 47 [(0, .ref this), (1, .ref x1), (2, .int x2)] [] I X := by
  unfold b_X7_become_47 at h
  refine r_iload_n hg 2 dX7_become_47 rfl rfl ?_
  refine r_bipush hg dX7_become_48 cb_12 ?_
  refine r_icmp_ge hg 71 dX7_become_50 (by decide) (fun c1 => ?_) (fun c1 => ?_)
  · rw [if_pos c1] at h
    refine r_aload_n hg 0 dX7_become_71 rfl rfl ?_
    refine r_aload_n hg 1 dX7_become_72 rfl rfl ?_
    refine r_getI hg dX7_become_73 fl_X7_31 k_x1 rfl ?_
    replace h := q_b1_some h; obtain ⟨I2, e3, h⟩ := h
    obtain rfl := Option.some.inj e3
    refine r_putI hg dX7_become_76 fl_X7_31 k_this rfl ⟨rfl, rfl⟩ ?_
    exact r_return hr dX7_become_79 ⟨Nat.zero_le _, Nat.zero_le _⟩ rfl (by cases h; rfl)
  · rw [if_neg c1] at h
    refine r_aload_n hg 0 dX7_become_53 rfl rfl ?_
    have e4 := ly_7_3 hX k_this
    refine r_getR hg dX7_become_54 fl_X7_22 k_this rfl e4.1 ?_
    refine r_iload_n hg 2 dX7_become_57 rfl rfl ?_
    refine r_aload_n hg 1 dX7_become_58 rfl rfl ?_
    have e5 := ly_7_3 hX k_x1
    refine r_getR hg dX7_become_59 fl_X7_22 k_x1 rfl e5.1 ?_
    refine r_iload_n hg 2 dX7_become_62 rfl rfl ?_
    replace h := q_b1_some h; obtain ⟨r6, e7, h⟩ := h
    obtain ⟨e8, e9⟩ := q_rdR_in e7
    refine r_aald hg dX7_become_63 e5.2 e8 ?_
    rw [e9]
    replace h := q_b1_some h; obtain ⟨X10, e11, h⟩ := h
    refine r_aast hg dX7_become_64 e4.2 e11 ?_
    obtain ⟨hX13, e14⟩ := q_Ext.wr hX e4.2 e11
    refine r_iinc hg 2 (v := (x2 + (nI 1))) (L' := [(2, .int (x2 + (nI 1))), (0, .ref this), (1, .ref x1)]) dX7_become_65 rfl (by rw [ci_1]) (by decide) rfl ?_
    refine r_goto hg 47 dX7_become_68 (by decide) ?_
    refine r_sub hg [1, 2, 0] rfl ?_
    exact hk47 _ _ _ hX13 (e14 _ _ k_this) (e14 _ _ k_x1) h
theorem pl_X7_become_47 {l : Launch} {Γ : qC} {g : qG} {z : qI × qX} {this : Nat} {x1 : Nat} (hΓ : q_gm Γ) (hg : q_Ok l Γ RX7 cX7_become 3 (q_rm 2 0 0) "become" none g) (hr : q_Rt cX7_become none (q_rm 2 0 0) (none, z.1, z.2) g) : ∀ (n : Nat) (x2 : Int32) (X : qX) (I : qI) (hX : q_Lay X) (k_this : q_kd X this = some (9, 6)) (k_x1 : q_kd X x1 = some (9, 6)), q_fix (fun _ _ _ => none) (b_X7_become_47 this x1) n x2 X I = some z → g 0 0 47 [(0, .ref this), (1, .ref x1), (2, .int x2)] [] I X := by
  intro n
  induction n with
  | zero =>
    intro x2 X I hX k_this k_x1 h
    cases (show (none : Option (qI × qX)) = some z from h)
  | succ n ih =>
    intro x2 X I hX k_this k_x1 h
    exact p_X7_become_47 hΓ hg hr ih _ _ _ hX k_this k_x1 h
def f_X7_become (this : Nat) (x1 : Nat) (X : qX) (I : qI) : Option (qI × qX) :=
  q_b1 (q_cp I (x1 + 1) 12 (nI 0) (this + 1) 12 (nI 0) (nI 12)) fun I3 =>
  q_b1 (q_cp I3 (x1 + 2) 12 (nI 0) (this + 2) 12 (nI 0) (nI 12)) fun I12 =>
  q_b1 (q_cp I12 (x1 + 3) 12 (nI 0) (this + 3) 12 (nI 0) (nI 12)) fun I21 =>
  q_fix (fun _ _ _ => none) (b_X7_become_47 this x1) q_fu (nI 0) X I21
set_option maxRecDepth 100000 in
set_option maxHeartbeats 4000000 in
theorem s_X7_become {l : Launch} {Γ : qC} (hΓ : q_gm Γ) {X : qX} (hX : q_Lay X) {this : Nat} {x1 : Nat} (k_this : q_kd X this = some (9, 6)) (k_x1 : q_kd X x1 = some (9, 6)) {I : qI} {z : qI × qX} (h : f_X7_become this x1 X I = some z) : q_Sem l Γ (q_rm 2 0 0) yX7_become cX7_become 3 none [.ref this, .ref x1] I X (none, z.1, z.2) := by
  refine q_met (by decide) (Nat.le_of_ble_eq_true rfl) (fun g hg hr => ?_)
  unfold f_X7_become at h
  show g 0 0 0 [(0, .ref this), (1, .ref x1)] [] I X
  refine r_aload_n hg 1 dX7_become_0 rfl rfl ?_
  have e1 := ly_7_0 hX k_x1
  refine r_getR hg dX7_become_1 fl_X7_11 k_x1 rfl e1.1 ?_
  refine r_iconst hg dX7_become_4 ci_0 ?_
  refine r_aload_n hg 0 dX7_become_5 rfl rfl ?_
  have e2 := ly_7_0 hX k_this
  refine r_getR hg dX7_become_6 fl_X7_11 k_this rfl e2.1 ?_
  refine r_iconst hg dX7_become_9 ci_0 ?_
  refine r_bipush hg dX7_become_10 cb_12 ?_
  replace h := q_b1_some h; obtain ⟨I3, e4, h⟩ := h
  obtain ⟨⟨e5, e6, e7⟩, e8, e9, rfl⟩ := q_cp_some e4
  refine r_copy hg dX7_become_12 cp_X7_36 e1.2 e2.2 e5 e6 e7 e8 e9 ⟨Nat.le_of_ble_eq_true rfl, Nat.le_of_ble_eq_true rfl⟩ ?_
  refine r_aload_n hg 1 dX7_become_15 rfl rfl ?_
  have e10 := ly_7_1 hX k_x1
  refine r_getR hg dX7_become_16 fl_X7_15 k_x1 rfl e10.1 ?_
  refine r_iconst hg dX7_become_19 ci_0 ?_
  refine r_aload_n hg 0 dX7_become_20 rfl rfl ?_
  have e11 := ly_7_1 hX k_this
  refine r_getR hg dX7_become_21 fl_X7_15 k_this rfl e11.1 ?_
  refine r_iconst hg dX7_become_24 ci_0 ?_
  refine r_bipush hg dX7_become_25 cb_12 ?_
  replace h := q_b1_some h; obtain ⟨I12, e13, h⟩ := h
  obtain ⟨⟨e14, e15, e16⟩, e17, e18, rfl⟩ := q_cp_some e13
  refine r_copy hg dX7_become_27 cp_X7_36 e10.2 e11.2 e14 e15 e16 e17 e18 ⟨Nat.le_of_ble_eq_true rfl, Nat.le_of_ble_eq_true rfl⟩ ?_
  refine r_aload_n hg 1 dX7_become_30 rfl rfl ?_
  have e19 := ly_7_2 hX k_x1
  refine r_getR hg dX7_become_31 fl_X7_18 k_x1 rfl e19.1 ?_
  refine r_iconst hg dX7_become_34 ci_0 ?_
  refine r_aload_n hg 0 dX7_become_35 rfl rfl ?_
  have e20 := ly_7_2 hX k_this
  refine r_getR hg dX7_become_36 fl_X7_18 k_this rfl e20.1 ?_
  refine r_iconst hg dX7_become_39 ci_0 ?_
  refine r_bipush hg dX7_become_40 cb_12 ?_
  replace h := q_b1_some h; obtain ⟨I21, e22, h⟩ := h
  obtain ⟨⟨e23, e24, e25⟩, e26, e27, rfl⟩ := q_cp_some e22
  refine r_copy hg dX7_become_42 cp_X7_36 e19.2 e20.2 e23 e24 e25 e26 e27 ⟨Nat.le_of_ble_eq_true rfl, Nat.le_of_ble_eq_true rfl⟩ ?_
  refine r_iconst hg dX7_become_45 ci_0 ?_
  refine r_istore_n hg (L' := [(2, .int (nI 0)), (0, .ref this), (1, .ref x1)]) dX7_become_46 rfl (by decide) rfl ?_
  refine r_sub hg [1, 2, 0] rfl ?_
  exact pl_X7_become_47 hΓ hg hr _ _ _ _ hX k_this k_x1 h
theorem x_X7_added {X : qX} (hX : q_Lay X) {this : Nat} (k_this : q_kd X this = some (9, 6)) {x1 x2 x3 : Int32} {x4 : Option Nat} {I : qI} {z : Int32 × qI × qX} (h : f_X7_added this x1 x2 x3 x4 X I = some z) : q_Ext X z.2.2 := by
  unfold f_X7_added at h
  split at h
  · obtain ⟨_, -, h⟩ := q_b1_some h
    obtain ⟨_, -, h⟩ := q_b1_some h
    obtain ⟨_, -, h⟩ := q_b1_some h
    obtain ⟨Y, e, h⟩ := q_b1_some h
    obtain ⟨_, -, h⟩ := q_b1_some h
    cases h
    exact q_Ext.wr hX (ly_7_3 hX k_this).2 e
  · cases h
    exact q_Ext.rf hX
theorem x_X7_become_loop {this x1 : Nat} {z : qI × qX} : ∀ (n : Nat) (x2 : Int32) (X : qX) (I : qI), q_Lay X → q_kd X this = some (9, 6) → q_fix (fun _ _ _ => none) (b_X7_become_47 this x1) n x2 X I = some z → q_Ext X z.2 := by
  intro n
  induction n with
  | zero => intro x2 X I _ _ h; cases (show (none : Option (qI × qX)) = some z from h)
  | succ n ih =>
    intro x2 X I hX k h
    have h : b_X7_become_47 this x1 (q_fix (fun _ _ _ => none) (b_X7_become_47 this x1) n) x2 X I = some z := h
    unfold b_X7_become_47 at h
    split at h
    · obtain ⟨_, -, h⟩ := q_b1_some h
      cases h
      exact q_Ext.rf hX
    · obtain ⟨r, -, h⟩ := q_b1_some h
      obtain ⟨Y, e, h⟩ := q_b1_some h
      have h1 := q_Ext.wr hX (ly_7_3 hX k).2 e
      exact h1.trans (ih _ _ _ h1.1 (h1.2 _ _ k) h)
theorem x_X7_become {X : qX} (hX : q_Lay X) {this x1 : Nat} (k_this : q_kd X this = some (9, 6)) (_ : q_kd X x1 = some (9, 6)) {I : qI} {z : qI × qX} (h : f_X7_become this x1 X I = some z) : q_Ext X z.2 := by
  unfold f_X7_become at h
  obtain ⟨_, -, h⟩ := q_b1_some h
  obtain ⟨_, -, h⟩ := q_b1_some h
  obtain ⟨_, -, h⟩ := q_b1_some h
  exact x_X7_become_loop _ _ _ _ hX k_this h
theorem dX9_become_0 : q_at cX9_become 0 (.aload_n 0) 1 1 := ⟨by decide +kernel, rfl⟩
theorem dX9_become_1 : q_at cX9_become 1 (.getfield 12) 3 4 := ⟨by decide +kernel, rfl⟩
theorem dX9_become_4 : q_at cX9_become 4 (.aload_n 1) 1 5 := ⟨by decide +kernel, rfl⟩
theorem dX9_become_5 : q_at cX9_become 5 (.getfield 12) 3 8 := ⟨by decide +kernel, rfl⟩
theorem dX9_become_8 : q_at cX9_become 8 (.invokevirtual 87) 3 11 := ⟨by decide +kernel, rfl⟩
theorem dX9_become_11 : q_at cX9_become 11 (.aload_n 0) 1 12 := ⟨by decide +kernel, rfl⟩
theorem dX9_become_12 : q_at cX9_become 12 (.getfield 21) 3 15 := ⟨by decide +kernel, rfl⟩
theorem dX9_become_15 : q_at cX9_become 15 (.aload_n 1) 1 16 := ⟨by decide +kernel, rfl⟩
theorem dX9_become_16 : q_at cX9_become 16 (.getfield 21) 3 19 := ⟨by decide +kernel, rfl⟩
theorem dX9_become_19 : q_at cX9_become 19 (.invokevirtual 91) 3 22 := ⟨by decide +kernel, rfl⟩
theorem dX9_become_22 : q_at cX9_become 22 (.aload_n 0) 1 23 := ⟨by decide +kernel, rfl⟩
theorem dX9_become_23 : q_at cX9_become 23 (.getfield 28) 3 26 := ⟨by decide +kernel, rfl⟩
theorem dX9_become_26 : q_at cX9_become 26 (.aload_n 1) 1 27 := ⟨by decide +kernel, rfl⟩
theorem dX9_become_27 : q_at cX9_become 27 (.getfield 28) 3 30 := ⟨by decide +kernel, rfl⟩
theorem dX9_become_30 : q_at cX9_become 30 (.invokevirtual 94) 3 33 := ⟨by decide +kernel, rfl⟩
theorem dX9_become_33 : q_at cX9_become 33 (.aload_n 0) 1 34 := ⟨by decide +kernel, rfl⟩
theorem dX9_become_34 : q_at cX9_become 34 (.getfield 35) 3 37 := ⟨by decide +kernel, rfl⟩
theorem dX9_become_37 : q_at cX9_become 37 (.aload_n 1) 1 38 := ⟨by decide +kernel, rfl⟩
theorem dX9_become_38 : q_at cX9_become 38 (.getfield 35) 3 41 := ⟨by decide +kernel, rfl⟩
theorem dX9_become_41 : q_at cX9_become 41 (.invokevirtual 97) 3 44 := ⟨by decide +kernel, rfl⟩
theorem dX9_become_44 : q_at cX9_become 44 (.aload_n 0) 1 45 := ⟨by decide +kernel, rfl⟩
theorem dX9_become_45 : q_at cX9_become 45 (.getfield 42) 3 48 := ⟨by decide +kernel, rfl⟩
theorem dX9_become_48 : q_at cX9_become 48 (.aload_n 1) 1 49 := ⟨by decide +kernel, rfl⟩
theorem dX9_become_49 : q_at cX9_become 49 (.getfield 42) 3 52 := ⟨by decide +kernel, rfl⟩
theorem dX9_become_52 : q_at cX9_become 52 (.invokevirtual 100) 3 55 := ⟨by decide +kernel, rfl⟩
theorem dX9_become_55 : q_at cX9_become 55 (.aload_n 0) 1 56 := ⟨by decide +kernel, rfl⟩
theorem dX9_become_56 : q_at cX9_become 56 (.getfield 49) 3 59 := ⟨by decide +kernel, rfl⟩
theorem dX9_become_59 : q_at cX9_become 59 (.aload_n 1) 1 60 := ⟨by decide +kernel, rfl⟩
theorem dX9_become_60 : q_at cX9_become 60 (.getfield 49) 3 63 := ⟨by decide +kernel, rfl⟩
theorem dX9_become_63 : q_at cX9_become 63 (.invokevirtual 103) 3 66 := ⟨by decide +kernel, rfl⟩
theorem dX9_become_66 : q_at cX9_become 66 (.aload_n 0) 1 67 := ⟨by decide +kernel, rfl⟩
theorem dX9_become_67 : q_at cX9_become 67 (.getfield 56) 3 70 := ⟨by decide +kernel, rfl⟩
theorem dX9_become_70 : q_at cX9_become 70 (.aload_n 1) 1 71 := ⟨by decide +kernel, rfl⟩
theorem dX9_become_71 : q_at cX9_become 71 (.getfield 56) 3 74 := ⟨by decide +kernel, rfl⟩
theorem dX9_become_74 : q_at cX9_become 74 (.invokevirtual 106) 3 77 := ⟨by decide +kernel, rfl⟩
theorem dX9_become_77 : q_at cX9_become 77 (.aload_n 0) 1 78 := ⟨by decide +kernel, rfl⟩
theorem dX9_become_78 : q_at cX9_become 78 (.getfield 63) 3 81 := ⟨by decide +kernel, rfl⟩
theorem dX9_become_81 : q_at cX9_become 81 (.aload_n 1) 1 82 := ⟨by decide +kernel, rfl⟩
theorem dX9_become_82 : q_at cX9_become 82 (.getfield 63) 3 85 := ⟨by decide +kernel, rfl⟩
theorem dX9_become_85 : q_at cX9_become 85 (.invokevirtual 109) 3 88 := ⟨by decide +kernel, rfl⟩
theorem dX9_become_88 : q_at cX9_become 88 (.aload_n 1) 1 89 := ⟨by decide +kernel, rfl⟩
theorem dX9_become_89 : q_at cX9_become 89 (.getfield 67) 3 92 := ⟨by decide +kernel, rfl⟩
theorem dX9_become_92 : q_at cX9_become 92 (.iconst 0) 1 93 := ⟨by decide +kernel, rfl⟩
theorem dX9_become_93 : q_at cX9_become 93 (.aload_n 0) 1 94 := ⟨by decide +kernel, rfl⟩
theorem dX9_become_94 : q_at cX9_become 94 (.getfield 67) 3 97 := ⟨by decide +kernel, rfl⟩
theorem dX9_become_97 : q_at cX9_become 97 (.iconst 0) 1 98 := ⟨by decide +kernel, rfl⟩
theorem dX9_become_98 : q_at cX9_become 98 (.aload_n 0) 1 99 := ⟨by decide +kernel, rfl⟩
theorem dX9_become_99 : q_at cX9_become 99 (.getfield 67) 3 102 := ⟨by decide +kernel, rfl⟩
theorem dX9_become_102 : q_at cX9_become 102 (.arraylength) 1 103 := ⟨by decide +kernel, rfl⟩
theorem dX9_become_103 : q_at cX9_become 103 (.invokestatic 112) 3 106 := ⟨by decide +kernel, rfl⟩
theorem dX9_become_106 : q_at cX9_become 106 (.aload_n 0) 1 107 := ⟨by decide +kernel, rfl⟩
theorem dX9_become_107 : q_at cX9_become 107 (.aload_n 1) 1 108 := ⟨by decide +kernel, rfl⟩
theorem dX9_become_108 : q_at cX9_become 108 (.getfield 83) 3 111 := ⟨by decide +kernel, rfl⟩
theorem dX9_become_111 : q_at cX9_become 111 (.putfield 83) 3 114 := ⟨by decide +kernel, rfl⟩
theorem dX9_become_114 : q_at cX9_become 114 (.return_) 1 115 := ⟨by decide +kernel, rfl⟩
def f_X9_become (this : Nat) (x1 : Nat) (X : qX) (I : qI) : Option (qI × qX) :=
  q_b1 (f_X3_become (this + 1) (x1 + 1) I) fun I3 =>
  q_b1 (f_X8_become (this + 7) (x1 + 7) I3) fun I7 =>
  q_b1 (f_X2_become (this + 12) (x1 + 12) X I7) fun I11 =>
  q_b1 (f_X1_become (this + 27) (x1 + 27) X I11) fun I15 =>
  q_b2 (f_X7_become (this + 36) (x1 + 36) X I15) fun I19 X20 =>
  q_b1 (f_X10_become (this + 42) (x1 + 42) I19) fun I26 =>
  q_b1 (f_X6_become (this + 44) (x1 + 44) I26) fun I30 =>
  q_b1 (f_X4_become (this + 52) (x1 + 52) I30) fun I34 =>
  q_b1 (q_cp I34 (x1 + 60) 3 (nI 0) (this + 60) 3 (nI 0) (nI 3)) fun I39 =>
  q_b1 (some (q_up I39 this 13 (I39 x1 13))) fun I46 =>
  some (I46, X20)
set_option maxRecDepth 100000 in
set_option maxHeartbeats 4000000 in
theorem s_X9_become {l : Launch} {Γ : qC} (hΓ : q_gm Γ) {X : qX} (hX : q_Lay X) {this : Nat} {x1 : Nat} (k_this : q_kd X this = some (11, 14)) (k_x1 : q_kd X x1 = some (11, 14)) {I : qI} {z : qI × qX} (h : f_X9_become this x1 X I = some z) : q_Sem l Γ (q_rm 4 0 0) yX9_become cX9_become 2 none [.ref this, .ref x1] I X (none, z.1, z.2) := by
  refine q_met (by decide) (Nat.le_of_ble_eq_true rfl) (fun g hg hr => ?_)
  unfold f_X9_become at h
  show g 0 0 0 [(0, .ref this), (1, .ref x1)] [] I X
  refine r_aload_n hg 0 dX9_become_0 rfl rfl ?_
  have e1 := ly_9_0 hX k_this
  refine r_getR hg dX9_become_1 fl_X9_12 k_this rfl e1.1 ?_
  refine r_aload_n hg 1 dX9_become_4 rfl rfl ?_
  have e2 := ly_9_0 hX k_x1
  refine r_getR hg dX9_become_5 fl_X9_12 k_x1 rfl e2.1 ?_
  obtain ⟨I3, e4, h⟩ := q_b1_some h
  refine r_cV1v hg dX9_become_8 mt_X3_become ml_X9_87 mv_X3_become e1.2 (s_X3_become hΓ hX e1.2 e2.2 e4) (q_room (Nat.le_of_ble_eq_true rfl) (Nat.le_of_ble_eq_true rfl)) ⟨Nat.zero_le _, Nat.zero_le _⟩ (Nat.le_of_ble_eq_true rfl) ?_
  refine r_aload_n hg 0 dX9_become_11 rfl rfl ?_
  have e5 := ly_9_1 hX k_this
  refine r_getR hg dX9_become_12 fl_X9_21 k_this rfl e5.1 ?_
  refine r_aload_n hg 1 dX9_become_15 rfl rfl ?_
  have e6 := ly_9_1 hX k_x1
  refine r_getR hg dX9_become_16 fl_X9_21 k_x1 rfl e6.1 ?_
  obtain ⟨I7, e8, h⟩ := q_b1_some h
  refine r_cV1v hg dX9_become_19 mt_X8_become ml_X9_91 mv_X8_become e5.2 (s_X8_become hΓ hX e5.2 e6.2 e8) (q_room (Nat.le_of_ble_eq_true rfl) (Nat.le_of_ble_eq_true rfl)) ⟨Nat.zero_le _, Nat.zero_le _⟩ (Nat.le_of_ble_eq_true rfl) ?_
  refine r_aload_n hg 0 dX9_become_22 rfl rfl ?_
  have e9 := ly_9_2 hX k_this
  refine r_getR hg dX9_become_23 fl_X9_28 k_this rfl e9.1 ?_
  refine r_aload_n hg 1 dX9_become_26 rfl rfl ?_
  have e10 := ly_9_2 hX k_x1
  refine r_getR hg dX9_become_27 fl_X9_28 k_x1 rfl e10.1 ?_
  obtain ⟨I11, e12, h⟩ := q_b1_some h
  refine r_cV1v hg dX9_become_30 mt_X2_become ml_X9_94 mv_X2_become e9.2 (s_X2_become hΓ hX e9.2 e10.2 e12) (q_room (Nat.le_of_ble_eq_true rfl) (Nat.le_of_ble_eq_true rfl)) ⟨Nat.zero_le _, Nat.zero_le _⟩ (Nat.le_of_ble_eq_true rfl) ?_
  refine r_aload_n hg 0 dX9_become_33 rfl rfl ?_
  have e13 := ly_9_3 hX k_this
  refine r_getR hg dX9_become_34 fl_X9_35 k_this rfl e13.1 ?_
  refine r_aload_n hg 1 dX9_become_37 rfl rfl ?_
  have e14 := ly_9_3 hX k_x1
  refine r_getR hg dX9_become_38 fl_X9_35 k_x1 rfl e14.1 ?_
  obtain ⟨I15, e16, h⟩ := q_b1_some h
  refine r_cV1v hg dX9_become_41 mt_X1_become ml_X9_97 mv_X1_become e13.2 (s_X1_become hΓ hX e13.2 e14.2 e16) (q_room (Nat.le_of_ble_eq_true rfl) (Nat.le_of_ble_eq_true rfl)) ⟨Nat.zero_le _, Nat.zero_le _⟩ (Nat.le_of_ble_eq_true rfl) ?_
  refine r_aload_n hg 0 dX9_become_44 rfl rfl ?_
  have e17 := ly_9_4 hX k_this
  refine r_getR hg dX9_become_45 fl_X9_42 k_this rfl e17.1 ?_
  refine r_aload_n hg 1 dX9_become_48 rfl rfl ?_
  have e18 := ly_9_4 hX k_x1
  refine r_getR hg dX9_become_49 fl_X9_42 k_x1 rfl e18.1 ?_
  obtain ⟨I19, X20, e21, h⟩ := q_b2_some h
  refine r_cV1v hg dX9_become_52 mt_X7_become ml_X9_100 mv_X7_become e17.2 (s_X7_become hΓ hX e17.2 e18.2 e21) (q_room (Nat.le_of_ble_eq_true rfl) (Nat.le_of_ble_eq_true rfl)) ⟨Nat.zero_le _, Nat.zero_le _⟩ (Nat.le_of_ble_eq_true rfl) ?_
  obtain ⟨hX23, e22⟩ := x_X7_become hX e17.2 e18.2 e21
  refine r_aload_n hg 0 dX9_become_55 rfl rfl ?_
  have e24 := ly_9_5 hX23 (e22 _ _ k_this)
  refine r_getR hg dX9_become_56 fl_X9_49 (e22 _ _ k_this) rfl e24.1 ?_
  refine r_aload_n hg 1 dX9_become_59 rfl rfl ?_
  have e25 := ly_9_5 hX23 (e22 _ _ k_x1)
  refine r_getR hg dX9_become_60 fl_X9_49 (e22 _ _ k_x1) rfl e25.1 ?_
  obtain ⟨I26, e27, h⟩ := q_b1_some h
  refine r_cV1v hg dX9_become_63 mt_X10_become ml_X9_103 mv_X10_become e24.2 (s_X10_become hΓ hX23 e24.2 e25.2 e27) (q_room (Nat.le_of_ble_eq_true rfl) (Nat.le_of_ble_eq_true rfl)) ⟨Nat.zero_le _, Nat.zero_le _⟩ (Nat.le_of_ble_eq_true rfl) ?_
  refine r_aload_n hg 0 dX9_become_66 rfl rfl ?_
  have e28 := ly_9_6 hX23 (e22 _ _ k_this)
  refine r_getR hg dX9_become_67 fl_X9_56 (e22 _ _ k_this) rfl e28.1 ?_
  refine r_aload_n hg 1 dX9_become_70 rfl rfl ?_
  have e29 := ly_9_6 hX23 (e22 _ _ k_x1)
  refine r_getR hg dX9_become_71 fl_X9_56 (e22 _ _ k_x1) rfl e29.1 ?_
  obtain ⟨I30, e31, h⟩ := q_b1_some h
  refine r_cV1v hg dX9_become_74 mt_X6_become ml_X9_106 mv_X6_become e28.2 (s_X6_become hΓ hX23 e28.2 e29.2 e31) (q_room (Nat.le_of_ble_eq_true rfl) (Nat.le_of_ble_eq_true rfl)) ⟨Nat.zero_le _, Nat.zero_le _⟩ (Nat.le_of_ble_eq_true rfl) ?_
  refine r_aload_n hg 0 dX9_become_77 rfl rfl ?_
  have e32 := ly_9_7 hX23 (e22 _ _ k_this)
  refine r_getR hg dX9_become_78 fl_X9_63 (e22 _ _ k_this) rfl e32.1 ?_
  refine r_aload_n hg 1 dX9_become_81 rfl rfl ?_
  have e33 := ly_9_7 hX23 (e22 _ _ k_x1)
  refine r_getR hg dX9_become_82 fl_X9_63 (e22 _ _ k_x1) rfl e33.1 ?_
  obtain ⟨I34, e35, h⟩ := q_b1_some h
  refine r_cV1v hg dX9_become_85 mt_X4_become ml_X9_109 mv_X4_become e32.2 (s_X4_become hΓ hX23 e32.2 e33.2 e35) (q_room (Nat.le_of_ble_eq_true rfl) (Nat.le_of_ble_eq_true rfl)) ⟨Nat.zero_le _, Nat.zero_le _⟩ (Nat.le_of_ble_eq_true rfl) ?_
  refine r_aload_n hg 1 dX9_become_88 rfl rfl ?_
  have e36 := ly_9_8 hX23 (e22 _ _ k_x1)
  refine r_getR hg dX9_become_89 fl_X9_67 (e22 _ _ k_x1) rfl e36.1 ?_
  refine r_iconst hg dX9_become_92 ci_0 ?_
  refine r_aload_n hg 0 dX9_become_93 rfl rfl ?_
  have e37 := ly_9_8 hX23 (e22 _ _ k_this)
  refine r_getR hg dX9_become_94 fl_X9_67 (e22 _ _ k_this) rfl e37.1 ?_
  refine r_iconst hg dX9_become_97 ci_0 ?_
  refine r_aload_n hg 0 dX9_become_98 rfl rfl ?_
  have e38 := ly_9_8 hX23 (e22 _ _ k_this)
  refine r_getR hg dX9_become_99 fl_X9_67 (e22 _ _ k_this) rfl e38.1 ?_
  refine r_alen hg dX9_become_102 e38.2 ?_
  obtain ⟨I39, e40, h⟩ := q_b1_some h
  obtain ⟨⟨e41, e42, e43⟩, e44, e45, rfl⟩ := q_cp_some e40
  refine r_copy hg dX9_become_103 cp_X9_112 e36.2 e37.2 e41 e42 e43 e44 e45 ⟨Nat.le_of_ble_eq_true rfl, Nat.le_of_ble_eq_true rfl⟩ ?_
  refine r_aload_n hg 0 dX9_become_106 rfl rfl ?_
  refine r_aload_n hg 1 dX9_become_107 rfl rfl ?_
  refine r_getI hg dX9_become_108 fl_X9_83 (e22 _ _ k_x1) rfl ?_
  obtain ⟨I46, e47, h⟩ := q_b1_some h
  obtain rfl := Option.some.inj e47
  refine r_putI hg dX9_become_111 fl_X9_83 (e22 _ _ k_this) rfl ⟨rfl, rfl⟩ ?_
  exact r_return hr dX9_become_114 ⟨Nat.zero_le _, Nat.zero_le _⟩ rfl (by cases h; rfl)
theorem x_X9_become {X : qX} (hX : q_Lay X) {this x1 : Nat} (k_this : q_kd X this = some (11, 14)) (k_x1 : q_kd X x1 = some (11, 14)) {I : qI} {z : qI × qX} (h : f_X9_become this x1 X I = some z) : q_Ext X z.2 := by
  unfold f_X9_become at h
  obtain ⟨_, -, h⟩ := q_b1_some h
  obtain ⟨_, -, h⟩ := q_b1_some h
  obtain ⟨_, -, h⟩ := q_b1_some h
  obtain ⟨_, -, h⟩ := q_b1_some h
  obtain ⟨I2, X2, e, h⟩ := q_b2_some h
  obtain ⟨_, -, h⟩ := q_b1_some h
  obtain ⟨_, -, h⟩ := q_b1_some h
  obtain ⟨_, -, h⟩ := q_b1_some h
  obtain ⟨_, -, h⟩ := q_b1_some h
  obtain ⟨_, -, h⟩ := q_b1_some h
  have hx := x_X7_become hX (ly_9_4 hX k_this).2 (ly_9_4 hX k_x1).2 e
  cases h
  exact hx
