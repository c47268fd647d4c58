theorem dX11_standing_0 : q_at cX11_standing 0 (.aload_n 0) 1 1 := ⟨by decide +kernel, rfl⟩
theorem dX11_standing_1 : q_at cX11_standing 1 (.getfield 19) 3 4 := ⟨by decide +kernel, rfl⟩
theorem dX11_standing_4 : q_at cX11_standing 4 (.aload_n 0) 1 5 := ⟨by decide +kernel, rfl⟩
theorem dX11_standing_5 : q_at cX11_standing 5 (.getfield 10) 3 8 := ⟨by decide +kernel, rfl⟩
theorem dX11_standing_8 : q_at cX11_standing 8 (.invokevirtual 228) 3 11 := ⟨by decide +kernel, rfl⟩
theorem dX11_standing_11 : q_at cX11_standing 11 (.aload_n 0) 1 12 := ⟨by decide +kernel, rfl⟩
theorem dX11_standing_12 : q_at cX11_standing 12 (.getfield 19) 3 15 := ⟨by decide +kernel, rfl⟩
theorem dX11_standing_15 : q_at cX11_standing 15 (.iload_n 1) 1 16 := ⟨by decide +kernel, rfl⟩
theorem dX11_standing_16 : q_at cX11_standing 16 (.iload_n 3) 1 17 := ⟨by decide +kernel, rfl⟩
theorem dX11_standing_17 : q_at cX11_standing 17 (.invokevirtual 151) 3 20 := ⟨by decide +kernel, rfl⟩
theorem dX11_standing_20 : q_at cX11_standing 20 (.iload_n 2) 1 21 := ⟨by decide +kernel, rfl⟩
theorem dX11_standing_21 : q_at cX11_standing 21 (.ifCond .ne 11) 3 24 := ⟨by decide +kernel, rfl⟩
theorem dX11_standing_24 : q_at cX11_standing 24 (.aload_n 0) 1 25 := ⟨by decide +kernel, rfl⟩
theorem dX11_standing_25 : q_at cX11_standing 25 (.getfield 19) 3 28 := ⟨by decide +kernel, rfl⟩
theorem dX11_standing_28 : q_at cX11_standing 28 (.invokevirtual 232) 3 31 := ⟨by decide +kernel, rfl⟩
theorem dX11_standing_31 : q_at cX11_standing 31 (.ireturn) 1 32 := ⟨by decide +kernel, rfl⟩
theorem dX11_standing_32 : q_at cX11_standing 32 (.iload_n 2) 1 33 := ⟨by decide +kernel, rfl⟩
theorem dX11_standing_33 : q_at cX11_standing 33 (.iconst 1) 1 34 := ⟨by decide +kernel, rfl⟩
theorem dX11_standing_34 : q_at cX11_standing 34 (.if_icmp .ne 26) 3 37 := ⟨by decide +kernel, rfl⟩
theorem dX11_standing_37 : q_at cX11_standing 37 (.aload_n 0) 1 38 := ⟨by decide +kernel, rfl⟩
theorem dX11_standing_38 : q_at cX11_standing 38 (.getfield 19) 3 41 := ⟨by decide +kernel, rfl⟩
theorem dX11_standing_41 : q_at cX11_standing 41 (.getfield 70) 3 44 := ⟨by decide +kernel, rfl⟩
theorem dX11_standing_44 : q_at cX11_standing 44 (.aload_n 0) 1 45 := ⟨by decide +kernel, rfl⟩
theorem dX11_standing_45 : q_at cX11_standing 45 (.getfield 19) 3 48 := ⟨by decide +kernel, rfl⟩
theorem dX11_standing_48 : q_at cX11_standing 48 (.getfield 70) 3 51 := ⟨by decide +kernel, rfl⟩
theorem dX11_standing_51 : q_at cX11_standing 51 (.getfield 236) 3 54 := ⟨by decide +kernel, rfl⟩
theorem dX11_standing_54 : q_at cX11_standing 54 (.invokevirtual 239) 3 57 := ⟨by decide +kernel, rfl⟩
theorem dX11_standing_57 : q_at cX11_standing 57 (.goto 23) 3 60 := ⟨by decide +kernel, rfl⟩
theorem dX11_standing_60 : q_at cX11_standing 60 (.aload_n 0) 1 61 := ⟨by decide +kernel, rfl⟩
theorem dX11_standing_61 : q_at cX11_standing 61 (.getfield 19) 3 64 := ⟨by decide +kernel, rfl⟩
theorem dX11_standing_64 : q_at cX11_standing 64 (.getfield 70) 3 67 := ⟨by decide +kernel, rfl⟩
theorem dX11_standing_67 : q_at cX11_standing 67 (.aload_n 0) 1 68 := ⟨by decide +kernel, rfl⟩
theorem dX11_standing_68 : q_at cX11_standing 68 (.getfield 19) 3 71 := ⟨by decide +kernel, rfl⟩
theorem dX11_standing_71 : q_at cX11_standing 71 (.getfield 70) 3 74 := ⟨by decide +kernel, rfl⟩
theorem dX11_standing_74 : q_at cX11_standing 74 (.getfield 243) 3 77 := ⟨by decide +kernel, rfl⟩
theorem dX11_standing_77 : q_at cX11_standing 77 (.invokevirtual 239) 3 80 := ⟨by decide +kernel, rfl⟩
theorem dX11_standing_80 : q_at cX11_standing 80 (.ireturn) 1 81 := ⟨by decide +kernel, rfl⟩
def f_X11_standing (this : Nat) (x1 : Int32) (x2 : Int32) (x3 : Int32) (X : qX) (I : qI) : Option (Int32 × qI × qX) :=
  q_b2 (f_X9_become (this + 131) (this + 1) X I) fun I3 X4 =>
  q_b1 (f_X9_goBy (this + 131) x1 x3 X4 I3) fun I9 =>
  if x2 = 0 then
    q_b1 (f_X9_allOwed (this + 131) I9) fun v28 =>
    some (v28, I9, X4)
  else
    if x2 = (nI 1) then
      q_b1 (f_X2_sum (this + 143) (some (this + 147)) X4 I9) fun v25 =>
      some (v25, I9, X4)
    else
      q_b1 (f_X2_sum (this + 143) (some (this + 153)) X4 I9) fun v18 =>
      some (v18, I9, X4)
set_option maxRecDepth 100000 in
set_option maxHeartbeats 4000000 in
theorem s_X11_standing {l : Launch} {Γ : qC} (hΓ : q_gm Γ) {X : qX} (hX : q_Lay X) {this : Nat} {x1 : Int32} {x2 : Int32} {x3 : Int32} (k_this : q_kd X this = some (13, 9)) {I : qI} {z : Int32 × qI × qX} (h : f_X11_standing this x1 x2 x3 X I = some z) : q_Sem l Γ (q_rm 8 0 0) yX11_standing cX11_standing 4 (some .int) [.ref this, .int x1, .int x2, .int x3] I X (some (.int z.1), z.2.1, z.2.2) := by
  refine q_met (by decide) (Nat.le_of_ble_eq_true rfl) (fun g hg hr => ?_)
  unfold f_X11_standing at h
  show g 0 0 0 [(0, .ref this), (1, .int x1), (2, .int x2), (3, .int x3)] [] I X
  refine r_aload_n hg 0 dX11_standing_0 rfl rfl ?_
  have e1 := ly_11_2 hX k_this
  refine r_getR hg dX11_standing_1 fl_X11_19 k_this rfl e1.1 ?_
  refine r_aload_n hg 0 dX11_standing_4 rfl rfl ?_
  have e2 := ly_11_0 hX k_this
  refine r_getR hg dX11_standing_5 fl_X11_10 k_this rfl e2.1 ?_
  obtain ⟨I3, X4, e5, h⟩ := q_b2_some h
  refine r_cV1v hg dX11_standing_8 mt_X9_become ml_X11_228 mv_X9_become e1.2 (s_X9_become hΓ hX e1.2 e2.2 e5) (q_room (Nat.le_of_ble_eq_true rfl) (Nat.le_of_ble_eq_true rfl)) ⟨Nat.zero_le _, Nat.zero_le _⟩ (Nat.le_of_ble_eq_true rfl) ?_
  obtain ⟨hX7, e6⟩ := x_X9_become hX e1.2 e2.2 e5
  refine r_aload_n hg 0 dX11_standing_11 rfl rfl ?_
  have e8 := ly_11_2 hX7 (e6 _ _ k_this)
  refine r_getR hg dX11_standing_12 fl_X11_19 (e6 _ _ k_this) rfl e8.1 ?_
  refine r_iload_n hg 1 dX11_standing_15 rfl rfl ?_
  refine r_iload_n hg 3 dX11_standing_16 rfl rfl ?_
  obtain ⟨I9, e10, h⟩ := q_b1_some h
  refine r_cV2v hg dX11_standing_17 mt_X9_goBy ml_X11_151 mv_X9_goBy e8.2 (s_X9_goBy hΓ hX7 e8.2 e10) (q_room (Nat.le_of_ble_eq_true rfl) (Nat.le_of_ble_eq_true rfl)) ⟨Nat.zero_le _, Nat.zero_le _⟩ (Nat.le_of_ble_eq_true rfl) ?_
  refine r_iload_n hg 2 dX11_standing_20 rfl rfl ?_
  refine r_if_ne hg 32 dX11_standing_21 (by decide) (fun c11 => ?_) (fun c11 => ?_)
  · rw [if_neg c11] at h
    refine r_iload_n hg 2 dX11_standing_32 rfl rfl ?_
    refine r_iconst hg dX11_standing_33 ci_1 ?_
    refine r_icmp_ne hg 60 dX11_standing_34 (by decide) (fun c12 => ?_) (fun c12 => ?_)
    · rw [if_neg c12] at h
      refine r_aload_n hg 0 dX11_standing_60 rfl rfl ?_
      have e13 := ly_11_2 hX7 (e6 _ _ k_this)
      refine r_getR hg dX11_standing_61 fl_X11_19 (e6 _ _ k_this) rfl e13.1 ?_
      have e14 := ly_9_2 hX7 e13.2
      refine r_getR hg dX11_standing_64 fl_X11_70 e13.2 rfl e14.1 ?_
      refine r_aload_n hg 0 dX11_standing_67 rfl rfl ?_
      have e15 := ly_11_2 hX7 (e6 _ _ k_this)
      refine r_getR hg dX11_standing_68 fl_X11_19 (e6 _ _ k_this) rfl e15.1 ?_
      have e16 := ly_9_2 hX7 e15.2
      refine r_getR hg dX11_standing_71 fl_X11_70 e15.2 rfl e16.1 ?_
      have e17 := ly_2_9 hX7 e16.2
      refine r_getR hg dX11_standing_74 fl_X11_243 e16.2 rfl e17.1 ?_
      obtain ⟨v18, e19, h⟩ := q_b1_some h
      refine r_cV1i hg dX11_standing_77 mt_X2_sum ml_X11_239 mv_X2_sum e14.2 (s_X2_sum hΓ hX7 e14.2 e19) (q_room (Nat.le_of_ble_eq_true rfl) (Nat.le_of_ble_eq_true rfl)) ⟨Nat.zero_le _, Nat.zero_le _⟩ (Nat.le_of_ble_eq_true rfl) ?_
      exact r_ireturn hr dX11_standing_80 ⟨Nat.zero_le _, Nat.zero_le _⟩ ⟨_, rfl, rfl⟩ (by cases h; rfl)
    · rw [if_pos (Classical.not_not.mp c12)] at h
      refine r_aload_n hg 0 dX11_standing_37 rfl rfl ?_
      have e20 := ly_11_2 hX7 (e6 _ _ k_this)
      refine r_getR hg dX11_standing_38 fl_X11_19 (e6 _ _ k_this) rfl e20.1 ?_
      have e21 := ly_9_2 hX7 e20.2
      refine r_getR hg dX11_standing_41 fl_X11_70 e20.2 rfl e21.1 ?_
      refine r_aload_n hg 0 dX11_standing_44 rfl rfl ?_
      have e22 := ly_11_2 hX7 (e6 _ _ k_this)
      refine r_getR hg dX11_standing_45 fl_X11_19 (e6 _ _ k_this) rfl e22.1 ?_
      have e23 := ly_9_2 hX7 e22.2
      refine r_getR hg dX11_standing_48 fl_X11_70 e22.2 rfl e23.1 ?_
      have e24 := ly_2_3 hX7 e23.2
      refine r_getR hg dX11_standing_51 fl_X11_236 e23.2 rfl e24.1 ?_
      obtain ⟨v25, e26, h⟩ := q_b1_some h
      refine r_cV1i hg dX11_standing_54 mt_X2_sum ml_X11_239 mv_X2_sum e21.2 (s_X2_sum hΓ hX7 e21.2 e26) (q_room (Nat.le_of_ble_eq_true rfl) (Nat.le_of_ble_eq_true rfl)) ⟨Nat.zero_le _, Nat.zero_le _⟩ (Nat.le_of_ble_eq_true rfl) ?_
      refine r_goto hg 80 dX11_standing_57 (by decide) ?_
      exact r_ireturn hr dX11_standing_80 ⟨Nat.zero_le _, Nat.zero_le _⟩ ⟨_, rfl, rfl⟩ (by cases h; rfl)
  · rw [if_pos (Classical.not_not.mp c11)] at h
    refine r_aload_n hg 0 dX11_standing_24 rfl rfl ?_
    have e27 := ly_11_2 hX7 (e6 _ _ k_this)
    refine r_getR hg dX11_standing_25 fl_X11_19 (e6 _ _ k_this) rfl e27.1 ?_
    obtain ⟨v28, e29, h⟩ := q_b1_some h
    refine r_cV0i hg dX11_standing_28 mt_X9_allOwed ml_X11_232 mv_X9_allOwed e27.2 (s_X9_allOwed hΓ hX7 e27.2 e29) (q_room (Nat.le_of_ble_eq_true rfl) (Nat.le_of_ble_eq_true rfl)) ⟨Nat.zero_le _, Nat.zero_le _⟩ (Nat.le_of_ble_eq_true rfl) ?_
    exact r_ireturn hr dX11_standing_31 ⟨Nat.zero_le _, Nat.zero_le _⟩ ⟨_, rfl, rfl⟩ (by cases h; rfl)
theorem x_X11_standing {X : qX} (hX : q_Lay X) {this : Nat} (k_this : q_kd X this = some (13, 9)) {x1 x2 x3 : Int32} {I : qI} {z : Int32 × qI × qX} (h : f_X11_standing this x1 x2 x3 X I = some z) : q_Ext X z.2.2 := by
  unfold f_X11_standing at h
  obtain ⟨I2, X2, e, h⟩ := q_b2_some h
  obtain ⟨_, -, h⟩ := q_b1_some h
  have hx := x_X9_become hX (ly_11_2 hX k_this).2 (ly_11_0 hX k_this).2 e
  split at h
  · obtain ⟨_, -, h⟩ := q_b1_some h
    cases h
    exact hx
  · split at h
    · obtain ⟨_, -, h⟩ := q_b1_some h
      cases h
      exact hx
    · obtain ⟨_, -, h⟩ := q_b1_some h
      cases h
      exact hx
theorem dX11_beside_0 : q_at cX11_beside 0 (.iload_n 1) 1 1 := ⟨by decide +kernel, rfl⟩
theorem dX11_beside_1 : q_at cX11_beside 1 (.iconst 1) 1 2 := ⟨by decide +kernel, rfl⟩
theorem dX11_beside_2 : q_at cX11_beside 2 (.bipush 60) 2 4 := ⟨by decide +kernel, rfl⟩
theorem dX11_beside_4 : q_at cX11_beside 4 (.invokestatic 53) 3 7 := ⟨by decide +kernel, rfl⟩
theorem dX11_beside_7 : q_at cX11_beside 7 (.ifCond .eq 12) 3 10 := ⟨by decide +kernel, rfl⟩
theorem dX11_beside_10 : q_at cX11_beside 10 (.iload_n 2) 1 11 := ⟨by decide +kernel, rfl⟩
theorem dX11_beside_11 : q_at cX11_beside 11 (.iconst 0) 1 12 := ⟨by decide +kernel, rfl⟩
theorem dX11_beside_12 : q_at cX11_beside 12 (.iconst 2) 1 13 := ⟨by decide +kernel, rfl⟩
theorem dX11_beside_13 : q_at cX11_beside 13 (.invokestatic 53) 3 16 := ⟨by decide +kernel, rfl⟩
theorem dX11_beside_16 : q_at cX11_beside 16 (.ifCond .ne 6) 3 19 := ⟨by decide +kernel, rfl⟩
theorem dX11_beside_19 : q_at cX11_beside 19 (.ldc 57) 2 21 := ⟨by decide +kernel, rfl⟩
theorem dX11_beside_21 : q_at cX11_beside 21 (.ireturn) 1 22 := ⟨by decide +kernel, rfl⟩
theorem dX11_beside_22 : q_at cX11_beside 22 (.aload_n 0) 1 23 := ⟨by decide +kernel, rfl⟩
theorem dX11_beside_23 : q_at cX11_beside 23 (.getfield 10) 3 26 := ⟨by decide +kernel, rfl⟩
theorem dX11_beside_26 : q_at cX11_beside 26 (.getfield 141) 3 29 := ⟨by decide +kernel, rfl⟩
theorem dX11_beside_29 : q_at cX11_beside 29 (.iload_n 1) 1 30 := ⟨by decide +kernel, rfl⟩
theorem dX11_beside_30 : q_at cX11_beside 30 (.iadd) 1 31 := ⟨by decide +kernel, rfl⟩
theorem dX11_beside_31 : q_at cX11_beside 31 (.sipush 6999) 3 34 := ⟨by decide +kernel, rfl⟩
theorem dX11_beside_34 : q_at cX11_beside 34 (.if_icmp .le 6) 3 37 := ⟨by decide +kernel, rfl⟩
theorem dX11_beside_37 : q_at cX11_beside 37 (.ldc 114) 2 39 := ⟨by decide +kernel, rfl⟩
theorem dX11_beside_39 : q_at cX11_beside 39 (.ireturn) 1 40 := ⟨by decide +kernel, rfl⟩
theorem dX11_beside_40 : q_at cX11_beside 40 (.aload_n 0) 1 41 := ⟨by decide +kernel, rfl⟩
theorem dX11_beside_41 : q_at cX11_beside 41 (.iload_n 1) 1 42 := ⟨by decide +kernel, rfl⟩
theorem dX11_beside_42 : q_at cX11_beside 42 (.iload_n 2) 1 43 := ⟨by decide +kernel, rfl⟩
theorem dX11_beside_43 : q_at cX11_beside 43 (.iconst 1) 1 44 := ⟨by decide +kernel, rfl⟩
theorem dX11_beside_44 : q_at cX11_beside 44 (.invokevirtual 224) 3 47 := ⟨by decide +kernel, rfl⟩
theorem dX11_beside_47 : q_at cX11_beside 47 (.aload_n 0) 1 48 := ⟨by decide +kernel, rfl⟩
theorem dX11_beside_48 : q_at cX11_beside 48 (.iload_n 1) 1 49 := ⟨by decide +kernel, rfl⟩
theorem dX11_beside_49 : q_at cX11_beside 49 (.iload_n 2) 1 50 := ⟨by decide +kernel, rfl⟩
theorem dX11_beside_50 : q_at cX11_beside 50 (.iconst 0) 1 51 := ⟨by decide +kernel, rfl⟩
theorem dX11_beside_51 : q_at cX11_beside 51 (.invokevirtual 224) 3 54 := ⟨by decide +kernel, rfl⟩
theorem dX11_beside_54 : q_at cX11_beside 54 (.isub) 1 55 := ⟨by decide +kernel, rfl⟩
theorem dX11_beside_55 : q_at cX11_beside 55 (.ireturn) 1 56 := ⟨by decide +kernel, rfl⟩
def f_X11_beside (this : Nat) (x1 : Int32) (x2 : Int32) (X : qX) (I : qI) : Option (Int32 × qI × qX) :=
  q_b1 (f_X11_within x1 (nI 1) (nI 60)) fun v1 =>
  if v1 = 0 then
    some ((-1000000001), I, X)
  else
    q_b1 (f_X11_within x2 (nI 0) (nI 2)) fun v4 =>
    if v4 = 0 then
      some ((-1000000001), I, X)
    else
      if ((I (this + 1) 13) + x1) ≤ (nI 6999) then
        q_b3 (f_X11_standing this x1 x2 (nI 1) X I) fun v9 I10 X11 =>
        q_b3 (f_X11_standing this x1 x2 (nI 0) X11 I10) fun v15 I16 X17 =>
        some ((v9 - v15), I16, X17)
      else
        some ((-1000000003), I, X)
set_option maxRecDepth 100000 in
set_option maxHeartbeats 4000000 in
theorem s_X11_beside {l : Launch} {Γ : qC} (hΓ : q_gm Γ) {X : qX} (hX : q_Lay X) {this : Nat} {x1 : Int32} {x2 : Int32} (k_this : q_kd X this = some (13, 9)) {I : qI} {z : Int32 × qI × qX} (h : f_X11_beside this x1 x2 X I = some z) : q_Sem l Γ (q_rm 9 0 0) yX11_beside cX11_beside 3 (some .int) [.ref this, .int x1, .int x2] I X (some (.int z.1), z.2.1, z.2.2) := by
  refine q_met (by decide) (Nat.le_of_ble_eq_true rfl) (fun g hg hr => ?_)
  unfold f_X11_beside at h
  show g 0 0 0 [(0, .ref this), (1, .int x1), (2, .int x2)] [] I X
  refine r_iload_n hg 1 dX11_beside_0 rfl rfl ?_
  refine r_iconst hg dX11_beside_1 ci_1 ?_
  refine r_bipush hg dX11_beside_2 cb_60 ?_
  obtain ⟨v1, e2, h⟩ := q_b1_some h
  refine r_cS3i hg dX11_beside_4 mt_X11_within ⟨ml_X11_53, mst_X11_within⟩ (s_X11_within hΓ hX e2) (q_room (Nat.le_of_ble_eq_true rfl) (Nat.le_of_ble_eq_true rfl)) ⟨Nat.zero_le _, Nat.zero_le _⟩ (Nat.le_of_ble_eq_true rfl) ?_
  refine r_if_eq hg 19 dX11_beside_7 (by decide) (fun c3 => ?_) (fun c3 => ?_)
  · rw [if_pos c3] at h
    refine r_ldc hg dX11_beside_19 kc_X11_57 ?_
    exact r_ireturn hr dX11_beside_21 ⟨Nat.zero_le _, Nat.zero_le _⟩ ⟨_, rfl, rfl⟩ (by cases h; rfl)
  · rw [if_neg c3] at h
    refine r_iload_n hg 2 dX11_beside_10 rfl rfl ?_
    refine r_iconst hg dX11_beside_11 ci_0 ?_
    refine r_iconst hg dX11_beside_12 ci_2 ?_
    obtain ⟨v4, e5, h⟩ := q_b1_some h
    refine r_cS3i hg dX11_beside_13 mt_X11_within ⟨ml_X11_53, mst_X11_within⟩ (s_X11_within hΓ hX e5) (q_room (Nat.le_of_ble_eq_true rfl) (Nat.le_of_ble_eq_true rfl)) ⟨Nat.zero_le _, Nat.zero_le _⟩ (Nat.le_of_ble_eq_true rfl) ?_
    refine r_if_ne hg 22 dX11_beside_16 (by decide) (fun c6 => ?_) (fun c6 => ?_)
    · rw [if_neg c6] at h
      refine r_aload_n hg 0 dX11_beside_22 rfl rfl ?_
      have e7 := ly_11_0 hX k_this
      refine r_getR hg dX11_beside_23 fl_X11_10 k_this rfl e7.1 ?_
      refine r_getI hg dX11_beside_26 fl_X11_141 e7.2 rfl ?_
      refine r_iload_n hg 1 dX11_beside_29 rfl rfl ?_
      refine r_iadd hg dX11_beside_30 ?_
      refine r_sipush hg dX11_beside_31 cs_6999 ?_
      refine r_icmp_le hg 40 dX11_beside_34 (by decide) (fun c8 => ?_) (fun c8 => ?_)
      · rw [if_pos c8] at h
        refine r_aload_n hg 0 dX11_beside_40 rfl rfl ?_
        refine r_iload_n hg 1 dX11_beside_41 rfl rfl ?_
        refine r_iload_n hg 2 dX11_beside_42 rfl rfl ?_
        refine r_iconst hg dX11_beside_43 ci_1 ?_
        obtain ⟨v9, I10, X11, e12, h⟩ := q_b3_some h
        refine r_cV3i hg dX11_beside_44 mt_X11_standing ml_X11_224 mv_X11_standing k_this (s_X11_standing hΓ hX k_this e12) (q_room (Nat.le_of_ble_eq_true rfl) (Nat.le_of_ble_eq_true rfl)) ⟨Nat.zero_le _, Nat.zero_le _⟩ (Nat.le_of_ble_eq_true rfl) ?_
        obtain ⟨hX14, e13⟩ := x_X11_standing hX k_this e12
        refine r_aload_n hg 0 dX11_beside_47 rfl rfl ?_
        refine r_iload_n hg 1 dX11_beside_48 rfl rfl ?_
        refine r_iload_n hg 2 dX11_beside_49 rfl rfl ?_
        refine r_iconst hg dX11_beside_50 ci_0 ?_
        obtain ⟨v15, I16, X17, e18, h⟩ := q_b3_some h
        refine r_cV3i hg dX11_beside_51 mt_X11_standing ml_X11_224 mv_X11_standing (e13 _ _ k_this) (s_X11_standing hΓ hX14 (e13 _ _ k_this) e18) (q_room (Nat.le_of_ble_eq_true rfl) (Nat.le_of_ble_eq_true rfl)) ⟨Nat.zero_le _, Nat.zero_le _⟩ (Nat.le_of_ble_eq_true rfl) ?_
        obtain ⟨hX20, e19⟩ := x_X11_standing hX14 (e13 _ _ k_this) e18
        refine r_isub hg dX11_beside_54 ?_
        exact r_ireturn hr dX11_beside_55 ⟨Nat.zero_le _, Nat.zero_le _⟩ ⟨_, rfl, rfl⟩ (by cases h; rfl)
      · rw [if_neg c8] at h
        refine r_ldc hg dX11_beside_37 kc_X11_114 ?_
        exact r_ireturn hr dX11_beside_39 ⟨Nat.zero_le _, Nat.zero_le _⟩ ⟨_, rfl, rfl⟩ (by cases h; rfl)
    · rw [if_pos (Classical.not_not.mp c6)] at h
      refine r_ldc hg dX11_beside_19 kc_X11_57 ?_
      exact r_ireturn hr dX11_beside_21 ⟨Nat.zero_le _, Nat.zero_le _⟩ ⟨_, rfl, rfl⟩ (by cases h; rfl)
theorem x_X11_beside {X : qX} (hX : q_Lay X) {this : Nat} (k_this : q_kd X this = some (13, 9)) {x1 x2 : Int32} {I : qI} {z : Int32 × qI × qX} (h : f_X11_beside this x1 x2 X I = some z) : q_Ext X z.2.2 := by
  unfold f_X11_beside at h
  obtain ⟨_, -, h⟩ := q_b1_some h
  split at h
  · cases h
    exact q_Ext.rf hX
  · obtain ⟨_, -, h⟩ := q_b1_some h
    split at h
    · cases h
      exact q_Ext.rf hX
    · split at h
      · obtain ⟨v1, I1, X1, e1, h⟩ := q_b3_some h
        obtain ⟨v2, I2, X2, e2, h⟩ := q_b3_some h
        have h1 := x_X11_standing hX k_this e1
        have h2 := x_X11_standing h1.1 (h1.2 _ _ k_this) e2
        cases h
        exact h1.trans h2
      · cases h
        exact q_Ext.rf hX
theorem dX11_daysChecked_0 : q_at cX11_daysChecked 0 (.iload_n 2) 1 1 := ⟨by decide +kernel, rfl⟩
theorem dX11_daysChecked_1 : q_at cX11_daysChecked 1 (.iconst 1) 1 2 := ⟨by decide +kernel, rfl⟩
theorem dX11_daysChecked_2 : q_at cX11_daysChecked 2 (.bipush 28) 2 4 := ⟨by decide +kernel, rfl⟩
theorem dX11_daysChecked_4 : q_at cX11_daysChecked 4 (.invokestatic 53) 3 7 := ⟨by decide +kernel, rfl⟩
theorem dX11_daysChecked_7 : q_at cX11_daysChecked 7 (.ifCond .ne 6) 3 10 := ⟨by decide +kernel, rfl⟩
theorem dX11_daysChecked_10 : q_at cX11_daysChecked 10 (.ldc 57) 2 12 := ⟨by decide +kernel, rfl⟩
theorem dX11_daysChecked_12 : q_at cX11_daysChecked 12 (.ireturn) 1 13 := ⟨by decide +kernel, rfl⟩
theorem dX11_daysChecked_13 : q_at cX11_daysChecked 13 (.aload_n 0) 1 14 := ⟨by decide +kernel, rfl⟩
theorem dX11_daysChecked_14 : q_at cX11_daysChecked 14 (.getfield 47) 3 17 := ⟨by decide +kernel, rfl⟩
theorem dX11_daysChecked_17 : q_at cX11_daysChecked 17 (.ifCond .ne 6) 3 20 := ⟨by decide +kernel, rfl⟩
theorem dX11_daysChecked_20 : q_at cX11_daysChecked 20 (.ldc 171) 2 22 := ⟨by decide +kernel, rfl⟩
theorem dX11_daysChecked_22 : q_at cX11_daysChecked 22 (.ireturn) 1 23 := ⟨by decide +kernel, rfl⟩
theorem dX11_daysChecked_23 : q_at cX11_daysChecked 23 (.aload_n 0) 1 24 := ⟨by decide +kernel, rfl⟩
theorem dX11_daysChecked_24 : q_at cX11_daysChecked 24 (.getfield 19) 3 27 := ⟨by decide +kernel, rfl⟩
theorem dX11_daysChecked_27 : q_at cX11_daysChecked 27 (.aload_n 0) 1 28 := ⟨by decide +kernel, rfl⟩
theorem dX11_daysChecked_28 : q_at cX11_daysChecked 28 (.getfield 16) 3 31 := ⟨by decide +kernel, rfl⟩
theorem dX11_daysChecked_31 : q_at cX11_daysChecked 31 (.invokevirtual 228) 3 34 := ⟨by decide +kernel, rfl⟩
theorem dX11_daysChecked_34 : q_at cX11_daysChecked 34 (.iconst 0) 1 35 := ⟨by decide +kernel, rfl⟩
theorem dX11_daysChecked_35 : q_at cX11_daysChecked 35 (.istore_n 3) 1 36 := ⟨by decide +kernel, rfl⟩
theorem dX11_daysChecked_36 : q_at cX11_daysChecked 36 (.iload_n 3) 1 37 := ⟨by decide +kernel, rfl⟩
theorem dX11_daysChecked_37 : q_at cX11_daysChecked 37 (.iload_n 2) 1 38 := ⟨by decide +kernel, rfl⟩
theorem dX11_daysChecked_38 : q_at cX11_daysChecked 38 (.if_icmp .ge 50) 3 41 := ⟨by decide +kernel, rfl⟩
theorem dX11_daysChecked_41 : q_at cX11_daysChecked 41 (.aload_n 0) 1 42 := ⟨by decide +kernel, rfl⟩
theorem dX11_daysChecked_42 : q_at cX11_daysChecked 42 (.getfield 19) 3 45 := ⟨by decide +kernel, rfl⟩
theorem dX11_daysChecked_45 : q_at cX11_daysChecked 45 (.iconst 1) 1 46 := ⟨by decide +kernel, rfl⟩
theorem dX11_daysChecked_46 : q_at cX11_daysChecked 46 (.iconst 0) 1 47 := ⟨by decide +kernel, rfl⟩
theorem dX11_daysChecked_47 : q_at cX11_daysChecked 47 (.invokevirtual 151) 3 50 := ⟨by decide +kernel, rfl⟩
theorem dX11_daysChecked_50 : q_at cX11_daysChecked 50 (.aload_n 0) 1 51 := ⟨by decide +kernel, rfl⟩
theorem dX11_daysChecked_51 : q_at cX11_daysChecked 51 (.getfield 40) 3 54 := ⟨by decide +kernel, rfl⟩
theorem dX11_daysChecked_54 : q_at cX11_daysChecked 54 (.iconst 2) 1 55 := ⟨by decide +kernel, rfl⟩
theorem dX11_daysChecked_55 : q_at cX11_daysChecked 55 (.iload_n 3) 1 56 := ⟨by decide +kernel, rfl⟩
theorem dX11_daysChecked_56 : q_at cX11_daysChecked 56 (.imul) 1 57 := ⟨by decide +kernel, rfl⟩
theorem dX11_daysChecked_57 : q_at cX11_daysChecked 57 (.aload_n 0) 1 58 := ⟨by decide +kernel, rfl⟩
theorem dX11_daysChecked_58 : q_at cX11_daysChecked 58 (.getfield 19) 3 61 := ⟨by decide +kernel, rfl⟩
theorem dX11_daysChecked_61 : q_at cX11_daysChecked 61 (.invokevirtual 407) 3 64 := ⟨by decide +kernel, rfl⟩
theorem dX11_daysChecked_64 : q_at cX11_daysChecked 64 (.iastore) 1 65 := ⟨by decide +kernel, rfl⟩
theorem dX11_daysChecked_65 : q_at cX11_daysChecked 65 (.aload_n 0) 1 66 := ⟨by decide +kernel, rfl⟩
theorem dX11_daysChecked_66 : q_at cX11_daysChecked 66 (.getfield 40) 3 69 := ⟨by decide +kernel, rfl⟩
theorem dX11_daysChecked_69 : q_at cX11_daysChecked 69 (.iconst 2) 1 70 := ⟨by decide +kernel, rfl⟩
theorem dX11_daysChecked_70 : q_at cX11_daysChecked 70 (.iload_n 3) 1 71 := ⟨by decide +kernel, rfl⟩
theorem dX11_daysChecked_71 : q_at cX11_daysChecked 71 (.imul) 1 72 := ⟨by decide +kernel, rfl⟩
theorem dX11_daysChecked_72 : q_at cX11_daysChecked 72 (.iconst 1) 1 73 := ⟨by decide +kernel, rfl⟩
theorem dX11_daysChecked_73 : q_at cX11_daysChecked 73 (.iadd) 1 74 := ⟨by decide +kernel, rfl⟩
theorem dX11_daysChecked_74 : q_at cX11_daysChecked 74 (.aload_n 0) 1 75 := ⟨by decide +kernel, rfl⟩
theorem dX11_daysChecked_75 : q_at cX11_daysChecked 75 (.getfield 19) 3 78 := ⟨by decide +kernel, rfl⟩
theorem dX11_daysChecked_78 : q_at cX11_daysChecked 78 (.invokevirtual 232) 3 81 := ⟨by decide +kernel, rfl⟩
theorem dX11_daysChecked_81 : q_at cX11_daysChecked 81 (.iastore) 1 82 := ⟨by decide +kernel, rfl⟩
theorem dX11_daysChecked_82 : q_at cX11_daysChecked 82 (.iinc 3 1) 3 85 := ⟨by decide +kernel, rfl⟩
theorem dX11_daysChecked_85 : q_at cX11_daysChecked 85 (.goto (-49)) 3 88 := ⟨by decide +kernel, rfl⟩
theorem dX11_daysChecked_88 : q_at cX11_daysChecked 88 (.aload_n 0) 1 89 := ⟨by decide +kernel, rfl⟩
theorem dX11_daysChecked_89 : q_at cX11_daysChecked 89 (.iload_n 1) 1 90 := ⟨by decide +kernel, rfl⟩
theorem dX11_daysChecked_90 : q_at cX11_daysChecked 90 (.iconst 2) 1 91 := ⟨by decide +kernel, rfl⟩
theorem dX11_daysChecked_91 : q_at cX11_daysChecked 91 (.iload_n 2) 1 92 := ⟨by decide +kernel, rfl⟩
theorem dX11_daysChecked_92 : q_at cX11_daysChecked 92 (.imul) 1 93 := ⟨by decide +kernel, rfl⟩
theorem dX11_daysChecked_93 : q_at cX11_daysChecked 93 (.invokevirtual 404) 3 96 := ⟨by decide +kernel, rfl⟩
theorem dX11_daysChecked_96 : q_at cX11_daysChecked 96 (.ireturn) 1 97 := ⟨by decide +kernel, rfl⟩
def b_X11_daysChecked_36 (this : Nat) (x1 : Int32) (x2 : Int32) (k36 : Int32 → qX → qI → Option (Int32 × qI × qX)) (x3 : Int32) (X : qX) (I : qI) : Option (Int32 × qI × qX) :=
  if x2 ≤ x3 then
    q_b1 (f_X11_firstWrong this x1 ((nI 2) * x2) I) fun v2 =>
    some (v2, I, X)
  else
    q_b1 (f_X9_goBy (this + 131) (nI 1) (nI 0) X I) fun I5 =>
    q_b1 (f_X9_allEarned (this + 131) I5) fun v9 =>
    q_b1 (q_wr I5 (this + 204) 60 ((nI 2) * x3) v9) fun I11 =>
    q_b1 (f_X9_allOwed (this + 131) I11) fun v15 =>
    q_b1 (q_wr I11 (this + 204) 60 (((nI 2) * x3) + (nI 1)) v15) fun I17 =>
    k36 (x3 + (nI 1)) X I17
set_option maxRecDepth 100000 in
set_option maxHeartbeats 4000000 in
theorem p_X11_daysChecked_36 {l : Launch} {Γ : qC} {g : qG} {z : Int32 × qI × qX} {this : Nat} {x1 : Int32} {x2 : Int32} (hΓ : q_gm Γ) (hg : q_Ok l Γ RX11 cX11_daysChecked 4 (q_rm 8 0 0) "daysChecked" (some .int) g) (hr : q_Rt cX11_daysChecked (some .int) (q_rm 8 0 0) (some (.int z.1), z.2.1, z.2.2) g) {k36 : Int32 → qX → qI → Option (Int32 × qI × qX)} (hk36 : ∀ (x3 : Int32) (X : qX) (I : qI) (hX : q_Lay X) (k_this : q_kd X this = some (13, 9)), k36 x3 X I = some z → g 0 0 36 [(0, .ref this), (1, .int x1), (2, .int x2), (3, .int x3)] [] I X) (x3 : Int32) (X : qX) (I : qI) (hX : q_Lay X) (k_this : q_kd X this = some (13, 9)) (h : b_X11_daysChecked_36 this x1 x2 k36 x3 X I = some z) : g 0 0 36 [(0, .ref this), (1, .int x1), (2, .int x2), (3, .int x3)] [] I X := by
  unfold b_X11_daysChecked_36 at h
  refine r_iload_n hg 3 dX11_daysChecked_36 rfl rfl ?_
  refine r_iload_n hg 2 dX11_daysChecked_37 rfl rfl ?_
  refine r_icmp_ge hg 88 dX11_daysChecked_38 (by decide) (fun c1 => ?_) (fun c1 => ?_)
  · rw [if_pos c1] at h
    refine r_aload_n hg 0 dX11_daysChecked_88 rfl rfl ?_
    refine r_iload_n hg 1 dX11_daysChecked_89 rfl rfl ?_
    refine r_iconst hg dX11_daysChecked_90 ci_2 ?_
    refine r_iload_n hg 2 dX11_daysChecked_91 rfl rfl ?_
    refine r_imul hg dX11_daysChecked_92 ?_
    obtain ⟨v2, e3, h⟩ := q_b1_some h
    refine r_cV2i hg dX11_daysChecked_93 mt_X11_firstWrong ml_X11_404 mv_X11_firstWrong k_this (s_X11_firstWrong hΓ hX k_this e3) (q_room (Nat.le_of_ble_eq_true rfl) (Nat.le_of_ble_eq_true rfl)) ⟨Nat.zero_le _, Nat.zero_le _⟩ (Nat.le_of_ble_eq_true rfl) ?_
    exact r_ireturn hr dX11_daysChecked_96 ⟨Nat.zero_le _, Nat.zero_le _⟩ ⟨_, rfl, rfl⟩ (by cases h; rfl)
  · rw [if_neg c1] at h
    refine r_aload_n hg 0 dX11_daysChecked_41 rfl rfl ?_
    have e4 := ly_11_2 hX k_this
    refine r_getR hg dX11_daysChecked_42 fl_X11_19 k_this rfl e4.1 ?_
    refine r_iconst hg dX11_daysChecked_45 ci_1 ?_
    refine r_iconst hg dX11_daysChecked_46 ci_0 ?_
    obtain ⟨I5, e6, h⟩ := q_b1_some h
    refine r_cV2v hg dX11_daysChecked_47 mt_X9_goBy ml_X11_151 mv_X9_goBy e4.2 (s_X9_goBy hΓ hX e4.2 e6) (q_room (Nat.le_of_ble_eq_true rfl) (Nat.le_of_ble_eq_true rfl)) ⟨Nat.zero_le _, Nat.zero_le _⟩ (Nat.le_of_ble_eq_true rfl) ?_
    refine r_aload_n hg 0 dX11_daysChecked_50 rfl rfl ?_
    have e7 := ly_11_6 hX k_this
    refine r_getR hg dX11_daysChecked_51 fl_X11_40 k_this rfl e7.1 ?_
    refine r_iconst hg dX11_daysChecked_54 ci_2 ?_
    refine r_iload_n hg 3 dX11_daysChecked_55 rfl rfl ?_
    refine r_imul hg dX11_daysChecked_56 ?_
    refine r_aload_n hg 0 dX11_daysChecked_57 rfl rfl ?_
    have e8 := ly_11_2 hX k_this
    refine r_getR hg dX11_daysChecked_58 fl_X11_19 k_this rfl e8.1 ?_
    obtain ⟨v9, e10, h⟩ := q_b1_some h
    refine r_cV0i hg dX11_daysChecked_61 mt_X9_allEarned ml_X11_407 mv_X9_allEarned e8.2 (s_X9_allEarned hΓ hX e8.2 e10) (q_room (Nat.le_of_ble_eq_true rfl) (Nat.le_of_ble_eq_true rfl)) ⟨Nat.zero_le _, Nat.zero_le _⟩ (Nat.le_of_ble_eq_true rfl) ?_
    obtain ⟨I11, e12, h⟩ := q_b1_some h
    refine r_iast hg dX11_daysChecked_64 e7.2 e12 ?_
    refine r_aload_n hg 0 dX11_daysChecked_65 rfl rfl ?_
    have e13 := ly_11_6 hX k_this
    refine r_getR hg dX11_daysChecked_66 fl_X11_40 k_this rfl e13.1 ?_
    refine r_iconst hg dX11_daysChecked_69 ci_2 ?_
    refine r_iload_n hg 3 dX11_daysChecked_70 rfl rfl ?_
    refine r_imul hg dX11_daysChecked_71 ?_
    refine r_iconst hg dX11_daysChecked_72 ci_1 ?_
    refine r_iadd hg dX11_daysChecked_73 ?_
    refine r_aload_n hg 0 dX11_daysChecked_74 rfl rfl ?_
    have e14 := ly_11_2 hX k_this
    refine r_getR hg dX11_daysChecked_75 fl_X11_19 k_this rfl e14.1 ?_
    obtain ⟨v15, e16, h⟩ := q_b1_some h
    refine r_cV0i hg dX11_daysChecked_78 mt_X9_allOwed ml_X11_232 mv_X9_allOwed e14.2 (s_X9_allOwed hΓ hX e14.2 e16) (q_room (Nat.le_of_ble_eq_true rfl) (Nat.le_of_ble_eq_true rfl)) ⟨Nat.zero_le _, Nat.zero_le _⟩ (Nat.le_of_ble_eq_true rfl) ?_
    obtain ⟨I17, e18, h⟩ := q_b1_some h
    refine r_iast hg dX11_daysChecked_81 e13.2 e18 ?_
    refine r_iinc hg 3 (v := (x3 + (nI 1))) (L' := [(3, .int (x3 + (nI 1))), (0, .ref this), (1, .int x1), (2, .int x2)]) dX11_daysChecked_82 rfl (by rw [ci_1]) (by decide) rfl ?_
    refine r_goto hg 36 dX11_daysChecked_85 (by decide) ?_
    refine r_sub hg [1, 2, 3, 0] rfl ?_
    exact hk36 _ _ _ hX k_this h
theorem pl_X11_daysChecked_36 {l : Launch} {Γ : qC} {g : qG} {z : Int32 × qI × qX} {this : Nat} {x1 : Int32} {x2 : Int32} (hΓ : q_gm Γ) (hg : q_Ok l Γ RX11 cX11_daysChecked 4 (q_rm 8 0 0) "daysChecked" (some .int) g) (hr : q_Rt cX11_daysChecked (some .int) (q_rm 8 0 0) (some (.int z.1), z.2.1, z.2.2) g) : ∀ (n : Nat) (x3 : Int32) (X : qX) (I : qI) (hX : q_Lay X) (k_this : q_kd X this = some (13, 9)), q_fix (fun _ _ _ => none) (b_X11_daysChecked_36 this x1 x2) n x3 X I = some z → g 0 0 36 [(0, .ref this), (1, .int x1), (2, .int x2), (3, .int x3)] [] I X := by
  intro n
  induction n with
  | zero =>
    intro x3 X I hX k_this h
    cases (show (none : Option (Int32 × qI × qX)) = some z from h)
  | succ n ih =>
    intro x3 X I hX k_this h
    exact p_X11_daysChecked_36 hΓ hg hr ih _ _ _ hX k_this h
def f_X11_daysChecked (this : Nat) (x1 : Int32) (x2 : Int32) (X : qX) (I : qI) : Option (Int32 × qI × qX) :=
  q_b1 (f_X11_within x2 (nI 1) (nI 28)) fun v1 =>
  if v1 = 0 then
    some ((-1000000001), I, X)
  else
    if (I this 8) = 0 then
      some ((-1000000002), I, X)
    else
      q_b2 (f_X9_become (this + 131) (this + 66) X I) fun I7 X8 =>
      q_fix (fun _ _ _ => none) (b_X11_daysChecked_36 this x1 x2) q_fu (nI 0) X8 I7
set_option maxRecDepth 100000 in
set_option maxHeartbeats 4000000 in
theorem s_X11_daysChecked {l : Launch} {Γ : qC} (hΓ : q_gm Γ) {X : qX} (hX : q_Lay X) {this : Nat} {x1 : Int32} {x2 : Int32} (k_this : q_kd X this = some (13, 9)) {I : qI} {z : Int32 × qI × qX} (h : f_X11_daysChecked this x1 x2 X I = some z) : q_Sem l Γ (q_rm 8 0 0) yX11_daysChecked cX11_daysChecked 4 (some .int) [.ref this, .int x1, .int x2] I X (some (.int z.1), z.2.1, z.2.2) := by
  refine q_met (by decide) (Nat.le_of_ble_eq_true rfl) (fun g hg hr => ?_)
  unfold f_X11_daysChecked at h
  show g 0 0 0 [(0, .ref this), (1, .int x1), (2, .int x2)] [] I X
  refine r_iload_n hg 2 dX11_daysChecked_0 rfl rfl ?_
  refine r_iconst hg dX11_daysChecked_1 ci_1 ?_
  refine r_bipush hg dX11_daysChecked_2 cb_28 ?_
  obtain ⟨v1, e2, h⟩ := q_b1_some h
  refine r_cS3i hg dX11_daysChecked_4 mt_X11_within ⟨ml_X11_53, mst_X11_within⟩ (s_X11_within hΓ hX e2) (q_room (Nat.le_of_ble_eq_true rfl) (Nat.le_of_ble_eq_true rfl)) ⟨Nat.zero_le _, Nat.zero_le _⟩ (Nat.le_of_ble_eq_true rfl) ?_
  refine r_if_ne hg 13 dX11_daysChecked_7 (by decide) (fun c3 => ?_) (fun c3 => ?_)
  · rw [if_neg c3] at h
    refine r_aload_n hg 0 dX11_daysChecked_13 rfl rfl ?_
    refine r_getI hg dX11_daysChecked_14 fl_X11_47 k_this rfl ?_
    refine r_if_ne hg 23 dX11_daysChecked_17 (by decide) (fun c4 => ?_) (fun c4 => ?_)
    · rw [if_neg c4] at h
      refine r_aload_n hg 0 dX11_daysChecked_23 rfl rfl ?_
      have e5 := ly_11_2 hX k_this
      refine r_getR hg dX11_daysChecked_24 fl_X11_19 k_this rfl e5.1 ?_
      refine r_aload_n hg 0 dX11_daysChecked_27 rfl rfl ?_
      have e6 := ly_11_1 hX k_this
      refine r_getR hg dX11_daysChecked_28 fl_X11_16 k_this rfl e6.1 ?_
      obtain ⟨I7, X8, e9, h⟩ := q_b2_some h
      refine r_cV1v hg dX11_daysChecked_31 mt_X9_become ml_X11_228 mv_X9_become e5.2 (s_X9_become hΓ hX e5.2 e6.2 e9) (q_room (Nat.le_of_ble_eq_true rfl) (Nat.le_of_ble_eq_true rfl)) ⟨Nat.zero_le _, Nat.zero_le _⟩ (Nat.le_of_ble_eq_true rfl) ?_
      obtain ⟨hX11, e10⟩ := x_X9_become hX e5.2 e6.2 e9
      refine r_iconst hg dX11_daysChecked_34 ci_0 ?_
      refine r_istore_n hg (L' := [(3, .int (nI 0)), (0, .ref this), (1, .int x1), (2, .int x2)]) dX11_daysChecked_35 rfl (by decide) rfl ?_
      refine r_sub hg [1, 2, 3, 0] rfl ?_
      exact pl_X11_daysChecked_36 hΓ hg hr _ _ _ _ hX11 (e10 _ _ k_this) h
    · rw [if_pos (Classical.not_not.mp c4)] at h
      refine r_ldc hg dX11_daysChecked_20 kc_X11_171 ?_
      exact r_ireturn hr dX11_daysChecked_22 ⟨Nat.zero_le _, Nat.zero_le _⟩ ⟨_, rfl, rfl⟩ (by cases h; rfl)
  · rw [if_pos (Classical.not_not.mp c3)] at h
    refine r_ldc hg dX11_daysChecked_10 kc_X11_57 ?_
    exact r_ireturn hr dX11_daysChecked_12 ⟨Nat.zero_le _, Nat.zero_le _⟩ ⟨_, rfl, rfl⟩ (by cases h; rfl)
theorem x_X11_days_loop {this : Nat} {x1 x2 : Int32} {z : Int32 × qI × qX} : ∀ (n : Nat) (x3 : Int32) (X : qX) (I : qI), q_Lay X → q_fix (fun _ _ _ => none) (b_X11_daysChecked_36 this x1 x2) n x3 X I = some z → q_Ext X z.2.2 := by
  intro n
  induction n with
  | zero => intro x3 X I _ h; cases (show (none : Option (Int32 × qI × qX)) = some z from h)
  | succ n ih =>
    intro x3 X I hX h
    have h : b_X11_daysChecked_36 this x1 x2 (q_fix (fun _ _ _ => none) (b_X11_daysChecked_36 this x1 x2) n) x3 X I = some z := h
    unfold b_X11_daysChecked_36 at h
    split at h
    · obtain ⟨_, -, h⟩ := q_b1_some h
      cases h
      exact q_Ext.rf hX
    · obtain ⟨_, -, h⟩ := q_b1_some h
      obtain ⟨_, -, h⟩ := q_b1_some h
      obtain ⟨_, -, h⟩ := q_b1_some h
      obtain ⟨_, -, h⟩ := q_b1_some h
      obtain ⟨_, -, h⟩ := q_b1_some h
      exact ih _ _ _ hX h
theorem x_X11_daysChecked {X : qX} (hX : q_Lay X) {this : Nat} (k_this : q_kd X this = some (13, 9)) {x1 x2 : Int32} {I : qI} {z : Int32 × qI × qX} (h : f_X11_daysChecked this x1 x2 X I = some z) : q_Ext X z.2.2 := by
  unfold f_X11_daysChecked at h
  obtain ⟨_, -, h⟩ := q_b1_some h
  split at h
  · cases h
    exact q_Ext.rf hX
  · split at h
    · cases h
      exact q_Ext.rf hX
    · obtain ⟨I2, X2, e, h⟩ := q_b2_some h
      have hx := x_X9_become hX (ly_11_2 hX k_this).2 (ly_11_1 hX k_this).2 e
      exact hx.trans (x_X11_days_loop _ _ _ _ hx.1 h)
theorem dX11_check_0 : q_at cX11_check 0 (.aload_n 0) 1 1 := ⟨by decide +kernel, rfl⟩
theorem dX11_check_1 : q_at cX11_check 1 (.getfield 43) 3 4 := ⟨by decide +kernel, rfl⟩
theorem dX11_check_4 : q_at cX11_check 4 (.istore 4) 2 6 := ⟨by decide +kernel, rfl⟩
theorem dX11_check_6 : q_at cX11_check 6 (.aload_n 0) 1 7 := ⟨by decide +kernel, rfl⟩
theorem dX11_check_7 : q_at cX11_check 7 (.iconst 0) 1 8 := ⟨by decide +kernel, rfl⟩
theorem dX11_check_8 : q_at cX11_check 8 (.putfield 43) 3 11 := ⟨by decide +kernel, rfl⟩
theorem dX11_check_11 : q_at cX11_check 11 (.iload_n 1) 1 12 := ⟨by decide +kernel, rfl⟩
theorem dX11_check_12 : q_at cX11_check 12 (.ifCond .ne 12) 3 15 := ⟨by decide +kernel, rfl⟩
theorem dX11_check_15 : q_at cX11_check 15 (.aload_n 0) 1 16 := ⟨by decide +kernel, rfl⟩
theorem dX11_check_16 : q_at cX11_check 16 (.iload 4) 2 18 := ⟨by decide +kernel, rfl⟩
theorem dX11_check_18 : q_at cX11_check 18 (.iload_n 2) 1 19 := ⟨by decide +kernel, rfl⟩
theorem dX11_check_19 : q_at cX11_check 19 (.iload_n 3) 1 20 := ⟨by decide +kernel, rfl⟩
theorem dX11_check_20 : q_at cX11_check 20 (.invokevirtual 395) 3 23 := ⟨by decide +kernel, rfl⟩
theorem dX11_check_23 : q_at cX11_check 23 (.ireturn) 1 24 := ⟨by decide +kernel, rfl⟩
theorem dX11_check_24 : q_at cX11_check 24 (.iload_n 1) 1 25 := ⟨by decide +kernel, rfl⟩
theorem dX11_check_25 : q_at cX11_check 25 (.iconst 1) 1 26 := ⟨by decide +kernel, rfl⟩
theorem dX11_check_26 : q_at cX11_check 26 (.if_icmp .ne 13) 3 29 := ⟨by decide +kernel, rfl⟩
theorem dX11_check_29 : q_at cX11_check 29 (.aload_n 0) 1 30 := ⟨by decide +kernel, rfl⟩
theorem dX11_check_30 : q_at cX11_check 30 (.iload 4) 2 32 := ⟨by decide +kernel, rfl⟩
theorem dX11_check_32 : q_at cX11_check 32 (.iload_n 2) 1 33 := ⟨by decide +kernel, rfl⟩
theorem dX11_check_33 : q_at cX11_check 33 (.invokevirtual 398) 3 36 := ⟨by decide +kernel, rfl⟩
theorem dX11_check_36 : q_at cX11_check 36 (.goto 5) 3 39 := ⟨by decide +kernel, rfl⟩
theorem dX11_check_39 : q_at cX11_check 39 (.ldc 57) 2 41 := ⟨by decide +kernel, rfl⟩
theorem dX11_check_41 : q_at cX11_check 41 (.ireturn) 1 42 := ⟨by decide +kernel, rfl⟩
def f_X11_check (this : Nat) (x1 : Int32) (x2 : Int32) (x3 : Int32) (X : qX) (I : qI) : Option (Int32 × qI × qX) :=
  q_b1 (some (q_up I this 7 (nI 0))) fun I1 =>
  if x1 = 0 then
    q_b2 (f_X11_orderChecked this (I this 7) x2 x3 I1) fun v11 I12 =>
    some (v11, I12, X)
  else
    if x1 = (nI 1) then
      q_b3 (f_X11_daysChecked this (I this 7) x2 X I1) fun v5 I6 X7 =>
      some (v5, I6, X7)
    else
      some ((-1000000001), I1, X)
set_option maxRecDepth 100000 in
set_option maxHeartbeats 4000000 in
theorem s_X11_check {l : Launch} {Γ : qC} (hΓ : q_gm Γ) {X : qX} (hX : q_Lay X) {this : Nat} {x1 : Int32} {x2 : Int32} {x3 : Int32} (k_this : q_kd X this = some (13, 9)) {I : qI} {z : Int32 × qI × qX} (h : f_X11_check this x1 x2 x3 X I = some z) : q_Sem l Γ (q_rm 126 0 0) yX11_check cX11_check 5 (some .int) [.ref this, .int x1, .int x2, .int x3] I X (some (.int z.1), z.2.1, z.2.2) := by
  refine q_met (by decide) (Nat.le_of_ble_eq_true rfl) (fun g hg hr => ?_)
  unfold f_X11_check at h
  show g 0 0 0 [(0, .ref this), (1, .int x1), (2, .int x2), (3, .int x3)] [] I X
  refine r_aload_n hg 0 dX11_check_0 rfl rfl ?_
  refine r_getI hg dX11_check_1 fl_X11_43 k_this rfl ?_
  refine r_istore hg (L' := [(4, .int (I this 7)), (0, .ref this), (1, .int x1), (2, .int x2), (3, .int x3)]) dX11_check_4 (by decide) rfl ?_
  refine r_aload_n hg 1 dX11_check_6 rfl rfl ?_
  refine r_iconst hg dX11_check_7 ci_0 ?_
  obtain ⟨I1, e2, h⟩ := q_b1_some h
  obtain rfl := Option.some.inj e2
  refine r_putI hg dX11_check_8 fl_X11_43 k_this rfl ⟨rfl, rfl⟩ ?_
  refine r_iload_n hg 2 dX11_check_11 rfl rfl ?_
  refine r_if_ne hg 24 dX11_check_12 (by decide) (fun c3 => ?_) (fun c3 => ?_)
  · rw [if_neg c3] at h
    refine r_iload_n hg 2 dX11_check_24 rfl rfl ?_
    refine r_iconst hg dX11_check_25 ci_1 ?_
    refine r_icmp_ne hg 39 dX11_check_26 (by decide) (fun c4 => ?_) (fun c4 => ?_)
    · rw [if_neg c4] at h
      refine r_ldc hg dX11_check_39 kc_X11_57 ?_
      exact r_ireturn hr dX11_check_41 ⟨Nat.zero_le _, Nat.zero_le _⟩ ⟨_, rfl, rfl⟩ (by cases h; rfl)
    · rw [if_pos (Classical.not_not.mp c4)] at h
      refine r_aload_n hg 1 dX11_check_29 rfl rfl ?_
      refine r_iload hg 0 dX11_check_30 rfl ?_
      refine r_iload_n hg 3 dX11_check_32 rfl rfl ?_
      obtain ⟨v5, I6, X7, e8, h⟩ := q_b3_some h
      refine r_cV2i hg dX11_check_33 mt_X11_daysChecked ml_X11_398 mv_X11_daysChecked k_this (s_X11_daysChecked hΓ hX k_this e8) (q_room (Nat.le_of_ble_eq_true rfl) (Nat.le_of_ble_eq_true rfl)) ⟨Nat.zero_le _, Nat.zero_le _⟩ (Nat.le_of_ble_eq_true rfl) ?_
      obtain ⟨hX10, e9⟩ := x_X11_daysChecked hX k_this e8
      refine r_goto hg 41 dX11_check_36 (by decide) ?_
      exact r_ireturn hr dX11_check_41 ⟨Nat.zero_le _, Nat.zero_le _⟩ ⟨_, rfl, rfl⟩ (by cases h; rfl)
  · rw [if_pos (Classical.not_not.mp c3)] at h
    refine r_aload_n hg 1 dX11_check_15 rfl rfl ?_
    refine r_iload hg 0 dX11_check_16 rfl ?_
    refine r_iload_n hg 3 dX11_check_18 rfl rfl ?_
    refine r_iload_n hg 4 dX11_check_19 rfl rfl ?_
    obtain ⟨v11, I12, e13, h⟩ := q_b2_some h
    refine r_cV3i hg dX11_check_20 mt_X11_orderChecked ml_X11_395 mv_X11_orderChecked k_this (s_X11_orderChecked hΓ hX k_this e13) (q_room (Nat.le_of_ble_eq_true rfl) (Nat.le_of_ble_eq_true rfl)) ⟨Nat.zero_le _, Nat.zero_le _⟩ (Nat.le_of_ble_eq_true rfl) ?_
    exact r_ireturn hr dX11_check_23 ⟨Nat.zero_le _, Nat.zero_le _⟩ ⟨_, rfl, rfl⟩ (by cases h; rfl)
theorem x_X11_check {X : qX} (hX : q_Lay X) {this : Nat} (k_this : q_kd X this = some (13, 9)) {x1 x2 x3 : Int32} {I : qI} {z : Int32 × qI × qX} (h : f_X11_check this x1 x2 x3 X I = some z) : q_Ext X z.2.2 := by
  unfold f_X11_check at h
  obtain ⟨_, -, h⟩ := q_b1_some h
  split at h
  · obtain ⟨_, _, -, h⟩ := q_b2_some h
    cases h
    exact q_Ext.rf hX
  · split at h
    · obtain ⟨v, I2, X2, e, h⟩ := q_b3_some h
      have hx := x_X11_daysChecked hX k_this e
      cases h
      exact hx
    · cases h
      exact q_Ext.rf hX
theorem dX11_keep_0 : q_at cX11_keep 0 (.aload_n 0) 1 1 := ⟨by decide +kernel, rfl⟩
theorem dX11_keep_1 : q_at cX11_keep 1 (.getfield 16) 3 4 := ⟨by decide +kernel, rfl⟩
theorem dX11_keep_4 : q_at cX11_keep 4 (.aload_n 0) 1 5 := ⟨by decide +kernel, rfl⟩
theorem dX11_keep_5 : q_at cX11_keep 5 (.getfield 10) 3 8 := ⟨by decide +kernel, rfl⟩
theorem dX11_keep_8 : q_at cX11_keep 8 (.invokevirtual 228) 3 11 := ⟨by decide +kernel, rfl⟩
theorem dX11_keep_11 : q_at cX11_keep 11 (.aload_n 0) 1 12 := ⟨by decide +kernel, rfl⟩
theorem dX11_keep_12 : q_at cX11_keep 12 (.iconst 1) 1 13 := ⟨by decide +kernel, rfl⟩
theorem dX11_keep_13 : q_at cX11_keep 13 (.putfield 47) 3 16 := ⟨by decide +kernel, rfl⟩
theorem dX11_keep_16 : q_at cX11_keep 16 (.aload_n 0) 1 17 := ⟨by decide +kernel, rfl⟩
theorem dX11_keep_17 : q_at cX11_keep 17 (.getfield 10) 3 20 := ⟨by decide +kernel, rfl⟩
theorem dX11_keep_20 : q_at cX11_keep 20 (.getfield 141) 3 23 := ⟨by decide +kernel, rfl⟩
theorem dX11_keep_23 : q_at cX11_keep 23 (.ireturn) 1 24 := ⟨by decide +kernel, rfl⟩
def f_X11_keep (this : Nat) (X : qX) (I : qI) : Option (Int32 × qI × qX) :=
  q_b2 (f_X9_become (this + 66) (this + 1) X I) fun I3 X4 =>
  q_b1 (some (q_up I3 this 8 (nI 1))) fun I8 =>
  some ((I8 (this + 1) 13), I8, X4)
set_option maxRecDepth 100000 in
set_option maxHeartbeats 4000000 in
theorem s_X11_keep {l : Launch} {Γ : qC} (hΓ : q_gm Γ) {X : qX} (hX : q_Lay X) {this : Nat} (k_this : q_kd X this = some (13, 9)) {I : qI} {z : Int32 × qI × qX} (h : f_X11_keep this X I = some z) : q_Sem l Γ (q_rm 5 0 0) yX11_keep cX11_keep 1 (some .int) [.ref this] I X (some (.int z.1), z.2.1, z.2.2) := by
  refine q_met (by decide) (Nat.le_of_ble_eq_true rfl) (fun g hg hr => ?_)
  unfold f_X11_keep at h
  show g 0 0 0 [(0, .ref this)] [] I X
  refine r_aload_n hg 0 dX11_keep_0 rfl rfl ?_
  have e1 := ly_11_1 hX k_this
  refine r_getR hg dX11_keep_1 fl_X11_16 k_this rfl e1.1 ?_
  refine r_aload_n hg 0 dX11_keep_4 rfl rfl ?_
  have e2 := ly_11_0 hX k_this
  refine r_getR hg dX11_keep_5 fl_X11_10 k_this rfl e2.1 ?_
  obtain ⟨I3, X4, e5, h⟩ := q_b2_some h
  refine r_cV1v hg dX11_keep_8 mt_X9_become ml_X11_228 mv_X9_become e1.2 (s_X9_become hΓ hX e1.2 e2.2 e5) (q_room (Nat.le_of_ble_eq_true rfl) (Nat.le_of_ble_eq_true rfl)) ⟨Nat.zero_le _, Nat.zero_le _⟩ (Nat.le_of_ble_eq_true rfl) ?_
  obtain ⟨hX7, e6⟩ := x_X9_become hX e1.2 e2.2 e5
  refine r_aload_n hg 0 dX11_keep_11 rfl rfl ?_
  refine r_iconst hg dX11_keep_12 ci_1 ?_
  obtain ⟨I8, e9, h⟩ := q_b1_some h
  obtain rfl := Option.some.inj e9
  refine r_putI hg dX11_keep_13 fl_X11_47 (e6 _ _ k_this) rfl bz_1 ?_
  refine r_aload_n hg 0 dX11_keep_16 rfl rfl ?_
  have e10 := ly_11_0 hX7 (e6 _ _ k_this)
  refine r_getR hg dX11_keep_17 fl_X11_10 (e6 _ _ k_this) rfl e10.1 ?_
  refine r_getI hg dX11_keep_20 fl_X11_141 e10.2 rfl ?_
  exact r_ireturn hr dX11_keep_23 ⟨Nat.zero_le _, Nat.zero_le _⟩ ⟨_, rfl, rfl⟩ (by cases h; rfl)
theorem x_X11_keep {X : qX} (hX : q_Lay X) {this : Nat} (k_this : q_kd X this = some (13, 9)) {I : qI} {z : Int32 × qI × qX} (h : f_X11_keep this X I = some z) : q_Ext X z.2.2 := by
  unfold f_X11_keep at h
  obtain ⟨I2, X2, e, h⟩ := q_b2_some h
  obtain ⟨_, -, h⟩ := q_b1_some h
  have hx := x_X9_become hX (ly_11_1 hX k_this).2 (ly_11_0 hX k_this).2 e
  cases h
  exact hx
theorem dX11_back_0 : q_at cX11_back 0 (.aload_n 0) 1 1 := ⟨by decide +kernel, rfl⟩
theorem dX11_back_1 : q_at cX11_back 1 (.getfield 47) 3 4 := ⟨by decide +kernel, rfl⟩
theorem dX11_back_4 : q_at cX11_back 4 (.ifCond .ne 6) 3 7 := ⟨by decide +kernel, rfl⟩
theorem dX11_back_7 : q_at cX11_back 7 (.ldc 171) 2 9 := ⟨by decide +kernel, rfl⟩
theorem dX11_back_9 : q_at cX11_back 9 (.ireturn) 1 10 := ⟨by decide +kernel, rfl⟩
theorem dX11_back_10 : q_at cX11_back 10 (.aload_n 0) 1 11 := ⟨by decide +kernel, rfl⟩
theorem dX11_back_11 : q_at cX11_back 11 (.getfield 10) 3 14 := ⟨by decide +kernel, rfl⟩
theorem dX11_back_14 : q_at cX11_back 14 (.aload_n 0) 1 15 := ⟨by decide +kernel, rfl⟩
theorem dX11_back_15 : q_at cX11_back 15 (.getfield 16) 3 18 := ⟨by decide +kernel, rfl⟩
theorem dX11_back_18 : q_at cX11_back 18 (.invokevirtual 228) 3 21 := ⟨by decide +kernel, rfl⟩
theorem dX11_back_21 : q_at cX11_back 21 (.aload_n 0) 1 22 := ⟨by decide +kernel, rfl⟩
theorem dX11_back_22 : q_at cX11_back 22 (.getfield 10) 3 25 := ⟨by decide +kernel, rfl⟩
theorem dX11_back_25 : q_at cX11_back 25 (.getfield 141) 3 28 := ⟨by decide +kernel, rfl⟩
theorem dX11_back_28 : q_at cX11_back 28 (.ireturn) 1 29 := ⟨by decide +kernel, rfl⟩
def f_X11_back (this : Nat) (X : qX) (I : qI) : Option (Int32 × qI × qX) :=
  if (I this 8) = 0 then
    some ((-1000000002), I, X)
  else
    q_b2 (f_X9_become (this + 1) (this + 66) X I) fun I4 X5 =>
    some ((I4 (this + 1) 13), I4, X5)
set_option maxRecDepth 100000 in
set_option maxHeartbeats 4000000 in
theorem s_X11_back {l : Launch} {Γ : qC} (hΓ : q_gm Γ) {X : qX} (hX : q_Lay X) {this : Nat} (k_this : q_kd X this = some (13, 9)) {I : qI} {z : Int32 × qI × qX} (h : f_X11_back this X I = some z) : q_Sem l Γ (q_rm 5 0 0) yX11_back cX11_back 1 (some .int) [.ref this] I X (some (.int z.1), z.2.1, z.2.2) := by
  refine q_met (by decide) (Nat.le_of_ble_eq_true rfl) (fun g hg hr => ?_)
  unfold f_X11_back at h
  show g 0 0 0 [(0, .ref this)] [] I X
  refine r_aload_n hg 0 dX11_back_0 rfl rfl ?_
  refine r_getI hg dX11_back_1 fl_X11_47 k_this rfl ?_
  refine r_if_ne hg 10 dX11_back_4 (by decide) (fun c1 => ?_) (fun c1 => ?_)
  · rw [if_neg c1] at h
    refine r_aload_n hg 0 dX11_back_10 rfl rfl ?_
    have e2 := ly_11_0 hX k_this
    refine r_getR hg dX11_back_11 fl_X11_10 k_this rfl e2.1 ?_
    refine r_aload_n hg 0 dX11_back_14 rfl rfl ?_
    have e3 := ly_11_1 hX k_this
    refine r_getR hg dX11_back_15 fl_X11_16 k_this rfl e3.1 ?_
    obtain ⟨I4, X5, e6, h⟩ := q_b2_some h
    refine r_cV1v hg dX11_back_18 mt_X9_become ml_X11_228 mv_X9_become e2.2 (s_X9_become hΓ hX e2.2 e3.2 e6) (q_room (Nat.le_of_ble_eq_true rfl) (Nat.le_of_ble_eq_true rfl)) ⟨Nat.zero_le _, Nat.zero_le _⟩ (Nat.le_of_ble_eq_true rfl) ?_
    obtain ⟨hX8, e7⟩ := x_X9_become hX e2.2 e3.2 e6
    refine r_aload_n hg 0 dX11_back_21 rfl rfl ?_
    have e9 := ly_11_0 hX8 (e7 _ _ k_this)
    refine r_getR hg dX11_back_22 fl_X11_10 (e7 _ _ k_this) rfl e9.1 ?_
    refine r_getI hg dX11_back_25 fl_X11_141 e9.2 rfl ?_
    exact r_ireturn hr dX11_back_28 ⟨Nat.zero_le _, Nat.zero_le _⟩ ⟨_, rfl, rfl⟩ (by cases h; rfl)
  · rw [if_pos (Classical.not_not.mp c1)] at h
    refine r_ldc hg dX11_back_7 kc_X11_171 ?_
    exact r_ireturn hr dX11_back_9 ⟨Nat.zero_le _, Nat.zero_le _⟩ ⟨_, rfl, rfl⟩ (by cases h; rfl)
theorem x_X11_back {X : qX} (hX : q_Lay X) {this : Nat} (k_this : q_kd X this = some (13, 9)) {I : qI} {z : Int32 × qI × qX} (h : f_X11_back this X I = some z) : q_Ext X z.2.2 := by
  unfold f_X11_back at h
  split at h
  · cases h
    exact q_Ext.rf hX
  · obtain ⟨I2, X2, e, h⟩ := q_b2_some h
    have hx := x_X9_become hX (ly_11_0 hX k_this).2 (ly_11_1 hX k_this).2 e
    cases h
    exact hx
theorem dX11_text_0 : q_at cX11_text 0 (.aload_n 0) 1 1 := ⟨by decide +kernel, rfl⟩
theorem dX11_text_1 : q_at cX11_text 1 (.getfield 25) 3 4 := ⟨by decide +kernel, rfl⟩
theorem dX11_text_4 : q_at cX11_text 4 (.invokevirtual 253) 3 7 := ⟨by decide +kernel, rfl⟩
theorem dX11_text_7 : q_at cX11_text 7 (.istore_n 2) 1 8 := ⟨by decide +kernel, rfl⟩
theorem dX11_text_8 : q_at cX11_text 8 (.aload_n 0) 1 9 := ⟨by decide +kernel, rfl⟩
theorem dX11_text_9 : q_at cX11_text 9 (.getfield 25) 3 12 := ⟨by decide +kernel, rfl⟩
theorem dX11_text_12 : q_at cX11_text 12 (.iconst 0) 1 13 := ⟨by decide +kernel, rfl⟩
theorem dX11_text_13 : q_at cX11_text 13 (.putfield 246) 3 16 := ⟨by decide +kernel, rfl⟩
theorem dX11_text_16 : q_at cX11_text 16 (.iload_n 1) 1 17 := ⟨by decide +kernel, rfl⟩
theorem dX11_text_17 : q_at cX11_text 17 (.iconst 0) 1 18 := ⟨by decide +kernel, rfl⟩
theorem dX11_text_18 : q_at cX11_text 18 (.sipush 6999) 3 21 := ⟨by decide +kernel, rfl⟩
theorem dX11_text_21 : q_at cX11_text 21 (.invokestatic 53) 3 24 := ⟨by decide +kernel, rfl⟩
theorem dX11_text_24 : q_at cX11_text 24 (.ifCond .ne 6) 3 27 := ⟨by decide +kernel, rfl⟩
theorem dX11_text_27 : q_at cX11_text 27 (.ldc 57) 2 29 := ⟨by decide +kernel, rfl⟩
theorem dX11_text_29 : q_at cX11_text 29 (.ireturn) 1 30 := ⟨by decide +kernel, rfl⟩
theorem dX11_text_30 : q_at cX11_text 30 (.iload_n 2) 1 31 := ⟨by decide +kernel, rfl⟩
theorem dX11_text_31 : q_at cX11_text 31 (.ifCond .lt 8) 3 34 := ⟨by decide +kernel, rfl⟩
theorem dX11_text_34 : q_at cX11_text 34 (.bipush (-100)) 2 36 := ⟨by decide +kernel, rfl⟩
theorem dX11_text_36 : q_at cX11_text 36 (.iload_n 2) 1 37 := ⟨by decide +kernel, rfl⟩
theorem dX11_text_37 : q_at cX11_text 37 (.isub) 1 38 := ⟨by decide +kernel, rfl⟩
theorem dX11_text_38 : q_at cX11_text 38 (.ireturn) 1 39 := ⟨by decide +kernel, rfl⟩
theorem dX11_text_39 : q_at cX11_text 39 (.aload_n 0) 1 40 := ⟨by decide +kernel, rfl⟩
theorem dX11_text_40 : q_at cX11_text 40 (.getfield 10) 3 43 := ⟨by decide +kernel, rfl⟩
theorem dX11_text_43 : q_at cX11_text 43 (.getfield 256) 3 46 := ⟨by decide +kernel, rfl⟩
theorem dX11_text_46 : q_at cX11_text 46 (.aload_n 0) 1 47 := ⟨by decide +kernel, rfl⟩
theorem dX11_text_47 : q_at cX11_text 47 (.getfield 25) 3 50 := ⟨by decide +kernel, rfl⟩
theorem dX11_text_50 : q_at cX11_text 50 (.getfield 260) 3 53 := ⟨by decide +kernel, rfl⟩
theorem dX11_text_53 : q_at cX11_text 53 (.iload_n 1) 1 54 := ⟨by decide +kernel, rfl⟩
theorem dX11_text_54 : q_at cX11_text 54 (.aload_n 0) 1 55 := ⟨by decide +kernel, rfl⟩
theorem dX11_text_55 : q_at cX11_text 55 (.getfield 25) 3 58 := ⟨by decide +kernel, rfl⟩
theorem dX11_text_58 : q_at cX11_text 58 (.getfield 263) 3 61 := ⟨by decide +kernel, rfl⟩
theorem dX11_text_61 : q_at cX11_text 61 (.aload_n 0) 1 62 := ⟨by decide +kernel, rfl⟩
theorem dX11_text_62 : q_at cX11_text 62 (.getfield 25) 3 65 := ⟨by decide +kernel, rfl⟩
theorem dX11_text_65 : q_at cX11_text 65 (.invokevirtual 266) 3 68 := ⟨by decide +kernel, rfl⟩
theorem dX11_text_68 : q_at cX11_text 68 (.invokevirtual 270) 3 71 := ⟨by decide +kernel, rfl⟩
theorem dX11_text_71 : q_at cX11_text 71 (.ireturn) 1 72 := ⟨by decide +kernel, rfl⟩
def f_X11_text (this : Nat) (x1 : Int32) (X : qX) (I : qI) : Option (Int32 × qI × qX) :=
  q_b2 (f_X5_firstFault (this + 196) I) fun v2 I3 =>
  q_b1 (some (q_up I3 (this + 196) 6 (nI 0))) fun I6 =>
  q_b1 (f_X11_within x1 (nI 0) (nI 6999)) fun v8 =>
  if v8 = 0 then
    some ((-1000000001), I6, X)
  else
    if v2 < 0 then
      q_b3 (f_X5_codeRow (this + 196) X I6) fun r17 I18 X19 =>
      q_b3 (f_X7_added (this + 37) (I6 (this + 196) 7) x1 (I6 (this + 196) 8) r17 X19 I18) fun v23 I24 X25 =>
      some (v23, I24, X25)
    else
      some (((-100) - v2), I6, X)
set_option maxRecDepth 100000 in
set_option maxHeartbeats 4000000 in
theorem s_X11_text {l : Launch} {Γ : qC} (hΓ : q_gm Γ) {X : qX} (hX : q_Lay X) {this : Nat} {x1 : Int32} (k_this : q_kd X this = some (13, 9)) {I : qI} {z : Int32 × qI × qX} (h : f_X11_text this x1 X I = some z) : q_Sem l Γ (q_rm 132 1 96) yX11_text cX11_text 3 (some .int) [.ref this, .int x1] I X (some (.int z.1), z.2.1, z.2.2) := by
  refine q_met (by decide) (Nat.le_of_ble_eq_true rfl) (fun g hg hr => ?_)
  unfold f_X11_text at h
  show g 0 0 0 [(0, .ref this), (1, .int x1)] [] I X
  refine r_aload_n hg 0 dX11_text_0 rfl rfl ?_
  have e1 := ly_11_3 hX k_this
  refine r_getR hg dX11_text_1 fl_X11_25 k_this rfl e1.1 ?_
  obtain ⟨v2, I3, e4, h⟩ := q_b2_some h
  refine r_cV0i hg dX11_text_4 mt_X5_firstFault ml_X11_253 mv_X5_firstFault e1.2 (s_X5_firstFault hΓ hX e1.2 e4) (q_room (Nat.le_of_ble_eq_true rfl) (Nat.le_of_ble_eq_true rfl)) ⟨Nat.zero_le _, Nat.zero_le _⟩ (Nat.le_of_ble_eq_true rfl) ?_
  refine r_istore_n hg (L' := [(2, .int v2), (0, .ref this), (1, .int x1)]) dX11_text_7 rfl (by decide) rfl ?_
  refine r_aload_n hg 1 dX11_text_8 rfl rfl ?_
  have e5 := ly_11_3 hX k_this
  refine r_getR hg dX11_text_9 fl_X11_25 k_this rfl e5.1 ?_
  refine r_iconst hg dX11_text_12 ci_0 ?_
  obtain ⟨I6, e7, h⟩ := q_b1_some h
  obtain rfl := Option.some.inj e7
  refine r_putI hg dX11_text_13 fl_X11_246 e5.2 rfl ⟨rfl, rfl⟩ ?_
  refine r_iload_n hg 2 dX11_text_16 rfl rfl ?_
  refine r_iconst hg dX11_text_17 ci_0 ?_
  refine r_sipush hg dX11_text_18 cs_6999 ?_
  obtain ⟨v8, e9, h⟩ := q_b1_some h
  refine r_cS3i hg dX11_text_21 mt_X11_within ⟨ml_X11_53, mst_X11_within⟩ (s_X11_within hΓ hX e9) (q_room (Nat.le_of_ble_eq_true rfl) (Nat.le_of_ble_eq_true rfl)) ⟨Nat.zero_le _, Nat.zero_le _⟩ (Nat.le_of_ble_eq_true rfl) ?_
  refine r_if_ne hg 30 dX11_text_24 (by decide) (fun c10 => ?_) (fun c10 => ?_)
  · rw [if_neg c10] at h
    refine r_iload_n hg 0 dX11_text_30 rfl rfl ?_
    refine r_if_lt hg 39 dX11_text_31 (by decide) (fun c11 => ?_) (fun c11 => ?_)
    · rw [if_pos c11] at h
      refine r_aload_n hg 1 dX11_text_39 rfl rfl ?_
      have e12 := ly_11_0 hX k_this
      refine r_getR hg dX11_text_40 fl_X11_10 k_this rfl e12.1 ?_
      have e13 := ly_9_4 hX e12.2
      refine r_getR hg dX11_text_43 fl_X11_256 e12.2 rfl e13.1 ?_
      refine r_aload_n hg 1 dX11_text_46 rfl rfl ?_
      have e14 := ly_11_3 hX k_this
      refine r_getR hg dX11_text_47 fl_X11_25 k_this rfl e14.1 ?_
      refine r_getI hg dX11_text_50 fl_X11_260 e14.2 rfl ?_
      refine r_iload_n hg 2 dX11_text_53 rfl rfl ?_
      refine r_aload_n hg 1 dX11_text_54 rfl rfl ?_
      have e15 := ly_11_3 hX k_this
      refine r_getR hg dX11_text_55 fl_X11_25 k_this rfl e15.1 ?_
      refine r_getI hg dX11_text_58 fl_X11_263 e15.2 rfl ?_
      refine r_aload_n hg 1 dX11_text_61 rfl rfl ?_
      have e16 := ly_11_3 hX k_this
      refine r_getR hg dX11_text_62 fl_X11_25 k_this rfl e16.1 ?_
      obtain ⟨r17, I18, X19, e20, h⟩ := q_b3_some h
      refine r_aV0q hg dX11_text_65 mt_X5_codeRow ml_X11_266 mv_X5_codeRow e16.2 (s_X5_codeRow hΓ hX e16.2 e20) (q_room (Nat.le_of_ble_eq_true rfl) (Nat.le_of_ble_eq_true rfl)) ⟨Nat.le_of_ble_eq_true rfl, Nat.le_of_ble_eq_true rfl⟩ (Nat.le_of_ble_eq_true rfl) ?_
      obtain ⟨hX22, e21⟩ := x_X5_codeRow hX e16.2 e20
      obtain ⟨v23, I24, X25, e26, h⟩ := q_b3_some h
      refine r_cV4i hg dX11_text_68 mt_X7_added ml_X11_270 mv_X7_added (e21 _ _ e13.2) (s_X7_added hΓ hX22 (e21 _ _ e13.2) e26) (q_room (Nat.le_of_ble_eq_true rfl) (Nat.le_of_ble_eq_true rfl)) ⟨Nat.le_of_ble_eq_true rfl, Nat.le_of_ble_eq_true rfl⟩ (Nat.le_of_ble_eq_true rfl) ?_
      obtain ⟨hX28, e27⟩ := x_X7_added hX22 (e21 _ _ e13.2) e26
      exact r_ireturn hr dX11_text_71 ⟨Nat.le_of_ble_eq_true rfl, Nat.le_of_ble_eq_true rfl⟩ ⟨_, rfl, rfl⟩ (by cases h; rfl)
    · rw [if_neg c11] at h
      refine r_bipush hg dX11_text_34 cb_m100 ?_
      refine r_iload_n hg 0 dX11_text_36 rfl rfl ?_
      refine r_isub hg dX11_text_37 ?_
      exact r_ireturn hr dX11_text_38 ⟨Nat.zero_le _, Nat.zero_le _⟩ ⟨_, rfl, vp_nar_int _⟩ (by obtain rfl := Option.some.inj h; rfl)
  · rw [if_pos (Classical.not_not.mp c10)] at h
    refine r_ldc hg dX11_text_27 kc_X11_57 ?_
    exact r_ireturn hr dX11_text_29 ⟨Nat.zero_le _, Nat.zero_le _⟩ ⟨_, rfl, rfl⟩ (by cases h; rfl)
theorem x_X11_text {X : qX} (hX : q_Lay X) {this : Nat} (k_this : q_kd X this = some (13, 9)) {x1 : Int32} {I : qI} {z : Int32 × qI × qX} (h : f_X11_text this x1 X I = some z) : q_Ext X z.2.2 := by
  unfold f_X11_text at h
  obtain ⟨_, _, -, h⟩ := q_b2_some h
  obtain ⟨_, -, h⟩ := q_b1_some h
  obtain ⟨_, -, h⟩ := q_b1_some h
  split at h
  · cases h
    exact q_Ext.rf hX
  · split at h
    · obtain ⟨r, I2, X2, e, h⟩ := q_b3_some h
      obtain ⟨v, I3, X3, e2, h⟩ := q_b3_some h
      have h1 := x_X5_codeRow hX (ly_11_3 hX k_this).2 e
      have k2 := ly_9_4 h1.1 (ly_11_0 h1.1 (h1.2 _ _ k_this)).2
      have h2 := x_X7_added h1.1 k2.2 e2
      cases h
      exact h1.trans h2
    · obtain rfl := Option.some.inj h
      exact q_Ext.rf hX
