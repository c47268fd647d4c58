/-! a word by its place in its own table -/
theorem q_wt1 {w : Cond} {i : Nat} (h : tables_1_1[i]? = some w) (hg : goodWord w = true) : w ∈ q_tbl := by
  have h := List.mem_of_getElem? h
  exact List.mem_filter.mpr ⟨List.mem_append_right _ (show w ∈ tables_1 from List.mem_append_left _ h), hg⟩
theorem q_wt2 {w : Cond} {i : Nat} (h : tables_1_2[i]? = some w) (hg : goodWord w = true) : w ∈ q_tbl := by
  have h := List.mem_of_getElem? h
  exact List.mem_filter.mpr ⟨List.mem_append_right _ (show w ∈ tables_1 from List.mem_append_right _ (List.mem_append_left _ h)), hg⟩
theorem q_wt3 {w : Cond} {i : Nat} (h : tables_1_3[i]? = some w) (hg : goodWord w = true) : w ∈ q_tbl := by
  have h := List.mem_of_getElem? h
  exact List.mem_filter.mpr ⟨List.mem_append_right _ (show w ∈ tables_1 from List.mem_append_right _ (List.mem_append_right _ (List.mem_append_left _ h))), hg⟩
theorem q_wt4 {w : Cond} {i : Nat} (h : tables_1_4[i]? = some w) (hg : goodWord w = true) : w ∈ q_tbl := by
  have h := List.mem_of_getElem? h
  exact List.mem_filter.mpr ⟨List.mem_append_right _ (show w ∈ tables_1 from List.mem_append_right _ (List.mem_append_right _ (List.mem_append_right _ (List.mem_append_left _ h)))), hg⟩
theorem q_wt5 {w : Cond} {i : Nat} (h : tables_1_5[i]? = some w) (hg : goodWord w = true) : w ∈ q_tbl := by
  have h := List.mem_of_getElem? h
  exact List.mem_filter.mpr ⟨List.mem_append_right _ (show w ∈ tables_1 from List.mem_append_right _ (List.mem_append_right _ (List.mem_append_right _ (List.mem_append_right _ (List.mem_append_left _ h))))), hg⟩
theorem q_wt6 {w : Cond} {i : Nat} (h : tables_1_6[i]? = some w) (hg : goodWord w = true) : w ∈ q_tbl := by
  have h := List.mem_of_getElem? h
  exact List.mem_filter.mpr ⟨List.mem_append_right _ (show w ∈ tables_1 from List.mem_append_right _ (List.mem_append_right _ (List.mem_append_right _ (List.mem_append_right _ (List.mem_append_right _ (List.mem_append_left _ h)))))), hg⟩
theorem q_wt7 {w : Cond} {i : Nat} (h : tables_1_7[i]? = some w) (hg : goodWord w = true) : w ∈ q_tbl := by
  have h := List.mem_of_getElem? h
  exact List.mem_filter.mpr ⟨List.mem_append_right _ (show w ∈ tables_1 from List.mem_append_right _ (List.mem_append_right _ (List.mem_append_right _ (List.mem_append_right _ (List.mem_append_right _ (List.mem_append_right _ (List.mem_append_left _ h))))))), hg⟩
theorem q_wt8 {w : Cond} {i : Nat} (h : tables_1_8[i]? = some w) (hg : goodWord w = true) : w ∈ q_tbl := by
  have h := List.mem_of_getElem? h
  exact List.mem_filter.mpr ⟨List.mem_append_right _ (show w ∈ tables_1 from List.mem_append_right _ (List.mem_append_right _ (List.mem_append_right _ (List.mem_append_right _ (List.mem_append_right _ (List.mem_append_right _ (List.mem_append_right _ (List.mem_append_left _ h)))))))), hg⟩
theorem q_wt9 {w : Cond} {i : Nat} (h : tables_1_9[i]? = some w) (hg : goodWord w = true) : w ∈ q_tbl := by
  have h := List.mem_of_getElem? h
  exact List.mem_filter.mpr ⟨List.mem_append_right _ (show w ∈ tables_1 from List.mem_append_right _ (List.mem_append_right _ (List.mem_append_right _ (List.mem_append_right _ (List.mem_append_right _ (List.mem_append_right _ (List.mem_append_right _ (List.mem_append_right _ (h))))))))), hg⟩
theorem q_wp1 {y : MethodName} {i n : Nat} (h : lw_privs_1[i]? = some (y, n)) : Cond.selects y.cls y y ∈ q_tbl := by
  have h := List.mem_of_getElem? h
  exact List.mem_filter.mpr ⟨List.mem_append_left _ (List.mem_map.mpr ⟨(y, n), (show (y, n) ∈ lw_privs from List.mem_append_left _ h), rfl⟩), rfl⟩
theorem q_wp2 {y : MethodName} {i n : Nat} (h : lw_privs_2[i]? = some (y, n)) : Cond.selects y.cls y y ∈ q_tbl := by
  have h := List.mem_of_getElem? h
  exact List.mem_filter.mpr ⟨List.mem_append_left _ (List.mem_map.mpr ⟨(y, n), (show (y, n) ∈ lw_privs from List.mem_append_right _ (List.mem_append_left _ h)), rfl⟩), rfl⟩
theorem q_wp3 {y : MethodName} {i n : Nat} (h : lw_privs_3[i]? = some (y, n)) : Cond.selects y.cls y y ∈ q_tbl := by
  have h := List.mem_of_getElem? h
  exact List.mem_filter.mpr ⟨List.mem_append_left _ (List.mem_map.mpr ⟨(y, n), (show (y, n) ∈ lw_privs from List.mem_append_right _ (List.mem_append_right _ (List.mem_append_left _ h))), rfl⟩), rfl⟩
theorem q_wp4 {y : MethodName} {i n : Nat} (h : lw_privs_4[i]? = some (y, n)) : Cond.selects y.cls y y ∈ q_tbl := by
  have h := List.mem_of_getElem? h
  exact List.mem_filter.mpr ⟨List.mem_append_left _ (List.mem_map.mpr ⟨(y, n), (show (y, n) ∈ lw_privs from List.mem_append_right _ (List.mem_append_right _ (List.mem_append_right _ (List.mem_append_left _ h)))), rfl⟩), rfl⟩
theorem q_wp5 {y : MethodName} {i n : Nat} (h : lw_privs_5[i]? = some (y, n)) : Cond.selects y.cls y y ∈ q_tbl := by
  have h := List.mem_of_getElem? h
  exact List.mem_filter.mpr ⟨List.mem_append_left _ (List.mem_map.mpr ⟨(y, n), (show (y, n) ∈ lw_privs from List.mem_append_right _ (List.mem_append_right _ (List.mem_append_right _ (List.mem_append_right _ (List.mem_append_left _ h))))), rfl⟩), rfl⟩
theorem q_wp6 {y : MethodName} {i n : Nat} (h : lw_privs_6[i]? = some (y, n)) : Cond.selects y.cls y y ∈ q_tbl := by
  have h := List.mem_of_getElem? h
  exact List.mem_filter.mpr ⟨List.mem_append_left _ (List.mem_map.mpr ⟨(y, n), (show (y, n) ∈ lw_privs from List.mem_append_right _ (List.mem_append_right _ (List.mem_append_right _ (List.mem_append_right _ (List.mem_append_right _ (List.mem_append_left _ h)))))), rfl⟩), rfl⟩
theorem q_wp7 {y : MethodName} {i n : Nat} (h : lw_privs_7[i]? = some (y, n)) : Cond.selects y.cls y y ∈ q_tbl := by
  have h := List.mem_of_getElem? h
  exact List.mem_filter.mpr ⟨List.mem_append_left _ (List.mem_map.mpr ⟨(y, n), (show (y, n) ∈ lw_privs from List.mem_append_right _ (List.mem_append_right _ (List.mem_append_right _ (List.mem_append_right _ (List.mem_append_right _ (List.mem_append_right _ (h))))))), rfl⟩), rfl⟩
