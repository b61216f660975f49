def ov_chC (c : Nat) (e : Nat × Int32) : Bool := ov_in1 (.constant (ov_cn c) e.1 e.2)
def ov_chL (c : Nat) (e : Nat × Int64) : Bool := ov_in1 (.constantLong (ov_cn c) e.1 e.2)
def ov_chN (c : Nat) (e : Nat × Nat) : Bool := ov_in1 (.classLink (ov_cn c) e.1 (ov_cn e.2))
set_option maxRecDepth 100000 in
theorem ov_cl_ok : ∀ c, c < 17 → (ov_nth [] ov_cl c).all (ov_chC c) = true := by decide +kernel
theorem ov_lc_ok {c i : Nat} {v : Int32} (h : ov_lc c i = some v) : Cond.constant (ov_cn c) i v ∈ ov_T := by
  have hm := ov_lk_mem h
  by_cases hc : c < 17
  · have h9 := List.all_eq_true.mp (ov_cl_ok c hc) _ hm
    exact ov_in1_e h9
  · rw [ov_nth_ge [] ov_cl c (show 17 ≤ c by omega)] at hm
    cases hm
set_option maxRecDepth 100000 in
theorem ov_ll_ok : ∀ c, c < 17 → (ov_nth [] ov_ll c).all (ov_chL c) = true := by decide +kernel
theorem ov_lL_ok {c i : Nat} {v : Int64} (h : ov_lL c i = some v) : Cond.constantLong (ov_cn c) i v ∈ ov_T := by
  have hm := ov_lk_mem h
  by_cases hc : c < 17
  · have h9 := List.all_eq_true.mp (ov_ll_ok c hc) _ hm
    exact ov_in1_e h9
  · rw [ov_nth_ge [] ov_ll c (show 17 ≤ c by omega)] at hm
    cases hm
set_option maxRecDepth 100000 in
theorem ov_nl_ok : ∀ c, c < 17 → (ov_nth [] ov_nl c).all (ov_chN c) = true := by decide +kernel
theorem ov_ln_ok {c i ci : Nat} (h : ov_ln c i = some ci) : Cond.classLink (ov_cn c) i (ov_cn ci) ∈ ov_T := by
  have hm := ov_lk_mem h
  by_cases hc : c < 17
  · have h9 := List.all_eq_true.mp (ov_nl_ok c hc) _ hm
    exact ov_in1_e h9
  · rw [ov_nth_ge [] ov_nl c (show 17 ≤ c by omega)] at hm
    cases hm
theorem ov_w_oi : Cond.instanceMethod objectInit ∈ ov_T := ov_in1_e (by decide +kernel)
theorem ov_w_sy : Cond.initialized "java/lang/System" ∈ ov_T := ov_in1_e (by decide +kernel)
theorem ov_w_st : Cond.static arraycopyName ∈ ov_T := ov_in1_e (by decide +kernel)
theorem ov_w_nt : Cond.native arraycopyName ∈ ov_T := ov_in1_e (by decide +kernel)
theorem ov_w_m0 : Cond.initialized "java/lang/Math" ∈ ov_T := ov_in1_e (by decide +kernel)
theorem ov_w_m1 : Cond.static Lib.Math.max.name ∈ ov_T := ov_in1_e (by decide +kernel)
theorem ov_w_m2 : Cond.static Lib.Math.min.name ∈ ov_T := ov_in1_e (by decide +kernel)
set_option maxRecDepth 100000 in
theorem ov_w_m3 : Cond.code Lib.Math.max.name Lib.Math.max.code 2 (some .int) ∈ ov_T := ov_inT (List.mem_append_right _ (List.mem_of_getElem? (i := 910) rfl)) (by decide +kernel)
set_option maxRecDepth 100000 in
theorem ov_w_m4 : Cond.code Lib.Math.min.name Lib.Math.min.code 2 (some .int) ∈ ov_T := ov_inT (List.mem_append_right _ (List.mem_of_getElem? (i := 810) rfl)) (by decide +kernel)
theorem ov_w_ai : Cond.arrayClass .int ∈ ov_T := ov_in1_e (by decide +kernel)
theorem ov_w_ac : Cond.arrayClass .char ∈ ov_T := ov_in1_e (by decide +kernel)
theorem ov_w_al : Cond.arrayClass .long ∈ ov_T := ov_in1_e (by decide +kernel)
theorem ov_w_sw : Cond.fieldLink "OneEye$Talk" 48 "OneEye$Talk" "SETS_WITH" "[J" ∈ ov_T := ov_in1_e (by decide +kernel)
theorem ov_w_oc : Cond.code objectInit object_method_1_code 1 none ∈ ov_T := ov_inT (List.mem_append_right _ (List.mem_of_getElem? (i := 29) rfl)) (by decide +kernel)
