theorem ov_V0_cl : ov_closed ov_V0 := by
  refine ⟨?_, ?_, ?_, ?_, ?_⟩
  · intro mo0 mo d a b y pc ls st S Q Q' hq h X hX
    exact hX.1 _ _ _ _ _ _ _ _ _ _ _ _ hq (h X hX)
  · intro mo0 mo d a b y pc ls st S Q h X hX
    exact hX.2.1 _ _ _ _ _ _ _ _ _ _ _ (ov_F_m (fun _ _ _ _ _ _ _ _ _ _ _ h => h X hX) hX.1 (fun _ _ _ _ _ _ _ _ _ _ h => h X hX) (fun _ _ h => h) h)
  · intro mo0 d a b y pc ls st S Q h X hX
    exact hX.2.2.1 _ _ _ _ _ _ _ _ _ _ (fun hf => h hf X hX)
  · intro mo0 d a b y pc ls st S Q hf h X hX
    exact hX.2.2.2.1 _ _ _ _ _ _ _ _ _ _ hf (h X hX)
  · intro mo0 mo d a b y pc ls st S Q ms h X hX
    exact hX.2.2.2.2 _ _ _ _ _ _ _ _ _ _ _ _ (h X hX)
theorem ov_Vex : ∃ V : ov_X, ov_closed V ∧ ∀ X, ov_closed X → ov_le V X := ⟨ov_V0, ov_V0_cl, fun X hX _ _ _ _ _ _ _ _ _ _ _ h => h X hX⟩
/-- the least thing closed under the steps: from here the machine comes to its method's end, and then Q -/
noncomputable def ov_V : ov_X := Classical.choose ov_Vex
theorem ov_V_cl : ov_closed ov_V := (Classical.choose_spec ov_Vex).1
theorem ov_V_le {X : ov_X} (hX : ov_closed X) : ov_le ov_V X := (Classical.choose_spec ov_Vex).2 X hX
/-- some instructions, up to the stops -/
def ov_K (V : ov_X) (sp : List (Nat × List Bool)) : Nat → ov_X
  | 0 => V
  | k + 1 => fun mo0 mo d a b y pc ls st S Q => match ov_lk pc sp with
    | some ms => V mo0 mo d a b y pc (ov_mk ms ls) st S Q
    | none => ov_F V (ov_K V sp k) mo0 mo d a b y pc ls st S Q
theorem ov_K_V (sp : List (Nat × List Bool)) : ∀ k, ov_le (ov_K ov_V sp k) ov_V
  | 0 => fun _ _ _ _ _ _ _ _ _ _ _ h => h
  | k + 1 => fun mo0 mo d a b y pc ls st S Q h => by
    unfold ov_K at h
    split at h
    · exact ov_V_cl.2.2.2.2 _ _ _ _ _ _ _ _ _ _ _ _ h
    · exact ov_V_cl.2.1 _ _ _ _ _ _ _ _ _ _ _ (ov_F_m (fun _ _ _ _ _ _ _ _ _ _ _ h => h) ov_V_cl.1 (fun _ _ _ _ _ _ _ _ _ _ h => ov_K_V sp k _ _ _ _ _ _ _ _ _ _ _ h) (fun _ _ h => h) h)
theorem ov_run (sp : List (Nat × List Bool)) (k : Nat) {mo0 mo : Bool} {d a b : Nat} {y : ov_M} {pc : Nat} {ls : List (Option ov_A)} {st : List ov_A} {S : ov_S} {Q : ov_Q} (h : ov_F ov_V (ov_K ov_V sp k) mo0 mo d a b y pc ls st S Q) : ov_V mo0 mo d a b y pc ls st S Q :=
  ov_V_cl.2.1 _ _ _ _ _ _ _ _ _ _ _ (ov_F_m (fun _ _ _ _ _ _ _ _ _ _ _ h => h) ov_V_cl.1 (fun _ _ _ _ _ _ _ _ _ _ h => ov_K_V sp k _ _ _ _ _ _ _ _ _ _ _ h) (fun _ _ h => h) h)
theorem ov_Vm {mo0 mo : Bool} {d a b : Nat} {y : ov_M} {pc : Nat} {ls : List (Option ov_A)} {st : List ov_A} {S : ov_S} {Q Q' : ov_Q} (h : ov_V mo0 mo d a b y pc ls st S Q) (hq : ∀ r S', Q r S' → Q' r S') : ov_V mo0 mo d a b y pc ls st S Q' := ov_V_cl.1 _ _ _ _ _ _ _ _ _ _ _ _ hq h
