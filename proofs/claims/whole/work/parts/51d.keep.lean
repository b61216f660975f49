/-! ===== what every run keeps: the script, and the cells that there are ===== -/
def kk_P (S0 S : ov_S) : Prop := S.2.2.2 = S0.2.2.2 ∧ ∀ x, x ∈ S0.2.2.1 → x ∈ S.2.2.1
theorem kk_P_e {S0 S S1 : ov_S} (h : kk_P S0 S) (e : S1.2 = S.2) : kk_P S0 S1 := by
  unfold kk_P
  rw [e]
  exact h
theorem kk_P_n {S0 S : ov_S} {r i : Nat} (h : kk_P S0 S) : kk_P S0 (ov_n S r i) := ⟨h.1, fun x hx => List.mem_append_left _ (h.2 x hx)⟩
theorem kk_put {mo : Bool} {y : ov_M} {S : ov_S} {r i ci k : Nat} {v : ov_A} {K K' : ov_S → Prop} (h : ∀ x, x.2 = S.2 → K x → K' x) (g : ov_put mo y S r i ci k v K) : ov_put mo y S r i ci k v K' := by
  unfold ov_put at g ⊢
  split at g
  · split at g
    · split at g
      · exact h _ rfl g
      · exact ⟨g.1, h _ rfl g.2⟩
      · exact ⟨g.1, g.2.1, g.2.2.1, g.2.2.2.1, g.2.2.2.2.1, h _ rfl g.2.2.2.2.2⟩
      · exact ⟨g.1, g.2.1, h _ rfl g.2.2⟩
      · exact h _ rfl g
      · exact g.elim
    · exact g.elim
  · exact g.elim
theorem kk_aast {S : ov_S} {r i : Nat} {x : Int32} {q j : Nat} {K K' : ov_S → Prop} (h : ∀ x, x.2 = S.2 → K x → K' x) (g : ov_aast S r i x q j K) : ov_aast S r i x q j K' := by
  unfold ov_aast at g ⊢
  split at g
  · exact ⟨g.1, g.2.1, g.2.2.1, h _ rfl g.2.2.2⟩
  · exact ⟨g.1, g.2.1, g.2.2.1, h _ rfl g.2.2.2⟩
  · exact g.elim
theorem kk_copy {S : ov_S} {r i r1 i1 : Nat} {sp dp n : Int32} {K K' : ov_S → Prop} (h : ∀ x, x.2 = S.2 → K x → K' x) (g : ov_copy S r i r1 i1 sp dp n K) : ov_copy S r i r1 i1 sp dp n K' := by
  unfold ov_copy at g ⊢
  split at g
  · exact ⟨g.1, h _ rfl g.2⟩
  · exact g.elim
/-- from here, and what there was stays -/
def kk_X : ov_X := fun mo0 mo d a b y pc ls st S Q => ∀ S0, kk_P S0 S → ov_V mo0 mo d a b y pc ls st S (fun r S' => Q r S' ∧ kk_P S0 S')
theorem kk_call {mo0 mo : Bool} {d a b : Nat} {y : ov_M} {pc : Nat} {ls : List (Option ov_A)} {S S0 : ov_S} {Q : ov_Q} (hP : kk_P S0 S) {m : ov_M} {as t : List ov_A} (g : ov_call kk_X kk_X mo0 mo d a b y pc ls S Q m as t) : ov_call ov_V ov_V mo0 mo d a b y pc ls S (fun r S' => Q r S' ∧ kk_P S0 S') m as t := by
  unfold ov_call at g ⊢
  split at g
  rotate_left
  · exact g.elim
  refine ⟨g.1, ?_⟩
  cases mo with
  | true => exact ov_Vm (g.2 S0 hP) (fun r S' h => h.1 S0 h.2)
  | false =>
    obtain ⟨a', b', h1, h2, h3⟩ := g.2
    exact ⟨a', b', h1, h2, ov_Vm (h3 S0 hP) (fun r S' h => h.1 S0 h.2)⟩
set_option maxHeartbeats 4000000 in
theorem kk_F {mo0 mo : Bool} {d a b : Nat} {y : ov_M} {pc : Nat} {ls : List (Option ov_A)} {st : List ov_A} {S S0 : ov_S} {Q : ov_Q} (hP : kk_P S0 S) (g : ov_F kk_X kk_X mo0 mo d a b y pc ls st S Q) : ov_F ov_V ov_V mo0 mo d a b y pc ls st S (fun r S' => Q r S' ∧ kk_P S0 S') := by
  unfold ov_F at g ⊢
  split at g
  · exact g.elim
  · rename_i ins len hl
    cases ins <;> dsimp only at g ⊢ <;> first
      | exact g.elim
      | exact g S0 hP
      | skip
    all_goals repeat' first
      | exact g S0 hP
      | exact g S0 (kk_P_e hP rfl)
      | exact g S0 (kk_P_n hP)
      | exact g.elim
      | (refine ov_pI_m ?_ g; clear g; intro _ _ g)
      | (refine ov_pL_m ?_ g; clear g; intro _ _ g)
      | (refine ov_pR_m ?_ g; clear g; intro _ _ _ g)
      | (refine ov_pN_m ?_ g; clear g; intro _ _ _ _ g)
      | (refine ov_pk_m ?_ _ _ _ g; clear g; intro _ _ g)
      | (refine ov_ldI_m ?_ g; clear g; intro _ g)
      | (refine ov_ldL_m ?_ g; clear g; intro _ g)
      | (refine ov_ldR_m ?_ g; clear g; intro _ g)
      | (refine ov_sto_m ?_ g; clear g; intro _ g)
      | (refine ov_jp_m ?_ g; clear g; intro _ g)
      | (refine ov_get_m ?_ g; clear g; intro _ g)
      | (refine kk_put ?_ g; clear g; intro _ hs g; exact g S0 (kk_P_e hP hs))
      | (refine ov_arI_m ?_ g; clear g; intro g)
      | (refine ov_iald_m ?_ g; clear g; intro _ g)
      | (refine ov_lald_m ?_ g; clear g; intro _ g)
      | (refine ov_aald_m ?_ g; clear g; intro _ g)
      | (refine kk_aast ?_ g; clear g; intro _ hs g; exact g S0 (kk_P_e hP hs))
      | (refine ov_len_m ?_ g; clear g; intro _ g)
      | (refine ov_newO_m ?_ g; clear g; intro _ _ _ g)
      | (refine ov_newA_m ?_ g; clear g; intro _ _ _ g)
      | (refine kk_copy ?_ g; clear g; intro _ hs g; exact g S0 (kk_P_e hP hs))
      | (refine ov_swT_m ?_ _ _ g; clear g; intro _ g)
      | (refine ov_swL_m ?_ _ g; clear g; intro _ g)
      | (refine ov_rt_m ?_ g; clear g; intro g)
      | (refine ov_ret_m ?_ g; clear g; intro g)
      | (refine ov_rs_m ?_ g; clear g; intro g)
      | (refine ov_ra_m ?_ g; clear g; intro g)
      | (refine ov_rn_m ?_ g; clear g; intro g)
      | exact ⟨g, hP⟩
      | exact ⟨fun e => ov_jp_m (fun _ g => g S0 hP) (g.1 e), ov_swT_m (fun _ g => ov_jp_m (fun _ g => g S0 hP) g) _ _ g.2⟩
      | exact kk_call hP g
      | (refine ⟨fun e => ?_, fun e => ?_⟩; have g := g.1 e; rotate_left; have g := g.2 e)
      | (refine ⟨g.1, ?_⟩; have g := g.2)
      | (split at g)
theorem kk_cl : ov_closed kk_X := by
  refine ⟨?_, ?_, ?_, ?_, ?_⟩
  · intro mo0 mo d a b y pc ls st S Q Q' hq h S0 hP
    exact ov_Vm (h S0 hP) (fun r S' q => ⟨hq r S' q.1, q.2⟩)
  · intro mo0 mo d a b y pc ls st S Q h S0 hP
    exact ov_V_cl.2.1 _ _ _ _ _ _ _ _ _ _ _ (kk_F hP h)
  · intro mo0 d a b y pc ls st S Q h S0 hP
    exact ov_V_cl.2.2.1 _ _ _ _ _ _ _ _ _ _ (fun hf => h hf S0 hP)
  · intro mo0 d a b y pc ls st S Q hf h S0 hP
    exact ov_V_cl.2.2.2.1 _ _ _ _ _ _ _ _ _ _ hf (h S0 hP)
  · intro mo0 mo d a b y pc ls st S Q ms h S0 hP
    exact ov_V_cl.2.2.2.2 _ _ _ _ _ _ _ _ _ _ _ _ (h S0 hP)
/-- the script and the cells stay -/
theorem kk_V {mo0 mo : Bool} {d a b : Nat} {y : ov_M} {pc : Nat} {ls : List (Option ov_A)} {st : List ov_A} {S : ov_S} {Q : ov_Q} (h : ov_V mo0 mo d a b y pc ls st S Q) : ov_V mo0 mo d a b y pc ls st S (fun r S' => Q r S' ∧ kk_P S S') := ov_V_le kk_cl _ _ _ _ _ _ _ _ _ _ _ h S ⟨rfl, fun _ h => h⟩
