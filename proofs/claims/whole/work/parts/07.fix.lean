theorem ov_pI_m {st : List ov_A} {k k' : Int32 → List ov_A → Prop} (h : ∀ x t, k x t → k' x t) (g : ov_pI st k) : ov_pI st k' := by
  unfold ov_pI at g ⊢
  split at g
  · exact h _ _ g
  · exact g.elim
theorem ov_pL_m {st : List ov_A} {k k' : Int64 → List ov_A → Prop} (h : ∀ x t, k x t → k' x t) (g : ov_pL st k) : ov_pL st k' := by
  unfold ov_pL at g ⊢
  split at g
  · exact h _ _ g
  · exact g.elim
theorem ov_pR_m {st : List ov_A} {k k' : Nat → Nat → List ov_A → Prop} (h : ∀ r i t, k r i t → k' r i t) (g : ov_pR st k) : ov_pR st k' := by
  unfold ov_pR at g ⊢
  split at g
  · exact h _ _ _ g
  · exact g.elim
theorem ov_pN_m {st : List ov_A} {k k' : Bool → Nat → Nat → List ov_A → Prop} (h : ∀ b r i t, k b r i t → k' b r i t) (g : ov_pN st k) : ov_pN st k' := by
  unfold ov_pN at g ⊢
  split at g
  · exact h _ _ _ _ g
  · exact g.elim
theorem ov_pk_m {k k' : List ov_A → List ov_A → Prop} (h : ∀ a t, k a t → k' a t) : ∀ (n : Nat) (st as : List ov_A), ov_pk n st as k → ov_pk n st as k'
  | 0, st, as, g => h _ _ g
  | n + 1, [], as, g => g
  | n + 1, v :: r, as, g => ov_pk_m h n r (v :: as) g
theorem ov_ldI_m {ls : List (Option ov_A)} {i : Nat} {k k' : Int32 → Prop} (h : ∀ x, k x → k' x) (g : ov_ldI ls i k) : ov_ldI ls i k' := by
  unfold ov_ldI at g ⊢
  split at g
  · exact h _ g
  · exact g.elim
theorem ov_ldL_m {ls : List (Option ov_A)} {i : Nat} {k k' : Int64 → Prop} (h : ∀ x, k x → k' x) (g : ov_ldL ls i k) : ov_ldL ls i k' := by
  unfold ov_ldL at g ⊢
  split at g
  · exact h _ g
  · exact g.elim
theorem ov_ldR_m {ls : List (Option ov_A)} {i : Nat} {k k' : (Bool × Nat × Nat) → Prop} (h : ∀ x, k x → k' x) (g : ov_ldR ls i k) : ov_ldR ls i k' := by
  unfold ov_ldR at g ⊢
  split at g
  · exact h _ g
  · exact g.elim
theorem ov_sto_m {ls : List (Option ov_A)} {i : Nat} {v : ov_A} {k k' : List (Option ov_A) → Prop} (h : ∀ x, k x → k' x) (g : ov_sto ls i v k) : ov_sto ls i v k' := by
  unfold ov_sto at g ⊢
  split at g
  · exact h _ g
  · exact g.elim
theorem ov_jp_m {pc : Nat} {off : Int} {k k' : Nat → Prop} (h : ∀ x, k x → k' x) (g : ov_jp pc off k) : ov_jp pc off k' := by
  unfold ov_jp at g ⊢
  split at g
  · exact h _ g
  · exact g.elim
theorem ov_swT_m {x : Int32} {k k' : Int → Prop} (h : ∀ x, k x → k' x) : ∀ (lo : Int) (os : List Int), ov_swT x k lo os → ov_swT x k' lo os
  | _, [], _ => trivial
  | lo, o :: os, g => ⟨fun e => h _ (g.1 e), ov_swT_m h (lo + 1) os g.2⟩
theorem ov_swL_m {x : Int32} {k k' : Int → Prop} (h : ∀ x, k x → k' x) {dflt : Int} : ∀ (ps : List (Int × Int)), ov_swL x k dflt ps → ov_swL x k' dflt ps
  | [], g => h _ g
  | (v, o) :: ps, g => ⟨fun e => h _ (g.1 e), fun e => ov_swL_m h ps (g.2 e)⟩
theorem ov_get_m {mo : Bool} {S : ov_S} {r i ci k : Nat} {K K' : ov_A → Prop} (h : ∀ x, K x → K' x) (g : ov_get mo S r i ci k K) : ov_get mo S r i ci k K' := by
  unfold ov_get at g ⊢
  split at g
  · split at g
    · split at g
      · exact h _ g
      · exact h _ g
      · split at g <;> exact h _ g
      · exact h _ g
      · exact g.elim
    · exact g.elim
  · exact g.elim
theorem ov_put_m {mo : Bool} {y : ov_M} {S : ov_S} {r i ci k : Nat} {v : ov_A} {K K' : ov_S → Prop} (h : ∀ x, K x → K' x) (g : ov_put mo y S r i ci k v K) : ov_put mo y S r i ci k v K' := by
  unfold ov_put at g ⊢
  split at g
  · split at g
    · split at g
      · exact h _ g
      · exact ⟨g.1, h _ g.2⟩
      · exact ⟨g.1, g.2.1, g.2.2.1, g.2.2.2.1, g.2.2.2.2.1, h _ g.2.2.2.2.2⟩
      · exact ⟨g.1, g.2.1, h _ g.2.2⟩
      · exact h _ g
      · exact g.elim
    · exact g.elim
  · exact g.elim
theorem ov_arI_m {t : Nat} {S : ov_S} {r : Nat} {x : Int32} {K K' : Prop} (h : K → K') (g : ov_arI t S r x K) : ov_arI t S r x K' := by
  unfold ov_arI at g ⊢
  split at g
  · split at g
    · exact ⟨g.1, h g.2⟩
    · exact g.elim
  · exact g.elim
theorem ov_iald_m {S : ov_S} {r i : Nat} {x : Int32} {K K' : Int32 → Prop} (h : ∀ x, K x → K' x) (g : ov_iald S r i x K) : ov_iald S r i x K' := by
  unfold ov_iald at g ⊢
  split at g
  · exact ⟨g.1, h _ g.2⟩
  · exact ⟨g.1, g.2.1, h _ g.2.2⟩
  · exact g.elim
theorem ov_lald_m {S : ov_S} {r i : Nat} {x : Int32} {K K' : Int64 → Prop} (h : ∀ x, K x → K' x) (g : ov_lald S r i x K) : ov_lald S r i x K' := by
  unfold ov_lald at g ⊢
  split at g
  · exact ⟨g.1, h _ g.2⟩
  · exact ⟨g.1, g.2.1, h _ g.2.2⟩
  · exact g.elim
theorem ov_aald_m {S : ov_S} {r i : Nat} {x : Int32} {K K' : ov_A → Prop} (h : ∀ x, K x → K' x) (g : ov_aald S r i x K) : ov_aald S r i x K' := by
  unfold ov_aald at g ⊢
  split at g
  · exact ⟨g.1, h _ g.2⟩
  · exact ⟨g.1, h _ g.2⟩
  · exact g.elim
theorem ov_aast_m {S : ov_S} {r i : Nat} {x : Int32} {q j : Nat} {K K' : ov_S → Prop} (h : ∀ x, K x → K' x) (g : ov_aast S r i x q j K) : ov_aast S r i x q j K' := by
  unfold ov_aast at g ⊢
  split at g
  · exact ⟨g.1, g.2.1, g.2.2.1, h _ g.2.2.2⟩
  · exact ⟨g.1, g.2.1, g.2.2.1, h _ g.2.2.2⟩
  · exact g.elim
theorem ov_len_m {S : ov_S} {r : Nat} {K K' : Int32 → Prop} (h : ∀ x, K x → K' x) (g : ov_len S r K) : ov_len S r K' := by
  unfold ov_len at g ⊢
  split at g
  · exact h _ g
  · exact h _ g
  · exact h _ g
  · exact g.elim
theorem ov_newO_m {S : ov_S} {a b ci : Nat} {K K' : Nat → Nat → Nat → Prop} (h : ∀ r i n, K r i n → K' r i n) (g : ov_newO S a b ci K) : ov_newO S a b ci K' := by
  obtain ⟨r, i, f, g1, g2, g3, g4, g5⟩ := g
  exact ⟨r, i, f, g1, g2, g3, g4, h _ _ _ g5⟩
theorem ov_newA_m {S : ov_S} {a b t : Nat} {x : Int32} {K K' : Nat → Nat → Nat → Prop} (h : ∀ r i n, K r i n → K' r i n) (g : ov_newA S a b t x K) : ov_newA S a b t x K' := by
  obtain ⟨r, i, n, q, f, g1, g2, g3, g4, g5, g6⟩ := g
  exact ⟨r, i, n, q, f, g1, g2, g3, g4, g5, h _ _ _ g6⟩
theorem ov_copy_m {S : ov_S} {r i r1 i1 : Nat} {sp dp n : Int32} {K K' : ov_S → Prop} (h : ∀ x, K x → K' x) (g : ov_copy S r i r1 i1 sp dp n K) : ov_copy S r i r1 i1 sp dp n K' := by
  unfold ov_copy at g ⊢
  split at g
  · exact ⟨g.1, h _ g.2⟩
  · exact g.elim
theorem ov_ret_m {mo0 mo : Bool} {P P' : Prop} (h : P → P') (g : ov_ret mo0 mo P) : ov_ret mo0 mo P' := by
  unfold ov_ret at g ⊢
  split at g
  · exact h g
  · exact h g
  · exact g.elim
theorem ov_rt_m {m : ov_M} {x : Int32} {P P' : Prop} (h : P → P') (g : ov_rt m x P) : ov_rt m x P' := by
  unfold ov_rt at g ⊢
  split at g
  · exact h g
  · exact ⟨g.1, h g.2⟩
  · exact g.elim
theorem ov_rs_m {t : List ov_A} {P P' : Prop} (h : P → P') (g : ov_rs t P) : ov_rs t P' := by
  unfold ov_rs at g ⊢
  split at g
  · exact h g
  · exact g.elim
theorem ov_ra_m {m : ov_M} {P P' : Prop} (h : P → P') (g : ov_ra m P) : ov_ra m P' := by
  unfold ov_ra at g ⊢
  split at g
  · exact h g
  · exact h g
  · exact g.elim
theorem ov_rn_m {m : ov_M} {P P' : Prop} (h : P → P') (g : ov_rn m P) : ov_rn m P' := by
  unfold ov_rn at g ⊢
  split at g
  · exact h g
  · exact g.elim
def ov_mono (X : ov_X) : Prop := ∀ mo0 mo d a b y pc ls st S (Q Q' : ov_Q), (∀ r S', Q r S' → Q' r S') → X mo0 mo d a b y pc ls st S Q → X mo0 mo d a b y pc ls st S Q'
def ov_le (X X' : ov_X) : Prop := ∀ mo0 mo d a b y pc ls st S Q, X mo0 mo d a b y pc ls st S Q → X' mo0 mo d a b y pc ls st S Q
theorem ov_call_m {Xc X Xc' X' : ov_X} (hc : ov_le Xc Xc') (hm : ov_mono Xc') {mo0 mo : Bool} {d a b : Nat} {y : ov_M} {pc : Nat} {ls : List (Option ov_A)} {S : ov_S} {Q Q' : ov_Q} (hx : ∀ mo0 mo d a b y pc ls st S, X mo0 mo d a b y pc ls st S Q → X' mo0 mo d a b y pc ls st S Q') {m : ov_M} {as t : List ov_A} (g : ov_call Xc X mo0 mo d a b y pc ls S Q m as t) : ov_call Xc' X' mo0 mo d a b y pc ls S Q' m as t := by
  unfold ov_call at g ⊢
  split at g
  rotate_left
  · exact g.elim
  refine ⟨g.1, ?_⟩
  cases mo with
  | true => exact hm _ _ _ _ _ _ _ _ _ _ _ _ (fun r S' h => hx _ _ _ _ _ _ _ _ _ _ h) (hc _ _ _ _ _ _ _ _ _ _ _ g.2)
  | false =>
    obtain ⟨a', b', h1, h2, h3⟩ := g.2
    exact ⟨a', b', h1, h2, hm _ _ _ _ _ _ _ _ _ _ _ _ (fun r S' h => hx _ _ _ _ _ _ _ _ _ _ h) (hc _ _ _ _ _ _ _ _ _ _ _ h3)⟩
set_option maxHeartbeats 4000000 in
theorem ov_F_m {Xc X Xc' X' : ov_X} (hc : ov_le Xc Xc') (hm : ov_mono Xc') {mo0 mo : Bool} {d a b : Nat} {y : ov_M} {pc : Nat} {ls : List (Option ov_A)} {st : List ov_A} {S : ov_S} {Q Q' : ov_Q} (hx : ∀ mo0 mo d a b y pc ls st S, X mo0 mo d a b y pc ls st S Q → X' mo0 mo d a b y pc ls st S Q') (hq : ∀ r S', Q r S' → Q' r S') (g : ov_F Xc X mo0 mo d a b y pc ls st S Q) : ov_F Xc' X' mo0 mo d a b y pc ls st S Q' := by
  unfold ov_F at g ⊢
  split at g
  · exact g.elim
  · rename_i ins len hl
    cases ins <;> dsimp only at g ⊢ <;> first
      | exact g.elim
      | exact hx _ _ _ _ _ _ _ _ _ _ g
      | skip
    all_goals repeat' first
      | exact hx _ _ _ _ _ _ _ _ _ _ g
      | exact g.elim
      | (refine ov_pI_m ?_ g; clear g; intro _ _ g)
      | (refine ov_pL_m ?_ g; clear g; intro _ _ g)
      | (refine ov_pR_m ?_ g; clear g; intro _ _ _ g)
      | (refine ov_pN_m ?_ g; clear g; intro _ _ _ _ g)
      | (refine ov_pk_m ?_ _ _ _ g; clear g; intro _ _ g)
      | (refine ov_ldI_m ?_ g; clear g; intro _ g)
      | (refine ov_ldL_m ?_ g; clear g; intro _ g)
      | (refine ov_ldR_m ?_ g; clear g; intro _ g)
      | (refine ov_sto_m ?_ g; clear g; intro _ g)
      | (refine ov_jp_m ?_ g; clear g; intro _ g)
      | (refine ov_get_m ?_ g; clear g; intro _ g)
      | (refine ov_put_m ?_ g; clear g; intro _ g)
      | (refine ov_arI_m ?_ g; clear g; intro g)
      | (refine ov_iald_m ?_ g; clear g; intro _ g)
      | (refine ov_lald_m ?_ g; clear g; intro _ g)
      | (refine ov_aald_m ?_ g; clear g; intro _ g)
      | (refine ov_aast_m ?_ g; clear g; intro _ g)
      | (refine ov_len_m ?_ g; clear g; intro _ g)
      | (refine ov_newO_m ?_ g; clear g; intro _ _ _ g)
      | (refine ov_newA_m ?_ g; clear g; intro _ _ _ g)
      | (refine ov_copy_m ?_ g; clear g; intro _ g)
      | (refine ov_swT_m ?_ _ _ g; clear g; intro _ g)
      | (refine ov_swL_m ?_ _ g; clear g; intro _ g)
      | (refine ov_rt_m ?_ g; clear g; intro g)
      | (refine ov_ret_m ?_ g; clear g; intro g)
      | (refine ov_rs_m ?_ g; clear g; intro g)
      | (refine ov_ra_m ?_ g; clear g; intro g)
      | (refine ov_rn_m ?_ g; clear g; intro g)
      | exact hq _ _ g
      | exact ⟨fun e => ov_jp_m (fun _ g => hx _ _ _ _ _ _ _ _ _ _ g) (g.1 e), ov_swT_m (fun _ g => ov_jp_m (fun _ g => hx _ _ _ _ _ _ _ _ _ _ g) g) _ _ g.2⟩
      | exact ov_call_m hc hm hx g
      | (refine ⟨fun e => ?_, fun e => ?_⟩; have g := g.1 e; rotate_left; have g := g.2 e)
      | (refine ⟨g.1, ?_⟩; have g := g.2)
      | (split at g)
