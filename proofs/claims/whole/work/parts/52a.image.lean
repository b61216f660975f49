/-! ===== IMAGE: both sides put together ===== -/
theorem im_eCt {A B C : Nat → Nat → Nat → Int32} (h1 : rl_eC A B) (h2 : rl_eC B C) : rl_eC A C := ⟨fun r I J hm i hi j hj => (h2.1 r I J hm i hi j hj).trans (h1.1 r I J hm i hi j hj), fun r I j hm i hi => (h2.2 r I j hm i hi).trans (h1.2 r I j hm i hi)⟩
theorem im_da : ∀ x, x ∈ rl_da → 0 < x.1 ∧ x.1 < 45 ∧ x.1 ≠ 9 ∧ x.1 ≠ 14 ∧ x.2.1 = rl_sh x.1 := by decide
theorem im_ds : ∀ x, x ∈ rl_ds → 0 < x.1 ∧ x.1 < 45 ∧ x.1 ≠ 9 ∧ x.1 ≠ 14 ∧ x.2.1 = rl_sh x.1 := by decide
theorem im_ua : ∀ x, x ∈ rl_ua → 58 ≤ x.1 ∧ x.1 ≤ 97 := by decide
theorem im_us : ∀ j, j ∈ rl_us → j ≠ 0 ∧ j ≠ 60 ∧ j ≠ 61 ∧ j ≠ 62 := by decide
theorem im_eC {C C' : Nat → Nat → Nat → Int32} (h : ∀ r i j, 0 < r → r < 45 → r ≠ 14 → i < rl_sh r → C' r i j = C r i j) : rl_eC C C' := by
  constructor
  · intro r I J hm i hi j _
    obtain ⟨h1, h2, _, h4, h5⟩ := im_da _ hm
    exact h r i j h1 h2 h4 (by rw [← h5]; exact hi)
  · intro r I j hm i hi
    obtain ⟨h1, h2, _, h4, h5⟩ := im_ds _ hm
    exact h r i j h1 h2 h4 (by rw [← h5]; exact hi)
theorem im_eu {u u' : Nat → Nat → Nat → Int32} (h : ∀ r j, 58 ≤ r → r ≤ 97 → u' r 0 j = u r 0 j) (h14 : ∀ j, j ∈ rl_us → u' 14 0 j = u 14 0 j) : rl_eu u u' := ⟨fun r J hm j _ => h r j (im_ua _ hm).1 (im_ua _ hm).2, h14⟩
theorem im_o {S S' : ov_S} (h : ∀ r j, r = 9 ∨ r = 45 ∨ r = 84 ∨ r = 83 ∨ r = 2 ∨ r = 3 → S'.1 r 0 j = S.1 r 0 j) (h14 : ∀ j, j = 34 ∨ j = 41 ∨ j = 42 → S'.1 14 0 j = S.1 14 0 j) (ho : rl_o S) : rl_o S' := by
  obtain ⟨⟨k, k1, k2, k3⟩, o2, o3, o4, o5, o6⟩ := ho
  refine ⟨⟨k, k1, (h 9 1 (by omega)).trans k2, (h14 34 (by omega)).trans k3⟩, fun j hj => ?_, ⟨?_, ?_⟩, fun j hj => ?_, fun j hj => ?_, fun j hj => ?_⟩
  · rw [h 45 j (by omega), h 84 j (by omega)]
    exact o2 j hj
  · rw [h 9 3 (by omega), h14 41 (by omega)]
    exact o3.1
  · rw [h 9 4 (by omega), h14 42 (by omega)]
    exact o3.2
  · rw [h 2 j (by omega)]
    exact o4 j hj
  · rw [h 3 j (by omega)]
    exact o5 j hj
  · rw [h 83 j (by omega)]
    exact o6 j hj
theorem im_kyg {r : Nat} (h : kyg r = true) : 0 < r ∧ r < 45 ∧ r ≠ 9 ∧ r ≠ 14 ∧ r ≠ 2 ∧ r ≠ 3 := by
  have := List.elem_iff.mp h
  simp at this
  omega
theorem im_sh (r : Nat) : 1 ≤ rl_sh r := by
  unfold rl_sh
  split
  · omega
  · split <;> omega
theorem im_sh1 : rl_sh 0 = 1 ∧ rl_sh 2 = 1 ∧ rl_sh 3 = 1 ∧ rl_sh 9 = 1 ∧ rl_sh 14 = 1 := by decide
/-- what TAKING leaves: the kept world is as the world is, all else as it was -/
def imT (S S1 : ov_S) : Prop := (∀ r i j, ¬ (r < 45 ∧ rl_k r i) → ¬ (r = 0 ∧ i = 0 ∧ j = 1) → S1.1 r i j = S.1 r i j) ∧ S1.1 0 0 1 = 1 ∧ (∀ j, j < 4 → S1.1 2 1 j ≠ 0) ∧ (∀ j, j < 12 → S1.1 3 1 j ≠ 0) ∧ rl_eC S.1 (rl_v S1.1)
/-- the reference, taking -/
theorem im_MT {d : Nat} {S S1 : ov_S} (hd : 3 ≤ d) (hS : rl_S S) (hT : imT S S1) : ov_V true true d 0 0 mq_Mod_image 0 [some (.inr (.inr (true, 14, 0))), some (.inl 1), none] [] S1 (fun r' S2 => rl_e (some (.inl 1)) r' S2) := by
  obtain ⟨c, m, lb, nz, wc, hw, ho, hi⟩ := hS
  obtain ⟨t1, t2, t3, t4, t5⟩ := hT
  refine r_Mod_image_0 ⟨fun _ => kl_I hd (.inr rfl) (fun S2 hq => ⟨1, rfl, rfl, ?_⟩), fun h => absurd h (by decide)⟩
  have hz := kz_im hq.2.2.1
  have hB := hq.2.2.2.1 (show ¬ (1 : Int32) = 0 by decide)
  have hfr : ∀ r i j, ¬ (r = 99 ∧ i = 0) → ¬ (r = 14 ∧ i = 0 ∧ (j = 0 ∨ j = 60 ∨ j = 61 ∨ j = 62)) → S2.1 r i j = S1.1 r i j := by
    intro r i j h1 h2
    rw [hB r i j h1 (by omega)]
    show (if r = 14 ∧ i = 0 ∧ j = 62 then _ else if r = 14 ∧ i = 0 ∧ j = 61 then _ else if r = 14 ∧ i = 0 ∧ j = 60 then _ else if r = 14 ∧ i = 0 ∧ j = 0 then _ else S1.1 r i j) = _
    rw [if_neg (by omega), if_neg (by omega), if_neg (by omega), if_neg (by omega)]
  have h61 : S2.1 14 0 61 = 1 := by rw [hB 14 0 61 (by omega) (by omega)]; rfl
  have hs := im_sh1
  have hfr0 : ∀ r i j, ¬ (r < 45 ∧ rl_k r i) → ¬ r = 0 → ¬ (r = 99 ∧ i = 0) → ¬ (r = 14 ∧ i = 0 ∧ (j = 0 ∨ j = 60 ∨ j = 61 ∨ j = 62)) → S2.1 r i j = S.1 r i j := fun r i j a1 a2 a3 a4 => (hfr r i j a3 a4).trans (t1 r i j a1 (by omega))
  have hC : rl_eC S.1 S2.1 := im_eC (fun r i j h1 h2 h3 h4 => hfr0 r i j (fun e => by have := e.2.1; omega) (by omega) (by omega) (by omega))
  have hu : rl_eu S.1 S2.1 := im_eu (fun r j h1 h2 => hfr0 r 0 j (by omega) (by omega) (by omega) (by omega)) (fun j hj => by
    obtain ⟨a1, a2, a3, a4⟩ := im_us j hj
    exact hfr0 14 0 j (fun e => by have := e.2.1; omega) (by omega) (by omega) (by omega))
  have hv : rl_eC S.1 (rl_v S2.1) := im_eCt t5 (im_eC (fun r i j h1 h2 h3 h4 => hfr r _ j (by omega) (by omega)))
  refine ⟨c, m, lb, nz, wc, rl_w_c hC hu hw, im_o (fun r j h => hfr0 r 0 j (fun e => ?_) (by omega) (by omega) (by omega)) (fun j h => hfr0 14 0 j (fun e => by have := e.2.1; omega) (by omega) (by omega) (by omega)) ho, .inr ⟨(hfr 0 0 1 (by omega) (by omega)).trans t2, h61, fun j hj => ?_, fun j hj => ?_, c, m, lb, nz, wc, S2.1, rl_w_c hv hu hw, hz⟩⟩
  · have := e.2.1
    have := im_sh r
    omega
  · rw [hfr 2 1 j (by omega) (by omega)]
    exact t3 j hj
  · rw [hfr 3 1 j (by omega) (by omega)]
    exact t4 j hj
/-- the reference, giving back -/
theorem im_MG {d : Nat} {S S1 : ov_S} (hd : 3 ≤ d) (hS : rl_S S) (hk : S.1 0 0 1 = 1) (hW : kyW 0 1 S S1) : ov_V true true d 0 0 mq_Mod_image 0 [some (.inr (.inr (true, 14, 0))), some (.inl 0), none] [] S1 (fun r' S2 => rl_e (some (.inl 1)) r' S2) := by
  obtain ⟨_, _, _, _, _, _, ho, hi⟩ := hS
  have t0 := hW.1.2
  have hs := im_sh1
  have t1 : ∀ r i j, ¬ (kyg r = true ∧ i < rl_sh r) → S1.1 r i j = S.1 r i j := fun r i j h => t0 r i j (fun e => h ⟨e.1, by have := e.2.2; omega⟩)
  rcases hi with ⟨e, _⟩ | ⟨i1, i2, i3, i4, c, m, lb, nz, wc, u, hw, him⟩
  · rw [e] at hk
    exact absurd hk (by decide)
  have h61 : S1.1 14 0 61 = 1 := (t1 14 0 61 (fun e => by have := im_kyg e.1; omega)).trans i2
  refine r_Mod_image_0 ⟨fun h => absurd rfl h, fun _ => ⟨fun _ => kl_I hd (.inl rfl) (fun S2 hq => ⟨1, rfl, rfl, ?_⟩), fun h => ?_⟩⟩
  rotate_left
  · have h : S1.1 14 0 61 = 0 := h
    rw [h61] at h
    exact absurd h (by decide)
  have hz := kz_im hq.2.2.1
  have hG := hq.2.2.2.2.1 rfl
  have hB := hq.2.2.2.2.2
  have eG : S2.1 99 0 = S.1 99 0 := by
    funext j
    rw [hG j]
    exact t1 99 0 j (fun e => by have := im_kyg e.1; omega)
  have hfr : ∀ r i j, r < 58 ∨ r = 83 ∨ r = 84 → ¬ r = 14 → S2.1 r i j = S1.1 r i j := by
    intro r i j h1 h2
    rw [hB r i j (by omega) (by omega) (fun e => by
      obtain ⟨n, hn⟩ := e.2
      unfold kzR at hn
      omega)]
    show (if r = 14 ∧ i = 0 ∧ j = 62 then _ else if r = 14 ∧ i = 0 ∧ j = 61 then _ else if r = 14 ∧ i = 0 ∧ j = 60 then _ else if r = 14 ∧ i = 0 ∧ j = 0 then _ else S1.1 r i j) = _
    rw [if_neg (by omega), if_neg (by omega), if_neg (by omega), if_neg (by omega)]
  have hfr14 : ∀ j, j = 34 ∨ j = 41 ∨ j = 42 → S2.1 14 0 j = S1.1 14 0 j := by
    intro j h1
    rw [hB 14 0 j (by omega) (by omega) (fun e => by
      obtain ⟨n, hn⟩ := e.2
      unfold kzR at hn
      omega)]
    show (if 14 = 14 ∧ 0 = 0 ∧ j = 62 then _ else if 14 = 14 ∧ 0 = 0 ∧ j = 61 then _ else if 14 = 14 ∧ 0 = 0 ∧ j = 60 then _ else if 14 = 14 ∧ 0 = 0 ∧ j = 0 then _ else S1.1 14 0 j) = _
    rw [if_neg (by omega), if_neg (by omega), if_neg (by omega), if_neg (by omega)]
  have h61' : S2.1 14 0 61 = 1 := by
    rw [hB 14 0 61 (by omega) (by omega) (fun e => by
      obtain ⟨n, hn⟩ := e.2
      unfold kzR at hn
      omega)]
    rfl
  have hu : rl_eu u S2.1 := kz_eu (G := S.1 99 0) him (by rw [← eG]; exact hz)
  have hC : rl_eC (rl_v S.1) S2.1 := im_eCt (kyW_0 hW) (im_eC (fun r i j h1 h2 h3 h4 => hfr r i j (by omega) h3))
  have hv : rl_eC (rl_v S.1) (rl_v S2.1) := im_eC (fun r i j h1 h2 h3 h4 => (hfr r _ j (by omega) h3).trans (t1 r _ j (fun e => by have := e.2; omega)))
  refine ⟨c, m, lb, nz, wc, rl_w_c hC hu hw, im_o (fun r j h => (hfr r 0 j (by omega) (by omega)).trans (t1 r 0 j (fun e => by have := im_kyg e.1; omega))) (fun j h => (hfr14 j h).trans (t1 14 0 j (fun e => by have := im_kyg e.1; omega))) ho, .inr ⟨(hfr 0 0 1 (by omega) (by omega)).trans ((t1 0 0 1 (fun e => by have := im_kyg e.1; omega)).trans i1), h61', fun j hj => ?_, fun j hj => ?_, c, m, lb, nz, wc, u, rl_w_c hv ⟨fun _ _ _ _ _ => rfl, fun _ _ => rfl⟩ hw, ?_⟩⟩
  · rw [hfr 2 1 j (by omega) (by omega), t1 2 1 j (fun e => by have := im_kyg e.1; omega)]
    exact i3 j hj
  · rw [hfr 3 1 j (by omega) (by omega), t1 3 1 j (fun e => by have := im_kyg e.1; omega)]
    exact i4 j hj
  · rw [eG]
    exact him
/-- the reference, nothing to give back -/
theorem im_M0 {d : Nat} {S : ov_S} (hS : rl_S S) (hk : S.1 0 0 1 = 0) : ov_V true true d 0 0 mq_Mod_image 0 [some (.inr (.inr (true, 14, 0))), some (.inl 0), none] [] S (fun r' S2 => rl_e (some (.inl 0)) r' S2) := by
  have hS' := hS
  obtain ⟨_, _, _, _, _, _, ho, hi⟩ := hS'
  rcases hi with ⟨_, e, _⟩ | ⟨e, _⟩
  · refine r_Mod_image_0 ⟨fun h => absurd rfl h, fun _ => ⟨fun h => absurd (show S.1 14 0 61 = 0 from e) h, fun _ => ⟨0, rfl, rfl, rl_Stold hS⟩⟩⟩
  · rw [hk] at e
    exact absurd e (by decide)
