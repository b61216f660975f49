/-! ===== IMAGE: the class ===== -/
theorem cb_fl0 {mo0 mo : Bool} {d a b pc r i k r1 i1 : Nat} {y : ov_M} {ls : List (Option ov_A)} {st : List ov_A} {S : ov_S} {Q : ov_Q} (hg : S.1 r i k = 0) (h : ov_V mo0 mo d a b y pc ls (.inr (.inr (false, r1, i1)) :: st) S Q) : ov_V mo0 mo d a b y pc ls (.inr (.inr (ov_g S r i k != 0, r1, i1)) :: st) S Q := by
  have e : (ov_g S r i k != 0) = false := by
    unfold ov_g
    rw [hg]
    rfl
  rw [e]
  exact h
def sp_im : List (Nat × List Bool) := [(8, [true, true]), (26, [true, true]), (33, [true, true]), (39, [true, true]), (52, [true, true]), (55, [true, true])]
theorem im_0 {d a b : Nat} {v : Int32} {S : ov_S} {Q : ov_Q} (h : (v = 0 → ov_V false false d a b mq_Eye_image 39 [some (.inr (.inr (true, 0, 0))), some (.inl v)] [.inr (.inr (ov_g S 0 0 1 != 0, 1, 1))] S Q) ∧ (¬ v = 0 → ov_V false false d a b mq_Eye_image 8 [some (.inr (.inr (true, 0, 0))), some (.inl v)] [.inr (.inr (ov_g S 0 0 1 != 0, 1, 1))] S Q)) : ov_V false false d a b mq_Eye_image 0 [some (.inr (.inr (true, 0, 0))), some (.inl v)] [] S Q := ov_run sp_im 400 ⟨h.1, h.2⟩
theorem im_8t {d a b : Nat} {v : Int32} {S : ov_S} {Q : ov_Q} (h : ov_V false true d a b mq_Eye_image 26 [some (.inr (.inr (true, 0, 0))), some (.inl v)] [.inr (.inr (ov_g S 0 0 1 != 0, 1, 1))] S Q) : ov_V false true d a b mq_Eye_image 8 [some (.inr (.inr (true, 0, 0))), some (.inl v)] [.inr (.inr (true, 1, 1))] S Q := ov_run sp_im 400 h
theorem im_8f {d a b : Nat} {v : Int32} {S : ov_S} {Q : ov_Q} (hf : cb_h ((1, 1, none) :: co_World 1 []) S.2.2.1) (hd : 4 ≤ d) (ha : 131 ≤ a) (hb : 2017 ≤ b) (h : ∀ a1 b1, ov_V false false d a1 b1 mq_Eye_image 26 [some (.inr (.inr (true, 0, 0))), some (.inl v)] [.inr (.inr (ov_g (ov_w (cb_a (co_World 1 []) (ov_n S 1 1)) 0 0 1 1) 0 0 1 != 0, 1, 1))] (ov_w (cb_a (co_World 1 []) (ov_n S 1 1)) 0 0 1 1) Q) : ov_V false false d a b mq_Eye_image 8 [some (.inr (.inr (true, 0, 0))), some (.inl v)] [.inr (.inr (false, 1, 1))] S Q := ov_run sp_im 400 ⟨1, 1, _, rfl, (And.left hf), (by first | omega | (simp only [List.length_cons, List.length_nil]; omega)), (by first | omega | (simp only [List.length_cons, List.length_nil]; omega)), ⟨by omega, 130, 2006, (by first | omega | (simp only [List.length_cons, List.length_nil]; omega)), (by first | omega | (simp only [List.length_cons, List.length_nil]; omega)), c_World (tl := []) (And.right hf) (by omega) (by omega) (by omega) (fun _ => ⟨rfl, rfl, h _ _⟩)⟩⟩
theorem im_26 {d a b : Nat} {v : Int32} {S : ov_S} {Q : ov_Q} (hd : 1 ≤ d) (h : ov_V true true (d - 1) 0 0 mq_World_copyFrom 0 [some (.inr (.inr (true, 1, 1))), some (.inr (.inr (true, 1, 0))), none] [] S (fun r S1 => ov_V false true d a b mq_Eye_image 33 [some (.inr (.inr (true, 0, 0))), some (.inl v)] (r.toList ++ []) S1 Q)) : ov_V false true d a b mq_Eye_image 26 [some (.inr (.inr (true, 0, 0))), some (.inl v)] [.inr (.inr (true, 1, 1))] S Q := ov_run sp_im 400 ⟨by omega, h⟩
theorem im_52 {d a b : Nat} {v : Int32} {S : ov_S} {Q : ov_Q} (hd : 1 ≤ d) (h : ov_V true true (d - 1) 0 0 mq_World_copyFrom 0 [some (.inr (.inr (true, 1, 0))), some (.inr (.inr (true, 1, 1))), none] [] S (fun r S1 => ov_V false true d a b mq_Eye_image 55 [some (.inr (.inr (true, 0, 0))), some (.inl v)] (r.toList ++ []) S1 Q)) : ov_V false true d a b mq_Eye_image 52 [some (.inr (.inr (true, 0, 0))), some (.inl v)] [.inr (.inr (true, 1, 1)), .inr (.inr (true, 1, 0))] S Q := ov_run sp_im 400 ⟨by omega, h⟩
theorem im_39t {d a b : Nat} {v : Int32} {S : ov_S} {Q : ov_Q} (h : ov_V false true d a b mq_Eye_image 52 [some (.inr (.inr (true, 0, 0))), some (.inl v)] [.inr (.inr (ov_g S 0 0 1 != 0, 1, 1)), .inr (.inr (true, 1, 0))] S Q) : ov_V false true d a b mq_Eye_image 39 [some (.inr (.inr (true, 0, 0))), some (.inl v)] [.inr (.inr (true, 1, 1))] S Q := ov_run sp_im 400 h
theorem im_39f {d a b : Nat} {v : Int32} {S : ov_S} {Q : ov_Q} (h : Q (some (.inl 0)) S) : ov_V false false d a b mq_Eye_image 39 [some (.inr (.inr (true, 0, 0))), some (.inl v)] [.inr (.inr (false, 1, 1))] S Q := ov_run sp_im 400 ⟨Or.inl rfl, h⟩
theorem im_33 {d a b : Nat} {v : Int32} {S : ov_S} {Q : ov_Q} (h : ov_full S → Q (some (.inl 1)) S) : ov_V false true d a b mq_Eye_image 33 [some (.inr (.inr (true, 0, 0))), some (.inl v)] [] S Q := ov_V_cl.2.2.1 _ _ _ _ _ _ _ _ _ _ (fun hf => ov_run [] 400 ⟨Or.inr rfl, h hf⟩)
theorem im_55 {d a b : Nat} {v : Int32} {S : ov_S} {Q : ov_Q} (h : ov_full S → Q (some (.inl 1)) S) : ov_V false true d a b mq_Eye_image 55 [some (.inr (.inr (true, 0, 0))), some (.inl v)] [] S Q := ov_V_cl.2.2.1 _ _ _ _ _ _ _ _ _ _ (fun hf => ov_run [] 400 ⟨Or.inr rfl, h hf⟩)
/-- the cells of the kept world, as they come -/
def im_O : List cb_O := (1, 1, none) :: co_World 1 []
theorem im_nd : (cb_n im_O).Nodup := by decide +kernel
theorem im_own : cb_own im_O = true := by decide +kernel
theorem im_fc : (cb_n im_O).all (cb_fc im_O) = true := by decide +kernel
theorem im_nk : (cb_n im_O).all (fun x => decide (rl_sh x.1 ≤ x.2) && (decide (x.2 < 2 * rl_sh x.1) && decide (x.1 < 45))) = true := by decide +kernel
theorem im_in : (2, 1) ∈ cb_n im_O ∧ (3, 1) ∈ cb_n im_O ∧ (∀ j, j < 4 → cb_l im_O 2 1 j 0 ≠ 0) ∧ ∀ j, j < 12 → cb_l im_O 3 1 j 0 ≠ 0 := by decide +kernel
theorem im_k {r i : Nat} (h : (r, i) ∈ cb_n im_O) : r < 45 ∧ rl_k r i := by
  have h := List.all_eq_true.mp im_nk _ h
  obtain ⟨h1, h2⟩ := Bool.and_eq_true_iff.mp h
  obtain ⟨h2, h3⟩ := Bool.and_eq_true_iff.mp h2
  exact ⟨of_decide_eq_true h3, of_decide_eq_true h1, of_decide_eq_true h2⟩
/-- the state once there is a kept world -/
def im_N (S : ov_S) : ov_S := ov_w (cb_a im_O S) 0 0 1 1
theorem im_Nf {S : ov_S} (h : ov_full S) : ov_full (im_N S) := by
  have h1 : ov_full (cb_a im_O S) := cb_full h im_own im_fc
  intro r i k c fks q g hm hs hk
  show (if r = 0 ∧ i = 0 ∧ k = 1 then (1 : Int32) else (cb_a im_O S).1 r i k) ≠ 0
  split
  · decide
  · exact h1 r i k c fks q g hm hs hk
theorem im_No {S : ov_S} {r i j : Nat} (h : ¬ (r < 45 ∧ rl_k r i)) (h0 : ¬ (r = 0 ∧ i = 0 ∧ j = 1)) : (im_N S).1 r i j = S.1 r i j := by
  show (if r = 0 ∧ i = 0 ∧ j = 1 then (1 : Int32) else (cb_a im_O S).1 r i j) = _
  rw [if_neg h0]
  exact cb_old im_own (fun e => h (im_k e)) S j
theorem im_N1 {S : ov_S} : (im_N S).1 0 0 1 = 1 := rfl
theorem im_Nw (S : ov_S) (r i j : Nat) : (im_N S).1 r i j = if r = 0 ∧ i = 0 ∧ j = 1 then (1 : Int32) else (cb_a im_O S).1 r i j := rfl
theorem im_N2 {S : ov_S} {j : Nat} (hj : j < 4) : (im_N S).1 2 1 j ≠ 0 := by
  rw [im_Nw, if_neg (by omega), cb_lk, cb_l_n im_O 2 1 j _ 0 im_in.1]
  exact im_in.2.2.1 j hj
theorem im_N3 {S : ov_S} {j : Nat} (hj : j < 12) : (im_N S).1 3 1 j ≠ 0 := by
  rw [im_Nw, if_neg (by omega), cb_lk, cb_l_n im_O 3 1 j _ 0 im_in.2.1]
  exact im_in.2.2.2 j hj
/-- taking: the kept world is there -/
theorem im_T1 {S0 S S1 : ov_S} (h0 : ∀ r i j, ¬ (r < 45 ∧ rl_k r i) → ¬ (r = 0 ∧ i = 0 ∧ j = 1) → S.1 r i j = S0.1 r i j) (h1 : S.1 0 0 1 = 1) (h2 : ∀ j, j < 4 → S.1 2 1 j ≠ 0) (h3 : ∀ j, j < 12 → S.1 3 1 j ≠ 0) (hW : kyW 1 0 S S1) : imT S0 S1 := by
  have t0 := hW.1.2
  have hk : ∀ r i, kyT 1 r i → r < 45 ∧ rl_k r i ∧ 0 < r ∧ r ≠ 2 ∧ r ≠ 3 := by
    intro r i e
    have := im_kyg e.1
    have a1 := e.2.1
    have a2 := e.2.2
    exact ⟨by omega, ⟨by omega, by omega⟩, by omega, by omega, by omega⟩
  refine ⟨fun r i j a1 a2 => (t0 r i j (fun e => a1 ⟨(hk r i e).1, (hk r i e).2.1⟩)).trans (h0 r i j a1 a2), (t0 0 0 1 (fun e => absurd (hk _ _ e).2.2.1 (by omega))).trans h1, fun j hj => ?_, fun j hj => ?_, im_eCt (im_eC (fun r i j a1 a2 a3 a4 => h0 r i j (fun e => by have := e.2.1; omega) (by omega))) (kyW_1 hW)⟩
  · rw [t0 2 1 j (fun e => (hk _ _ e).2.2.2.1 rfl)]
    exact h2 j hj
  · rw [t0 3 1 j (fun e => (hk _ _ e).2.2.2.2 rfl)]
    exact h3 j hj
theorem im_26Q {d a b : Nat} {v : Int32} {S : ov_S} {Q : ov_Q} (hd : 4 ≤ d) (h1 : S.1 0 0 1 = 1) (h20 : ∀ j, j < 4 → S.1 2 0 j ≠ 0) (h30 : ∀ j, j < 12 → S.1 3 0 j ≠ 0) (h2 : ∀ j, j < 4 → S.1 2 1 j ≠ 0) (h3 : ∀ j, j < 12 → S.1 3 1 j ≠ 0) (hQ : ∀ S1, ov_full S1 → kyW 1 0 S S1 → Q (some (.inl 1)) S1) : ov_V false true d a b mq_Eye_image 26 [some (.inr (.inr (true, 0, 0))), some (.inl v)] [.inr (.inr (ov_g S 0 0 1 != 0, 1, 1))] S Q :=
  cb_fl h1 (im_26 (by omega) (ky_world (by omega) (.inr ⟨rfl, rfl⟩) h2 h20 h3 h30 (fun S1 hW => im_33 (fun hf => hQ S1 hf hW))))
/-- IMAGE of the class -/
theorem im_E {d a b : Nat} {v : Int32} {S : ov_S} {Q : ov_Q} (hd : 4 ≤ d) (hS : rl_S S) (hF : ov_full S) (hab : ¬ v = 0 → S.1 0 0 1 = 0 → 131 ≤ a ∧ 2017 ≤ b) (hT : ¬ v = 0 → ∀ S1, ov_full S1 → imT S S1 → (S.1 0 0 1 = 0 → (1, 1) ∈ S1.2.2.1) → Q (some (.inl 1)) S1) (h0 : v = 0 → S.1 0 0 1 = 0 → Q (some (.inl 0)) S) (hG : v = 0 → S.1 0 0 1 = 1 → ∀ S1, ov_full S1 → kyW 0 1 S S1 → Q (some (.inl 1)) S1) : ov_V false false d a b mq_Eye_image 0 [some (.inr (.inr (true, 0, 0))), some (.inl v)] [] S Q := by
  obtain ⟨_, _, _, _, _, _, ho, hi⟩ := hS
  obtain ⟨_, _, _, h20, h30, _⟩ := ho
  rcases hi with ⟨i1, _, i3⟩ | ⟨i1, _, i3, i4, _⟩
  · refine im_0 ⟨fun hv => cb_fl0 i1 (im_39f (h0 hv i1)), fun hv => cb_fl0 i1 ?_⟩
    obtain ⟨ha, hb⟩ := hab hv i1
    refine im_8f (cb_hn im_O S.2.2.1 (fun x hx => i3 x.1 x.2 (im_k hx).2 (im_k hx).1) im_nd) hd ha hb (fun a1 b1 => ?_)
    show ov_V false false d a1 b1 mq_Eye_image 26 _ [.inr (.inr (ov_g (im_N S) 0 0 1 != 0, 1, 1))] (im_N S) Q
    have hs := im_sh1
    have e2 : ∀ j, (im_N S).1 2 0 j = S.1 2 0 j := fun j => im_No (fun e => by have := e.2.1; omega) (by omega)
    have e3 : ∀ j, (im_N S).1 3 0 j = S.1 3 0 j := fun j => im_No (fun e => by have := e.2.1; omega) (by omega)
    have hx : (1, 1) ∈ (im_N S).2.2.1 := by
      show (1, 1) ∈ (cb_a im_O S).2.2.1
      rw [cb_ln]
      exact List.mem_append_right _ List.mem_cons_self
    refine ov_V_cl.2.2.2.1 _ _ _ _ _ _ _ _ _ _ (im_Nf hF) (im_26Q hd im_N1 (fun j hj => by rw [e2]; exact h20 j hj) (fun j hj => by rw [e3]; exact h30 j hj) (fun j hj => im_N2 hj) (fun j hj => im_N3 hj) (fun S1 hf hW => hT hv S1 hf (im_T1 (fun r i j a1 a2 => im_No a1 a2) im_N1 (fun j hj => im_N2 hj) (fun j hj => im_N3 hj) hW) (fun _ => ?_)))
    rw [hW.1.1]
    exact hx
  · refine im_0 ⟨fun hv => cb_fl i1 (ov_V_cl.2.2.2.1 _ _ _ _ _ _ _ _ _ _ hF (im_39t (cb_fl i1 (im_52 (by omega) (ky_world (by omega) (.inl ⟨rfl, rfl⟩) h20 i3 h30 i4 (fun S1 hW => im_55 (fun hf => hG hv i1 S1 hf hW))))))), fun hv => cb_fl i1 (ov_V_cl.2.2.2.1 _ _ _ _ _ _ _ _ _ _ hF (im_8t (im_26Q hd i1 h20 h30 i3 i4 (fun S1 hf hW => hT hv S1 hf (im_T1 (fun _ _ _ _ _ => rfl) i1 i3 i4 hW) (fun e => ?_)))))⟩
    rw [i1] at e
    exact absurd e (by decide)
