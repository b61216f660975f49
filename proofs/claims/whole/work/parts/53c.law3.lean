/-! ===== the law: image, the loop, the whole ===== -/
theorem im_2 {d a b : Nat} {v : Int32} {S : ov_S} (hd : 4 ≤ d) (hS : rl_S S) (hF : ov_full S) (hv : v = 0 ∨ v = 1) (hab : ¬ v = 0 → S.1 0 0 1 = 0 → 131 ≤ a ∧ 2017 ≤ b) : ov_V false false d a b mq_Eye_image 0 [some (.inr (.inr (true, 0, 0))), some (.inl v)] [] S (fun r S1 => ∃ x : Int32, r = some (.inl x) ∧ ov_full S1 ∧ ov_V true true d 0 0 mq_Mod_image 0 [some (.inr (.inr (true, 14, 0))), some (.inl v), none] [] S1 (fun r' S2 => rl_e (some (.inl x)) r' S2) ∧ (¬ v = 0 → S.1 0 0 1 = 0 → (1, 1) ∈ S1.2.2.1)) := by
  rcases hv with rfl | rfl
  · exact im_E hd hS hF hab (fun h => absurd rfl h) (fun _ hk => ⟨0, rfl, hF, im_M0 hS hk, fun h => absurd rfl h⟩) (fun _ hk S1 hf hW => ⟨1, rfl, hf, im_MG (by omega) hS hk hW, fun h => absurd rfl h⟩)
  · exact im_E hd hS hF hab (fun _ S1 hf hT hin => ⟨1, rfl, hf, im_MT (by omega) hS hT, fun _ => hin⟩) (fun h => absurd h (by decide)) (fun h => absurd h (by decide))
theorem lw_b01 (x : Int32) : lw_b x = 0 ∨ lw_b x = 1 := by
  unfold lw_b
  split
  · exact .inl rfl
  · exact .inr rfl
theorem lw_imgK {d a b a1 b1 : Nat} {S S1 : ov_S} {Q : ov_Q} {v3 x : Int32} {L : Nat} {xs : Nat → Int32} (hd : 17 ≤ d) (hJ : lw_J L xs a b S) (g : ov_ib (v3 + 1) L) (h : ∀ a2 b2 S2, lw_J L xs a2 b2 S2 → ov_V false true d a2 b2 mq_Law_law 1192 [some (.inr (.inr (true, 16, 0))), some (.inr (.inr (true, 0, 0))), some (.inr (.inr (true, 14, 0))), some (.inl v3)] [] S2 Q) (k1 : kk_P S S1) (hf1 : ov_full S1) (hM : ov_V true true (d - 1) 0 0 mq_Mod_image 0 [some (.inr (.inr (true, 14, 0))), some (.inl (lw_b (S.2.2.2.2 (ov_ix (v3 + 1))))), none] [] S1 (fun r' S2 => rl_e (some (.inl x)) r' S2)) (hx : (1, 1) ∈ S1.2.2.1 ∨ (131 ≤ a1 ∧ 2017 ≤ b1)) : ov_V false false d a1 b1 mq_Law_law 1147 [some (.inr (.inr (true, 16, 0))), some (.inr (.inr (true, 0, 0))), some (.inr (.inr (true, 14, 0))), some (.inl v3)] [.inl x] S1 Q := by
  have eL1 : S1.2.2.2.1 = L := by rw [k1.1, hJ.2.1]
  have eS1 : S1.2.2.2 = S.2.2.2 := k1.1
  refine ov_V_cl.2.2.2.1 _ _ _ _ _ _ _ _ _ _ hf1 (lw_imageM (by omega) (by rw [eL1]; exact g) ?_)
  rw [eS1]
  refine ov_Vm (kk_V hM) (fun r2 S2 w => ?_)
  obtain ⟨⟨y, e1, rfl, hr⟩, k2⟩ := w
  have e2 : x = y := Sum.inl.inj (Option.some.inj e1)
  rw [← e2]
  exact lw_imageQ (h a1 b1 S2 ⟨hr, k2.1.trans (k1.1.trans hJ.2.1), hx.imp (fun q => k2.2 _ q) id⟩)
theorem lw_image {d a b : Nat} {S : ov_S} {Q : ov_Q} {v3 : Int32} {L : Nat} {xs : Nat → Int32} (hd : 17 ≤ d) (hJ : lw_J L xs a b S) (g : ∀ j : Nat, 1 ≤ j → j ≤ 5 → ov_ib (v3 + Int32.ofNat j) L) (h : ∀ a2 b2 S2, lw_J L xs a2 b2 S2 → ov_V false true d a2 b2 mq_Law_law 1192 [some (.inr (.inr (true, 16, 0))), some (.inr (.inr (true, 0, 0))), some (.inr (.inr (true, 14, 0))), some (.inl v3)] [] S2 Q) : ov_V false true d a b mq_Law_law 1130 [some (.inr (.inr (true, 16, 0))), some (.inr (.inr (true, 0, 0))), some (.inr (.inr (true, 14, 0))), some (.inl v3)] [] S Q := by
  have eL : S.2.2.2.1 = L := by rw [hJ.2.1]
  have g1 : ov_ib (v3 + 1) L := g 1 (by omega) (by omega)
  refine lw_imageE (by omega) (by rw [eL]; exact g1) (fun hf => ?_)
  have hv := lw_b01 (S.2.2.2.2 (ov_ix (v3 + 1)))
  by_cases hc : ¬ lw_b (S.2.2.2.2 (ov_ix (v3 + 1))) = 0 ∧ S.1 0 0 1 = 0
  · have hn : (1, 1) ∉ S.2.2.1 := by
      obtain ⟨_, _, _, _, _, _, _, hi⟩ := hJ.1
      rcases hi with ⟨_, _, i3⟩ | ⟨e, _⟩
      · exact i3 1 1 ⟨by decide, by decide⟩ (by decide)
      · rw [hc.2] at e
        exact absurd e (by decide)
    obtain ⟨ha, hb⟩ := hJ.2.2.resolve_left hn
    refine ⟨131, 2017, ha, hb, ov_Vm (kk_V (im_2 (by omega) hJ.1 hf hv (fun _ _ => ⟨Nat.le_refl _, Nat.le_refl _⟩))) (fun r S1 w => ?_)⟩
    obtain ⟨⟨x, rfl, hf1, hM, hin⟩, k1⟩ := w
    exact lw_imgK hd hJ g1 h k1 hf1 hM (.inl (hin hc.1 hc.2))
  · refine ⟨0, 0, Nat.zero_le _, Nat.zero_le _, ov_Vm (kk_V (im_2 (by omega) hJ.1 hf hv (fun h1 h2 => absurd ⟨h1, h2⟩ hc))) (fun r S1 w => ?_)⟩
    obtain ⟨⟨x, rfl, hf1, hM, hin⟩, k1⟩ := w
    exact lw_imgK hd hJ g1 h k1 hf1 hM (hJ.2.2.imp (fun q => k1.2 _ q) (fun q => ⟨by omega, by omega⟩))
theorem lw_blk {d a b : Nat} {S : ov_S} {Q : ov_Q} {v3 : Int32} {L : Nat} {xs : Nat → Int32} (hd : 17 ≤ d) (hJ : lw_J L xs a b S) (g : ∀ j : Nat, 1 ≤ j → j ≤ 5 → ov_ib (v3 + Int32.ofNat j) L) (h : ∀ a2 b2 S2, lw_J L xs a2 b2 S2 → ov_V false true d a2 b2 mq_Law_law 1192 [some (.inr (.inr (true, 16, 0))), some (.inr (.inr (true, 0, 0))), some (.inr (.inr (true, 14, 0))), some (.inl v3)] [] S2 Q) (p : Nat) (hp : p ∈ [168, 191, 224, 273, 332, 395, 418, 441, 464, 487, 520, 553, 596, 619, 642, 675, 708, 741, 794, 837, 890, 933, 976, 989, 1002, 1025, 1048, 1117, 1130, 1169]) : ov_V false true d a b mq_Law_law p [some (.inr (.inr (true, 16, 0))), some (.inr (.inr (true, 0, 0))), some (.inr (.inr (true, 14, 0))), some (.inl v3)] [] S Q := by
  simp only [List.mem_cons, List.not_mem_nil, or_false] at hp
  rcases hp with rfl | rfl | rfl | rfl | rfl | rfl | rfl | rfl | rfl | rfl | rfl | rfl | rfl | rfl | rfl | rfl | rfl | rfl | rfl | rfl | rfl | rfl | rfl | rfl | rfl | rfl | rfl | rfl | rfl | rfl
  · exact lw_state hd hJ g (h a b)
  · exact lw_three hd hJ g (h a b)
  · exact lw_fact hd hJ g (h a b)
  · exact lw_trust hd hJ g (h a b)
  · exact lw_feed hd hJ g (h a b)
  · exact lw_end hd hJ g (h a b)
  · exact lw_text hd hJ g (h a b)
  · exact lw_fault hd hJ g (h a b)
  · exact lw_minutes hd hJ g (h a b)
  · exact lw_where hd hJ g (h a b)
  · exact lw_knows hd hJ g (h a b)
  · exact lw_origin hd hJ g (h a b)
  · exact lw_noise hd hJ g (h a b)
  · exact lw_heard hd hJ g (h a b)
  · exact lw_held hd hJ g (h a b)
  · exact lw_of hd hJ g (h a b)
  · exact lw_book hd hJ g (h a b)
  · exact lw_errand hd hJ g (h a b)
  · exact lw_talk hd hJ g (h a b)
  · exact lw_danger hd hJ g (h a b)
  · exact lw_way hd hJ g (h a b)
  · exact lw_spot hd hJ g (h a b)
  · exact lw_felt hd hJ g (h a b)
  · exact lw_liars hd hJ g (h a b)
  · exact lw_watch hd hJ g (h a b)
  · exact lw_watches hd hJ g (h a b)
  · exact lw_lends hd hJ g (h a b)
  · exact lw_ring hd hJ g (h a b)
  · exact lw_image hd hJ g h
  · exact lw_look hd hJ g (h a b)
theorem lw_loop {d L : Nat} {xs : Nat → Int32} {Q : ov_Q} (hd : 17 ≤ d) (hL : L ≤ 3072) (hQ : ∀ S, Q (some (.inl 1)) S) : ∀ n k a b S, L + 6 ≤ n + k → k ≤ L + 6 → lw_J L xs a b S → ov_V false true d a b mq_Law_law 18 [some (.inr (.inr (true, 16, 0))), some (.inr (.inr (true, 0, 0))), some (.inr (.inr (true, 14, 0))), some (.inl (nI k))] [] S Q := by
  intro n
  induction n with
  | zero =>
    intro k a b S hn hk hJ
    have eL : S.2.2.2.1 = L := by rw [hJ.2.1]
    refine lw_18 ⟨fun _ => lw_1198 (hQ S), fun hc => absurd ?_ hc⟩
    rw [eL]
    have e1 := nI_toInt (n := k) (by omega)
    have e2 := nI_toInt (n := L) (by omega)
    have e3 : (Int32.ofNat L - 6).toInt = (L : Int) - 6 := by
      show (nI L - 6).toInt = _
      rw [Int32.toInt_sub, e2]
      exact Int.bmod_eq_of_le (by simp; omega) (by simp; omega)
    exact Int32.lt_iff_toInt_lt.mpr (by omega)
  | succ n ih =>
    intro k a b S hn hk hJ
    have eL : S.2.2.2.1 = L := by rw [hJ.2.1]
    have e1 := nI_toInt (n := k) (by omega)
    have e2 := nI_toInt (n := L) (by omega)
    have e3 : (Int32.ofNat L - 6).toInt = (L : Int) - 6 := by
      show (nI L - 6).toInt = _
      rw [Int32.toInt_sub, e2]
      exact Int.bmod_eq_of_le (by simp; omega) (by simp; omega)
    refine lw_18 ⟨fun _ => lw_1198 (hQ S), fun hc => ?_⟩
    rw [eL] at hc
    have hk6 : k + 6 ≤ L := by
      rcases Nat.lt_or_ge L (k + 6) with q | q
      · exact absurd (Int32.lt_iff_toInt_lt.mpr (by omega)) hc
      · exact q
    have hnx : ∀ a2 b2 S2, lw_J L xs a2 b2 S2 → ov_V false true d a2 b2 mq_Law_law 1192 [some (.inr (.inr (true, 16, 0))), some (.inr (.inr (true, 0, 0))), some (.inr (.inr (true, 14, 0))), some (.inl (nI k))] [] S2 Q := by
      intro a2 b2 S2 hJ2
      refine lw_1192 ?_
      have e6 : nI k + 6 = nI (k + 6) := nI_add k 6
      rw [e6]
      exact ih (k + 6) a2 b2 S2 (by omega) (by omega) hJ2
    exact lw_27 (by rw [eL]; exact zz_ib (by omega) (by omega)) (hnx a b S hJ) (lw_blk hd hJ (fun j h1 h2 => by
      have e : nI k + Int32.ofNat j = nI (k + j) := nI_add k j
      rw [e]
      exact zz_ib (by omega) (by omega)) hnx)
theorem e_Eye2 (tl : List cb_O) (S : ov_S) : cb_a (co_Eye 0 tl) S = cb_a tl (cb_a (co_Eye 0 []) S) := by
  rw [e_Eye tl, e_Eye []]
  rfl
theorem e_in (S : ov_S) : cb_a in_O S = cb_a (co_Mod 0 []) (ov_n (cb_a (co_Eye 0 []) (ov_n S 0 0)) 14 0) := by
  unfold in_O
  rw [cb_a_n, e_Eye2, cb_a_n]
/-- the law from its entry -/
theorem lw_0 {d a b : Nat} {S : ov_S} {Q : ov_Q} (hf : cb_h in_O S.2.2.1) (hd : 5 ≤ d) (ha : 400 ≤ a) (hb : 110000 ≤ b) (h : ∀ a1 b1, 131 ≤ a1 → 2017 ≤ b1 → ov_V false false d a1 b1 mq_Law_law 18 [some (.inr (.inr (true, 16, 0))), some (.inr (.inr (true, 0, 0))), some (.inr (.inr (true, 14, 0))), some (.inl 0)] [] (cb_a in_O S) Q) : ov_V false false d a b mq_Law_law 0 [some (.inr (.inr (true, 16, 0))), none, none, none] [] S Q := by
  rw [e_in] at h
  exact ov_run sp_lw 400 (⟨0, 0, _, rfl, (And.left hf), (by first | omega | (simp only [List.length_cons, List.length_nil]; omega)), (by first | omega | (simp only [List.length_cons, List.length_nil]; omega)), ⟨by omega, 154, 4160, (by first | omega | (simp only [List.length_cons, List.length_nil]; omega)), (by first | omega | (simp only [List.length_cons, List.length_nil]; omega)), c_Eye (tl := (14, 0, none) :: co_Mod 0 []) (And.right hf) (by omega) (by omega) (by omega) (fun hf1 => ⟨14, 0, _, rfl, (And.left hf1), (by first | omega | (simp only [List.length_cons, List.length_nil]; omega)), (by first | omega | (simp only [List.length_cons, List.length_nil]; omega)), ⟨by omega, 42, 98184, (by first | omega | (simp only [List.length_cons, List.length_nil]; omega)), (by first | omega | (simp only [List.length_cons, List.length_nil]; omega)), c_Mod (tl := []) (And.right hf1) (by omega) (by omega) (by omega) (fun _ => h _ _ (by first | omega | (simp only [List.length_cons, List.length_nil]; omega)) (by first | omega | (simp only [List.length_cons, List.length_nil]; omega)))⟩⟩)⟩⟩)
/-- the law answers true -/
theorem lw_V {d a b L : Nat} {xs : Nat → Int32} (hd : 17 ≤ d) (hL : L ≤ 3072) (ha : 400 ≤ a) (hb : 110000 ≤ b) : ov_V false false d a b mq_Law_law 0 [some (.inr (.inr (true, 16, 0))), none, none, none] [] (in_S L xs) (fun r _ => r = some (.inl 1)) :=
  lw_0 in_h (by omega) ha hb (fun a1 b1 h1 h2 => ov_V_cl.2.2.2.1 _ _ _ _ _ _ _ _ _ _ (in_full L xs) (lw_loop hd hL (fun _ => rfl) (L + 6) 0 a1 b1 _ (by omega) (by omega) ⟨in_rl L xs, cb_sc in_O (in_S L xs), .inr ⟨h1, h2⟩⟩))
