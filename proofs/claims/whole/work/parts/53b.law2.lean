/-! ===== the law: each call beside its other ===== -/
/-- what holds before and after each call: the relation, the script, room for a kept world -/
def lw_J (L : Nat) (xs : Nat → Int32) (a b : Nat) (S : ov_S) : Prop := rl_S S ∧ S.2.2.2 = (L, xs) ∧ ((1, 1) ∈ S.2.2.1 ∨ (131 ≤ a ∧ 2017 ≤ b))
theorem lw_Jk {L : Nat} {xs : Nat → Int32} {a b : Nat} {S S1 S2 : ov_S} (h : lw_J L xs a b S) (h1 : kk_P S S1) (h2 : kk_P S1 S2) (hr : rl_S S2) : lw_J L xs a b S2 := ⟨hr, h2.1.trans (h1.1.trans h.2.1), h.2.2.imp (fun q => h2.2 _ (h1.2 _ q)) id⟩
/-- both calls, and what they keep -/
theorem lw_2 {d : Nat} {me mm : ov_M} {le lm : List (Option ov_A)} {S : ov_S} {Q : ov_Q} (h : rl_2 d me mm le lm S) (hQ : ∀ r S1, kk_P S S1 → ov_V true true d 0 0 mm 0 lm [] S1 (fun r' S2 => rl_e r r' S2 ∧ kk_P S1 S2) → Q r S1) : ov_V true true d 0 0 me 0 le [] S Q := ov_Vm (kk_V h) (fun r S1 q => hQ r S1 q.2 (kk_V q.1))
theorem lw_state {d a b : Nat} {S : ov_S} {Q : ov_Q} {v3 : Int32} {L : Nat} {xs : Nat → Int32} (hd : 17 ≤ d) (hJ : lw_J L xs a b S) (g : ∀ j : Nat, 1 ≤ j → j ≤ 5 → ov_ib (v3 + Int32.ofNat j) L) (h : ∀ S2, lw_J L xs a b S2 → ov_V false true d a b mq_Law_law 1192 [some (.inr (.inr (true, 16, 0))), some (.inr (.inr (true, 0, 0))), some (.inr (.inr (true, 14, 0))), some (.inl v3)] [] S2 Q) : ov_V false true d a b mq_Law_law 168 [some (.inr (.inr (true, 16, 0))), some (.inr (.inr (true, 0, 0))), some (.inr (.inr (true, 14, 0))), some (.inl v3)] [] S Q := by
  have eL : S.2.2.2.1 = L := by rw [hJ.2.1]
  refine lw_stateE (by omega) (by rw [eL]; exact g 1 (by omega) (by omega)) (lw_2 (s_state (by omega) hJ.1) (fun r S1 k1 q => ?_))
  have eL1 : S1.2.2.2.1 = L := by rw [k1.1, hJ.2.1]
  have eS1 : S1.2.2.2 = S.2.2.2 := k1.1
  refine lw_stateM (by omega) (by rw [eL1]; exact g 1 (by omega) (by omega)) ?_
  rw [eS1]
  refine ov_Vm q (fun r2 S2 w => ?_)
  obtain ⟨⟨x, rfl, rfl, hr⟩, k2⟩ := w
  exact lw_stateQ (h S2 (lw_Jk hJ k1 k2 hr))
theorem lw_three {d a b : Nat} {S : ov_S} {Q : ov_Q} {v3 : Int32} {L : Nat} {xs : Nat → Int32} (hd : 17 ≤ d) (hJ : lw_J L xs a b S) (g : ∀ j : Nat, 1 ≤ j → j ≤ 5 → ov_ib (v3 + Int32.ofNat j) L) (h : ∀ S2, lw_J L xs a b S2 → ov_V false true d a b mq_Law_law 1192 [some (.inr (.inr (true, 16, 0))), some (.inr (.inr (true, 0, 0))), some (.inr (.inr (true, 14, 0))), some (.inl v3)] [] S2 Q) : ov_V false true d a b mq_Law_law 191 [some (.inr (.inr (true, 16, 0))), some (.inr (.inr (true, 0, 0))), some (.inr (.inr (true, 14, 0))), some (.inl v3)] [] S Q := by
  have eL : S.2.2.2.1 = L := by rw [hJ.2.1]
  refine lw_threeE (by omega) (by rw [eL]; exact g 1 (by omega) (by omega)) (by rw [eL]; exact g 2 (by omega) (by omega)) (lw_2 (s_three (by omega) hJ.1) (fun r S1 k1 q => ?_))
  have eL1 : S1.2.2.2.1 = L := by rw [k1.1, hJ.2.1]
  have eS1 : S1.2.2.2 = S.2.2.2 := k1.1
  refine lw_threeM (by omega) (by rw [eL1]; exact g 1 (by omega) (by omega)) (by rw [eL1]; exact g 2 (by omega) (by omega)) ?_
  rw [eS1]
  refine ov_Vm q (fun r2 S2 w => ?_)
  obtain ⟨⟨x, rfl, rfl, hr⟩, k2⟩ := w
  exact lw_threeQ (h S2 (lw_Jk hJ k1 k2 hr))
theorem lw_fact {d a b : Nat} {S : ov_S} {Q : ov_Q} {v3 : Int32} {L : Nat} {xs : Nat → Int32} (hd : 17 ≤ d) (hJ : lw_J L xs a b S) (g : ∀ j : Nat, 1 ≤ j → j ≤ 5 → ov_ib (v3 + Int32.ofNat j) L) (h : ∀ S2, lw_J L xs a b S2 → ov_V false true d a b mq_Law_law 1192 [some (.inr (.inr (true, 16, 0))), some (.inr (.inr (true, 0, 0))), some (.inr (.inr (true, 14, 0))), some (.inl v3)] [] S2 Q) : ov_V false true d a b mq_Law_law 224 [some (.inr (.inr (true, 16, 0))), some (.inr (.inr (true, 0, 0))), some (.inr (.inr (true, 14, 0))), some (.inl v3)] [] S Q := by
  have eL : S.2.2.2.1 = L := by rw [hJ.2.1]
  refine lw_factE (by omega) (by rw [eL]; exact g 1 (by omega) (by omega)) (by rw [eL]; exact g 2 (by omega) (by omega)) (lw_2 (s_fact (by omega) hJ.1) (fun r S1 k1 q => ?_))
  have eL1 : S1.2.2.2.1 = L := by rw [k1.1, hJ.2.1]
  have eS1 : S1.2.2.2 = S.2.2.2 := k1.1
  refine lw_factM (by omega) (by rw [eL1]; exact g 1 (by omega) (by omega)) (by rw [eL1]; exact g 2 (by omega) (by omega)) ?_
  rw [eS1]
  refine ov_Vm q (fun r2 S2 w => ?_)
  obtain ⟨⟨x, rfl, rfl, hr⟩, k2⟩ := w
  exact lw_factQ (h S2 (lw_Jk hJ k1 k2 hr))
theorem lw_trust {d a b : Nat} {S : ov_S} {Q : ov_Q} {v3 : Int32} {L : Nat} {xs : Nat → Int32} (hd : 17 ≤ d) (hJ : lw_J L xs a b S) (g : ∀ j : Nat, 1 ≤ j → j ≤ 5 → ov_ib (v3 + Int32.ofNat j) L) (h : ∀ S2, lw_J L xs a b S2 → ov_V false true d a b mq_Law_law 1192 [some (.inr (.inr (true, 16, 0))), some (.inr (.inr (true, 0, 0))), some (.inr (.inr (true, 14, 0))), some (.inl v3)] [] S2 Q) : ov_V false true d a b mq_Law_law 273 [some (.inr (.inr (true, 16, 0))), some (.inr (.inr (true, 0, 0))), some (.inr (.inr (true, 14, 0))), some (.inl v3)] [] S Q := by
  have eL : S.2.2.2.1 = L := by rw [hJ.2.1]
  refine lw_trustE (by omega) (by rw [eL]; exact g 1 (by omega) (by omega)) (by rw [eL]; exact g 2 (by omega) (by omega)) (by rw [eL]; exact g 3 (by omega) (by omega)) (lw_2 (s_trust (by omega) hJ.1) (fun r S1 k1 q => ?_))
  have eL1 : S1.2.2.2.1 = L := by rw [k1.1, hJ.2.1]
  have eS1 : S1.2.2.2 = S.2.2.2 := k1.1
  refine lw_trustM (by omega) (by rw [eL1]; exact g 1 (by omega) (by omega)) (by rw [eL1]; exact g 2 (by omega) (by omega)) (by rw [eL1]; exact g 3 (by omega) (by omega)) ?_
  rw [eS1]
  refine ov_Vm q (fun r2 S2 w => ?_)
  obtain ⟨⟨x, rfl, rfl, hr⟩, k2⟩ := w
  exact lw_trustQ (h S2 (lw_Jk hJ k1 k2 hr))
theorem lw_feed {d a b : Nat} {S : ov_S} {Q : ov_Q} {v3 : Int32} {L : Nat} {xs : Nat → Int32} (hd : 17 ≤ d) (hJ : lw_J L xs a b S) (g : ∀ j : Nat, 1 ≤ j → j ≤ 5 → ov_ib (v3 + Int32.ofNat j) L) (h : ∀ S2, lw_J L xs a b S2 → ov_V false true d a b mq_Law_law 1192 [some (.inr (.inr (true, 16, 0))), some (.inr (.inr (true, 0, 0))), some (.inr (.inr (true, 14, 0))), some (.inl v3)] [] S2 Q) : ov_V false true d a b mq_Law_law 332 [some (.inr (.inr (true, 16, 0))), some (.inr (.inr (true, 0, 0))), some (.inr (.inr (true, 14, 0))), some (.inl v3)] [] S Q := by
  have eL : S.2.2.2.1 = L := by rw [hJ.2.1]
  refine lw_feedE (by omega) (by rw [eL]; exact g 1 (by omega) (by omega)) (by rw [eL]; exact g 2 (by omega) (by omega)) (by rw [eL]; exact g 3 (by omega) (by omega)) (by rw [eL]; exact g 4 (by omega) (by omega)) (by rw [eL]; exact g 5 (by omega) (by omega)) (lw_2 (s_feed (by omega) hJ.1) (fun r S1 k1 q => ?_))
  have eL1 : S1.2.2.2.1 = L := by rw [k1.1, hJ.2.1]
  have eS1 : S1.2.2.2 = S.2.2.2 := k1.1
  refine lw_feedM (by omega) (by rw [eL1]; exact g 1 (by omega) (by omega)) (by rw [eL1]; exact g 2 (by omega) (by omega)) (by rw [eL1]; exact g 3 (by omega) (by omega)) (by rw [eL1]; exact g 4 (by omega) (by omega)) (by rw [eL1]; exact g 5 (by omega) (by omega)) ?_
  rw [eS1]
  refine ov_Vm q (fun r2 S2 w => ?_)
  obtain ⟨⟨x, rfl, rfl, hr⟩, k2⟩ := w
  exact lw_feedQ (h S2 (lw_Jk hJ k1 k2 hr))
theorem lw_end {d a b : Nat} {S : ov_S} {Q : ov_Q} {v3 : Int32} {L : Nat} {xs : Nat → Int32} (hd : 17 ≤ d) (hJ : lw_J L xs a b S) (g : ∀ j : Nat, 1 ≤ j → j ≤ 5 → ov_ib (v3 + Int32.ofNat j) L) (h : ∀ S2, lw_J L xs a b S2 → ov_V false true d a b mq_Law_law 1192 [some (.inr (.inr (true, 16, 0))), some (.inr (.inr (true, 0, 0))), some (.inr (.inr (true, 14, 0))), some (.inl v3)] [] S2 Q) : ov_V false true d a b mq_Law_law 395 [some (.inr (.inr (true, 16, 0))), some (.inr (.inr (true, 0, 0))), some (.inr (.inr (true, 14, 0))), some (.inl v3)] [] S Q := by
  have eL : S.2.2.2.1 = L := by rw [hJ.2.1]
  refine lw_endE (by omega) (by rw [eL]; exact g 1 (by omega) (by omega)) (lw_2 (s_end (by omega) hJ.1) (fun r S1 k1 q => ?_))
  have eL1 : S1.2.2.2.1 = L := by rw [k1.1, hJ.2.1]
  have eS1 : S1.2.2.2 = S.2.2.2 := k1.1
  refine lw_endM (by omega) (by rw [eL1]; exact g 1 (by omega) (by omega)) ?_
  rw [eS1]
  refine ov_Vm q (fun r2 S2 w => ?_)
  obtain ⟨⟨x, rfl, rfl, hr⟩, k2⟩ := w
  exact lw_endQ (h S2 (lw_Jk hJ k1 k2 hr))
theorem lw_text {d a b : Nat} {S : ov_S} {Q : ov_Q} {v3 : Int32} {L : Nat} {xs : Nat → Int32} (hd : 17 ≤ d) (hJ : lw_J L xs a b S) (g : ∀ j : Nat, 1 ≤ j → j ≤ 5 → ov_ib (v3 + Int32.ofNat j) L) (h : ∀ S2, lw_J L xs a b S2 → ov_V false true d a b mq_Law_law 1192 [some (.inr (.inr (true, 16, 0))), some (.inr (.inr (true, 0, 0))), some (.inr (.inr (true, 14, 0))), some (.inl v3)] [] S2 Q) : ov_V false true d a b mq_Law_law 418 [some (.inr (.inr (true, 16, 0))), some (.inr (.inr (true, 0, 0))), some (.inr (.inr (true, 14, 0))), some (.inl v3)] [] S Q := by
  have eL : S.2.2.2.1 = L := by rw [hJ.2.1]
  refine lw_textE (by omega) (by rw [eL]; exact g 1 (by omega) (by omega)) (lw_2 (s_text (by omega) hJ.1) (fun r S1 k1 q => ?_))
  have eL1 : S1.2.2.2.1 = L := by rw [k1.1, hJ.2.1]
  have eS1 : S1.2.2.2 = S.2.2.2 := k1.1
  refine lw_textM (by omega) (by rw [eL1]; exact g 1 (by omega) (by omega)) ?_
  rw [eS1]
  refine ov_Vm q (fun r2 S2 w => ?_)
  obtain ⟨⟨x, rfl, rfl, hr⟩, k2⟩ := w
  exact lw_textQ (h S2 (lw_Jk hJ k1 k2 hr))
theorem lw_fault {d a b : Nat} {S : ov_S} {Q : ov_Q} {v3 : Int32} {L : Nat} {xs : Nat → Int32} (hd : 17 ≤ d) (hJ : lw_J L xs a b S) (g : ∀ j : Nat, 1 ≤ j → j ≤ 5 → ov_ib (v3 + Int32.ofNat j) L) (h : ∀ S2, lw_J L xs a b S2 → ov_V false true d a b mq_Law_law 1192 [some (.inr (.inr (true, 16, 0))), some (.inr (.inr (true, 0, 0))), some (.inr (.inr (true, 14, 0))), some (.inl v3)] [] S2 Q) : ov_V false true d a b mq_Law_law 441 [some (.inr (.inr (true, 16, 0))), some (.inr (.inr (true, 0, 0))), some (.inr (.inr (true, 14, 0))), some (.inl v3)] [] S Q := by
  have eL : S.2.2.2.1 = L := by rw [hJ.2.1]
  refine lw_faultE (by omega) (by rw [eL]; exact g 1 (by omega) (by omega)) (lw_2 (s_fault (by omega) hJ.1) (fun r S1 k1 q => ?_))
  have eL1 : S1.2.2.2.1 = L := by rw [k1.1, hJ.2.1]
  have eS1 : S1.2.2.2 = S.2.2.2 := k1.1
  refine lw_faultM (by omega) (by rw [eL1]; exact g 1 (by omega) (by omega)) ?_
  rw [eS1]
  refine ov_Vm q (fun r2 S2 w => ?_)
  obtain ⟨⟨x, rfl, rfl, hr⟩, k2⟩ := w
  exact lw_faultQ (h S2 (lw_Jk hJ k1 k2 hr))
theorem lw_minutes {d a b : Nat} {S : ov_S} {Q : ov_Q} {v3 : Int32} {L : Nat} {xs : Nat → Int32} (hd : 17 ≤ d) (hJ : lw_J L xs a b S) (g : ∀ j : Nat, 1 ≤ j → j ≤ 5 → ov_ib (v3 + Int32.ofNat j) L) (h : ∀ S2, lw_J L xs a b S2 → ov_V false true d a b mq_Law_law 1192 [some (.inr (.inr (true, 16, 0))), some (.inr (.inr (true, 0, 0))), some (.inr (.inr (true, 14, 0))), some (.inl v3)] [] S2 Q) : ov_V false true d a b mq_Law_law 464 [some (.inr (.inr (true, 16, 0))), some (.inr (.inr (true, 0, 0))), some (.inr (.inr (true, 14, 0))), some (.inl v3)] [] S Q := by
  have eL : S.2.2.2.1 = L := by rw [hJ.2.1]
  refine lw_minutesE (by omega) (by rw [eL]; exact g 1 (by omega) (by omega)) (lw_2 (s_minutes (by omega) hJ.1) (fun r S1 k1 q => ?_))
  have eL1 : S1.2.2.2.1 = L := by rw [k1.1, hJ.2.1]
  have eS1 : S1.2.2.2 = S.2.2.2 := k1.1
  refine lw_minutesM (by omega) (by rw [eL1]; exact g 1 (by omega) (by omega)) ?_
  rw [eS1]
  refine ov_Vm q (fun r2 S2 w => ?_)
  obtain ⟨⟨x, rfl, rfl, hr⟩, k2⟩ := w
  exact lw_minutesQ (h S2 (lw_Jk hJ k1 k2 hr))
theorem lw_where {d a b : Nat} {S : ov_S} {Q : ov_Q} {v3 : Int32} {L : Nat} {xs : Nat → Int32} (hd : 17 ≤ d) (hJ : lw_J L xs a b S) (g : ∀ j : Nat, 1 ≤ j → j ≤ 5 → ov_ib (v3 + Int32.ofNat j) L) (h : ∀ S2, lw_J L xs a b S2 → ov_V false true d a b mq_Law_law 1192 [some (.inr (.inr (true, 16, 0))), some (.inr (.inr (true, 0, 0))), some (.inr (.inr (true, 14, 0))), some (.inl v3)] [] S2 Q) : ov_V false true d a b mq_Law_law 487 [some (.inr (.inr (true, 16, 0))), some (.inr (.inr (true, 0, 0))), some (.inr (.inr (true, 14, 0))), some (.inl v3)] [] S Q := by
  have eL : S.2.2.2.1 = L := by rw [hJ.2.1]
  refine lw_whereE (by omega) (by rw [eL]; exact g 1 (by omega) (by omega)) (by rw [eL]; exact g 2 (by omega) (by omega)) (lw_2 (s_where (by omega) hJ.1) (fun r S1 k1 q => ?_))
  have eL1 : S1.2.2.2.1 = L := by rw [k1.1, hJ.2.1]
  have eS1 : S1.2.2.2 = S.2.2.2 := k1.1
  refine lw_whereM (by omega) (by rw [eL1]; exact g 1 (by omega) (by omega)) (by rw [eL1]; exact g 2 (by omega) (by omega)) ?_
  rw [eS1]
  refine ov_Vm q (fun r2 S2 w => ?_)
  obtain ⟨⟨x, rfl, rfl, hr⟩, k2⟩ := w
  exact lw_whereQ (h S2 (lw_Jk hJ k1 k2 hr))
theorem lw_knows {d a b : Nat} {S : ov_S} {Q : ov_Q} {v3 : Int32} {L : Nat} {xs : Nat → Int32} (hd : 17 ≤ d) (hJ : lw_J L xs a b S) (g : ∀ j : Nat, 1 ≤ j → j ≤ 5 → ov_ib (v3 + Int32.ofNat j) L) (h : ∀ S2, lw_J L xs a b S2 → ov_V false true d a b mq_Law_law 1192 [some (.inr (.inr (true, 16, 0))), some (.inr (.inr (true, 0, 0))), some (.inr (.inr (true, 14, 0))), some (.inl v3)] [] S2 Q) : ov_V false true d a b mq_Law_law 520 [some (.inr (.inr (true, 16, 0))), some (.inr (.inr (true, 0, 0))), some (.inr (.inr (true, 14, 0))), some (.inl v3)] [] S Q := by
  have eL : S.2.2.2.1 = L := by rw [hJ.2.1]
  refine lw_knowsE (by omega) (by rw [eL]; exact g 1 (by omega) (by omega)) (by rw [eL]; exact g 2 (by omega) (by omega)) (lw_2 (s_knows (by omega) hJ.1) (fun r S1 k1 q => ?_))
  have eL1 : S1.2.2.2.1 = L := by rw [k1.1, hJ.2.1]
  have eS1 : S1.2.2.2 = S.2.2.2 := k1.1
  refine lw_knowsM (by omega) (by rw [eL1]; exact g 1 (by omega) (by omega)) (by rw [eL1]; exact g 2 (by omega) (by omega)) ?_
  rw [eS1]
  refine ov_Vm q (fun r2 S2 w => ?_)
  obtain ⟨⟨x, rfl, rfl, hr⟩, k2⟩ := w
  exact lw_knowsQ (h S2 (lw_Jk hJ k1 k2 hr))
theorem lw_origin {d a b : Nat} {S : ov_S} {Q : ov_Q} {v3 : Int32} {L : Nat} {xs : Nat → Int32} (hd : 17 ≤ d) (hJ : lw_J L xs a b S) (g : ∀ j : Nat, 1 ≤ j → j ≤ 5 → ov_ib (v3 + Int32.ofNat j) L) (h : ∀ S2, lw_J L xs a b S2 → ov_V false true d a b mq_Law_law 1192 [some (.inr (.inr (true, 16, 0))), some (.inr (.inr (true, 0, 0))), some (.inr (.inr (true, 14, 0))), some (.inl v3)] [] S2 Q) : ov_V false true d a b mq_Law_law 553 [some (.inr (.inr (true, 16, 0))), some (.inr (.inr (true, 0, 0))), some (.inr (.inr (true, 14, 0))), some (.inl v3)] [] S Q := by
  have eL : S.2.2.2.1 = L := by rw [hJ.2.1]
  refine lw_originE (by omega) (by rw [eL]; exact g 1 (by omega) (by omega)) (by rw [eL]; exact g 2 (by omega) (by omega)) (by rw [eL]; exact g 3 (by omega) (by omega)) (lw_2 (s_origin (by omega) hJ.1) (fun r S1 k1 q => ?_))
  have eL1 : S1.2.2.2.1 = L := by rw [k1.1, hJ.2.1]
  have eS1 : S1.2.2.2 = S.2.2.2 := k1.1
  refine lw_originM (by omega) (by rw [eL1]; exact g 1 (by omega) (by omega)) (by rw [eL1]; exact g 2 (by omega) (by omega)) (by rw [eL1]; exact g 3 (by omega) (by omega)) ?_
  rw [eS1]
  refine ov_Vm q (fun r2 S2 w => ?_)
  obtain ⟨⟨x, rfl, rfl, hr⟩, k2⟩ := w
  exact lw_originQ (h S2 (lw_Jk hJ k1 k2 hr))
theorem lw_noise {d a b : Nat} {S : ov_S} {Q : ov_Q} {v3 : Int32} {L : Nat} {xs : Nat → Int32} (hd : 17 ≤ d) (hJ : lw_J L xs a b S) (g : ∀ j : Nat, 1 ≤ j → j ≤ 5 → ov_ib (v3 + Int32.ofNat j) L) (h : ∀ S2, lw_J L xs a b S2 → ov_V false true d a b mq_Law_law 1192 [some (.inr (.inr (true, 16, 0))), some (.inr (.inr (true, 0, 0))), some (.inr (.inr (true, 14, 0))), some (.inl v3)] [] S2 Q) : ov_V false true d a b mq_Law_law 596 [some (.inr (.inr (true, 16, 0))), some (.inr (.inr (true, 0, 0))), some (.inr (.inr (true, 14, 0))), some (.inl v3)] [] S Q := by
  have eL : S.2.2.2.1 = L := by rw [hJ.2.1]
  refine lw_noiseE (by omega) (by rw [eL]; exact g 1 (by omega) (by omega)) (lw_2 (s_noise (by omega) hJ.1) (fun r S1 k1 q => ?_))
  have eL1 : S1.2.2.2.1 = L := by rw [k1.1, hJ.2.1]
  have eS1 : S1.2.2.2 = S.2.2.2 := k1.1
  refine lw_noiseM (by omega) (by rw [eL1]; exact g 1 (by omega) (by omega)) ?_
  rw [eS1]
  refine ov_Vm q (fun r2 S2 w => ?_)
  obtain ⟨⟨x, rfl, rfl, hr⟩, k2⟩ := w
  exact lw_noiseQ (h S2 (lw_Jk hJ k1 k2 hr))
theorem lw_heard {d a b : Nat} {S : ov_S} {Q : ov_Q} {v3 : Int32} {L : Nat} {xs : Nat → Int32} (hd : 17 ≤ d) (hJ : lw_J L xs a b S) (g : ∀ j : Nat, 1 ≤ j → j ≤ 5 → ov_ib (v3 + Int32.ofNat j) L) (h : ∀ S2, lw_J L xs a b S2 → ov_V false true d a b mq_Law_law 1192 [some (.inr (.inr (true, 16, 0))), some (.inr (.inr (true, 0, 0))), some (.inr (.inr (true, 14, 0))), some (.inl v3)] [] S2 Q) : ov_V false true d a b mq_Law_law 619 [some (.inr (.inr (true, 16, 0))), some (.inr (.inr (true, 0, 0))), some (.inr (.inr (true, 14, 0))), some (.inl v3)] [] S Q := by
  have eL : S.2.2.2.1 = L := by rw [hJ.2.1]
  refine lw_heardE (by omega) (by rw [eL]; exact g 1 (by omega) (by omega)) (lw_2 (s_heard (by omega) hJ.1) (fun r S1 k1 q => ?_))
  have eL1 : S1.2.2.2.1 = L := by rw [k1.1, hJ.2.1]
  have eS1 : S1.2.2.2 = S.2.2.2 := k1.1
  refine lw_heardM (by omega) (by rw [eL1]; exact g 1 (by omega) (by omega)) ?_
  rw [eS1]
  refine ov_Vm q (fun r2 S2 w => ?_)
  obtain ⟨⟨x, rfl, rfl, hr⟩, k2⟩ := w
  exact lw_heardQ (h S2 (lw_Jk hJ k1 k2 hr))
theorem lw_held {d a b : Nat} {S : ov_S} {Q : ov_Q} {v3 : Int32} {L : Nat} {xs : Nat → Int32} (hd : 17 ≤ d) (hJ : lw_J L xs a b S) (g : ∀ j : Nat, 1 ≤ j → j ≤ 5 → ov_ib (v3 + Int32.ofNat j) L) (h : ∀ S2, lw_J L xs a b S2 → ov_V false true d a b mq_Law_law 1192 [some (.inr (.inr (true, 16, 0))), some (.inr (.inr (true, 0, 0))), some (.inr (.inr (true, 14, 0))), some (.inl v3)] [] S2 Q) : ov_V false true d a b mq_Law_law 642 [some (.inr (.inr (true, 16, 0))), some (.inr (.inr (true, 0, 0))), some (.inr (.inr (true, 14, 0))), some (.inl v3)] [] S Q := by
  have eL : S.2.2.2.1 = L := by rw [hJ.2.1]
  refine lw_heldE (by omega) (by rw [eL]; exact g 1 (by omega) (by omega)) (by rw [eL]; exact g 2 (by omega) (by omega)) (lw_2 (s_held (by omega) hJ.1) (fun r S1 k1 q => ?_))
  have eL1 : S1.2.2.2.1 = L := by rw [k1.1, hJ.2.1]
  have eS1 : S1.2.2.2 = S.2.2.2 := k1.1
  refine lw_heldM (by omega) (by rw [eL1]; exact g 1 (by omega) (by omega)) (by rw [eL1]; exact g 2 (by omega) (by omega)) ?_
  rw [eS1]
  refine ov_Vm q (fun r2 S2 w => ?_)
  obtain ⟨⟨x, rfl, rfl, hr⟩, k2⟩ := w
  exact lw_heldQ (h S2 (lw_Jk hJ k1 k2 hr))
theorem lw_of {d a b : Nat} {S : ov_S} {Q : ov_Q} {v3 : Int32} {L : Nat} {xs : Nat → Int32} (hd : 17 ≤ d) (hJ : lw_J L xs a b S) (g : ∀ j : Nat, 1 ≤ j → j ≤ 5 → ov_ib (v3 + Int32.ofNat j) L) (h : ∀ S2, lw_J L xs a b S2 → ov_V false true d a b mq_Law_law 1192 [some (.inr (.inr (true, 16, 0))), some (.inr (.inr (true, 0, 0))), some (.inr (.inr (true, 14, 0))), some (.inl v3)] [] S2 Q) : ov_V false true d a b mq_Law_law 675 [some (.inr (.inr (true, 16, 0))), some (.inr (.inr (true, 0, 0))), some (.inr (.inr (true, 14, 0))), some (.inl v3)] [] S Q := by
  have eL : S.2.2.2.1 = L := by rw [hJ.2.1]
  refine lw_ofE (by omega) (by rw [eL]; exact g 1 (by omega) (by omega)) (by rw [eL]; exact g 2 (by omega) (by omega)) (lw_2 (s_of (by omega) hJ.1) (fun r S1 k1 q => ?_))
  have eL1 : S1.2.2.2.1 = L := by rw [k1.1, hJ.2.1]
  have eS1 : S1.2.2.2 = S.2.2.2 := k1.1
  refine lw_ofM (by omega) (by rw [eL1]; exact g 1 (by omega) (by omega)) (by rw [eL1]; exact g 2 (by omega) (by omega)) ?_
  rw [eS1]
  refine ov_Vm q (fun r2 S2 w => ?_)
  obtain ⟨⟨x, rfl, rfl, hr⟩, k2⟩ := w
  exact lw_ofQ (h S2 (lw_Jk hJ k1 k2 hr))
theorem lw_book {d a b : Nat} {S : ov_S} {Q : ov_Q} {v3 : Int32} {L : Nat} {xs : Nat → Int32} (hd : 17 ≤ d) (hJ : lw_J L xs a b S) (g : ∀ j : Nat, 1 ≤ j → j ≤ 5 → ov_ib (v3 + Int32.ofNat j) L) (h : ∀ S2, lw_J L xs a b S2 → ov_V false true d a b mq_Law_law 1192 [some (.inr (.inr (true, 16, 0))), some (.inr (.inr (true, 0, 0))), some (.inr (.inr (true, 14, 0))), some (.inl v3)] [] S2 Q) : ov_V false true d a b mq_Law_law 708 [some (.inr (.inr (true, 16, 0))), some (.inr (.inr (true, 0, 0))), some (.inr (.inr (true, 14, 0))), some (.inl v3)] [] S Q := by
  have eL : S.2.2.2.1 = L := by rw [hJ.2.1]
  refine lw_bookE (by omega) (by rw [eL]; exact g 1 (by omega) (by omega)) (by rw [eL]; exact g 2 (by omega) (by omega)) (lw_2 (s_book (by omega) hJ.1) (fun r S1 k1 q => ?_))
  have eL1 : S1.2.2.2.1 = L := by rw [k1.1, hJ.2.1]
  have eS1 : S1.2.2.2 = S.2.2.2 := k1.1
  refine lw_bookM (by omega) (by rw [eL1]; exact g 1 (by omega) (by omega)) (by rw [eL1]; exact g 2 (by omega) (by omega)) ?_
  rw [eS1]
  refine ov_Vm q (fun r2 S2 w => ?_)
  obtain ⟨⟨x, rfl, rfl, hr⟩, k2⟩ := w
  exact lw_bookQ (h S2 (lw_Jk hJ k1 k2 hr))
theorem lw_errand {d a b : Nat} {S : ov_S} {Q : ov_Q} {v3 : Int32} {L : Nat} {xs : Nat → Int32} (hd : 17 ≤ d) (hJ : lw_J L xs a b S) (g : ∀ j : Nat, 1 ≤ j → j ≤ 5 → ov_ib (v3 + Int32.ofNat j) L) (h : ∀ S2, lw_J L xs a b S2 → ov_V false true d a b mq_Law_law 1192 [some (.inr (.inr (true, 16, 0))), some (.inr (.inr (true, 0, 0))), some (.inr (.inr (true, 14, 0))), some (.inl v3)] [] S2 Q) : ov_V false true d a b mq_Law_law 741 [some (.inr (.inr (true, 16, 0))), some (.inr (.inr (true, 0, 0))), some (.inr (.inr (true, 14, 0))), some (.inl v3)] [] S Q := by
  have eL : S.2.2.2.1 = L := by rw [hJ.2.1]
  refine lw_errandE (by omega) (by rw [eL]; exact g 1 (by omega) (by omega)) (by rw [eL]; exact g 2 (by omega) (by omega)) (by rw [eL]; exact g 3 (by omega) (by omega)) (by rw [eL]; exact g 4 (by omega) (by omega)) (lw_2 (s_errand (by omega) hJ.1) (fun r S1 k1 q => ?_))
  have eL1 : S1.2.2.2.1 = L := by rw [k1.1, hJ.2.1]
  have eS1 : S1.2.2.2 = S.2.2.2 := k1.1
  refine lw_errandM (by omega) (by rw [eL1]; exact g 1 (by omega) (by omega)) (by rw [eL1]; exact g 2 (by omega) (by omega)) (by rw [eL1]; exact g 3 (by omega) (by omega)) (by rw [eL1]; exact g 4 (by omega) (by omega)) ?_
  rw [eS1]
  refine ov_Vm q (fun r2 S2 w => ?_)
  obtain ⟨⟨x, rfl, rfl, hr⟩, k2⟩ := w
  exact lw_errandQ (h S2 (lw_Jk hJ k1 k2 hr))
theorem lw_talk {d a b : Nat} {S : ov_S} {Q : ov_Q} {v3 : Int32} {L : Nat} {xs : Nat → Int32} (hd : 17 ≤ d) (hJ : lw_J L xs a b S) (g : ∀ j : Nat, 1 ≤ j → j ≤ 5 → ov_ib (v3 + Int32.ofNat j) L) (h : ∀ S2, lw_J L xs a b S2 → ov_V false true d a b mq_Law_law 1192 [some (.inr (.inr (true, 16, 0))), some (.inr (.inr (true, 0, 0))), some (.inr (.inr (true, 14, 0))), some (.inl v3)] [] S2 Q) : ov_V false true d a b mq_Law_law 794 [some (.inr (.inr (true, 16, 0))), some (.inr (.inr (true, 0, 0))), some (.inr (.inr (true, 14, 0))), some (.inl v3)] [] S Q := by
  have eL : S.2.2.2.1 = L := by rw [hJ.2.1]
  refine lw_talkE (by omega) (by rw [eL]; exact g 1 (by omega) (by omega)) (by rw [eL]; exact g 2 (by omega) (by omega)) (by rw [eL]; exact g 3 (by omega) (by omega)) (lw_2 (s_talk (by omega) hJ.1) (fun r S1 k1 q => ?_))
  have eL1 : S1.2.2.2.1 = L := by rw [k1.1, hJ.2.1]
  have eS1 : S1.2.2.2 = S.2.2.2 := k1.1
  refine lw_talkM (by omega) (by rw [eL1]; exact g 1 (by omega) (by omega)) (by rw [eL1]; exact g 2 (by omega) (by omega)) (by rw [eL1]; exact g 3 (by omega) (by omega)) ?_
  rw [eS1]
  refine ov_Vm q (fun r2 S2 w => ?_)
  obtain ⟨⟨x, rfl, rfl, hr⟩, k2⟩ := w
  exact lw_talkQ (h S2 (lw_Jk hJ k1 k2 hr))
theorem lw_danger {d a b : Nat} {S : ov_S} {Q : ov_Q} {v3 : Int32} {L : Nat} {xs : Nat → Int32} (hd : 17 ≤ d) (hJ : lw_J L xs a b S) (g : ∀ j : Nat, 1 ≤ j → j ≤ 5 → ov_ib (v3 + Int32.ofNat j) L) (h : ∀ S2, lw_J L xs a b S2 → ov_V false true d a b mq_Law_law 1192 [some (.inr (.inr (true, 16, 0))), some (.inr (.inr (true, 0, 0))), some (.inr (.inr (true, 14, 0))), some (.inl v3)] [] S2 Q) : ov_V false true d a b mq_Law_law 837 [some (.inr (.inr (true, 16, 0))), some (.inr (.inr (true, 0, 0))), some (.inr (.inr (true, 14, 0))), some (.inl v3)] [] S Q := by
  have eL : S.2.2.2.1 = L := by rw [hJ.2.1]
  refine lw_dangerE (by omega) (by rw [eL]; exact g 1 (by omega) (by omega)) (by rw [eL]; exact g 2 (by omega) (by omega)) (by rw [eL]; exact g 3 (by omega) (by omega)) (by rw [eL]; exact g 4 (by omega) (by omega)) (lw_2 (s_danger (by omega) hJ.1) (fun r S1 k1 q => ?_))
  have eL1 : S1.2.2.2.1 = L := by rw [k1.1, hJ.2.1]
  have eS1 : S1.2.2.2 = S.2.2.2 := k1.1
  refine lw_dangerM (by omega) (by rw [eL1]; exact g 1 (by omega) (by omega)) (by rw [eL1]; exact g 2 (by omega) (by omega)) (by rw [eL1]; exact g 3 (by omega) (by omega)) (by rw [eL1]; exact g 4 (by omega) (by omega)) ?_
  rw [eS1]
  refine ov_Vm q (fun r2 S2 w => ?_)
  obtain ⟨⟨x, rfl, rfl, hr⟩, k2⟩ := w
  exact lw_dangerQ (h S2 (lw_Jk hJ k1 k2 hr))
theorem lw_way {d a b : Nat} {S : ov_S} {Q : ov_Q} {v3 : Int32} {L : Nat} {xs : Nat → Int32} (hd : 17 ≤ d) (hJ : lw_J L xs a b S) (g : ∀ j : Nat, 1 ≤ j → j ≤ 5 → ov_ib (v3 + Int32.ofNat j) L) (h : ∀ S2, lw_J L xs a b S2 → ov_V false true d a b mq_Law_law 1192 [some (.inr (.inr (true, 16, 0))), some (.inr (.inr (true, 0, 0))), some (.inr (.inr (true, 14, 0))), some (.inl v3)] [] S2 Q) : ov_V false true d a b mq_Law_law 890 [some (.inr (.inr (true, 16, 0))), some (.inr (.inr (true, 0, 0))), some (.inr (.inr (true, 14, 0))), some (.inl v3)] [] S Q := by
  have eL : S.2.2.2.1 = L := by rw [hJ.2.1]
  refine lw_wayE (by omega) (by rw [eL]; exact g 1 (by omega) (by omega)) (by rw [eL]; exact g 2 (by omega) (by omega)) (by rw [eL]; exact g 3 (by omega) (by omega)) (lw_2 (s_way (by omega) hJ.1) (fun r S1 k1 q => ?_))
  have eL1 : S1.2.2.2.1 = L := by rw [k1.1, hJ.2.1]
  have eS1 : S1.2.2.2 = S.2.2.2 := k1.1
  refine lw_wayM (by omega) (by rw [eL1]; exact g 1 (by omega) (by omega)) (by rw [eL1]; exact g 2 (by omega) (by omega)) (by rw [eL1]; exact g 3 (by omega) (by omega)) ?_
  rw [eS1]
  refine ov_Vm q (fun r2 S2 w => ?_)
  obtain ⟨⟨x, rfl, rfl, hr⟩, k2⟩ := w
  exact lw_wayQ (h S2 (lw_Jk hJ k1 k2 hr))
theorem lw_spot {d a b : Nat} {S : ov_S} {Q : ov_Q} {v3 : Int32} {L : Nat} {xs : Nat → Int32} (hd : 17 ≤ d) (hJ : lw_J L xs a b S) (g : ∀ j : Nat, 1 ≤ j → j ≤ 5 → ov_ib (v3 + Int32.ofNat j) L) (h : ∀ S2, lw_J L xs a b S2 → ov_V false true d a b mq_Law_law 1192 [some (.inr (.inr (true, 16, 0))), some (.inr (.inr (true, 0, 0))), some (.inr (.inr (true, 14, 0))), some (.inl v3)] [] S2 Q) : ov_V false true d a b mq_Law_law 933 [some (.inr (.inr (true, 16, 0))), some (.inr (.inr (true, 0, 0))), some (.inr (.inr (true, 14, 0))), some (.inl v3)] [] S Q := by
  have eL : S.2.2.2.1 = L := by rw [hJ.2.1]
  refine lw_spotE (by omega) (by rw [eL]; exact g 1 (by omega) (by omega)) (by rw [eL]; exact g 2 (by omega) (by omega)) (by rw [eL]; exact g 3 (by omega) (by omega)) (lw_2 (s_spot (by omega) hJ.1) (fun r S1 k1 q => ?_))
  have eL1 : S1.2.2.2.1 = L := by rw [k1.1, hJ.2.1]
  have eS1 : S1.2.2.2 = S.2.2.2 := k1.1
  refine lw_spotM (by omega) (by rw [eL1]; exact g 1 (by omega) (by omega)) (by rw [eL1]; exact g 2 (by omega) (by omega)) (by rw [eL1]; exact g 3 (by omega) (by omega)) ?_
  rw [eS1]
  refine ov_Vm q (fun r2 S2 w => ?_)
  obtain ⟨⟨x, rfl, rfl, hr⟩, k2⟩ := w
  exact lw_spotQ (h S2 (lw_Jk hJ k1 k2 hr))
theorem lw_felt {d a b : Nat} {S : ov_S} {Q : ov_Q} {v3 : Int32} {L : Nat} {xs : Nat → Int32} (hd : 17 ≤ d) (hJ : lw_J L xs a b S) (g : ∀ j : Nat, 1 ≤ j → j ≤ 5 → ov_ib (v3 + Int32.ofNat j) L) (h : ∀ S2, lw_J L xs a b S2 → ov_V false true d a b mq_Law_law 1192 [some (.inr (.inr (true, 16, 0))), some (.inr (.inr (true, 0, 0))), some (.inr (.inr (true, 14, 0))), some (.inl v3)] [] S2 Q) : ov_V false true d a b mq_Law_law 976 [some (.inr (.inr (true, 16, 0))), some (.inr (.inr (true, 0, 0))), some (.inr (.inr (true, 14, 0))), some (.inl v3)] [] S Q := by
  have eL : S.2.2.2.1 = L := by rw [hJ.2.1]
  refine lw_feltE (by omega) (lw_2 (s_felt (by omega) hJ.1) (fun r S1 k1 q => ?_))
  have eL1 : S1.2.2.2.1 = L := by rw [k1.1, hJ.2.1]
  have eS1 : S1.2.2.2 = S.2.2.2 := k1.1
  refine lw_feltM (by omega) ?_
  refine ov_Vm q (fun r2 S2 w => ?_)
  obtain ⟨⟨x, rfl, rfl, hr⟩, k2⟩ := w
  exact lw_feltQ (h S2 (lw_Jk hJ k1 k2 hr))
theorem lw_liars {d a b : Nat} {S : ov_S} {Q : ov_Q} {v3 : Int32} {L : Nat} {xs : Nat → Int32} (hd : 17 ≤ d) (hJ : lw_J L xs a b S) (g : ∀ j : Nat, 1 ≤ j → j ≤ 5 → ov_ib (v3 + Int32.ofNat j) L) (h : ∀ S2, lw_J L xs a b S2 → ov_V false true d a b mq_Law_law 1192 [some (.inr (.inr (true, 16, 0))), some (.inr (.inr (true, 0, 0))), some (.inr (.inr (true, 14, 0))), some (.inl v3)] [] S2 Q) : ov_V false true d a b mq_Law_law 989 [some (.inr (.inr (true, 16, 0))), some (.inr (.inr (true, 0, 0))), some (.inr (.inr (true, 14, 0))), some (.inl v3)] [] S Q := by
  have eL : S.2.2.2.1 = L := by rw [hJ.2.1]
  refine lw_liarsE (by omega) (lw_2 (s_liars (by omega) hJ.1) (fun r S1 k1 q => ?_))
  have eL1 : S1.2.2.2.1 = L := by rw [k1.1, hJ.2.1]
  have eS1 : S1.2.2.2 = S.2.2.2 := k1.1
  refine lw_liarsM (by omega) ?_
  refine ov_Vm q (fun r2 S2 w => ?_)
  obtain ⟨⟨x, rfl, rfl, hr⟩, k2⟩ := w
  exact lw_liarsQ (h S2 (lw_Jk hJ k1 k2 hr))
theorem lw_watch {d a b : Nat} {S : ov_S} {Q : ov_Q} {v3 : Int32} {L : Nat} {xs : Nat → Int32} (hd : 17 ≤ d) (hJ : lw_J L xs a b S) (g : ∀ j : Nat, 1 ≤ j → j ≤ 5 → ov_ib (v3 + Int32.ofNat j) L) (h : ∀ S2, lw_J L xs a b S2 → ov_V false true d a b mq_Law_law 1192 [some (.inr (.inr (true, 16, 0))), some (.inr (.inr (true, 0, 0))), some (.inr (.inr (true, 14, 0))), some (.inl v3)] [] S2 Q) : ov_V false true d a b mq_Law_law 1002 [some (.inr (.inr (true, 16, 0))), some (.inr (.inr (true, 0, 0))), some (.inr (.inr (true, 14, 0))), some (.inl v3)] [] S Q := by
  have eL : S.2.2.2.1 = L := by rw [hJ.2.1]
  refine lw_watchE (by omega) (by rw [eL]; exact g 1 (by omega) (by omega)) (lw_2 (s_watch (by omega) hJ.1) (fun r S1 k1 q => ?_))
  have eL1 : S1.2.2.2.1 = L := by rw [k1.1, hJ.2.1]
  have eS1 : S1.2.2.2 = S.2.2.2 := k1.1
  refine lw_watchM (by omega) (by rw [eL1]; exact g 1 (by omega) (by omega)) ?_
  rw [eS1]
  refine ov_Vm q (fun r2 S2 w => ?_)
  obtain ⟨⟨x, rfl, rfl, hr⟩, k2⟩ := w
  exact lw_watchQ (h S2 (lw_Jk hJ k1 k2 hr))
theorem lw_watches {d a b : Nat} {S : ov_S} {Q : ov_Q} {v3 : Int32} {L : Nat} {xs : Nat → Int32} (hd : 17 ≤ d) (hJ : lw_J L xs a b S) (g : ∀ j : Nat, 1 ≤ j → j ≤ 5 → ov_ib (v3 + Int32.ofNat j) L) (h : ∀ S2, lw_J L xs a b S2 → ov_V false true d a b mq_Law_law 1192 [some (.inr (.inr (true, 16, 0))), some (.inr (.inr (true, 0, 0))), some (.inr (.inr (true, 14, 0))), some (.inl v3)] [] S2 Q) : ov_V false true d a b mq_Law_law 1025 [some (.inr (.inr (true, 16, 0))), some (.inr (.inr (true, 0, 0))), some (.inr (.inr (true, 14, 0))), some (.inl v3)] [] S Q := by
  have eL : S.2.2.2.1 = L := by rw [hJ.2.1]
  refine lw_watchesE (by omega) (by rw [eL]; exact g 1 (by omega) (by omega)) (lw_2 (s_watches (by omega) hJ.1) (fun r S1 k1 q => ?_))
  have eL1 : S1.2.2.2.1 = L := by rw [k1.1, hJ.2.1]
  have eS1 : S1.2.2.2 = S.2.2.2 := k1.1
  refine lw_watchesM (by omega) (by rw [eL1]; exact g 1 (by omega) (by omega)) ?_
  rw [eS1]
  refine ov_Vm q (fun r2 S2 w => ?_)
  obtain ⟨⟨x, rfl, rfl, hr⟩, k2⟩ := w
  exact lw_watchesQ (h S2 (lw_Jk hJ k1 k2 hr))
theorem lw_lends {d a b : Nat} {S : ov_S} {Q : ov_Q} {v3 : Int32} {L : Nat} {xs : Nat → Int32} (hd : 17 ≤ d) (hJ : lw_J L xs a b S) (g : ∀ j : Nat, 1 ≤ j → j ≤ 5 → ov_ib (v3 + Int32.ofNat j) L) (h : ∀ S2, lw_J L xs a b S2 → ov_V false true d a b mq_Law_law 1192 [some (.inr (.inr (true, 16, 0))), some (.inr (.inr (true, 0, 0))), some (.inr (.inr (true, 14, 0))), some (.inl v3)] [] S2 Q) : ov_V false true d a b mq_Law_law 1048 [some (.inr (.inr (true, 16, 0))), some (.inr (.inr (true, 0, 0))), some (.inr (.inr (true, 14, 0))), some (.inl v3)] [] S Q := by
  have eL : S.2.2.2.1 = L := by rw [hJ.2.1]
  refine lw_lendsE (by omega) (by rw [eL]; exact g 1 (by omega) (by omega)) (by rw [eL]; exact g 2 (by omega) (by omega)) (by rw [eL]; exact g 3 (by omega) (by omega)) (by rw [eL]; exact g 4 (by omega) (by omega)) (lw_2 (s_lends (by omega) hJ.1) (fun r S1 k1 q => ?_))
  have eL1 : S1.2.2.2.1 = L := by rw [k1.1, hJ.2.1]
  have eS1 : S1.2.2.2 = S.2.2.2 := k1.1
  refine lw_lendsM (by omega) (by rw [eL1]; exact g 1 (by omega) (by omega)) (by rw [eL1]; exact g 2 (by omega) (by omega)) (by rw [eL1]; exact g 3 (by omega) (by omega)) (by rw [eL1]; exact g 4 (by omega) (by omega)) ?_
  rw [eS1]
  refine ov_Vm q (fun r2 S2 w => ?_)
  obtain ⟨⟨x, rfl, rfl, hr⟩, k2⟩ := w
  exact lw_lendsQ (h S2 (lw_Jk hJ k1 k2 hr))
theorem lw_ring {d a b : Nat} {S : ov_S} {Q : ov_Q} {v3 : Int32} {L : Nat} {xs : Nat → Int32} (hd : 17 ≤ d) (hJ : lw_J L xs a b S) (g : ∀ j : Nat, 1 ≤ j → j ≤ 5 → ov_ib (v3 + Int32.ofNat j) L) (h : ∀ S2, lw_J L xs a b S2 → ov_V false true d a b mq_Law_law 1192 [some (.inr (.inr (true, 16, 0))), some (.inr (.inr (true, 0, 0))), some (.inr (.inr (true, 14, 0))), some (.inl v3)] [] S2 Q) : ov_V false true d a b mq_Law_law 1117 [some (.inr (.inr (true, 16, 0))), some (.inr (.inr (true, 0, 0))), some (.inr (.inr (true, 14, 0))), some (.inl v3)] [] S Q := by
  have eL : S.2.2.2.1 = L := by rw [hJ.2.1]
  refine lw_ringE (by omega) (lw_2 (s_ring (by omega) hJ.1) (fun r S1 k1 q => ?_))
  have eL1 : S1.2.2.2.1 = L := by rw [k1.1, hJ.2.1]
  have eS1 : S1.2.2.2 = S.2.2.2 := k1.1
  refine lw_ringM (by omega) ?_
  refine ov_Vm q (fun r2 S2 w => ?_)
  obtain ⟨⟨x, rfl, rfl, hr⟩, k2⟩ := w
  exact lw_ringQ (h S2 (lw_Jk hJ k1 k2 hr))
theorem lw_look {d a b : Nat} {S : ov_S} {Q : ov_Q} {v3 : Int32} {L : Nat} {xs : Nat → Int32} (hd : 17 ≤ d) (hJ : lw_J L xs a b S) (g : ∀ j : Nat, 1 ≤ j → j ≤ 5 → ov_ib (v3 + Int32.ofNat j) L) (h : ∀ S2, lw_J L xs a b S2 → ov_V false true d a b mq_Law_law 1192 [some (.inr (.inr (true, 16, 0))), some (.inr (.inr (true, 0, 0))), some (.inr (.inr (true, 14, 0))), some (.inl v3)] [] S2 Q) : ov_V false true d a b mq_Law_law 1169 [some (.inr (.inr (true, 16, 0))), some (.inr (.inr (true, 0, 0))), some (.inr (.inr (true, 14, 0))), some (.inl v3)] [] S Q := by
  have eL : S.2.2.2.1 = L := by rw [hJ.2.1]
  refine lw_lookE (by omega) (by rw [eL]; exact g 1 (by omega) (by omega)) (lw_2 (s_look (by omega) hJ.1) (fun r S1 k1 q => ?_))
  have eL1 : S1.2.2.2.1 = L := by rw [k1.1, hJ.2.1]
  have eS1 : S1.2.2.2 = S.2.2.2 := k1.1
  refine lw_lookM (by omega) (by rw [eL1]; exact g 1 (by omega) (by omega)) ?_
  rw [eS1]
  refine ov_Vm q (fun r2 S2 w => ?_)
  obtain ⟨⟨x, rfl, rfl, hr⟩, k2⟩ := w
  exact lw_lookQ (h S2 (lw_Jk hJ k1 k2 hr))
