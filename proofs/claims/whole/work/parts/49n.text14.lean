/-! ===== TEXT ===== -/
theorem xe_t {S S1 S2 : ov_S} (h1 : xe S S1) (h2 : xe S1 S2) : xe S S2 := ⟨h2.1.trans h1.1, fun r i j h => (h2.2 r i j h).trans (h1.2 r i j h)⟩
theorem s_text {d : Nat} {S : ov_S} {v1 : Int32} (hd : 14 ≤ d) (h : rl_S S) : rl_2 d mq_Eye_text mq_Mod_text [some (.inr (.inr (true, 0, 0))), some (.inl v1), none] [some (.inr (.inr (true, 14, 0))), some (.inl v1), none, none] S := by
  unfold rl_2
  obtain ⟨c, m, lb, nz, wc, hw, ho, hi⟩ := id h
  obtain ⟨L, hL, eL1, eL2⟩ := ho.1
  have hc := hw.1
  have ex : ∃ f : Nat → Nat, (∀ j, f j < 256) ∧ ∀ j, j < 400 → S.1 84 0 j = nI (f j) := by
    refine ⟨fun j => if j < 400 then ov_ix (S.1 84 0 j) else 0, fun j => ?_, fun j hj => ?_⟩
    · show (if j < 400 then ov_ix (S.1 84 0 j) else 0) < 256
      by_cases q : j < 400
      · rw [if_pos q]
        obtain ⟨v, hv, ev⟩ := (ho.2.1 j q).2
        rw [ev, zz_ix (by omega)]
        exact hv
      · rw [if_neg q]
        decide
    · show S.1 84 0 j = nI (if j < 400 then ov_ix (S.1 84 0 j) else 0)
      rw [if_pos hj]
      obtain ⟨v, hv, ev⟩ := (ho.2.1 j hj).2
      rw [ev, zz_ix (by omega)]
  obtain ⟨f, hf, hf84⟩ := ex
  have hE : xE f L S := ⟨eL1, fun j hj => (ho.2.1 j (by omega)).1.trans (hf84 j (by omega))⟩
  have hM : xM f L S := ⟨eL2, fun j hj => hf84 j (by omega), ho.2.2.2.2.2⟩
  have eg : ov_g S 1 0 2 = nI c := hc.2.1
  refine r_Eye_text_0 (by omega) ⟨fun q => ?_, fun q => ?_⟩
  · rw [eg] at q
    obtain ⟨t, ht, rfl⟩ := (zz_tc hc.1).1 q
    have ht4 : t < 4 := by have := hc.1; omega
    have et : 4 * 0 + ov_ix (nI t) = t := by rw [zz_ix (by omega)]; omega
    rw [et]
    refine ⟨by rw [zz_ix (n := t) (by omega)]; exact ho.2.2.2.1 t ht4, tx_tape (by omega) hf hL hE (fun N S' hN h12 hB => r_Eye_text_16 (by omega) ?_)⟩
    have hxe1 : xe S (ov_w S' 9 0 1 0) := xe_w (xe_c xe_r hB.1) (by unfold xe_p; omega)
    rw [show ov_g (ov_w S' 9 0 1 0) 1 0 2 = nI c from (hxe1.2 1 0 2 (by unfold xe_p; omega)).trans hc.2.1]
    have hH : xgH (tx_C f L) (tx_V f L) N := ⟨hN, h12, tx_C13, fun i => tx_V_b⟩
    have h0 : (ov_w (ov_w S' 9 0 1 0) 8 8 4 0).1 9 0 9 = nI (xN c (tx_C f L) (tx_V f L) 0) := hB.2.2.2.2.2
    refine r_Reader_readPlan_0 (x_plan (A := tx_A f L) (S0 := ov_w S' 9 0 1 0) (by omega) (by omega) hc.1 hH (fun n S2 hx hn12 hP => ?_) (fun n kd idx S2 hx hx' hF => ?_) 30 0 _ rfl ⟨xc_w xc_r rfl, ⟨hB.2.2.1.1, fun i hi => hB.2.2.1.2 i (by omega)⟩, hB.2.2.2.1, hB.2.2.2.2.1, ⟨h0, Nat.zero_le _⟩, ⟨rfl, by decide⟩, fun i hi => absurd hi (by omega)⟩)
    · refine r_Eye_text_34 (by omega) ⟨fun _ => x_fol (by omega) (fun F1 hF1 => r_Eye_text_50 ?_), fun z => absurd z (by decide)⟩
      have hxe2 : xe S S2 := xe_c hxe1 hP.1
      obtain ⟨p1, p2, p3, p4, p5, p6, p7⟩ := hP
      obtain ⟨q1, q2, q3, q4, q5, q6⟩ := hF1
      have hMF : xM f L F1 := ⟨(q6 14 0 34 (by omega) (by omega)).trans ((p1.2 14 0 34 rfl).trans ((hB.1.2 14 0 34 rfl).trans eL2)), fun j hj => (q6 84 0 j (by omega) (by omega)).trans ((p1.2 84 0 j rfl).trans ((hB.1.2 84 0 j rfl).trans (hM.2.1 j hj))), fun k hk => (q6 83 0 k (by omega) (by omega)).trans ((p1.2 83 0 k rfl).trans ((hB.1.2 83 0 k rfl).trans (hM.2.2 k hk)))⟩
      have e2F : F1.1 14 0 2 = nI c := (q6 14 0 2 (by omega) (by omega)).trans ((hxe2.2 14 0 2 (by unfold xe_p; omega)).trans hc.2.2)
      refine m_text (c := c) (f := f) (L := L) (by omega) hc.1 ht hf hL hMF e2F (fun n2 B F hx2 hn22 hxe hb9 hb34 hb41 hb42 hbs hfm => ?_) (fun n2 kd idx F hx2 hx2' _ _ _ _ _ => absurd hn12 ?_)
      · have en : n = n2 := x_same hx hx2 (.inl hn12) (.inl hn22)
        rw [← en] at hbs hfm
        have hn := hx.1
        obtain ⟨f1, f2, f3, f4, f5, f6⟩ := hfm
        have hxd : xd t S F := ⟨f1.trans (hxe.1.trans (q1.trans hxe2.1)), fun r i j hk => (f6 r i j (by unfold xd_p at hk; omega) (by unfold xd_p at hk; omega)).trans ((hxe.2 r i j (by unfold xe_p; unfold xd_p at hk; omega)).trans ((q6 r i j (by unfold xd_p at hk; omega) (by unfold xd_p at hk; omega)).trans (hxe2.2 r i j (by unfold xe_p; unfold xd_p at hk; omega))))⟩
        have cF : ∀ r j, (r = 8 ∨ r = 6 ∨ (41 ≤ r ∧ r ≤ 44)) → F.1 r t j = F1.1 r t j := fun r j hr => (f6 r t j (by omega) (by omega)).trans (hxe.2 r t j (by unfold xe_p; omega))
        have e84 : F.1 8 t 4 = nI n := (cF 8 4 (by omega)).trans (q3.trans p6.1)
        have c9 : ∀ j, F.1 9 0 j = S2.1 9 0 j := fun j => (f6 9 0 j (by omega) (by omega)).trans ((hb9 j).trans (q6 9 0 j (by omega) (by omega)))
        have c14 : ∀ j, F.1 14 0 j = B.1 14 0 j := fun j => f6 14 0 j (by omega) (by omega)
        have cB : ∀ r j, (r = 79 ∨ r = 80) → B.1 r 0 j = S.1 r 0 j := fun r j hr => (hxe.2 r 0 j (by unfold xe_p; omega)).trans ((q6 r 0 j (by omega) (by omega)).trans (hxe2.2 r 0 j (by unfold xe_p; omega)))
        have c6 : ∀ j, S2.1 6 t j = S.1 6 t j := fun j => hxe2.2 6 t j (by unfold xe_p; omega)
        have hdo : (F.1 6 t 8 = S.1 6 t 8 ∧ F.1 80 0 t = S.1 80 0 t ∧ F.1 79 0 t = S.1 79 0 t) ∨ (F.1 6 t 8 = 0 ∧ F.1 80 0 t = 0 ∧ F.1 79 0 t = 0 ∧ ¬ S.1 79 0 t = 1) := by
          obtain ⟨_, a2, _, a4⟩ := hw.2.2.2.2.2.2.2.2.2.2.1 t ht4
          rw [cB 79 t (.inl rfl), cB 80 t (.inr rfl)] at f5
          rw [c6 9, c6 8, ← cF 6 8 (by omega)] at q5
          by_cases le0 : S.1 6 t 8 = 0
          · have md0 := a4.1 le0
            have nm : ¬ S.1 79 0 t = 1 := by rw [md0]; decide
            refine .inr ⟨?_, ?_, ?_, nm⟩
            · rcases q5 with z | z
              · exact z.2.trans le0
              · exact z.2
            · rcases f5 with z | z
              · exact absurd z.1 nm
              · exact z.2.2
            · rcases f5 with z | z
              · exact absurd z.1 nm
              · exact z.2.1
          · rcases a4.2 le0 with z | z | z
            · refine .inl ⟨?_, ?_, ?_⟩
              · rcases q5 with y | y
                · exact y.2
                · exact absurd z.2.1 y.1
              · rcases f5 with y | y
                · exact y.2.2
                · exact absurd z.1 y.1
              · rcases f5 with y | y
                · exact y.2.1
                · exact absurd z.1 y.1
            · have nm : ¬ S.1 79 0 t = 1 := by rw [z.1]; decide
              have nd : ¬ S.1 6 t 9 = 0 := by rw [z.2]; decide
              refine .inr ⟨?_, ?_, ?_, nm⟩
              · rcases q5 with y | y
                · exact absurd y.1 nd
                · exact y.2
              · rcases f5 with y | y
                · exact absurd y.1 nm
                · exact y.2.2
              · rcases f5 with y | y
                · exact absurd y.1 nm
                · exact y.2.1
            · have nm : ¬ S.1 79 0 t = 1 := by rw [z.1]; decide
              have nd : ¬ S.1 6 t 9 = 0 := by rw [z.2.1]; decide
              refine .inr ⟨?_, ?_, ?_, nm⟩
              · rcases q5 with y | y
                · exact absurd y.1 nd
                · exact y.2
              · rcases f5 with y | y
                · exact absurd y.1 nm
                · exact y.2.2
              · rcases f5 with y | y
                · exact absurd y.1 nm
                · exact y.2.1
        refine ⟨nI n, ?_, by rw [en], c, m, lb, nz, wc, xd_W ht4 hw hxd hn e84 f3 f4 ((cF 6 7 (by omega)).trans q4) (fun j hj => ?_) hdo, xd_O ho hxd ((c9 1).trans (p1.2 9 0 1 rfl)) ((c14 34).trans hb34) ((c9 3).trans (p3.trans ((c14 41).trans hb41).symm)) ((c9 4).trans (p4.trans ((c14 42).trans hb42).symm)), xd_I ht4 hi hxd⟩
        · rw [show ov_g F1 8 t 4 = nI n from q3.trans p6.1]
        · obtain ⟨_, a, b, o, st⟩ := p7 j hj
          obtain ⟨a', b', o', w1, w2, w3⟩ := hbs j hj
          have e1 := Sum.inr.inj (o.symm.trans o')
          have ea : a = a' := congrArg Prod.fst e1
          have eb : b = b' := congrArg (fun z => z.2.1) e1
          have d0 : F.1 85 0 (120 * t + 4 * j) = nI (tx_C f L (xN c (tx_C f L) (tx_V f L) j)) := (f2 (4 * j) (by omega)).trans w1
          have d1 : F.1 85 0 (120 * t + 4 * j + 1) = nI a' := (f2 (4 * j + 1) (by omega)).trans w2
          have d2 : F.1 85 0 (120 * t + 4 * j + 2) = nI b' := (f2 (4 * j + 2) (by omega)).trans w3
          obtain ⟨k1, k2, k3, k4⟩ := q2 j (by omega)
          rw [d0, d1, d2, cF 41 j (by omega), cF 42 j (by omega), cF 43 j (by omega), cF 44 j (by omega), k1, k2, k3, k4, ← ea, ← eb]
          exact st
      · rw [x_same hx hx2 (.inl hn12) (.inr ⟨kd, idx, hx2'⟩)]
        exact hx2'.1
    · refine r_Eye_text_34 (by omega) ⟨fun z => absurd rfl z, fun _ => ?_⟩
      obtain ⟨p1, p2, p3, p4, p5⟩ := hF
      have hxe2 : xe S S2 := xe_c hxe1 p1
      have hM2 : xM f L S2 := ⟨(p1.2 14 0 34 rfl).trans ((hB.1.2 14 0 34 rfl).trans eL2), fun j hj => (p1.2 84 0 j rfl).trans ((hB.1.2 84 0 j rfl).trans (hM.2.1 j hj)), fun k hk => (p1.2 83 0 k rfl).trans ((hB.1.2 83 0 k rfl).trans (hM.2.2 k hk))⟩
      have e22 : S2.1 14 0 2 = nI c := (hxe2.2 14 0 2 (by unfold xe_p; omega)).trans hc.2.2
      refine m_text (c := c) (f := f) (L := L) (by omega) hc.1 ht hf hL hM2 e22 (fun n2 B F hx2 hn22 _ _ _ _ _ _ _ => absurd hn22 ?_) (fun n2 kd2 idx2 F hx2 hx2' hxe hb9 hb34 hb41 hb42 => ?_)
      · rw [← x_same hx hx2 (.inr ⟨kd, idx, hx'⟩) (.inl hn22)]
        exact hx'.1
      · have en : n = n2 := x_same hx hx2 (.inr ⟨kd, idx, hx'⟩) (.inr ⟨kd2, idx2, hx2'⟩)
        rw [← en] at hx2'
        obtain ⟨ek, ei⟩ := x_er1 hx' hx2'
        refine ⟨-1, rfl, rfl, xe_S h (xe_t hxe2 hxe) ((hb9 1).trans (p1.2 9 0 1 rfl)) hb34 ((hb9 3).trans (p3.1.trans ?_)) ((hb9 4).trans (p4.trans ?_))⟩
        · rw [hb41, ek]
        · rw [hb42, ei]
  · rw [eg] at q
    refine tx_tape (by omega) hf hL hE (fun N S' hN h12 hB => r_Eye_text_16_2 ?_)
    have hx : xe S (ov_w S' 9 0 1 0) := xe_w (xe_c xe_r hB.1) (by unfold xe_p; omega)
    have e2 : (ov_w S' 9 0 1 0).1 14 0 2 = nI c := (hx.2 14 0 2 (by unfold xe_p; omega)).trans hc.2.2
    refine r_Mod_text_0 (by omega) ⟨fun _ => r_Mod_text_60 ⟨fun z => absurd rfl z, fun _ => ⟨-1, rfl, rfl, xe_S h (xe_w (xe_w (xe_w (xe_w (xe_w hx (by unfold xe_p; omega)) (by unfold xe_p; omega)) (by unfold xe_p; omega)) (by unfold xe_p; omega)) (by unfold xe_p; omega)) rfl rfl hB.2.2.2.1 hB.2.2.2.2.1⟩⟩, fun y => absurd ?_ q⟩
    have y' : 0 ≤ v1 ∧ v1 < (ov_w S' 9 0 1 0).1 14 0 2 := y
    rw [e2] at y'
    exact (zz_tc hc.1).2 ((zz_tm hc.1).1 y')
