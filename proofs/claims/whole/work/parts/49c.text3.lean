/-! ===== TEXT: the class takes its tape apart, the loop ===== -/
theorem tx_tt {f : Nat → Nat} {L d k : Nat} {S0 S : ov_S} {Q : ov_Q} (hd : 9 ≤ d) (hf : ∀ j, f j < 256) (hL : L ≤ 400) (hB : xB f L k S0 S) (hk : k ≤ 400) (hA : tx_A f L k < L) (h : ∀ S', xB f L (k + 1) S0 S' → Q none S') : ov_V true true d 0 0 mq_Reader_takeToken 0 [some (.inr (.inr (true, 9, 0))), some (.inl (nI (tx_so (f (tx_A f L k))))), some (.inl (nI (tx_A f L k))), some (.inl (nI (tx_P f L (k + 1))))] [] S Q := by
  have hE := hB.2.1
  have e8 := hB.2.2.1.1
  have h0 := tx_A_ok (f := f) (L := L) k
  have hP := tx_P_le (f := f) (L := L) (k + 1)
  have h3 := tx_so3 (f (tx_A f L k))
  have hn0 := tx_lt hA
  refine r_Reader_takeToken_0 (by omega) ⟨fun n1 => ⟨fun n2 => ?_, fun y2 => ?_⟩, fun y1 => ?_⟩
  · have e3 : tx_so (f (tx_A f L k)) = 3 := by
      have q1 : ¬ tx_so (f (tx_A f L k)) = 1 := fun e => n1 (by rw [e]; rfl)
      have q2 : ¬ tx_so (f (tx_A f L k)) = 2 := fun e => n2 (by rw [e]; rfl)
      omega
    obtain ⟨_, ec⟩ := tx_sgn hA e3
    rw [xE_s hE hL hA]
    refine ⟨fun n => ?_, fun y => ?_⟩
    · rw [if_neg (fun e => n (by rw [e]; rfl))] at ec
      exact r_Reader_takeToken_71 (by omega) (tx_kt (by omega) hk e8 (r_Reader_takeToken_76 (h _ (tx_tK hB (by rw [ec]; rfl) rfl (fun z => absurd (ec.symm.trans z) (by decide))))))
    · rw [if_pos (zz_inj (b := 59) (by have := hf (tx_A f L k); omega) (by decide) y)] at ec
      exact r_Reader_takeToken_71_2 (by omega) (tx_kt (by omega) hk e8 (r_Reader_takeToken_76 (h _ (tx_tK hB (by rw [ec]; rfl) rfl (fun z => absurd (ec.symm.trans z) (by decide))))))
  · have e2 : tx_so (f (tx_A f L k)) = 2 := zz_inj (b := 2) (by omega) (by decide) y2
    have ec := tx_num hA e2
    have er := tx_run hA (by rw [e2]; decide)
    have ho := tx_e_ok (f := f) (L := L) (q := tx_so (f (tx_A f L k))) (j := tx_A f L k) (by omega)
    rw [← er] at ho
    have hl : ∀ j, tx_A f L k ≤ j → j < tx_P f L (k + 1) → 48 ≤ f j ∧ f j ≤ 57 := fun j h1 h2 => tx_so2 ((ho.2.2.1 j h1 h2).trans e2)
    rw [pk_sub h0.2.2.1]
    refine ⟨fun y => ?_, fun n => ?_⟩
    · rw [if_pos ((nI_leI (b := 4) (by omega) (by decide)).1 y)] at ec
      exact r_Reader_takeToken_40 (by omega) (r_Reader_valueAt_0 (tx_va (by omega) hL hE h0.2.2.1 (by omega) hl (r_Reader_takeToken_47 (by omega) (tx_kt (by omega) hk e8 (r_Reader_takeToken_50 (r_Reader_takeToken_76 (h _ (tx_tK hB (by rw [ec]; rfl) rfl (fun _ => rfl))))))) _ 0 (Nat.zero_add _)))
    · rw [if_neg (fun z => n (nI_le (b := 4) z (by decide)))] at ec
      exact r_Reader_takeToken_40_2 (by omega) (r_Reader_valueAt_0 (tx_va (by omega) hL hE h0.2.2.1 (by omega) hl (r_Reader_takeToken_47_2 (by omega) (tx_kt (by omega) hk e8 (r_Reader_takeToken_50 (r_Reader_takeToken_76 (h _ (tx_tK hB (by rw [ec]; rfl) rfl (fun z => absurd (ec.symm.trans z) (by decide)))))))) _ 0 (Nat.zero_add _)))
  · have e1 : tx_so (f (tx_A f L k)) = 1 := zz_inj (b := 1) (by omega) (by decide) y1
    have ec := tx_wrd hA e1
    have er := tx_run hA (by rw [e1]; decide)
    have ho := tx_e_ok (f := f) (L := L) (q := tx_so (f (tx_A f L k))) (j := tx_A f L k) (by omega)
    rw [← er] at ho
    have hl : ∀ j, tx_A f L k ≤ j → j < tx_P f L (k + 1) → ¬ f j = 32 := fun j h1 h2 => tx_so1 ((ho.2.2.1 j h1 h2).trans e1)
    refine tx_wa0 (by omega) hf hL hE h0.2.2.1 (by omega) hl (r_Reader_takeToken_12 (by omega) (tx_kt (by omega) hk e8 (r_Reader_takeToken_17 (r_Reader_takeToken_76 (h _ (tx_tK hB (by rw [ec]) rfl (fun z => ?_)))))))
    rw [ec] at z
    rcases tx_q_c (f := f) (p := tx_A f L k) (e := tx_P f L (k + 1)) 10 0 rfl with h' | h' <;> omega
theorem tx_Ak {f : Nat → Nat} {L : Nat} : ∀ k, (∀ i, i < k → tx_A f L i < L) → k ≤ tx_P f L k
  | 0, _ => Nat.le_refl _
  | k + 1, h => by
    have h1 := tx_Ak k (fun i hi => h i (by omega))
    have h2 := tx_A_ok (f := f) (L := L) k
    have h3 := h2.2.2.2 (h k (by omega))
    omega
theorem tx_tl {f : Nat → Nat} {L d : Nat} {S0 : ov_S} {Q : ov_Q} (hd : 10 ≤ d) (hf : ∀ j, f j < 256) (hL : L ≤ 400) (h : ∀ N S', N ≤ 400 → tx_C f L N = 12 → xB f L (N + 1) S0 S' → Q none (ov_w S' 9 0 1 0)) : ∀ n k S, k + n = 401 → (∀ i, i < k → tx_A f L i < L) → xB f L k S0 S → ov_V true true d 0 0 mq_Reader_takeTape 29 [some (.inr (.inr (true, 9, 0))), some (.inl (nI (tx_A f L k))), some (.inl (nI k)), none, none] [] S Q := by
  intro n
  induction n with
  | zero =>
    intro k S hk hi _
    have h1 := tx_Ak (f := f) k hi
    have h2 := tx_P_le (f := f) (L := L) k
    omega
  | succ n ih =>
    intro k S hk hi hB
    have h1 := tx_Ak (f := f) k hi
    have h2 := tx_A_ok (f := f) (L := L) k
    have hE := hB.2.1
    have fin : ¬ tx_A f L k < L → ov_V true true d 0 0 mq_Reader_takeTape 94 [some (.inr (.inr (true, 9, 0))), none, none, none, none] [] S Q := by
      intro q
      obtain ⟨e1, e2, _⟩ := tx_end q
      exact r_Reader_takeTape_94 (by omega) (tx_kt (by omega) (by omega) hB.2.2.1.1 (r_Reader_takeTape_105 (h k _ (by omega) e1 (tx_tK hB (by rw [e1]; rfl) (by rw [e2]; exact hE.1) (fun z => absurd (e1.symm.trans z) (by decide))))))
    by_cases q : tx_A f L k < L
    · refine r_Reader_takeTape_29 (by omega) ?_
      rw [show ov_g S 9 0 1 = nI L from hE.1, xE_s hE hL q, tx_sort (hf _), nI_1]
      have h3 := tx_so3 (f (tx_A f L k))
      have nxt : ov_V true true d 0 0 mq_Reader_takeTape 70 [some (.inr (.inr (true, 9, 0))), some (.inl (nI (tx_A f L k))), some (.inl (nI k)), some (.inl (nI (tx_so (f (tx_A f L k))))), none] [.inl (nI (tx_P f L (k + 1)))] S Q := by
        refine r_Reader_takeTape_70 (by omega) (tx_tt (by omega) hf hL hB (by omega) q (fun S' hB' => r_Reader_takeTape_80 (by omega) (tx_er0 (q := 0) (by omega) hf hL (by omega) hB'.2.1 (tx_P_le _) (r_Reader_takeTape_87 ?_))))
        rw [nI_1]
        refine ih (k + 1) S' (by omega) (fun i hi' => ?_) hB'
        by_cases e : i = k
        · rw [e]; exact q
        · exact hi i (by omega)
      refine ⟨fun y => absurd y (nI_ge (b := 400) (by omega) (by decide)), fun _ => ⟨fun y => absurd y (nI_ge q (by omega)), fun _ => ⟨fun n3 => ?_, fun y3 => ?_⟩⟩⟩
      · have e3 : ¬ tx_so (f (tx_A f L k)) = 3 := fun e => n3 (by rw [e]; rfl)
        refine tx_er0 (by omega) hf hL h3 hE (by omega) ?_
        rw [← tx_run q e3]
        exact nxt
      · have e3 := zz_inj (b := 3) (by omega) (by decide) y3
        rw [← (tx_sgn q e3).1]
        exact nxt
    · refine r_Reader_takeTape_29 (by omega) ⟨fun _ => fin q, fun _ => ⟨fun _ => fin q, fun n => absurd ?_ n⟩⟩
      rw [show ov_g S 9 0 1 = nI L from hE.1]
      exact nI_le (by omega) (by omega)
/-- the whole tape -/
theorem tx_tape {f : Nat → Nat} {L d : Nat} {S : ov_S} {Q : ov_Q} (hd : 10 ≤ d) (hf : ∀ j, f j < 256) (hL : L ≤ 400) (hE : xE f L S) (h : ∀ N S', N ≤ 400 → tx_C f L N = 12 → xB f L (N + 1) S S' → Q none (ov_w S' 9 0 1 0)) : ov_V true true d 0 0 mq_Reader_takeTape 0 [some (.inr (.inr (true, 9, 0))), none, none, none, none] [] S Q := by
  have hc : xc S (ov_w (ov_w (ov_w (ov_w S 9 0 3 0) 9 0 4 (-1)) 9 0 8 0) 9 0 9 0) := xc_w (xc_w (xc_w (xc_w xc_r rfl) rfl) rfl) rfl
  have hB : xB f L 0 S (ov_w (ov_w (ov_w (ov_w S 9 0 3 0) 9 0 4 (-1)) 9 0 8 0) 9 0 9 0) := ⟨hc, xE_c hE hc, ⟨rfl, fun i hi => absurd hi (by omega)⟩, rfl, rfl, rfl⟩
  refine r_Reader_takeTape_0 (by omega) ?_
  exact tx_er0 (q := 0) (j := 0) (by omega) hf hL (by omega) hB.2.1 (by omega) (r_Reader_takeTape_26 (tx_tl hd hf hL h 401 0 _ rfl (fun i hi => absurd hi (by omega)) hB))
