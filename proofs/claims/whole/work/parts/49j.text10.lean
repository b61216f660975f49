/-! ===== TEXT: the reference reads a STEP, whole ===== -/
def mzC (n w a : Nat) (b : Int32) (S : ov_S) : Prop := S.1 85 0 (480 + 4 * n) = nI w ∧ S.1 85 0 (480 + (4 * n + 1)) = nI a ∧ S.1 85 0 (480 + (4 * n + 2)) = b
theorem mzC_r {n w a : Nat} {b : Int32} {S S' : ov_S} (h : mzC n w a b S) (hr : xr S S') : mzC n w a b S' := ⟨(hr.2 85 0 _ rfl).trans h.1, (hr.2 85 0 _ rfl).trans h.2.1, (hr.2 85 0 _ rfl).trans h.2.2⟩
theorem mzC_w {n w a : Nat} {b v : Int32} {S : ov_S} (h : mzC n w a b S) : mzC n w a v (ov_w S 85 0 (480 + (4 * n + 2)) v) := by
  refine ⟨?_, ?_, rl_ww _ _ _ _ _⟩
  · rw [rl_wr, if_neg (by omega)]; exact h.1
  · rw [rl_wr, if_neg (by omega)]; exact h.2.1
theorem m_104 {n w d : Nat} {S : ov_S} {Q : ov_Q} (hd : 1 ≤ d) (hw : w = 0 ∨ w = 1 ∨ w = 4) (h : ov_V true true d 0 0 mq_Mod_readStep 146 [some (.inr (.inr (true, 14, 0))), none, some (.inl (nI (480 + 4 * n))), none] [] S Q) : ov_V true true d 0 0 mq_Mod_readStep 104 [some (.inr (.inr (true, 14, 0))), some (.inl (nI w)), some (.inl (nI (480 + 4 * n))), none] [] S Q := by
  have n5 : ¬ nI w = 5 := fun e => by have := zz_inj (b := 5) (by omega) (by decide) e; omega
  have n2 : ¬ nI w = 2 := fun e => by have := zz_inj (b := 2) (by omega) (by decide) e; omega
  have n3 : ¬ nI w = 3 := fun e => by have := zz_inj (b := 3) (by omega) (by decide) e; omega
  exact r_Mod_readStep_104 hd ⟨fun _ => r_Mod_readStep_124 ⟨fun y => absurd y n2, fun _ => ⟨fun _ => h, fun y => absurd y n3⟩⟩, fun y => absurd y n5⟩
/-- what is left of a STEP behind its first part -/
def mzO (c : Nat) (C V : Nat → Nat) (w a k1 : Nat) : (Nat × Nat) ⊕ (Nat × Nat × Nat) :=
  if w = 0 then xsn C V k1 0 2 (fun v => xse C (k1 + 1) a v) else if w = 5 then xsn C V k1 0 8 (fun v => xse C (k1 + 1) a v) else if w = 2 ∨ w = 3 then xsw C k1 6 6 (fun _ => xsn C V (k1 + 1) 0 (c - 1) (fun h => xse C (k1 + 2) a h)) else xse C k1 a 0
theorem m_62 {c : Nat} {f : Nat → Nat} {L : Nat} {S0 : ov_S} {k n d w a : Nat} {S : ov_S} {Q : ov_Q} (hd : 5 ≤ d) (hc : 1 ≤ c) (hc4 : c ≤ 4) (hf : ∀ j, f j < 256) (hL : L ≤ 400) (hP : mzP c f L S0 k n S) (hn : n < 30) (hw : w ≤ 5) (ha : a ≤ 9999) (ew : S.1 85 0 (480 + 4 * n) = nI w) (hok : ∀ b k' S', mzO c (tx_C f L) (tx_V f L) w a k = xse (tx_C f L) k' a b → mzP c f L S0 k' n S' → mzC n w a (nI b) S' → Q (some (.inl 0)) S') (her : ∀ kd idx S', mzO c (tx_C f L) (tx_V f L) w a k = .inl (kd, idx) → mzF f L S0 kd idx S' → Q (some (.inl (-1))) S') : ov_V true true d 0 0 mq_Mod_readStep 62 [some (.inr (.inr (true, 14, 0))), some (.inl (nI w)), some (.inl (nI (480 + 4 * n))), none] [.inl (nI a), .inl (nI (480 + (4 * n + 1))), .inr (.inr (true, 85, 0))] S Q := by
  have e2 : (nI (480 + 4 * n) + 2 : Int32) = nI (480 + (4 * n + 2)) := nI_add _ 2
  refine r_Mod_readStep_62 (by omega) ?_
  rw [show (nI (480 + 4 * n) + 1 : Int32) = nI (480 + (4 * n + 1)) from nI_add _ 1, e2, zz_ix (n := 480 + (4 * n + 1)) (by omega), zz_ix (n := 480 + (4 * n + 2)) (by omega), show ov_g (ov_w S 85 0 (480 + (4 * n + 1)) (nI a)) 85 0 (480 + (4 * n + 1)) = nI a from rl_ww _ _ _ _ _]
  have hT : mzP c f L S0 k n (ov_w (ov_w S 85 0 (480 + (4 * n + 1)) (nI a)) 85 0 (480 + (4 * n + 2)) 0) := mzP_w (mzP_w hP)
  have hC : mzC n w a (nI 0) (ov_w (ov_w S 85 0 (480 + (4 * n + 1)) (nI a)) 85 0 (480 + (4 * n + 2)) 0) := by
    refine ⟨?_, ?_, rl_ww _ _ _ _ _⟩
    · rw [rl_wr, if_neg (by omega), rl_wr, if_neg (by omega)]; exact ew
    · rw [rl_wr, if_neg (by omega), rl_wr, if_pos rfl]
  refine ⟨zz_ib (by omega) (by decide), zz_ib (by omega) (by decide), fun _ => ⟨zz_ib (by omega) (by decide), ?_⟩, fun y => absurd y (x_ne1 (by omega))⟩
  generalize ov_w (ov_w S 85 0 (480 + (4 * n + 1)) (nI a)) 85 0 (480 + (4 * n + 2)) 0 = T at hT hC ⊢
  refine ⟨fun nw => ?_, fun yw => ?_⟩
  · have w0 : ¬ w = 0 := fun e => nw (by rw [e]; rfl)
    by_cases w5 : w = 5
    · subst w5
      have ho : mzO c (tx_C f L) (tx_V f L) 5 a k = xsn (tx_C f L) (tx_V f L) k 0 8 (fun v => xse (tx_C f L) (k + 1) a v) := by
        unfold mzO
        rw [if_neg (by decide), if_pos rfl]
      refine r_Mod_readStep_104 (by omega) ⟨fun m => absurd rfl m, fun _ => ?_⟩
      rw [e2]
      have p : ∀ S', ov_V true true d 0 0 mq_Mod_readStep 146 [some (.inr (.inr (true, 14, 0))), none, some (.inl (nI (480 + 4 * n))), none] [] S' Q → ov_V true true d 0 0 mq_Mod_readStep 124 [some (.inr (.inr (true, 14, 0))), some (.inl (nI 5)), some (.inl (nI (480 + 4 * n))), none] [] S' Q := fun S' h => r_Mod_readStep_124 ⟨fun y => absurd y (by decide), fun _ => ⟨fun _ => h, fun y => absurd y (by decide)⟩⟩
      refine m_num (lo := 0) (hi := 8) (by omega) hf hL hT (by decide) (by decide) (fun q1 q2 S' hr hP' => ?_) (fun kd S' q hF => ?_)
      · refine r_Mod_readStep_123 ⟨zz_ib (by omega) (by decide), ?_⟩
        rw [zz_ix (by omega)]
        rw [x_sn' q1 q2] at ho
        exact p _ (m_146 hn (tx_V_b q1) (mzC_w (mzC_r hC hr)).2.2 (hok _ _ _ ho (mzP_w hP') (mzC_w (mzC_r hC hr))))
      · refine r_Mod_readStep_123 ⟨zz_ib (by omega) (by decide), ?_⟩
        rw [zz_ix (by omega)]
        exact p _ (m_146e hn (rl_ww _ _ _ _ _) (her kd k _ (ho.trans (x_sn q).1) (mzF_w hF)))
    · have n5 : ¬ nI w = 5 := fun e => w5 (zz_inj (b := 5) (by omega) (by decide) e)
      by_cases w23 : w = 2 ∨ w = 3
      · have ho : mzO c (tx_C f L) (tx_V f L) w a k = xsw (tx_C f L) k 6 6 (fun _ => xsn (tx_C f L) (tx_V f L) (k + 1) 0 (c - 1) (fun h => xse (tx_C f L) (k + 2) a h)) := by
          unfold mzO
          rw [if_neg w0, if_neg w5, if_pos w23]
        have go : ov_V true true d 0 0 mq_Mod_readStep 134 [some (.inr (.inr (true, 14, 0))), none, some (.inl (nI (480 + 4 * n))), none] [] T Q := by
          refine r_Mod_readStep_134 (by omega) ?_
          rw [e2]
          refine m_to (by omega) hc hc4 hf hL hT (fun q0 q1 q2 S' hr hP' => ?_) (fun q0 S' hF => ?_) (fun q0 kd S' q hF => ?_)
          · refine r_Mod_readStep_145 ⟨zz_ib (by omega) (by decide), ?_⟩
            rw [zz_ix (by omega)]
            rw [x_sw' q0, x_sn' q1 q2] at ho
            exact m_146 hn (tx_V_b q1) (mzC_w (mzC_r hC hr)).2.2 (hok _ _ _ ho (mzP_w hP') (mzC_w (mzC_r hC hr)))
          · refine r_Mod_readStep_145 ⟨zz_ib (by omega) (by decide), ?_⟩
            rw [zz_ix (by omega)]
            rw [x_sw q0] at ho
            exact m_146e hn (rl_ww _ _ _ _ _) (her 1 k _ ho (mzF_w hF))
          · refine r_Mod_readStep_145 ⟨zz_ib (by omega) (by decide), ?_⟩
            rw [zz_ix (by omega)]
            rw [x_sw' q0] at ho
            exact m_146e hn (rl_ww _ _ _ _ _) (her kd (k + 1) _ (ho.trans (x_sn q).1) (mzF_w hF))
        refine r_Mod_readStep_104 (by omega) ⟨fun _ => r_Mod_readStep_124 ⟨fun _ => go, fun n2 => ⟨fun n3 => ?_, fun _ => go⟩⟩, fun y => absurd y n5⟩
        rcases w23 with e | e
        · exact absurd (by rw [e]; rfl) n2
        · exact absurd (by rw [e]; rfl) n3
      · have ho : mzO c (tx_C f L) (tx_V f L) w a k = xse (tx_C f L) k a 0 := by
          unfold mzO
          rw [if_neg w0, if_neg w5, if_neg w23]
        exact m_104 (by omega) (by omega) (m_146 hn (b := 0) (by omega) hC.2.2 (hok _ _ _ ho hT hC))
  · have w0 : w = 0 := zz_inj (b := 0) (by omega) (by decide) yw
    subst w0
    have ho : mzO c (tx_C f L) (tx_V f L) 0 a k = xsn (tx_C f L) (tx_V f L) k 0 2 (fun v => xse (tx_C f L) (k + 1) a v) := by
      unfold mzO
      rw [if_pos rfl]
    refine m_num (lo := 0) (hi := 2) (by omega) hf hL hT (by decide) (by decide) (fun q1 q2 S' hr hP' => ?_) (fun kd S' q hF => ?_)
    · refine r_Mod_readStep_103 ⟨zz_ib (by omega) (by decide), ?_⟩
      rw [zz_ix (by omega)]
      rw [x_sn' q1 q2] at ho
      exact m_104 (by omega) (.inl rfl) (m_146 hn (tx_V_b q1) (mzC_w (mzC_r hC hr)).2.2 (hok _ _ _ ho (mzP_w hP') (mzC_w (mzC_r hC hr))))
    · refine r_Mod_readStep_103 ⟨zz_ib (by omega) (by decide), ?_⟩
      rw [zz_ix (by omega)]
      exact m_104 (by omega) (.inl rfl) (m_146e hn (rl_ww _ _ _ _ _) (her kd k _ (ho.trans (x_sn q).1) (mzF_w hF)))
theorem m_62e {f : Nat → Nat} {L : Nat} {S0 : ov_S} {n d kd idx : Nat} {S : ov_S} {Q : ov_Q} {w : Int32} (hd : 5 ≤ d) (hn : n < 30) (hF : mzF f L S0 kd idx S) (h : ∀ S', mzF f L S0 kd idx S' → Q (some (.inl (-1))) S') : ov_V true true d 0 0 mq_Mod_readStep 62 [some (.inr (.inr (true, 14, 0))), some (.inl w), some (.inl (nI (480 + 4 * n))), none] [.inl (-1), .inl (nI (480 + (4 * n + 1))), .inr (.inr (true, 85, 0))] S Q := by
  refine r_Mod_readStep_62 (by omega) ?_
  rw [show (nI (480 + 4 * n) + 1 : Int32) = nI (480 + (4 * n + 1)) from nI_add _ 1, zz_ix (n := 480 + (4 * n + 1)) (by omega), show ov_g (ov_w S 85 0 (480 + (4 * n + 1)) (-1)) 85 0 (480 + (4 * n + 1)) = -1 from rl_ww _ _ _ _ _]
  exact ⟨zz_ib (by omega) (by decide), zz_ib (by omega) (by decide), fun m => absurd rfl m, fun _ => h _ (mzF_w hF)⟩
