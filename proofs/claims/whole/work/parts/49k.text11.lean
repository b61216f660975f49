/-! ===== TEXT: the reference reads a PLAN ===== -/
theorem mzO_p {c w : Nat} {C V : Nat → Nat} {K : Nat} (e : C K = w) (hw : w ≤ 5) : xsp c C V K = if w = 0 ∨ w = 5 then xsw C (K + 1) 7 9 (fun x => mzO c C V w (x - 7) (K + 2)) else if w = 4 then xsn C V (K + 1) 1 99 (fun v => mzO c C V w v (K + 2)) else xsn C V (K + 1) 0 9 (fun v => mzO c C V w v (K + 2)) := by
  have hcs : w = 0 ∨ w = 1 ∨ w = 2 ∨ w = 3 ∨ w = 4 ∨ w = 5 := by omega
  unfold xsp
  rw [e]
  rcases hcs with h | h | h | h | h | h <;> subst h <;> rfl
theorem m_step {c : Nat} {f : Nat → Nat} {L : Nat} {S0 : ov_S} {n d K w : Nat} {S : ov_S} {Q : ov_Q} (hd : 5 ≤ d) (hc : 1 ≤ c) (hc4 : c ≤ 4) (hf : ∀ j, f j < 256) (hL : L ≤ 400) (hP : mzP c f L S0 (K + 1) n S) (hn : n < 30) (ew : tx_C f L K = w) (hw : w ≤ 5) (hok : ∀ a b k' S', xsp c (tx_C f L) (tx_V f L) K = xse (tx_C f L) k' a b → mzP c f L S0 k' n S' → mzC n w a (nI b) S' → Q (some (.inl 0)) S') (her : ∀ kd idx S', xsp c (tx_C f L) (tx_V f L) K = .inl (kd, idx) → mzF f L S0 kd idx S' → Q (some (.inl (-1))) S') : ov_V true true d 0 0 mq_Mod_readStep 0 [some (.inr (.inr (true, 14, 0))), some (.inl (nI w)), some (.inl (nI (480 + 4 * n))), none] [] S Q := by
  have ho := mzO_p (c := c) (C := tx_C f L) (V := tx_V f L) (K := K) ew hw
  have e1 : (nI (480 + 4 * n) + 1 : Int32) = nI (480 + (4 * n + 1)) := nI_add _ 1
  refine r_Mod_readStep_0 ?_
  rw [zz_ix (by omega)]
  have hT : mzP c f L S0 (K + 1) n (ov_w S 85 0 (480 + 4 * n) (nI w)) := mzP_w (x := 0) hP
  have hTw : (ov_w S 85 0 (480 + 4 * n) (nI w)).1 85 0 (480 + 4 * n) = nI w := rl_ww _ _ _ _ _
  refine ⟨zz_ib (by omega) (by decide), ?_⟩
  generalize ov_w S 85 0 (480 + 4 * n) (nI w) = T at hT hTw ⊢
  have thing : (w = 0 ∨ w = 5) → ov_V true true d 0 0 mq_Mod_readStep 16 [some (.inr (.inr (true, 14, 0))), some (.inl (nI w)), some (.inl (nI (480 + 4 * n))), none] [] T Q := by
    intro h05
    rw [if_pos h05] at ho
    refine r_Mod_readStep_16 (r_Mod_readStep_21_2 (by omega) ?_)
    rw [e1]
    refine m_thing (by omega) hf hL hT (fun q S' hr hP' => r_Mod_readStep_37 ?_) (fun q S' hF => r_Mod_readStep_37 (m_62e hd hn hF (fun S2 hF2 => her 1 (K + 1) S2 (ho.trans (x_sw q)) hF2)))
    rw [x_sw' q] at ho
    exact m_62 hd hc hc4 hf hL hP' hn hw (by omega) ((hr.2 85 0 _ rfl).trans hTw) (fun b k' S2 o hP2 hC2 => hok _ b k' S2 (ho.trans o) hP2 hC2) (fun kd idx S2 o hF2 => her kd idx S2 (ho.trans o) hF2)
  refine ⟨fun y => thing (.inl (zz_inj (b := 0) (by omega) (by decide) y)), fun n0 => ⟨fun n5 => ?_, fun y => thing (.inr (zz_inj (b := 5) (by omega) (by decide) y))⟩⟩
  have h05 : ¬ (w = 0 ∨ w = 5) := by
    intro q
    rcases q with q | q
    · exact n0 (by rw [q]; rfl)
    · exact n5 (by rw [q]; rfl)
  rw [if_neg h05] at ho
  refine r_Mod_readStep_21 (by omega) ?_
  rw [e1]
  refine ⟨fun n4 => ?_, fun y4 => ?_⟩
  · have w4 : ¬ w = 4 := fun e => n4 (by rw [e]; rfl)
    rw [if_neg w4] at ho
    refine m_num (lo := 0) (hi := 9) (by omega) hf hL hT (by decide) (by decide) (fun q1 q2 S' hr hP' => ?_) (fun kd S' q hF => m_62e hd hn hF (fun S2 hF2 => her kd (K + 1) S2 (ho.trans (x_sn q).1) hF2))
    rw [x_sn' q1 q2] at ho
    exact m_62 hd hc hc4 hf hL hP' hn hw (tx_V_b q1) ((hr.2 85 0 _ rfl).trans hTw) (fun b k' S2 o hP2 hC2 => hok _ b k' S2 (ho.trans o) hP2 hC2) (fun kd idx S2 o hF2 => her kd idx S2 (ho.trans o) hF2)
  · have w4 : w = 4 := zz_inj (b := 4) (by omega) (by decide) y4
    rw [if_pos w4] at ho
    refine m_num (lo := 1) (hi := 99) (by omega) hf hL hT (by decide) (by decide) (fun q1 q2 S' hr hP' => r_Mod_readStep_52 ?_) (fun kd S' q hF => r_Mod_readStep_52 (m_62e hd hn hF (fun S2 hF2 => her kd (K + 1) S2 (ho.trans (x_sn q).1) hF2)))
    rw [x_sn' q1 q2] at ho
    exact m_62 hd hc hc4 hf hL hP' hn hw (tx_V_b q1) ((hr.2 85 0 _ rfl).trans hTw) (fun b k' S2 o hP2 hC2 => hok _ b k' S2 (ho.trans o) hP2 hC2) (fun kd idx S2 o hF2 => her kd idx S2 (ho.trans o) hF2)
theorem m_pl {c : Nat} {f : Nat → Nat} {L : Nat} {S0 : ov_S} {d : Nat} {Q : ov_Q} (hd : 6 ≤ d) (hc : 1 ≤ c) (hc4 : c ≤ 4) (hf : ∀ j, f j < 256) (hL : L ≤ 400) (hok : ∀ n S', xok c (tx_C f L) (tx_V f L) n → tx_C f L (xN c (tx_C f L) (tx_V f L) n) = 12 → mzP c f L S0 (xN c (tx_C f L) (tx_V f L) n) n S' → Q (some (.inl (nI n))) S') (her : ∀ n kd idx S', xok c (tx_C f L) (tx_V f L) n → xer c (tx_C f L) (tx_V f L) n kd idx → mzF f L S0 kd idx S' → Q (some (.inl (-1))) S') : ∀ m n S, n + m = 30 → xok c (tx_C f L) (tx_V f L) n → mzP c f L S0 (xN c (tx_C f L) (tx_V f L) n) n S → ov_V true true d 0 0 mq_Mod_readPlan 2 [some (.inr (.inr (true, 14, 0))), some (.inl (nI n)), none] [] S Q := by
  intro m
  induction m with
  | zero =>
    intro n S hn hx hP
    generalize hK : xN c (tx_C f L) (tx_V f L) n = K at hP
    have ht := xtk_t hP.2.2.2.2.1 (tx_C13 K)
    have h83 : ¬ tx_C f L K ≤ 5 → ov_V true true d 0 0 mq_Mod_readPlan 83 [some (.inr (.inr (true, 14, 0))), some (.inl (nI n)), none] [] S Q := by
      intro n5
      refine r_Mod_readPlan_83 (by omega) ⟨fun z => m_errs (kd := 1) hP (fun S' hF => r_Mod_readPlan_99 (her n 1 K S' hx ⟨?_, ?_⟩ hF)), fun y => r_Mod_readPlan_99 (hok n S hx (by rw [hK]; exact ht.2.2.2.1 y) (by rw [hK]; exact hP))⟩
      · rw [hK]; exact fun e => z (ht.2.2.2.2 e)
      · rw [hK]; exact .inl ⟨n5, rfl, rfl⟩
    refine r_Mod_readPlan_2 (by omega) ⟨fun z => h83 (fun e => z (ht.2.1.2 (by omega))), fun y => ?_⟩
    have y10 := ht.2.1.1 y
    rw [show ov_g S 14 0 38 = nI (tx_C f L K) from (hP.2.2.2.2.1.1 y10).2]
    refine ⟨fun z => h83 (fun e => absurd z (nI_ge (b := 6) (by omega) (by decide))), fun z => ⟨fun q => absurd (by rw [show n = 30 by omega]; rfl) q, fun q => m_errs (kd := 3) hP (fun S' hF => r_Mod_readPlan_30 (her n 3 K S' hx ⟨?_, ?_⟩ hF))⟩⟩
    · rw [hK]; omega
    · have h6 : tx_C f L K < 6 := Nat.lt_of_not_le (fun e => z (nI_le (a := 6) e (by omega)))
      rw [hK]; exact .inr (.inl ⟨by omega, by omega, rfl, rfl⟩)
  | succ m ih =>
    intro n S hn hx hP
    generalize hK : xN c (tx_C f L) (tx_V f L) n = K at hP
    have ht := xtk_t hP.2.2.2.2.1 (tx_C13 K)
    have h83 : ¬ tx_C f L K ≤ 5 → ov_V true true d 0 0 mq_Mod_readPlan 83 [some (.inr (.inr (true, 14, 0))), some (.inl (nI n)), none] [] S Q := by
      intro n5
      refine r_Mod_readPlan_83 (by omega) ⟨fun z => m_errs (kd := 1) hP (fun S' hF => r_Mod_readPlan_99 (her n 1 K S' hx ⟨?_, ?_⟩ hF)), fun y => r_Mod_readPlan_99 (hok n S hx (by rw [hK]; exact ht.2.2.2.1 y) (by rw [hK]; exact hP))⟩
      · rw [hK]; exact fun e => z (ht.2.2.2.2 e)
      · rw [hK]; exact .inl ⟨n5, rfl, rfl⟩
    refine r_Mod_readPlan_2 (by omega) ⟨fun z => h83 (fun e => z (ht.2.1.2 (by omega))), fun y => ?_⟩
    have y10 := ht.2.1.1 y
    rw [show ov_g S 14 0 38 = nI (tx_C f L K) from (hP.2.2.2.2.1.1 y10).2]
    refine ⟨fun z => h83 (fun e => absurd z (nI_ge (b := 6) (by omega) (by decide))), fun z => ⟨fun _ => ?_, fun q => absurd (zz_inj (b := 30) (by omega) (by decide) q) (by omega)⟩⟩
    have h6 : tx_C f L K < 6 := Nat.lt_of_not_le (fun e => z (nI_le (a := 6) e (by omega)))
    refine m_next (by omega) hP.2.1 hf hL hP.2.2.1 (fun S1 hk => r_Mod_readPlan_40 (by omega) ?_)
    rw [show (480 + 4 * nI n : Int32) = nI (480 + 4 * n) by show nI 480 + nI 4 * nI n = _; rw [pk_mul, nI_add]]
    have n12 : ¬ tx_C f L (xN c (tx_C f L) (tx_V f L) n) = 12 := by rw [hK]; omega
    have bad : ∀ kd idx S', xsp c (tx_C f L) (tx_V f L) K = .inl (kd, idx) → mzF f L S0 kd idx S' → Q (some (.inl (-1))) S' := fun kd idx S' o hF => her n kd idx S' hx ⟨n12, .inr (.inr ⟨by rw [hK]; omega, by omega, by rw [hK]; exact o⟩)⟩ hF
    refine m_step (K := K) (by omega) hc hc4 hf hL (mzP_n hP hk) (by omega) rfl (by omega) (fun a b k' S' o hP' hC => ?_) (fun kd idx S' o hF => r_Mod_readPlan_52 (by omega) ⟨fun z => absurd rfl z, fun _ => bad kd idx S' o hF⟩)
    have ht' := xtk_t hP'.2.2.2.2.1 (tx_C13 k')
    refine r_Mod_readPlan_52 (by omega) ⟨fun _ => ⟨fun y4 => ?_, fun n4 => ?_⟩, fun q => absurd q (by decide)⟩
    · have o' : xsp c (tx_C f L) (tx_V f L) K = .inr (a, b, k' + 1) := by
        rw [o]; exact if_pos (ht'.2.2.1.1 y4)
      have o2 : xsp c (tx_C f L) (tx_V f L) (xN c (tx_C f L) (tx_V f L) n) = .inr (a, b, k' + 1) := by rw [hK]; exact o'
      have eN := xN_s o2
      have hx' : xok c (tx_C f L) (tx_V f L) (n + 1) := by
        refine ⟨by omega, fun i hi => ?_⟩
        by_cases q : i = n
        · subst q
          rw [eN]
          exact ⟨by rw [hK]; omega, a, b, o2⟩
        · exact hx.2 i (by omega)
      refine m_next (by omega) hP'.2.1 hf hL hP'.2.2.1 (fun S2 hk2 => r_Mod_readPlan_76 ?_)
      rw [nI_1]
      have hP2 := mzP_n hP' hk2
      refine ih (n + 1) S2 (by omega) hx' ?_
      rw [eN]
      obtain ⟨p1, p2, p3, p4, p5, p6, p7⟩ := hP2
      refine ⟨p1, p2, p3, p4, p5, p6, fun i hi => ?_⟩
      by_cases q : i = n
      · subst q
        have hC2 := mzC_r hC hk2.1
        refine ⟨a, b, by rw [eN]; exact o2, ?_, hC2.2.1, hC2.2.2⟩
        rw [hK]; exact hC2.1
      · exact p7 i (by omega)
    · have o' : xsp c (tx_C f L) (tx_V f L) K = .inl (1, k') := by
        rw [o]; exact if_neg (fun e => n4 (ht'.2.2.1.2 e))
      exact m_errs (kd := 1) hP' (fun S2 hF => r_Mod_readPlan_71 (bad 1 k' S2 o' hF))
/-! both say the same -/
theorem x_end {c : Nat} {C V : Nat → Nat} {n1 n2 : Nat} (h2 : xok c C V n2) (hlt : n1 < n2) : ¬ C (xN c C V n1) = 12 ∧ ∀ kd idx, ¬ xer c C V n1 kd idx := by
  obtain ⟨h5, a, b, e⟩ := h2.2 n1 hlt
  have := h2.1
  refine ⟨by omega, fun kd idx q => ?_⟩
  rcases q.2 with q | q | q
  · exact q.1 h5
  · omega
  · rw [e] at q
    exact absurd q.2.2 (by intro z; cases z)
theorem x_same {c : Nat} {C V : Nat → Nat} {n1 n2 : Nat} (h1 : xok c C V n1) (h2 : xok c C V n2) (e1 : C (xN c C V n1) = 12 ∨ ∃ kd idx, xer c C V n1 kd idx) (e2 : C (xN c C V n2) = 12 ∨ ∃ kd idx, xer c C V n2 kd idx) : n1 = n2 := by
  rcases Nat.lt_trichotomy n1 n2 with q | q | q
  · have := x_end h2 q
    rcases e1 with e | ⟨kd, idx, e⟩
    · exact absurd e this.1
    · exact absurd e (this.2 kd idx)
  · exact q
  · have := x_end h1 q
    rcases e2 with e | ⟨kd, idx, e⟩
    · exact absurd e this.1
    · exact absurd e (this.2 kd idx)
theorem x_er1 {c : Nat} {C V : Nat → Nat} {n k1 i1 k2 i2 : Nat} (h1 : xer c C V n k1 i1) (h2 : xer c C V n k2 i2) : k1 = k2 ∧ i1 = i2 := by
  rcases h1.2 with ⟨a1, a2, a3⟩ | ⟨a1, a2, a3, a4⟩ | ⟨a1, a2, a3⟩ <;> rcases h2.2 with ⟨b1, b2, b3⟩ | ⟨b1, b2, b3, b4⟩ | ⟨b1, b2, b3⟩
  · omega
  · omega
  · omega
  · omega
  · omega
  · omega
  · omega
  · omega
  · rw [a3] at b3
    cases b3
    exact ⟨rfl, rfl⟩
