theorem s_fact {d : Nat} {S : ov_S} {v1 : Int32} {v2 : Int32} (hd : 2 ≤ d) (h : rl_S S) : rl_2 d mq_Eye_fact mq_Mod_fact [some (.inr (.inr (true, 0, 0))), some (.inl v1), some (.inl v2)] [some (.inr (.inr (true, 14, 0))), some (.inl v1), some (.inl v2)] S := by
  unfold rl_2
  obtain ⟨c, m, lb, nz, wc, hw, ho, hi⟩ := id h
  obtain ⟨g1, g2, g3, g4, g5, g6, g7, g8, g9, g10, g11, g12, g13, g14, g15, g16, g17, g18, g19, g20, g21, g22, g23, g24, g25, g26⟩ := hw
  refine r_Eye_fact_0 (by omega) ⟨fun q => ?_, fun q => r_Mod_fact_0 (by omega) ⟨fun y => absurd ((zz_le (b := 9) rfl).2 (by obtain ⟨k, hk, e⟩ := (zz_lt (b := 10) rfl).1 y; exact ⟨k, by omega, e⟩)) q, fun _ => rl_same h rfl⟩⟩
  obtain ⟨f, hf, rfl⟩ := (zz_le (b := 9) rfl).1 q
  have hm : 0 ≤ nI f ∧ nI f < 10 := (zz_lt (b := 10) rfl).2 ⟨f, by omega, rfl⟩
  have ib : ov_ib (nI f) 10 := zz_ib (by omega) (by decide)
  have K : ∀ x : Int32, (x = 0 ∨ x = 1) → rl_e (some (.inl 1)) (some (.inl 1)) (ov_w (ov_w (ov_w S 20 0 (ov_ix (nI f)) x) 14 0 0 0) 63 0 (ov_ix (nI f)) x) := by
    intro x hx
    rw [zz_ix (by omega)]
    refine ⟨1, rfl, rfl, c, m, lb, nz, wc, ⟨g1, g2, g3, g4, g5, g6, ?_, g8, g9, g10, g11, g12, g13, g14, g15, g16, g17, g18, g19, g20, g21, g22, g23, g24, g25, g26⟩, ho, (rl_i_hi (rl_hi_hi (rl_hi_14 (rl_hi_lo rl_hi_r (by decide) (by decide) (by decide) (by decide)) (by decide)) (by decide) (by decide)) hi)⟩
    intro f' hf'
    show (ov_w S 20 0 f x).1 20 0 f' = (ov_w S 63 0 f x).1 63 0 f' ∧ ((ov_w S 63 0 f x).1 63 0 f' = 0 ∨ (ov_w S 63 0 f x).1 63 0 f' = 1)
    rw [rl_wr, rl_wr]
    by_cases e : f' = f
    · rw [if_pos e, if_pos e]; exact ⟨rfl, hx⟩
    · rw [if_neg e, if_neg e]; exact g7 f' hf'
  exact ⟨fun z => ⟨ib, r_Mod_fact_0 (by omega) ⟨fun _ => ⟨fun _ => ⟨ib, K 0 (.inl rfl)⟩, fun n => absurd z n⟩, fun n => absurd hm n⟩⟩, fun z => ⟨ib, r_Mod_fact_0 (by omega) ⟨fun _ => ⟨fun e => absurd e z, fun _ => ⟨ib, K 1 (.inr rfl)⟩⟩, fun n => absurd hm n⟩⟩⟩
theorem s_noise {d : Nat} {S : ov_S} {v1 : Int32} (hd : 2 ≤ d) (h : rl_S S) : rl_2 d mq_Eye_noise mq_Mod_noise [some (.inr (.inr (true, 0, 0))), some (.inl v1)] [some (.inr (.inr (true, 14, 0))), some (.inl v1)] S := by
  unfold rl_2
  obtain ⟨c, m, lb, nz, wc, hw, ho, hi⟩ := id h
  obtain ⟨g1, g2, g3, g4, g5, g6, g7, g8, g9, g10, g11, g12, g13, g14, g15, g16, g17, g18, g19, g20, g21, g22, g23, g24, g25, g26⟩ := hw
  obtain ⟨hn, en, em⟩ := g5
  have eM : S.1 14 0 16 = S.1 1 0 9 := g3.2.2.trans g3.2.1.symm
  have hE : (0 ≤ ov_g S 1 0 7 ∧ ov_g S 1 0 7 ≤ 19) ↔ nz < 20 := by
    rw [show ov_g S 1 0 7 = nI nz from en, zz_le (b := 19) rfl]
    exact ⟨fun ⟨k, hk, e⟩ => by have := zz_inj (by omega) (by omega) e; omega, fun q => ⟨nz, by omega, rfl⟩⟩
  refine r_Eye_noise_0 (by omega) (r_World_addNoise_0 (by omega) ⟨fun n => r_Eye_noise_8 (r_Mod_noise_0 (by omega) ⟨fun _ => rl_same h rfl, fun y => absurd (by rw [show ov_g (ov_w S 14 0 0 0) 14 0 16 = ov_g S 1 0 9 from eM] at y; exact y) n⟩), fun y => ⟨fun q => ?_, fun q => r_Eye_noise_8 (r_Mod_noise_0 (by omega) ⟨fun n => absurd (by rw [show ov_g (ov_w S 14 0 0 0) 14 0 16 = ov_g S 1 0 9 from eM]; exact y) n, fun _ => ⟨fun n => ?_, fun _ => rl_same h rfl⟩⟩)⟩⟩)
  · have hz := hE.1 q
    rw [show ov_ix (ov_g S 1 0 7) = nz by rw [show ov_g S 1 0 7 = nI nz from en]; exact zz_ix (by omega), show ov_g S 1 0 7 = nI nz from en]
    refine ⟨zz_ib hz (by decide), r_Eye_noise_8 (r_Mod_noise_0 (by omega) ⟨fun n => absurd (show ov_g S 14 0 16 ≤ v1 ∧ v1 ≤ 99999 by rw [show ov_g S 14 0 16 = ov_g S 1 0 9 from eM]; exact y) n, fun _ => ⟨fun _ => ?_, fun e => absurd (zz_inj (b := 20) (by omega) (by decide) (em.symm.trans e)) (by omega)⟩⟩)⟩
    refine ⟨show ov_ib (S.1 14 0 18) 20 by rw [em]; exact zz_ib hz (by decide), ?_⟩
    generalize hS1 : ov_w (ov_w S 21 0 nz v1) 1 0 7 (ov_g (ov_w S 21 0 nz v1) 1 0 7 + 1) = S1
    have e18 : ov_g (ov_w S1 14 0 0 0) 14 0 18 = nI nz := by rw [← hS1]; exact em
    rw [e18, zz_ix (by omega)]
    subst hS1
    refine ⟨_, rfl, congrArg (fun z => some (Sum.inl z)) (show S.1 14 0 18 + 1 - 1 = S.1 1 0 7 + 1 - 1 by rw [em, en]), c, m, lb, nz + 1, wc, ⟨g1, g2, g3, g4, ?_, ?_, g7, g8, g9, g10, g11, g12, g13, g14, g15, g16, g17, g18, g19, g20, g21, g22, g23, g24, g25, g26⟩, ho, (rl_i_hi (rl_hi_14 (rl_hi_hi (rl_hi_14 (rl_hi_lo (rl_hi_lo rl_hi_r (by decide) (by decide) (by decide) (by decide)) (by decide) (by decide) (by decide) (by decide)) (by decide)) (by decide) (by decide)) (by decide)) hi)⟩
    · exact ⟨hz, show S.1 1 0 7 + 1 = _ by rw [en, nI_1], show S.1 14 0 18 + 1 = _ by rw [em, nI_1]⟩
    · intro k hk
      show (ov_w S 21 0 nz v1).1 21 0 k = (ov_w S 71 0 nz v1).1 71 0 k
      rw [rl_wr, rl_wr]
      by_cases e : k = nz
      · rw [if_pos e, if_pos e]
      · rw [if_neg e, if_neg e]; exact g6 k hk
  · refine absurd ?_ n
    have hq : ¬ nz < 20 := fun z => q (hE.2 z)
    have : nz = 20 := by omega
    exact em.trans (by rw [this]; rfl)
theorem s_watch {d : Nat} {S : ov_S} {v1 : Int32} (hd : 2 ≤ d) (h : rl_S S) : rl_2 d mq_Eye_watch mq_Mod_watch [some (.inr (.inr (true, 0, 0))), some (.inl v1)] [some (.inr (.inr (true, 14, 0))), some (.inl v1)] S := by
  unfold rl_2
  obtain ⟨c, m, lb, nz, wc, hw, ho, hi⟩ := id h
  obtain ⟨g1, g2, g3, g4, g5, g6, g7, g8, g9, g10, g11, g12, g13, g14, g15, g16, g17, g18, g19, g20, g21, g22, g23, g24, g25, g26⟩ := hw
  obtain ⟨hn, en, em⟩ := g24
  have hE : (0 ≤ ov_g S 5 0 4 ∧ ov_g S 5 0 4 ≤ 8) ↔ wc < 9 := by
    rw [show ov_g S 5 0 4 = nI wc from en, zz_le (b := 8) rfl]
    exact ⟨fun ⟨k, hk, e⟩ => by have := zz_inj (by omega) (by omega) e; omega, fun q => ⟨wc, by omega, rfl⟩⟩
  refine r_Eye_watch_0 (by omega) (r_Tables_addWatch_0 (by omega) ⟨fun n => r_Eye_watch_11 (r_Mod_watch_0 (by omega) ⟨fun _ => rl_same h rfl, fun y => absurd y n⟩), fun y => ⟨fun q => ?_, fun q => r_Eye_watch_11 (r_Mod_watch_0 (by omega) ⟨fun n => absurd y n, fun _ => ⟨fun n => ?_, fun _ => rl_same h rfl⟩⟩)⟩⟩)
  · have hz := hE.1 q
    rw [show ov_ix (ov_g S 5 0 4) = wc by rw [show ov_g S 5 0 4 = nI wc from en]; exact zz_ix (by omega), show ov_g S 5 0 4 = nI wc from en]
    refine ⟨zz_ib hz (by decide), r_Eye_watch_11 (r_Mod_watch_0 (by omega) ⟨fun n => absurd y n, fun _ => ⟨fun _ => ?_, fun e => absurd (zz_inj (b := 9) (by omega) (by decide) (em.symm.trans e)) (by omega)⟩⟩)⟩
    refine ⟨show ov_ib (S.1 14 0 55) 9 by rw [em]; exact zz_ib hz (by decide), ?_⟩
    obtain ⟨w, hw1, hw2, rfl⟩ := (zz_rng (a := 1) (b := 99) rfl rfl).1 y
    generalize hS1 : ov_w (ov_w S 32 0 wc (nI w)) 5 0 4 (ov_g (ov_w S 32 0 wc (nI w)) 5 0 4 + 1) = S1
    have e18 : ov_g (ov_w S1 14 0 0 0) 14 0 55 = nI wc := by rw [← hS1]; exact em
    rw [e18, zz_ix (by omega)]
    subst hS1
    refine ⟨_, rfl, congrArg (fun z => some (Sum.inl z)) (show S.1 14 0 55 + 1 - 1 = S.1 5 0 4 + 1 - 1 by rw [em, en]), c, m, lb, nz, wc + 1, ⟨g1, g2, g3, g4, g5, g6, g7, g8, g9, g10, g11, g12, g13, g14, g15, g16, g17, g18, g19, g20, g21, g22, g23, ?_, ?_, g26⟩, ho, (rl_i_hi (rl_hi_14 (rl_hi_hi (rl_hi_14 (rl_hi_lo (rl_hi_lo rl_hi_r (by decide) (by decide) (by decide) (by decide)) (by decide) (by decide) (by decide) (by decide)) (by decide)) (by decide) (by decide)) (by decide)) hi)⟩
    · exact ⟨hz, show S.1 5 0 4 + 1 = _ by rw [en, nI_1], show S.1 14 0 55 + 1 = _ by rw [em, nI_1]⟩
    · intro k hk
      show (ov_w S 32 0 wc (nI w)).1 32 0 k = (ov_w S 95 0 wc (nI w)).1 95 0 k ∧ (k < wc + 1 → ∃ v : Nat, 1 ≤ v ∧ v ≤ 99 ∧ (ov_w S 95 0 wc (nI w)).1 95 0 k = nI v)
      rw [rl_wr, rl_wr]
      by_cases e : k = wc
      · rw [if_pos e, if_pos e]; exact ⟨rfl, fun _ => ⟨w, hw1, hw2, rfl⟩⟩
      · rw [if_neg e, if_neg e]; exact ⟨(g25 k hk).1, fun q => (g25 k hk).2 (by omega)⟩
  · refine absurd ?_ n
    have hq : ¬ wc < 9 := fun z => q (hE.2 z)
    have : wc = 9 := by omega
    exact em.trans (by rw [this]; rfl)
theorem s_spot {d : Nat} {S : ov_S} {v1 : Int32} {v2 : Int32} {v3 : Int32} (hd : 2 ≤ d) (h : rl_S S) : rl_2 d mq_Eye_spot mq_Mod_spot [some (.inr (.inr (true, 0, 0))), some (.inl v1), some (.inl v2), some (.inl v3)] [some (.inr (.inr (true, 14, 0))), some (.inl v1), some (.inl v2), some (.inl v3)] S := by
  unfold rl_2
  obtain ⟨c, m, lb, nz, wc, hw, ho, hi⟩ := id h
  obtain ⟨g1, g2, g3, g4, g5, g6, g7, g8, g9, g10, g11, g12, g13, g14, g15, g16, g17, g18, g19, g20, g21, g22, g23, g24, g25, g26⟩ := hw
  refine r_Eye_spot_0 (by omega) ⟨fun n => r_Mod_spot_0 (by omega) ⟨fun _ => rl_same h rfl, fun y => absurd y n⟩, fun q1 => ⟨fun n => r_Mod_spot_0 (by omega) ⟨fun n1 => absurd q1 n1, fun _ => ⟨fun _ => rl_same h rfl, fun y => absurd y n⟩⟩, fun q2 => ⟨fun q3 => ?_, fun n => r_Mod_spot_0 (by omega) ⟨fun n1 => absurd q1 n1, fun _ => ⟨fun n1 => absurd q2 n1, fun _ => ⟨fun y => absurd y n, fun _ => rl_same h rfl⟩⟩⟩⟩⟩⟩
  obtain ⟨s, hs, rfl⟩ := (zz_le (b := 8) rfl).1 q1
  obtain ⟨w, hw, rfl⟩ := (zz_le (b := 99) rfl).1 q2
  obtain ⟨t, ht, ht9, rfl⟩ := (zz_rng (a := 1) (b := 9) rfl rfl).1 q3
  have ib : ov_ib (nI s) 9 := zz_ib (by omega) (by decide)
  refine ⟨ib, ib, r_Mod_spot_0 (by omega) ⟨fun n1 => absurd q1 n1, fun _ => ⟨fun n1 => absurd q2 n1, fun _ => ⟨fun _ => ⟨ib, ib, ?_⟩, fun n => absurd q3 n⟩⟩⟩⟩
  rw [zz_ix (by omega)]
  refine ⟨1, rfl, rfl, c, m, lb, nz, wc, ⟨g1, g2, g3, g4, g5, g6, g7, g8, g9, g10, g11, g12, g13, g14, g15, g16, g17, g18, g19, g20, g21, g22, ?_, g24, g25, g26⟩, ho, (rl_i_hi (rl_hi_hi (rl_hi_hi (rl_hi_14 (rl_hi_lo (rl_hi_lo rl_hi_r (by decide) (by decide) (by decide) (by decide)) (by decide) (by decide) (by decide) (by decide)) (by decide)) (by decide) (by decide)) (by decide) (by decide)) hi)⟩
  intro k hk
  show ∃ w' t' : Nat, w' ≤ 99 ∧ 1 ≤ t' ∧ t' ≤ 9 ∧ (ov_w S 30 0 s (nI w)).1 30 0 k = nI w' ∧ (ov_w S 92 0 s (nI w)).1 92 0 k = nI w' ∧ (ov_w S 31 0 s (nI t)).1 31 0 k = nI t' ∧ (ov_w S 93 0 s (nI t - 1)).1 93 0 k = nI (t' - 1)
  rw [rl_wr, rl_wr, rl_wr, rl_wr]
  by_cases e : k = s
  · rw [if_pos e, if_pos e, if_pos e, if_pos e]
    exact ⟨w, t, hw, ht, ht9, rfl, rfl, rfl, pk_sub (b := 1) ht⟩
  · rw [if_neg e, if_neg e, if_neg e, if_neg e]; exact g23 k hk
theorem zz_dE (a b x : Nat) : (nI a * 3 + nI b) * 3 + nI x = nI (9 * a + 3 * b + x) := by
  show (nI a * nI 3 + nI b) * nI 3 + nI x = _
  rw [pk_mul, nI_add, pk_mul, nI_add]
  congr 1
  omega
theorem zz_9 (a b x : Nat) : 9 * nI a + 3 * nI b + nI x = nI (9 * a + 3 * b + x) := by
  show nI 9 * nI a + nI 3 * nI b + nI x = _
  rw [pk_mul, pk_mul, nI_add, nI_add]
theorem s_danger {d : Nat} {S : ov_S} {v1 : Int32} {v2 : Int32} {v3 : Int32} {v4 : Int32} (hd : 2 ≤ d) (h : rl_S S) : rl_2 d mq_Eye_danger mq_Mod_danger [some (.inr (.inr (true, 0, 0))), some (.inl v1), some (.inl v2), some (.inl v3), some (.inl v4)] [some (.inr (.inr (true, 14, 0))), some (.inl v1), some (.inl v2), some (.inl v3), some (.inl v4)] S := by
  unfold rl_2
  obtain ⟨c, m, lb, nz, wc, hw, ho, hi⟩ := id h
  obtain ⟨g1, g2, g3, g4, g5, g6, g7, g8, g9, g10, g11, g12, g13, g14, g15, g16, g17, g18, g19, g20, g21, g22, g23, g24, g25, g26⟩ := hw
  have h3 : ∀ v : Int32, (0 ≤ v ∧ v ≤ 2) ↔ (0 ≤ v ∧ v < 3) := fun v => by
    rw [zz_le (b := 2) rfl, zz_lt (b := 3) rfl]
    exact ⟨fun ⟨k, hk, e⟩ => ⟨k, by omega, e⟩, fun ⟨k, hk, e⟩ => ⟨k, by omega, e⟩⟩
  refine r_Eye_danger_0 (by omega) ⟨fun n => r_Mod_danger_0 (by omega) ⟨fun _ => rl_same h rfl, fun y => absurd y n⟩, fun q1 => ⟨fun n => r_Mod_danger_0 (by omega) ⟨fun n1 => absurd q1 n1, fun _ => ⟨fun _ => rl_same h rfl, fun y => absurd y n⟩⟩, fun q2 => ⟨fun n => r_Mod_danger_0 (by omega) ⟨fun n1 => absurd q1 n1, fun _ => ⟨fun n1 => absurd q2 n1, fun _ => ⟨fun _ => rl_same h rfl, fun y => absurd ((h3 _).2 y) n⟩⟩⟩, fun q3 => ⟨fun q4 => ?_, fun n => r_Mod_danger_0 (by omega) ⟨fun n1 => absurd q1 n1, fun _ => ⟨fun n1 => absurd q2 n1, fun _ => ⟨fun n1 => absurd ((h3 _).1 q3) n1, fun _ => ⟨fun y => absurd y n, fun _ => rl_same h rfl⟩⟩⟩⟩⟩⟩⟩⟩
  have q3' := (h3 _).1 q3
  obtain ⟨a, ha, rfl⟩ := (zz_le (b := 11) rfl).1 q1
  obtain ⟨b, hb, rfl⟩ := (zz_le (b := 2) rfl).1 q2
  obtain ⟨x, hx, rfl⟩ := (zz_le (b := 2) rfl).1 q3
  obtain ⟨v, hv, rfl⟩ := (zz_le (b := 9) rfl).1 q4
  have ib : ov_ib (nI (9 * a + 3 * b + x)) 108 := zz_ib (by omega) (by decide)
  rw [zz_dE, zz_ix (by omega)]
  refine ⟨ib, r_Mod_danger_0 (by omega) ⟨fun n1 => absurd q1 n1, fun _ => ⟨fun n1 => absurd q2 n1, fun _ => ⟨fun n1 => absurd q3' n1, fun _ => ⟨fun _ => ?_, fun n => absurd q4 n⟩⟩⟩⟩⟩
  rw [zz_9, zz_ix (by omega)]
  refine ⟨ib, 1, rfl, rfl, c, m, lb, nz, wc, ⟨g1, g2, g3, g4, g5, g6, g7, g8, g9, g10, g11, g12, g13, g14, g15, g16, g17, g18, g19, g20, g21, ?_, g23, g24, g25, g26⟩, ho, (rl_i_hi (rl_hi_hi (rl_hi_14 (rl_hi_lo rl_hi_r (by decide) (by decide) (by decide) (by decide)) (by decide)) (by decide) (by decide)) hi)⟩
  intro k hk
  generalize 9 * a + 3 * b + x = j
  show (ov_w S 29 0 j (nI v)).1 29 0 k = (ov_w S 90 0 j (nI v)).1 90 0 k ∧ ∃ v' : Nat, v' ≤ 9 ∧ (ov_w S 90 0 j (nI v)).1 90 0 k = nI v'
  rw [rl_wr, rl_wr]
  by_cases e : k = j
  · rw [if_pos e, if_pos e]; exact ⟨rfl, v, hv, rfl⟩
  · rw [if_neg e, if_neg e]; exact g22 k hk
def zz_on (b t : Nat) : Nat := b ||| 2 ^ t
def zz_off (b t : Nat) : Nat := if b.testBit t then b - 2 ^ t else b
theorem zz_wb1 : ∀ b : Nat, b < 512 → ∀ t : Nat, t < 9 → ov_wb (nI b) (nI t) 0 = nI (zz_off b t) ∧ ov_wb (nI b) (nI t) 1 = nI (zz_on b t) := by decide +kernel
theorem zz_wb2 : ∀ b : Nat, b < 512 → ∀ t : Nat, t < 9 → zz_off b t < 512 ∧ zz_on b t < 512 := by decide +kernel
theorem zz_wb3 : ∀ b : Nat, b < 16 → ∀ t : Nat, t < 4 → zz_off b t < 16 ∧ zz_on b t < 16 := by decide +kernel
theorem zz_wb4 : ∀ b : Nat, b < 512 → ∀ t : Nat, t < 9 → ∀ k : Nat, k < 9 → (zz_off b t).testBit k = (if k = t then false else b.testBit k) ∧ (zz_on b t).testBit k = (if k = t then true else b.testBit k) := by decide +kernel
theorem zz_wb {b t : Nat} {s : Int32} (hb : b < 512) (ht : t < 9) : ∃ b' : Nat, ov_wb (nI b) (nI t) s = nI b' ∧ b' < 512 ∧ (b < 16 → t < 4 → b' < 16) ∧ ∀ k : Nat, k < 9 → b'.testBit k = (if k = t then (if s = 0 then false else true) else b.testBit k) := by
  obtain ⟨h1, h2⟩ := zz_wb1 b hb t ht
  obtain ⟨h3, h4⟩ := zz_wb2 b hb t ht
  have h5 := zz_wb3 b
  have h6 := zz_wb4 b hb t ht
  by_cases hs : s = 0
  · subst hs
    refine ⟨zz_off b t, h1, h3, fun a b => (h5 a t b).1, fun k hk => ?_⟩
    rw [(h6 k hk).1, if_pos rfl]
  · refine ⟨zz_on b t, ?_, h4, fun a b => (h5 a t b).2, fun k hk => ?_⟩
    · rw [← h2]
      unfold ov_wb
      rw [if_neg hs, if_neg (by decide)]
    · rw [(h6 k hk).2, if_neg hs]
theorem s_trust {d : Nat} {S : ov_S} {v1 : Int32} {v2 : Int32} {v3 : Int32} (hd : 2 ≤ d) (h : rl_S S) : rl_2 d mq_Eye_trust mq_Mod_trust [some (.inr (.inr (true, 0, 0))), some (.inl v1), some (.inl v2), some (.inl v3), none] [some (.inr (.inr (true, 14, 0))), some (.inl v1), some (.inl v2), some (.inl v3)] S := by
  unfold rl_2
  obtain ⟨c, m, lb, nz, wc, hw, ho, hi⟩ := id h
  obtain ⟨g1, g2, g3, g4, g5, g6, g7, g8, g9, g10, g11, g12, g13, g14, g15, g16, g17, g18, g19, g20, g21, g22, g23, g24, g25, g26⟩ := hw
  have hc := g1.1
  refine r_Eye_trust_0 hd ⟨fun q => ?_, fun q => r_Mod_trust_0 (by omega) ⟨fun _ => rl_same h rfl, fun y => absurd ((w_pers g1.1 g1.2.1).2 ((m_pers g1.1 g1.2.2).1 y)) q⟩⟩
  obtain ⟨p, hp, rfl⟩ := (w_pers g1.1 g1.2.1).1 q
  have hm := (m_pers g1.1 g1.2.2).2 ⟨p, hp, rfl⟩
  rw [zz_ix (by omega), Nat.mul_zero, Nat.zero_add]
  refine ⟨ho.2.2.2.2.1 p (by omega), fun q2 => ?_, fun q2 => r_Mod_trust_0 (by omega) ⟨fun _ => rl_same h rfl, fun _ => ⟨fun y => absurd ((w_three g1.1 g1.2.1).2 ((m_three g1.1 g1.2.2).1 y)) q2, fun _ => rl_same h rfl⟩⟩⟩
  obtain ⟨t, ht, rfl⟩ := (w_three g1.1 g1.2.1).1 q2
  have hm2 := (m_three g1.1 g1.2.2).2 ⟨t, ht, rfl⟩
  refine ⟨by rw [zz_ix (by omega)]; exact ho.2.2.2.1 t (by omega), ?_⟩
  obtain ⟨b, hb, eb, hb3, hb4⟩ := g18 p (by omega)
  obtain ⟨b', eb', _, hb16, hbit⟩ := zz_wb (b := b) (t := t) (s := v3) (by omega) (by omega)
  rw [show ov_g S 7 p 7 = nI b from eb, eb']
  have K : ∀ x : Int32, x = (if v3 = 0 then 0 else 1) → rl_e (some (.inl 1)) (some (.inl 1)) (ov_w (ov_w (ov_w S 7 p 7 (nI b')) 14 0 0 0) 65 0 (ov_ix (4 * nI p + nI t)) x) := by
    intro x hx
    rw [zz_4, zz_ix (by omega)]
    refine ⟨1, rfl, rfl, c, m, lb, nz, wc, ⟨g1, g2, g3, g4, g5, g6, g7, g8, g9, g10, g11, g12, g13, g14, g15, g16, ?_, ?_, g19, g20, g21, g22, g23, g24, g25, g26⟩, ho, (rl_i_hi (rl_hi_hi (rl_hi_14 (rl_hi_lo rl_hi_r (by decide) (show p < 12 by omega) (by decide) (by decide)) (by decide)) (by decide) (by decide)) hi)⟩
    · intro p' hp'
      show (if 7 = 7 ∧ p' = p ∧ 6 = 7 then nI b' else S.1 7 p' 6) = S.1 72 0 p'
      rw [if_neg (by omega)]
      exact g17 p' hp'
    · intro p' hp'
      show ∃ b0 : Nat, b0 < 16 ∧ (ov_w S 7 p 7 (nI b')).1 7 p' 7 = nI b0 ∧ (p' < 3 * c → ∀ t', t' < 4 → (ov_w S 65 0 (4 * p + t) x).1 65 0 (4 * p' + t') = if b0.testBit t' then 1 else 0) ∧ (3 * c ≤ p' → b0 = 15)
      rw [rl_wi]
      by_cases e : p' = p
      · subst e
        rw [if_pos rfl]
        refine ⟨b', hb16 hb (by omega), rfl, fun _ t' ht' => ?_, fun q => by omega⟩
        rw [rl_wr, hbit t' (by omega)]
        by_cases e2 : t' = t
        · rw [if_pos (by omega), if_pos e2, hx]
          by_cases hs : v3 = 0
          · rw [if_pos hs, if_pos hs]; rfl
          · rw [if_neg hs, if_neg hs]; rfl
        · rw [if_neg (by omega), if_neg e2]
          exact hb3 hp t' ht'
      · rw [if_neg e]
        obtain ⟨b0, k1, k2, k3, k4⟩ := g18 p' hp'
        refine ⟨b0, k1, k2, fun q t' ht' => ?_, k4⟩
        rw [rl_wr, if_neg (by omega)]
        exact k3 q t' ht'
  have ib : ov_ib (4 * nI p + nI t) 48 := by rw [zz_4]; exact zz_ib (by omega) (by decide)
  exact r_Mod_trust_0 (by omega) ⟨fun n => absurd hm n, fun _ => ⟨fun _ => ⟨fun z => ⟨ib, K 0 (by rw [if_pos z])⟩, fun z => ⟨ib, K 1 (by rw [if_neg z])⟩⟩, fun n => absurd hm2 n⟩⟩
theorem s_lends {d : Nat} {S : ov_S} {v1 : Int32} {v2 : Int32} {v3 : Int32} {v4 : Int32} (hd : 2 ≤ d) (h : rl_S S) : rl_2 d mq_Eye_lends mq_Mod_lends [some (.inr (.inr (true, 0, 0))), some (.inl v1), some (.inl v2), some (.inl v3), some (.inl v4), none] [some (.inr (.inr (true, 14, 0))), some (.inl v1), some (.inl v2), some (.inl v3), some (.inl v4)] S := by
  unfold rl_2
  obtain ⟨c, m, lb, nz, wc, hw, ho, hi⟩ := id h
  obtain ⟨g1, g2, g3, g4, g5, g6, g7, g8, g9, g10, g11, g12, g13, g14, g15, g16, g17, g18, g19, g20, g21, g22, g23, g24, g25, g26⟩ := hw
  have hc := g1.1
  have h3 : ∀ v : Int32, (0 ≤ v ∧ v ≤ 2) ↔ (0 ≤ v ∧ v < 3) := fun v => by
    rw [zz_le (b := 2) rfl, zz_lt (b := 3) rfl]
    exact ⟨fun ⟨k, hk, e⟩ => ⟨k, by omega, e⟩, fun ⟨k, hk, e⟩ => ⟨k, by omega, e⟩⟩
  refine r_Eye_lends_0 hd ⟨fun q => ?_, fun q => r_Mod_lends_0 (by omega) ⟨fun _ => rl_same h rfl, fun y => absurd ((w_three g1.1 g1.2.1).2 ((m_three g1.1 g1.2.2).1 y)) q⟩⟩
  obtain ⟨t, ht, rfl⟩ := (w_three g1.1 g1.2.1).1 q
  have hm := (m_three g1.1 g1.2.2).2 ⟨t, ht, rfl⟩
  have ib4 : ov_ib (nI t) 4 := zz_ib (by omega) (by decide)
  rw [zz_ix (by omega)]
  refine ⟨ho.2.2.2.1 t (by omega), fun e => r_Mod_lends_0 (by omega) ⟨fun _ => rl_same h rfl, fun _ => ⟨fun _ => rl_same h rfl, fun _ => ⟨fun _ => rl_same h rfl, fun _ => ⟨fun n => absurd e n, fun _ => rl_same h rfl⟩⟩⟩⟩, fun ne => ⟨fun n => r_Mod_lends_0 (by omega) ⟨fun _ => rl_same h rfl, fun _ => ⟨fun _ => rl_same h rfl, fun y => absurd ((h3 _).2 y) n⟩⟩, fun q2 => ⟨fun q3 => ⟨ib4, ib4, ?_⟩, fun n => r_Mod_lends_0 (by omega) ⟨fun _ => rl_same h rfl, fun _ => ⟨fun _ => rl_same h rfl, fun _ => ⟨fun _ => rl_same h rfl, fun y => absurd ((h3 _).2 y) n⟩⟩⟩⟩⟩⟩
  have q2' := (h3 _).1 q2
  have q3' := (h3 _).1 q3
  obtain ⟨x, hx, rfl⟩ := (zz_le (b := 2) rfl).1 q2
  obtain ⟨y, hy, rfl⟩ := (zz_le (b := 2) rfl).1 q3
  obtain ⟨b, hb, eb, hb3⟩ := g26 t (by omega)
  obtain ⟨b', eb', hb', _, hbit⟩ := zz_wb (b := b) (t := 3 * x + y) (s := v4) (by omega) (by omega)
  rw [show ov_g S 33 0 t = nI b from eb, zz_3, eb']
  have K : ∀ z : Int32, z = (if v4 = 0 then 0 else 1) → rl_e (some (.inl 1)) (some (.inl 1)) (ov_w (ov_w (ov_w S 33 0 t (nI b')) 14 0 0 0) 97 0 (ov_ix (9 * nI t + 3 * nI x + nI y)) z) := by
    intro z hz
    rw [zz_9, zz_ix (by omega)]
    refine ⟨1, rfl, rfl, c, m, lb, nz, wc, ⟨g1, g2, g3, g4, g5, g6, g7, g8, g9, g10, g11, g12, g13, g14, g15, g16, g17, g18, g19, g20, g21, g22, g23, g24, g25, ?_⟩, ho, (rl_i_hi (rl_hi_hi (rl_hi_14 (rl_hi_lo rl_hi_r (by decide) (by decide) (by decide) (by decide)) (by decide)) (by decide) (by decide)) hi)⟩
    intro t' ht'
    show ∃ b0 : Nat, b0 < 512 ∧ (ov_w S 33 0 t (nI b')).1 33 0 t' = nI b0 ∧ ∀ k, k < 9 → (ov_w S 97 0 (9 * t + 3 * x + y) z).1 97 0 (9 * t' + k) = if b0.testBit k then 1 else 0
    rw [rl_wr]
    by_cases e : t' = t
    · subst e
      rw [if_pos rfl]
      refine ⟨b', hb', rfl, fun k hk => ?_⟩
      rw [rl_wr, hbit k hk]
      by_cases e2 : k = 3 * x + y
      · rw [if_pos (by omega), if_pos e2, hz]
        by_cases hs : v4 = 0
        · rw [if_pos hs, if_pos hs]; rfl
        · rw [if_neg hs, if_neg hs]; rfl
      · rw [if_neg (by omega), if_neg e2]
        exact hb3 k hk
    · rw [if_neg e]
      obtain ⟨b0, k1, k2, k3⟩ := g26 t' ht'
      refine ⟨b0, k1, k2, fun k hk => ?_⟩
      rw [rl_wr, if_neg (by omega)]
      exact k3 k hk
  have ib : ov_ib (9 * nI t + 3 * nI x + nI y) 36 := by rw [zz_9]; exact zz_ib (by omega) (by decide)
  exact r_Mod_lends_0 (by omega) ⟨fun n => absurd hm n, fun _ => ⟨fun n => absurd q2' n, fun _ => ⟨fun n => absurd q3' n, fun _ => ⟨fun _ => ⟨fun z => ⟨ib, K 0 (by rw [if_pos z])⟩, fun z => ⟨ib, K 1 (by rw [if_neg z])⟩⟩, fun e => absurd e ne⟩⟩⟩⟩
