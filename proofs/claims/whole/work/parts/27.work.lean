/-! ===== the reference: what has ended ===== -/
theorem mi_enR {d : Nat} {C T : ov_S} {Q : ov_Q} {t : Nat} (hd : 3 ≤ d) (ht : t < 4) (e : T.1 79 0 t = 2) (h : Q none (ov_mix C (ov_w T 79 0 t 0))) : ov_V true true d 0 0 mq_Mod_ends 0 [some (.inr (.inr (true, 14, 0))), some (.inl (nI t))] [] (ov_mix C T) Q := by
  have ib : ov_ib (nI t) 4 := zz_ib ht (by decide)
  have ex : ov_ix (nI t) = t := zz_ix (by omega)
  refine r_Mod_ends_0 (by omega) ?_
  rw [ex]
  refine ⟨ib, fun _ => ⟨ib, fun _ => r_Mod_ends_33 ?_, fun q => absurd (e.symm.trans q) (by decide)⟩, fun q => absurd (e.symm.trans q) (by decide)⟩
  rw [ex, mix_m rfl]
  exact ⟨ib, h⟩
theorem mi_enF {d : Nat} {C T : ov_S} {Q : ov_Q} {t x : Nat} (hd : 3 ≤ d) (ht : t < 4) (hx : x < 3) (e : T.1 79 0 t = 3) (e81 : T.1 81 0 t = nI x) (h1 : T.1 62 0 (3 * t + x) = 10 + T.1 82 0 t → Q none (ov_mix C (ov_w (ov_w (ov_w T 79 0 t 0) 62 0 (3 * t + x) (mi_first (mi_f T t))) 79 0 t 0))) (h2 : ¬ T.1 62 0 (3 * t + x) = 10 + T.1 82 0 t → Q none (ov_mix C (ov_w (ov_w T 79 0 t 0) 79 0 t 0))) : ov_V true true d 0 0 mq_Mod_ends 0 [some (.inr (.inr (true, 14, 0))), some (.inl (nI t))] [] (ov_mix C T) Q := by
  have ib : ov_ib (nI t) 4 := zz_ib ht (by decide)
  have ex : ov_ix (nI t) = t := zz_ix (by omega)
  refine r_Mod_ends_0 (by omega) ?_
  rw [ex]
  refine ⟨ib, fun _ => ⟨ib, fun n => absurd e n, fun _ => r_Mod_feels_0 ?_⟩, fun q => absurd (e.symm.trans q) (by decide)⟩
  rw [ex, mix_m rfl, show ov_g (ov_mix C (ov_w T 79 0 t 0)) 81 0 t = nI x from e81, zz_3, zz_ix (by omega)]
  refine ⟨ib, ib, zz_ib (by omega) (by decide), ib, fun q => ?_, fun q => ?_⟩
  · refine mi_fM (by omega) ht (by omega) (r_Mod_ends_33 ?_)
    rw [ex, mix_m rfl, mix_m rfl]
    exact ⟨ib, h1 q⟩
  · refine r_Mod_ends_33 ?_
    rw [ex, mix_m rfl]
    exact ⟨ib, h2 q⟩
theorem mi_enH {d : Nat} {C T : ov_S} {Q : ov_Q} {t x : Nat} (hd : 3 ≤ d) (ht : t < 4) (hx : x < 3) (e : T.1 79 0 t = 1) (e81 : T.1 81 0 t = nI x)
    (h1 : T.1 59 0 t ≤ 0 → Q none (ov_mix C (ov_w (ov_w (ov_w (ov_w T 60 0 t (T.1 60 0 t + 1)) 79 0 t 0) 62 0 (3 * t + x) (T.1 82 0 t)) 79 0 t 0)))
    (h2 : ¬ T.1 59 0 t ≤ 0 → T.1 59 0 t ≤ dr_v (dr_s (T.1 14 0 1)) 1000 → Q none (ov_mix C (ov_w (ov_w (ov_w (ov_w (ov_w T 60 0 t (T.1 60 0 t + 1)) 79 0 t 0) 14 0 1 (dr_s (T.1 14 0 1))) 62 0 (3 * t + x) (T.1 82 0 t)) 79 0 t 0)))
    (h3 : ¬ T.1 59 0 t ≤ 0 → ¬ T.1 59 0 t ≤ dr_v (dr_s (T.1 14 0 1)) 1000 → Q none (ov_mix C (ov_w (ov_w (ov_w (ov_w (ov_w (ov_w (ov_w T 60 0 t (T.1 60 0 t + 1)) 79 0 t 0) 14 0 1 (dr_s (T.1 14 0 1))) 61 0 t (T.1 61 0 t + 1)) 14 0 1 (dr_s (dr_s (T.1 14 0 1)))) 62 0 (3 * t + x) (10 + dr_v (dr_s (dr_s (T.1 14 0 1))) 9)) 79 0 t 0))) : ov_V true true d 0 0 mq_Mod_ends 0 [some (.inr (.inr (true, 14, 0))), some (.inl (nI t))] [] (ov_mix C T) Q := by
  have ib : ov_ib (nI t) 4 := zz_ib ht (by decide)
  have ib2 : ov_ib (nI (3 * t + x)) 12 := zz_ib (by omega) (by decide)
  have ex : ov_ix (nI t) = t := zz_ix (by omega)
  have ex2 : ov_ix (nI (3 * t + x)) = 3 * t + x := zz_ix (by omega)
  refine r_Mod_ends_0 (by omega) ?_
  rw [ex]
  refine ⟨ib, fun n => absurd e n, fun _ => r_Mod_handsOver_0 (by omega) ?_⟩
  rw [ex, mix_m rfl, mix_m rfl, show ov_g (ov_mix C T) 81 0 t = nI x from e81, zz_3]
  refine ⟨ib, ib, ib, ib, ib, fun q => ?_, fun q => mi_drM (by decide) (r_Mod_handsOver_48 ?_)⟩
  · refine r_Mod_handsOver_61 (r_Mod_handsOver_62 (r_Mod_handsOver_81 (by omega) ⟨fun _ => ⟨ib, ib2, r_Mod_ends_15 (r_Mod_ends_33 ?_)⟩, fun n => absurd rfl n⟩))
    rw [ex, ex2, mix_m rfl, mix_m rfl]
    exact ⟨ib, h1 q⟩
  · rw [ex]
    refine ⟨ib, fun q2 => ?_, fun q2 => r_Mod_handsOver_62_2 ?_⟩
    · refine r_Mod_handsOver_61 (r_Mod_handsOver_62 (r_Mod_handsOver_81 (by omega) ⟨fun _ => ⟨ib, ib2, r_Mod_ends_15 (r_Mod_ends_33 ?_)⟩, fun n => absurd rfl n⟩))
      rw [ex, ex2, mix_m rfl, mix_m rfl]
      exact ⟨ib, h2 q q2⟩
    · rw [ex, mix_m rfl]
      refine ⟨ib, ib, r_Mod_handsOver_81 (by omega) ⟨fun q => absurd q (by decide), fun _ => mi_drM (by decide) (r_Mod_handsOver_98 ⟨ib2, r_Mod_ends_15 (r_Mod_ends_33 ?_)⟩)⟩⟩
      rw [ex, ex2, mix_m rfl, mix_m rfl]
      exact ⟨ib, h3 q q2⟩
/-! ===== the class: a minute of what takes more than one ===== -/
theorem mi_wkK {d : Nat} {C T : ov_S} {Q : ov_Q} {t k : Nat} (hd : 4 ≤ d) (hk : k < 2 ^ 31) (h0 : 0 < k) (e : C.1 6 t 8 = nI (k + 1)) (h : Q none (ov_mix (ov_w C 6 t 8 (nI k)) T)) : ov_V true true d 0 0 mq_World_workOn 0 [some (.inr (.inr (true, 1, 0))), some (.inr (.inr (true, 6, t)))] [] (ov_mix C T) Q := by
  refine r_World_workOn_0 (by omega) ?_
  rw [show ov_g (ov_mix C T) 6 t 8 = nI (k + 1) from e, nI_pred, mix_c rfl, show ov_g (ov_mix (ov_w C 6 t 8 (nI k)) T) 6 t 8 = nI k from rl_ww _ _ _ _ _]
  exact ⟨fun q => absurd q (nI_nle h0 hk), fun _ => h⟩
theorem mi_wkR {d : Nat} {C T : ov_S} {Q : ov_Q} {t : Nat} (hd : 4 ≤ d) (e : C.1 6 t 8 = 1) (e9 : C.1 6 t 9 = 4) (h : Q none (ov_mix (ov_w C 6 t 8 0) T)) : ov_V true true d 0 0 mq_World_workOn 0 [some (.inr (.inr (true, 1, 0))), some (.inr (.inr (true, 6, t)))] [] (ov_mix C T) Q := by
  refine r_World_workOn_0 (by omega) ?_
  rw [show ov_g (ov_mix C T) 6 t 8 = 1 from e, mix_c rfl, show ov_g (ov_mix (ov_w C 6 t 8 (1 - 1)) T) 6 t 8 = 0 from rl_ww _ _ _ _ _, show ov_g (ov_mix (ov_w C 6 t 8 (1 - 1)) T) 6 t 9 = 4 from (rl_wj (by decide)).trans e9]
  exact ⟨fun _ => ⟨fun _ => ⟨fun _ => r_World_workOn_46 h, fun q => absurd q (by decide)⟩, fun q => absurd q (by decide)⟩, fun n => absurd (by decide) n⟩
theorem mi_wkF {d : Nat} {C T : ov_S} {Q : ov_Q} {t x : Nat} (hd : 4 ≤ d) (hx : x < 3) (e : C.1 6 t 8 = 1) (e9 : C.1 6 t 9 = 5) (e10 : C.1 6 t 10 = nI x)
    (h1 : C.1 34 t x = 10 + C.1 6 t 11 → Q none (ov_mix (ov_w (ov_w C 6 t 8 0) 34 t x (mi_first (C.1 34 t))) T))
    (h2 : ¬ C.1 34 t x = 10 + C.1 6 t 11 → Q none (ov_mix (ov_w C 6 t 8 0) T)) : ov_V true true d 0 0 mq_World_workOn 0 [some (.inr (.inr (true, 1, 0))), some (.inr (.inr (true, 6, t)))] [] (ov_mix C T) Q := by
  refine r_World_workOn_0 (by omega) ?_
  rw [show ov_g (ov_mix C T) 6 t 8 = 1 from e, mix_c rfl, show ov_g (ov_mix (ov_w C 6 t 8 (1 - 1)) T) 6 t 8 = 0 from rl_ww _ _ _ _ _, show ov_g (ov_mix (ov_w C 6 t 8 (1 - 1)) T) 6 t 9 = 5 from (rl_wj (by decide)).trans e9]
  refine ⟨fun _ => ⟨fun _ => ⟨fun n => absurd rfl n, fun _ => r_World_finishFeeling_0 (by omega) ?_⟩, fun q => absurd q (by decide)⟩, fun n => absurd (by decide) n⟩
  rw [show ov_g (ov_mix (ov_w C 6 t 8 (1 - 1)) T) 6 t 10 = nI x from (rl_wj (by decide)).trans e10, show ov_g (ov_mix (ov_w C 6 t 8 (1 - 1)) T) 6 t 11 = C.1 6 t 11 from rl_wj (by decide), zz_ix (by omega)]
  refine ⟨fun n => absurd ((zz_le (b := 2) rfl).2 ⟨x, by omega, rfl⟩) n, fun _ => ⟨zz_ib hx (by decide), fun n => r_World_workOn_46 (h2 n), fun q => mi_firstE (r_World_finishFeeling_43 ?_)⟩⟩
  rw [zz_ix (by omega), mix_c rfl]
  exact ⟨zz_ib hx (by decide), r_World_workOn_46 (h1 q)⟩
theorem mi_wkH {d : Nat} {C T : ov_S} {Q : ov_Q} {t x : Nat} (hd : 4 ≤ d) (hx : x < 3) (e : C.1 6 t 8 = 1) (e9 : C.1 6 t 9 = 0) (e10 : C.1 6 t 10 = nI x)
    (h1 : C.1 6 t 1 ≤ 0 → Q none (ov_mix (ov_w (ov_w (ov_w C 6 t 8 0) 6 t 2 (C.1 6 t 2 + 1)) 34 t x (C.1 6 t 11)) T))
    (h2 : ¬ C.1 6 t 1 ≤ 0 → C.1 6 t 1 ≤ dr_v (dr_s (C.1 1 0 8)) 1000 → Q none (ov_mix (ov_w (ov_w (ov_w (ov_w C 6 t 8 0) 6 t 2 (C.1 6 t 2 + 1)) 1 0 8 (dr_s (C.1 1 0 8))) 34 t x (C.1 6 t 11)) T))
    (h3 : ¬ C.1 6 t 1 ≤ 0 → ¬ C.1 6 t 1 ≤ dr_v (dr_s (C.1 1 0 8)) 1000 → Q none (ov_mix (ov_w (ov_w (ov_w (ov_w (ov_w (ov_w C 6 t 8 0) 6 t 2 (C.1 6 t 2 + 1)) 1 0 8 (dr_s (C.1 1 0 8))) 6 t 3 (C.1 6 t 3 + 1)) 1 0 8 (dr_s (dr_s (C.1 1 0 8)))) 34 t x (10 + dr_v (dr_s (dr_s (C.1 1 0 8))) 9)) T)) : ov_V true true d 0 0 mq_World_workOn 0 [some (.inr (.inr (true, 1, 0))), some (.inr (.inr (true, 6, t)))] [] (ov_mix C T) Q := by
  refine r_World_workOn_0 (by omega) ?_
  rw [show ov_g (ov_mix C T) 6 t 8 = 1 from e, mix_c rfl, show ov_g (ov_mix (ov_w C 6 t 8 (1 - 1)) T) 6 t 8 = 0 from rl_ww _ _ _ _ _, show ov_g (ov_mix (ov_w C 6 t 8 (1 - 1)) T) 6 t 9 = 0 from (rl_wj (by decide)).trans e9]
  refine ⟨fun _ => ⟨fun n => absurd rfl n, fun _ => r_World_finishGiving_0 (by omega) ?_⟩, fun n => absurd (by decide) n⟩
  have hin : 0 ≤ nI x ∧ nI x ≤ 2 := (zz_le (b := 2) rfl).2 ⟨x, by omega, rfl⟩
  have ex : ov_ix (nI x) = x := zz_ix (by omega)
  have ib : ov_ib (nI x) 3 := zz_ib hx (by decide)
  rw [show ov_g (ov_mix (ov_w C 6 t 8 (1 - 1)) T) 6 t 2 = C.1 6 t 2 from rl_wj (by decide), mix_c rfl]
  generalize hC2 : ov_w (ov_w C 6 t 8 (1 - 1)) 6 t 2 (C.1 6 t 2 + 1) = C2
  have r1 : C2.1 6 t 1 = C.1 6 t 1 := by rw [← hC2]; exact (rl_wj (by decide)).trans (rl_wj (by decide))
  have r3 : C2.1 6 t 3 = C.1 6 t 3 := by rw [← hC2]; exact (rl_wj (by decide)).trans (rl_wj (by decide))
  have r10 : C2.1 6 t 10 = nI x := by rw [← hC2]; exact ((rl_wj (by decide)).trans (rl_wj (by decide))).trans e10
  have r11 : C2.1 6 t 11 = C.1 6 t 11 := by rw [← hC2]; exact (rl_wj (by decide)).trans (rl_wj (by decide))
  have r8 : C2.1 1 0 8 = C.1 1 0 8 := by rw [← hC2]; rfl
  rw [show ov_g (ov_mix C2 T) 6 t 1 = C.1 6 t 1 from r1, show ov_g (ov_mix C2 T) 6 t 11 = C.1 6 t 11 from r11]
  have hC2' : ov_w (ov_w C 6 t 8 0) 6 t 2 (C.1 6 t 2 + 1) = C2 := hC2
  rw [hC2'] at h1 h2 h3
  refine ⟨fun q => r_World_finishGiving_56 (by omega) ?_, fun q => mi_drE (by decide) (by decide) r8 ?_⟩
  · rw [show ov_g (ov_mix C2 T) 6 t 10 = nI x from r10, ex, mix_c rfl]
    exact ⟨fun n => absurd hin n, fun _ => ⟨ib, r_World_workOn_30 (r_World_workOn_46 (h1 q))⟩⟩
  · replace h2 := h2 q
    replace h3 := h3 q
    generalize dr_s (C.1 1 0 8) = s1 at h2 h3 ⊢
    generalize dr_v s1 1000 = w1 at h2 h3 ⊢
    generalize hC3 : ov_w C2 1 0 8 s1 = C3 at h2 h3 ⊢
    have q1 : C3.1 6 t 1 = C.1 6 t 1 := by rw [← hC3]; exact (rl_wn (by omega)).trans r1
    have q3 : C3.1 6 t 3 = C.1 6 t 3 := by rw [← hC3]; exact (rl_wn (by omega)).trans r3
    have q10 : C3.1 6 t 10 = nI x := by rw [← hC3]; exact (rl_wn (by omega)).trans r10
    have q8 : C3.1 1 0 8 = s1 := by rw [← hC3]; exact rl_ww _ _ _ _ _
    refine r_World_finishGiving_29 (by omega) ?_
    rw [show ov_g (ov_mix C3 T) 6 t 1 = C.1 6 t 1 from q1]
    refine ⟨fun q2 => r_World_finishGiving_56 (by omega) ?_, fun q2 => ?_⟩
    · rw [show ov_g (ov_mix C3 T) 6 t 10 = nI x from q10, ex, mix_c rfl]
      exact ⟨fun n => absurd hin n, fun _ => ⟨ib, r_World_workOn_30 (r_World_workOn_46 (h2 q2))⟩⟩
    · replace h3 := h3 q2
      rw [show ov_g (ov_mix C3 T) 6 t 3 = C.1 6 t 3 from q3, mix_c rfl]
      refine mi_drE (by decide) (by decide) ((rl_wn (r := 6) (i := t) (j := 3) (by omega)).trans q8) ?_
      generalize dr_s s1 = s2 at h3 ⊢
      generalize dr_v s2 9 = w2 at h3 ⊢
      refine r_World_finishGiving_54 (r_World_finishGiving_56 (by omega) ?_)
      have p10 : (ov_w (ov_w C3 6 t 3 (C.1 6 t 3 + 1)) 1 0 8 s2).1 6 t 10 = nI x := (rl_wn (r := 1) (i := 0) (j := 8) (by omega)).trans ((rl_wn (r := 6) (i := t) (j := 3) (by omega)).trans q10)
      rw [show ov_g (ov_mix (ov_w (ov_w C3 6 t 3 (C.1 6 t 3 + 1)) 1 0 8 s2) T) 6 t 10 = nI x from p10, ex, mix_c rfl]
      exact ⟨fun n => absurd hin n, fun _ => ⟨ib, r_World_workOn_30 (r_World_workOn_46 h3)⟩⟩
