/-! ===== a line of the book, in both ===== -/
theorem mi_bkEn {d : Nat} {C T : ov_S} {Q : ov_Q} {lb : Nat} {v1 v2 v3 v4 v5 : Int32} (hd : 1 ≤ d) (hl : 99 ≤ lb) (hl2 : lb ≤ 99) (e5 : C.1 4 0 5 = nI lb) (h : Q none (ov_mix C T)) : ov_V true true d 0 0 mq_Book_write 0 [some (.inr (.inr (true, 4, 0))), some (.inl v1), some (.inl v2), some (.inl v3), some (.inl v4), some (.inl v5)] [] (ov_mix C T) Q := by
  refine r_Book_write_0 hd ⟨fun q => ?_, fun _ => h⟩
  rw [show ov_g (ov_mix C T) 4 0 5 = nI lb from e5] at q
  exact absurd q.2 (nI_ge (a := 98) (by omega) (by omega))
theorem mi_bkE {d : Nat} {C T : ov_S} {Q : ov_Q} {lb : Nat} {v1 v2 v3 v4 v5 so : Int32} (hd : 1 ≤ d) (hl : lb < 99) (e5 : C.1 4 0 5 = nI lb) (eso : so = if v3 = 0 then 0 else 1) (h : Q none (ov_mix (ov_w (ov_w (ov_w (ov_w (ov_w (ov_w C 22 0 lb v1) 23 0 lb v2) 24 0 lb so) 25 0 lb v4) 26 0 lb v5) 4 0 5 (nI (lb + 1))) T)) : ov_V true true d 0 0 mq_Book_write 0 [some (.inr (.inr (true, 4, 0))), some (.inl v1), some (.inl v2), some (.inl v3), some (.inl v4), some (.inl v5)] [] (ov_mix C T) Q := by
  have hin : 0 ≤ nI lb ∧ nI lb ≤ 98 := (zz_le (b := 98) rfl).2 ⟨lb, by omega, rfl⟩
  have ib : ov_ib (nI lb) 99 := zz_ib hl (by decide)
  have ex : ov_ix (nI lb) = lb := zz_ix (by omega)
  refine r_Book_write_0 hd ⟨fun _ => ?_, fun n => absurd (show 0 ≤ ov_g (ov_mix C T) 4 0 5 ∧ ov_g (ov_mix C T) 4 0 5 ≤ 98 by rw [show ov_g (ov_mix C T) 4 0 5 = nI lb from e5]; exact hin) n⟩
  rw [show ov_g (ov_mix C T) 4 0 5 = nI lb from e5, ex, mix_c rfl, show ov_g (ov_mix (ov_w C 22 0 lb v1) T) 4 0 5 = nI lb from e5, ex, mix_c rfl]
  have e6 : (ov_w (ov_w C 22 0 lb v1) 23 0 lb v2).1 4 0 5 = nI lb := e5
  generalize ov_w (ov_w C 22 0 lb v1) 23 0 lb v2 = C2 at e6 h ⊢
  rw [show ov_g (ov_mix C2 T) 4 0 5 = nI lb from e6]
  refine ⟨ib, ib, fun z => r_Book_write_51 ?_, fun z => r_Book_write_51_2 ?_⟩
  · rw [if_pos z] at eso
    subst eso
    rw [ex, mix_c rfl]
    have e7 : (ov_w C2 24 0 lb 0).1 4 0 5 = nI lb := e6
    generalize ov_w C2 24 0 lb 0 = C3 at e7 h ⊢
    rw [show ov_g (ov_mix C3 T) 4 0 5 = nI lb from e7, ex, mix_c rfl]
    have e8 : (ov_w C3 25 0 lb v4).1 4 0 5 = nI lb := e7
    generalize ov_w C3 25 0 lb v4 = C4 at e8 h ⊢
    rw [show ov_g (ov_mix C4 T) 4 0 5 = nI lb from e8, ex, mix_c rfl]
    have e9 : (ov_w C4 26 0 lb v5).1 4 0 5 = nI lb := e8
    generalize ov_w C4 26 0 lb v5 = C5 at e9 h ⊢
    rw [show ov_g (ov_mix C5 T) 4 0 5 = nI lb from e9, nI_1, mix_c rfl]
    exact ⟨ib, ib, ib, h⟩
  · rw [if_neg z] at eso
    subst eso
    rw [ex, mix_c rfl]
    have e7 : (ov_w C2 24 0 lb 1).1 4 0 5 = nI lb := e6
    generalize ov_w C2 24 0 lb 1 = C3 at e7 h ⊢
    rw [show ov_g (ov_mix C3 T) 4 0 5 = nI lb from e7, ex, mix_c rfl]
    have e8 : (ov_w C3 25 0 lb v4).1 4 0 5 = nI lb := e7
    generalize ov_w C3 25 0 lb v4 = C4 at e8 h ⊢
    rw [show ov_g (ov_mix C4 T) 4 0 5 = nI lb from e8, ex, mix_c rfl]
    have e9 : (ov_w C4 26 0 lb v5).1 4 0 5 = nI lb := e8
    generalize ov_w C4 26 0 lb v5 = C5 at e9 h ⊢
    rw [show ov_g (ov_mix C5 T) 4 0 5 = nI lb from e9, nI_1, mix_c rfl]
    exact ⟨ib, ib, ib, h⟩
theorem mi_bkMn {d : Nat} {D T : ov_S} {Q : ov_Q} {lb : Nat} {v1 v2 v4 v5 v6 s0 : Int32} (hl : 99 ≤ lb) (hl2 : lb ≤ 99) (e5 : T.1 14 0 22 = nI lb) (h : ov_V true true d 0 0 mq_Mod_says 164 [some (.inr (.inr (true, 14, 0))), some (.inl v1), some (.inl v2), none, some (.inl v4), some (.inl v5), some (.inl v6), some (.inl s0), none, none, none] [] (ov_mix D T) Q) : ov_V true true d 0 0 mq_Mod_says 78 [some (.inr (.inr (true, 14, 0))), some (.inl v1), some (.inl v2), none, some (.inl v4), some (.inl v5), some (.inl v6), none, none, none, none] [.inl s0] (ov_mix D T) Q := by
  refine r_Mod_says_78 ⟨fun _ => h, fun n => absurd (show (99 : Int32) ≤ ov_g (ov_mix D T) 14 0 22 by rw [show ov_g (ov_mix D T) 14 0 22 = nI lb from e5]; exact nI_le (a := 99) hl (by omega)) n⟩
theorem mi_bkM {d : Nat} {D T : ov_S} {Q : ov_Q} {lb : Nat} {v1 v2 v4 v5 v6 s0 so mn : Int32} (hl : lb < 99) (e5 : T.1 14 0 22 = nI lb) (em : T.1 14 0 16 = mn) (eso : so = if s0 = 1 then 1 else 0) (h : ov_V true true d 0 0 mq_Mod_says 164 [some (.inr (.inr (true, 14, 0))), some (.inl v1), some (.inl v2), none, some (.inl v4), some (.inl v5), some (.inl v6), some (.inl s0), none, none, none] [] (ov_mix D (ov_w (ov_w (ov_w (ov_w (ov_w (ov_w T 74 0 lb v5) 75 0 lb v2) 76 0 lb so) 77 0 lb v6) 78 0 lb mn) 14 0 22 (nI (lb + 1)))) Q) : ov_V true true d 0 0 mq_Mod_says 78 [some (.inr (.inr (true, 14, 0))), some (.inl v1), some (.inl v2), none, some (.inl v4), some (.inl v5), some (.inl v6), none, none, none, none] [.inl s0] (ov_mix D T) Q := by
  have ib : ov_ib (nI lb) 99 := zz_ib hl (by decide)
  have ex : ov_ix (nI lb) = lb := zz_ix (by omega)
  refine r_Mod_says_78 ⟨fun q => absurd q (show ¬ (99 : Int32) ≤ ov_g (ov_mix D T) 14 0 22 by rw [show ov_g (ov_mix D T) 14 0 22 = nI lb from e5]; exact nI_ge (b := 99) hl (by decide)), fun _ => ?_⟩
  rw [show ov_g (ov_mix D T) 14 0 22 = nI lb from e5, ex, mix_m rfl, show ov_g (ov_mix D (ov_w T 74 0 lb v5)) 14 0 22 = nI lb from e5, ex, mix_m rfl]
  have e6 : (ov_w (ov_w T 74 0 lb v5) 75 0 lb v2).1 14 0 22 = nI lb := e5
  have m6 : (ov_w (ov_w T 74 0 lb v5) 75 0 lb v2).1 14 0 16 = mn := em
  generalize ov_w (ov_w T 74 0 lb v5) 75 0 lb v2 = C2 at e6 m6 h ⊢
  rw [show ov_g (ov_mix D C2) 14 0 22 = nI lb from e6]
  refine ⟨ib, ib, fun z => r_Mod_says_129 ?_, fun z => r_Mod_says_129_2 ?_⟩
  · rw [if_neg z] at eso
    subst eso
    rw [ex, mix_m rfl]
    have e7 : (ov_w C2 76 0 lb 0).1 14 0 22 = nI lb := e6
    have m7 : (ov_w C2 76 0 lb 0).1 14 0 16 = mn := m6
    generalize ov_w C2 76 0 lb 0 = C3 at e7 m7 h ⊢
    rw [show ov_g (ov_mix D C3) 14 0 22 = nI lb from e7, ex, mix_m rfl]
    have e8 : (ov_w C3 77 0 lb v6).1 14 0 22 = nI lb := e7
    have m8 : (ov_w C3 77 0 lb v6).1 14 0 16 = mn := m7
    generalize ov_w C3 77 0 lb v6 = C4 at e8 m8 h ⊢
    rw [show ov_g (ov_mix D C4) 14 0 22 = nI lb from e8, show ov_g (ov_mix D C4) 14 0 16 = mn from m8, ex, mix_m rfl]
    have e9 : (ov_w C4 78 0 lb mn).1 14 0 22 = nI lb := e8
    generalize ov_w C4 78 0 lb mn = C5 at e9 h ⊢
    rw [show ov_g (ov_mix D C5) 14 0 22 = nI lb from e9, nI_1, mix_m rfl]
    exact ⟨ib, ib, ib, h⟩
  · rw [if_pos z] at eso
    subst eso
    rw [ex, mix_m rfl]
    have e7 : (ov_w C2 76 0 lb 1).1 14 0 22 = nI lb := e6
    have m7 : (ov_w C2 76 0 lb 1).1 14 0 16 = mn := m6
    generalize ov_w C2 76 0 lb 1 = C3 at e7 m7 h ⊢
    rw [show ov_g (ov_mix D C3) 14 0 22 = nI lb from e7, ex, mix_m rfl]
    have e8 : (ov_w C3 77 0 lb v6).1 14 0 22 = nI lb := e7
    have m8 : (ov_w C3 77 0 lb v6).1 14 0 16 = mn := m7
    generalize ov_w C3 77 0 lb v6 = C4 at e8 m8 h ⊢
    rw [show ov_g (ov_mix D C4) 14 0 22 = nI lb from e8, show ov_g (ov_mix D C4) 14 0 16 = mn from m8, ex, mix_m rfl]
    have e9 : (ov_w C4 78 0 lb mn).1 14 0 22 = nI lb := e8
    generalize ov_w C4 78 0 lb mn = C5 at e9 h ⊢
    rw [show ov_g (ov_mix D C5) 14 0 22 = nI lb from e9, nI_1, mix_m rfl]
    exact ⟨ib, ib, ib, h⟩
