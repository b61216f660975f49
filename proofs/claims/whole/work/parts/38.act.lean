/-! ===== what a THREE does in a minute ===== -/
theorem mi_nx {c m lb nz wc : Nat} {C T : ov_S} {t n k : Nat} (ht : t < 4) (hw : rl_w c m lb nz wc C.1 T.1) (eN : T.1 86 0 t = nI n) (hk : k < n) (hn : n ≤ 30) : rl_w c m lb nz wc (ov_w C 6 t 7 (nI (k + 1))).1 (ov_w T 87 0 t (nI (k + 1))).1 ∧ mi_kc C (ov_w C 6 t 7 (nI (k + 1))) ∧ mi_kp T (ov_w T 87 0 t (nI (k + 1))) := by
  have h := hw
  obtain ⟨g1, g2, g3, g4, g5, g6, g7, g8, g9, g10, g11, g12, g13, g14, g15, g16, g17, g18, g19, g20, g21, g22, g23, g24, g25, g26⟩ := h
  obtain ⟨e7, e8, e80, hdo0⟩ := g11 t ht
  have e9 := g9 t ht
  have t4 : t < rl_sh 6 := ht
  refine ⟨rl_w_3 (t := t) ht hw (fun r i j a b c => rl_wn (by omega)) (fun r j a b c => rl_wn (by omega)) g2 ⟨(rl_wn (by omega)).trans e9.1, (rl_wn (by omega)).trans e9.2.1, (rl_wn (by omega)).trans e9.2.2⟩ (fun y hy => g10 t ht y hy) ⟨(rl_ww _ _ _ _ _).trans (rl_ww _ _ _ _ _).symm, (rl_wn (by omega)).trans e8, e80, ?_⟩ (fun y hy => g12 t ht y hy) ?_, mi_kcw mi_kcr t4 (by decide), mi_kpw mi_kpr (by decide) (Or.inl (by decide))⟩
  · rw [show (ov_w C 6 t 7 (nI (k + 1))).1 6 t 8 = C.1 6 t 8 from rl_wn (by omega), show (ov_w C 6 t 7 (nI (k + 1))).1 6 t 9 = C.1 6 t 9 from rl_wn (by omega), show (ov_w C 6 t 7 (nI (k + 1))).1 6 t 10 = C.1 6 t 10 from rl_wn (by omega), show (ov_w C 6 t 7 (nI (k + 1))).1 6 t 11 = C.1 6 t 11 from rl_wn (by omega)]
    exact hdo0
  · intro n' hn' hn30
    exact ⟨k + 1, by have := zz_inj (by omega) (by omega) (eN.symm.trans hn'); omega, rl_ww _ _ _ _ _⟩
/-- the reference: a THREE's turn in the minute -/
def mi_ga (t : Nat) (T T' : ov_S) : Prop := ∀ (d : Nat) (D : ov_S) (Q : ov_Q), 6 ≤ d → ov_V true true d 0 0 mq_Mod_goesBy 94 [some (.inr (.inr (true, 14, 0))), some (.inl (nI t)), none] [] (ov_mix D T') Q → ov_V true true d 0 0 mq_Mod_goesBy 26 [some (.inr (.inr (true, 14, 0))), some (.inl (nI t)), none] [] (ov_mix D T) Q
def mi_bgs (t : Nat) (T T' : ov_S) : Prop := ∀ (d : Nat) (D : ov_S) (Q : ov_Q), 5 ≤ d → Q none (ov_mix D T') → ov_V true true d 0 0 mq_Mod_begins 0 [some (.inr (.inr (true, 14, 0))), some (.inl (nI t)), none, none, none, none, none] [] (ov_mix D T) Q
theorem mi_ga_n {c t n k : Nat} {T : ov_S} (hc : c ≤ 4) (ht : t < c) (e2 : T.1 14 0 2 = nI c) (e80 : T.1 80 0 t = 0) (eN : T.1 86 0 t = nI n) (eK : T.1 87 0 t = nI k) (hk : n ≤ k) (hk2 : k ≤ 30) : mi_ga t T T := by
  intro d D Q hd h
  have ib : ov_ib (nI t) 4 := zz_ib (by omega) (by decide)
  refine r_Mod_goesBy_26 (by omega) ?_
  rw [zz_ix (n := t) (by omega), show ov_g (ov_mix D T) 14 0 2 = nI c from e2, show ov_g (ov_mix D T) 80 0 t = 0 from e80, show ov_g (ov_mix D T) 86 0 t = nI n from eN, show ov_g (ov_mix D T) 87 0 t = nI k from eK]
  exact ⟨fun q => absurd q (nI_ge ht (by omega)), fun _ => ⟨ib, fun _ => ⟨ib, ib, fun _ => h, fun n => absurd (nI_le hk (by omega)) n⟩, fun n => absurd (by decide) n⟩⟩
theorem mi_ga_b {c t n k : Nat} {T T' : ov_S} (hc : c ≤ 4) (ht : t < c) (e2 : T.1 14 0 2 = nI c) (e80 : T.1 80 0 t = 0) (eN : T.1 86 0 t = nI n) (eK : T.1 87 0 t = nI k) (hk : k < n) (hn : n ≤ 30) (hb : mi_bgs t T T') : mi_ga t T T' := by
  intro d D Q hd h
  have ib : ov_ib (nI t) 4 := zz_ib (by omega) (by decide)
  refine r_Mod_goesBy_26 (by omega) ?_
  rw [zz_ix (n := t) (by omega), show ov_g (ov_mix D T) 14 0 2 = nI c from e2, show ov_g (ov_mix D T) 80 0 t = 0 from e80, show ov_g (ov_mix D T) 86 0 t = nI n from eN, show ov_g (ov_mix D T) 87 0 t = nI k from eK]
  exact ⟨fun q => absurd q (nI_ge ht (by omega)), fun _ => ⟨ib, fun _ => ⟨ib, ib, fun q => absurd q (nI_ge hk (by omega)), fun _ => hb (d - 1) D _ (by omega) h⟩, fun n => absurd (by decide) n⟩⟩
theorem mi_ga_k {c t k : Nat} {T T' : ov_S} (hc : c ≤ 4) (ht : t < c) (hk : k ≤ 98) (e2 : T.1 14 0 2 = nI c) (e80 : T.1 80 0 t = nI (k + 1)) (h1 : 0 < k → T' = ov_w T 80 0 t (nI k)) (h2 : k = 0 → mi_en t (ov_w T 80 0 t 0) T') : mi_ga t T T' := by
  intro d D Q hd h
  have ib : ov_ib (nI t) 4 := zz_ib (by omega) (by decide)
  refine r_Mod_goesBy_26 (by omega) ?_
  rw [zz_ix (n := t) (by omega), show ov_g (ov_mix D T) 14 0 2 = nI c from e2, show ov_g (ov_mix D T) 80 0 t = nI (k + 1) from e80, nI_pred, mix_m rfl, show ov_g (ov_mix D (ov_w T 80 0 t (nI k))) 80 0 t = nI k from rl_ww _ _ _ _ _]
  refine ⟨fun q => absurd q (nI_ge ht (by omega)), fun _ => ⟨ib, fun q => absurd q (nI_nle (by omega) (by omega)), fun _ => ⟨ib, ib, ib, fun n => ?_, fun q => ?_⟩⟩⟩
  · have hk0 : 0 < k := by
      rcases Nat.eq_zero_or_pos k with e | e
      · exact absurd (by rw [e]; rfl) n
      · exact e
    rw [← h1 hk0]
    exact h
  · have hk0 : k = 0 := zz_inj (by omega) (by decide) (b := 0) q
    subst hk0
    exact h2 rfl (d - 1) D _ (by omega) (r_Mod_goesBy_71 h)
/-! the class, behind a beginning -/
theorem mi_actW {d c m lb nz wc : Nat} {C T T0 : ov_S} {Q : ov_Q} {t k : Nat} (hd : 5 ≤ d) (h : rl_w c m lb nz wc C.1 T.1) (ht : t < 4) (hk : k ≤ 98) (e80 : T.1 80 0 t = nI (k + 1))
    (hQ : ∀ C' T' : ov_S, rl_w c m lb nz wc C'.1 T'.1 → mi_kc C C' → mi_kp T T' → (0 < k → T' = ov_w T 80 0 t (nI k)) → (k = 0 → mi_en t (ov_w T 80 0 t 0) T') → Q none (ov_mix C' T0)) : ov_V true true d 0 0 mq_World_act 55 [some (.inr (.inr (true, 1, 0))), none, none, some (.inr (.inr (true, 6, t)))] [] (ov_mix C T0) Q := by
  have e8 : C.1 6 t 8 = nI (k + 1) := (h.2.2.2.2.2.2.2.2.2.2.1 t ht).2.1.trans e80
  refine r_World_act_55 (by omega) ?_
  rw [show ov_g (ov_mix C T0) 6 t 8 = nI (k + 1) from e8]
  exact ⟨fun q => absurd q (nI_nle (by omega) (by omega)), fun _ => mi_work (by omega) h ht hk e80 (fun C' T' a1 a2 a3 a4 a5 => r_World_act_67 (hQ C' T' a1 a2 a3 a4 a5))⟩
theorem mi_act0 {d : Nat} {C T0 : ov_S} {Q : ov_Q} {t : Nat} (hd : 5 ≤ d) (e8 : C.1 6 t 8 = 0) (h : Q none (ov_mix C T0)) : ov_V true true d 0 0 mq_World_act 55 [some (.inr (.inr (true, 1, 0))), none, none, some (.inr (.inr (true, 6, t)))] [] (ov_mix C T0) Q := by
  refine r_World_act_55 (by omega) ?_
  rw [show ov_g (ov_mix C T0) 6 t 8 = 0 from e8]
  exact ⟨fun _ => r_World_act_67 h, fun n => absurd (by decide) n⟩
/-! seeing and saying begin -/
theorem mi_Eb1 {d : Nat} {C T : ov_S} {Q : ov_Q} {t k : Nat} {v4 v : Int32} (hd : 4 ≤ d) (hk : k < 30) (ek : C.1 41 t k = 1) (ev : C.1 43 t k = v) (h1 : ¬ v4 = 0 → Q none (ov_mix C T)) (h2 : v4 = 0 → ov_V true true ((d - 1)) 0 0 mq_World_see 0 [some (.inr (.inr (true, 1, 0))), some (.inl (nI t)), some (.inr (.inr (true, 6, t))), some (.inl v), none, none] [] (ov_mix C T) (fun r S1 => ov_V true true d 0 0 mq_World_begin 106 [none, none, none, none, none, none, none, none] (r.toList ++ []) S1 Q)) : ov_V true true d 0 0 mq_World_begin 0 [some (.inr (.inr (true, 1, 0))), some (.inl (nI t)), some (.inr (.inr (true, 6, t))), some (.inl (nI k)), some (.inl v4), none, none, none] [] (ov_mix C T) Q := by
  have ib : ov_ib (nI k) 30 := zz_ib hk (by decide)
  have hin : 0 ≤ nI k ∧ nI k ≤ 29 := (zz_le (b := 29) rfl).2 ⟨k, by omega, rfl⟩
  refine r_World_begin_0 (by omega) ⟨fun _ => ?_, fun n => absurd hin n⟩
  rw [zz_ix (by omega), show ov_g (ov_mix C T) 41 t k = 1 from ek, show ov_g (ov_mix C T) 43 t k = v from ev]
  exact ⟨ib, ib, fun q => absurd q (by decide), fun q => absurd q (by decide), fun _ => ⟨h1, h2⟩, fun q => absurd q (by decide), fun q => absurd q (by decide), fun q => absurd q (by decide), fun q => absurd q (by decide)⟩
theorem mi_Eb2 {d : Nat} {C T : ov_S} {Q : ov_Q} {t k : Nat} {v4 v w ly : Int32} (hd : 4 ≤ d) (hk : k < 30) (ek : (C.1 41 t k = 2 ∧ ly = 0) ∨ (C.1 41 t k = 3 ∧ ly = 1)) (ev : C.1 43 t k = v) (ew : C.1 44 t k = w) (h : ov_V true true ((d - 1)) 0 0 mq_World_speak 0 [some (.inr (.inr (true, 1, 0))), some (.inl (nI t)), some (.inr (.inr (true, 6, t))), some (.inl v), some (.inl w), some (.inl ly), none, none, none, none, none, none] [] (ov_mix C T) (fun r S1 => ov_V true true d 0 0 mq_World_begin 135 [none, none, none, none, none, none, none, none] (r.toList ++ []) S1 Q)) : ov_V true true d 0 0 mq_World_begin 0 [some (.inr (.inr (true, 1, 0))), some (.inl (nI t)), some (.inr (.inr (true, 6, t))), some (.inl (nI k)), some (.inl v4), none, none, none] [] (ov_mix C T) Q := by
  have ib : ov_ib (nI k) 30 := zz_ib hk (by decide)
  have hin : 0 ≤ nI k ∧ nI k ≤ 29 := (zz_le (b := 29) rfl).2 ⟨k, by omega, rfl⟩
  refine r_World_begin_0 (by omega) ⟨fun _ => ?_, fun n => absurd hin n⟩
  rcases ek with ⟨ek, rfl⟩ | ⟨ek, rfl⟩
  · rw [zz_ix (by omega), show ov_g (ov_mix C T) 41 t k = 2 from ek, show ov_g (ov_mix C T) 43 t k = v from ev]
    refine ⟨ib, ib, fun q => absurd q (by decide), fun q => absurd q (by decide), fun q => absurd q (by decide), fun _ => r_World_begin_109 ?_, fun q => absurd q (by decide), fun q => absurd q (by decide), fun q => absurd q (by decide)⟩
    rw [zz_ix (by omega), show ov_g (ov_mix C T) 44 t k = w from ew]
    exact ⟨ib, fun _ => r_World_begin_132 (by omega) h, fun q => absurd q (by decide)⟩
  · rw [zz_ix (by omega), show ov_g (ov_mix C T) 41 t k = 3 from ek, show ov_g (ov_mix C T) 43 t k = v from ev]
    refine ⟨ib, ib, fun q => absurd q (by decide), fun q => absurd q (by decide), fun q => absurd q (by decide), fun q => absurd q (by decide), fun _ => r_World_begin_109 ?_, fun q => absurd q (by decide), fun q => absurd q (by decide)⟩
    rw [zz_ix (by omega), show ov_g (ov_mix C T) 44 t k = w from ew]
    exact ⟨ib, fun n => absurd rfl n, fun _ => r_World_begin_132_2 (by omega) h⟩
theorem mi_M96 {d : Nat} {D T : ov_S} {Q : ov_Q} {t : Nat} {w a b : Int32} (hd : 4 ≤ d) (hw : w = 1 ∨ w = 2 ∨ w = 3) (h : Q none (ov_mix D T)) : ov_V true true d 0 0 mq_Mod_begins 96 [some (.inr (.inr (true, 14, 0))), some (.inl (nI t)), none, some (.inl w), some (.inl a), some (.inl b), none] [] (ov_mix D T) Q := by
  have n4 : ¬ w = 4 := by rcases hw with rfl | rfl | rfl <;> decide
  have n5 : ¬ w = 5 := by rcases hw with rfl | rfl | rfl <;> decide
  have n0 : ¬ w = 0 := by rcases hw with rfl | rfl | rfl <;> decide
  exact r_Mod_begins_96 ⟨fun _ => ⟨fun _ => r_Mod_begins_116 (by omega) ⟨fun _ => r_Mod_begins_165 ⟨fun n => absurd rfl n, fun _ => h⟩, fun q => absurd q n0⟩, fun q => absurd q n5⟩, fun q => absurd q n4⟩
theorem mi_M1 {t k : Nat} {T T' : ov_S} {a : Int32} (ht : t < 4) (hk : k < 30) (eK : T.1 87 0 t = nI k) (ew : T.1 85 0 (120 * t + 4 * k) = 1) (ea : T.1 85 0 (120 * t + 4 * k + 1) = a) (h : ∀ (d : Nat) (D : ov_S) (Q : ov_Q), 3 ≤ d → Q none (ov_mix D T') → ov_V true true d 0 0 mq_Mod_sees 0 [some (.inr (.inr (true, 14, 0))), some (.inl (nI t)), some (.inl a), none] [] (ov_mix D (ov_w T 87 0 t (nI (k + 1)))) Q) : mi_bgs t T T' := by
  intro d D Q hd hq
  refine mi_bg0 (by omega) ht hk eK ew ea rfl (fun n => absurd rfl n) (fun _ => h (d - 1) D _ (by omega) ?_)
  exact r_Mod_begins_67 ⟨fun q => absurd q (by decide), fun _ => ⟨fun _ => mi_M96 (by omega) (.inl rfl) hq, fun q => absurd q (by decide)⟩⟩
theorem mi_M2 {t k f u : Nat} {T T' : ov_S} {w ly : Int32} (ht : t < 4) (hk : k < 30) (eK : T.1 87 0 t = nI k) (ew : T.1 85 0 (120 * t + 4 * k) = w) (hl : (w = 2 ∧ ly = 0) ∨ (w = 3 ∧ ly = 1)) (ea : T.1 85 0 (120 * t + 4 * k + 1) = nI f) (eb : T.1 85 0 (120 * t + 4 * k + 2) = nI u) (h : mi_sy t f u ly (ov_w T 87 0 t (nI (k + 1))) T') : mi_bgs t T T' := by
  intro d D Q hd hq
  rcases hl with ⟨rfl, rfl⟩ | ⟨rfl, rfl⟩
  · refine mi_bg0 (by omega) ht hk eK ew ea eb (fun _ => r_Mod_begins_67 ⟨fun _ => r_Mod_begins_77 ⟨fun _ => r_Mod_begins_93 (by omega) (h (d - 1) D _ (by omega) (mi_M96 (by omega) (.inr (.inl rfl)) hq)), fun q => absurd q (by decide)⟩, fun n => absurd rfl n⟩) (fun q => absurd q (by decide))
  · refine mi_bg0 (by omega) ht hk eK ew ea eb (fun _ => r_Mod_begins_67 ⟨fun q => absurd q (by decide), fun _ => ⟨fun n => absurd rfl n, fun _ => r_Mod_begins_77 ⟨fun n => absurd rfl n, fun _ => r_Mod_begins_93_2 (by omega) (h (d - 1) D _ (by omega) (mi_M96 (by omega) (.inr (.inr rfl)) hq))⟩⟩⟩) (fun q => absurd q (by decide))
/-! a STEP begins, in both -/
theorem mi_beg {d c mm lb nz wc : Nat} {C T T0 : ov_S} {Q : ov_Q} {t n k : Nat} {v4 : Int32} (hd : 7 ≤ d) (hw : rl_w c mm lb nz wc C.1 T.1) (fl2 : ∀ j, j < 4 → C.1 2 0 j ≠ 0) (fl : ∀ j, j < 12 → C.1 3 0 j ≠ 0) (ht : t < c) (e80 : T.1 80 0 t = 0) (eK : T.1 87 0 t = nI k) (eN : T.1 86 0 t = nI n) (hk : k < n) (hn : n ≤ 30)
    (hst : rl_step c (C.1 41 t k) (C.1 42 t k) (C.1 43 t k) (C.1 44 t k) (T.1 85 0 (120 * t + 4 * k)) (T.1 85 0 (120 * t + 4 * k + 1)) (T.1 85 0 (120 * t + 4 * k + 2)))
    (hnt : (v4 = 0 ∧ T.1 14 0 16 - T.1 14 0 16 / 240 * 240 < T.1 14 0 17) ∨ (v4 = 1 ∧ ¬ T.1 14 0 16 - T.1 14 0 16 / 240 * 240 < T.1 14 0 17))
    (hQ : ∀ (C' T' : ov_S) (lb' : Nat), rl_w c mm lb' nz wc C'.1 T'.1 → mi_kc C C' → mi_kp T T' → mi_bgs t T T' → Q none (ov_mix C' T0)) : ov_V true true ((d - 1)) 0 0 mq_World_begin 0 [some (.inr (.inr (true, 1, 0))), some (.inl (nI t)), some (.inr (.inr (true, 6, t))), some (.inl (nI k)), some (.inl v4), none, none, none] [] (ov_mix (ov_w C 6 t 7 (nI (k + 1))) T0) (fun r S1 => ov_V true true d 0 0 mq_World_act 55 [some (.inr (.inr (true, 1, 0))), none, none, some (.inr (.inr (true, 6, t)))] (r.toList ++ []) S1 Q) := by
  obtain ⟨g1, g2, g3, g4, g5, g6, g7, g8, g9, g10, g11, g12, g13, g14, g15, g16, g17, g18, g19, g20, g21, g22, g23, g24, g25, g26⟩ := id hw
  have hc := g1.1
  have ht4 : t < 4 := by omega
  have hk30 : k < 30 := by omega
  have N := mi_nx ht4 hw eN hk hn
  have e8 : (ov_w C 6 t 7 (nI (k + 1))).1 6 t 8 = 0 := (rl_wn (by omega)).trans ((g11 t ht4).2.1.trans e80)
  obtain ⟨hkd, hst⟩ := hst
  rcases hst with ⟨w0, th, nu, ⟨x, hx, ex⟩, y, hy, ey⟩ | ⟨w1, nu, f, hf, ef⟩ | ⟨w23, nu, he, ⟨f, hf, ef⟩, u, hu, eu⟩ | ⟨w4, nu, l, hl1, hl9, el⟩ | ⟨w5, th, nu, ⟨x, hx, ex⟩, s, hs, es⟩
  · obtain ⟨h0, hh1, hh9, eh⟩ := ((g8 t ht4).2.2 ht).1
    obtain ⟨l, rfl⟩ : ∃ l, h0 = l + 1 := ⟨h0 - 1, by omega⟩
    obtain ⟨ep, pp⟩ := g10 t ht4 x hx
    refine mi_Eb0 (C := ov_w C 6 t 7 (nI (k + 1))) (x := x) (y := y) (pl := T.1 62 0 (3 * t + x)) (hd0 := nI (l + 1)) (by omega) hk30 hx (hkd.trans w0) (nu.trans ey) (th.trans ex) ((rl_wn (by omega)).trans ((g8 t ht4).1.trans eh)) ep (fun hn1 => mi_act0 (by omega) e8 (hQ _ _ lb N.1 N.2.1 N.2.2 ?_)) (fun hn1 hn2 => ?_)
    · intro d1 D Q1 hd1 h1
      refine mi_M0n (by omega) ht4 hk30 hx eK w0 ex ey rfl ?_ h1
      rcases hn1 with h | h
      · rcases mi_plc pp with ⟨m', hm', em'⟩ | ⟨_, h3⟩
        · rw [em'] at h
          exact absurd ((zz_le (b := 2) rfl).2 ⟨m', by omega, rfl⟩) h
        · exact .inl (Int32.not_lt.mp h3)
      · exact .inr h
    · have O := mi_occG (C := C) (T := T) (n := n) (k := k) (l := l + 1) (kd := 0) (th := nI x) (tg := nI y) (z := 1) (a := nI x) (b := nI y) hx rfl rfl ht4 hw e80 eN hk hn (by omega) (by omega) ⟨fun z => absurd z (nI_ne0 (by omega) (by omega)), fun _ => .inl ⟨rfl, rfl, rfl, rfl, ⟨x, hx, rfl⟩, y, hy, rfl⟩⟩
      refine mi_actW (by omega) O.1 ht4 (k := l) (by omega) (rl_ww _ _ _ _ _) (fun C' T' a1 a2 a3 a4 a5 => hQ C' T' lb a1 (mi_kct O.2.1 a2) (mi_kpt O.2.2 a3) ?_)
      intro d1 D Q1 hd1 h1
      refine mi_M0 (by omega) ht4 hk30 (by omega) hx eK w0 ex ey rfl eh ?_ hn2 a4 a5 h1
      obtain ⟨m', hm', em'⟩ := (zz_le (b := 2) rfl).1 hn1
      rw [em']
      exact nI_ge (b := 3) (by omega) (by decide)
  · have ev : (ov_w C 6 t 7 (nI (k + 1))).1 43 t k = nI f := nu.trans ef
    obtain ⟨ep, pp⟩ := g10 t ht4 0 (by decide)
    refine mi_Eb1 (by omega) hk30 (hkd.trans w1) ev (fun nv => mi_act0 (by omega) e8 (hQ _ _ lb N.1 N.2.1 N.2.2 (mi_M1 ht4 hk30 eK w1 ef ?_))) (fun z => ?_)
    · intro d1 D Q1 hd1 h1
      have hnd : ¬ T.1 14 0 16 - T.1 14 0 16 / 240 * 240 < T.1 14 0 17 := hnt.elim (fun q => absurd q.1 nv) (fun q => q.2)
      refine mi_seeMn (by omega) ht4 rfl ?_ h1
      rcases mi_plc pp with ⟨m', hm', em'⟩ | ⟨_, h3⟩
      · exact .inr ⟨⟨m', hm', em'⟩, hnd⟩
      · exact .inl h3
    · have hday : T.1 14 0 16 - T.1 14 0 16 / 240 * 240 < T.1 14 0 17 := hnt.elim (fun q => q.2) (fun q => absurd (z.symm.trans q.1) (by decide))
      rcases mi_plc pp with ⟨m', hm', em'⟩ | ⟨h2, h3⟩
      · have ev2 : (if C.1 20 0 f = 1 then 1 else 2 : Int32) = if T.1 63 0 f = 1 then 1 else 2 := by rw [(g7 f hf).1]
        have hR := mi_seeR (t := t) (m := m') (f := f) (v := if T.1 63 0 f = 1 then 1 else 2) (mn := T.1 14 0 16) ht4 hm' hf (by
          by_cases q : T.1 63 0 f = 1
          · rw [if_pos q]; exact .inl rfl
          · rw [if_neg q]; exact .inr rfl) N.1
        refine mi_seeE (c := c) (m := m') (mn := T.1 14 0 16) (v := if T.1 63 0 f = 1 then 1 else 2) (by omega) hc g1.2.1 ht fl hf hm' (ep.trans em') (g3.2.1.trans g3.2.2.symm) ev2.symm (r_World_begin_106 (mi_act0 (by omega) ?_ (hQ _ _ lb hR.1 (mi_kct N.2.1 hR.2.1) (mi_kpt N.2.2 hR.2.2) (mi_M1 ht4 hk30 eK w1 ef ?_))))
        · exact e8
        · intro d1 D Q1 hd1 h1
          exact mi_seeM (m := m') (mn := T.1 14 0 16) (v := if T.1 63 0 f = 1 then 1 else 2) hd1 ht4 hf hm' em' rfl hday rfl h1
      · refine mi_seeEn (by omega) ep h2 (r_World_begin_106 (mi_act0 (by omega) e8 (hQ _ _ lb N.1 N.2.1 N.2.2 (mi_M1 ht4 hk30 eK w1 ef ?_))))
        intro d1 D Q1 hd1 h1
        exact mi_seeMn (by omega) ht4 rfl (.inl h3) h1
  · have hl : ∃ ly : Int32, (ly = 0 ∨ ly = 1) ∧ ((T.1 85 0 (120 * t + 4 * k) = 2 ∧ ly = 0) ∨ (T.1 85 0 (120 * t + 4 * k) = 3 ∧ ly = 1)) := by
      rcases w23 with q | q
      · exact ⟨0, .inl rfl, .inl ⟨q, rfl⟩⟩
      · exact ⟨1, .inr rfl, .inr ⟨q, rfl⟩⟩
    obtain ⟨ly, hly, hl⟩ := hl
    refine mi_Eb2 (ly := ly) (by omega) hk30 ?_ (nu.trans ef) (he.trans eu) ?_
    · rcases hl with ⟨q, r⟩ | ⟨q, r⟩
      · exact .inl ⟨hkd.trans q, r⟩
      · exact .inr ⟨hkd.trans q, r⟩
    refine mi_speak (by omega) N.1 fl2 fl ht hu hf hly (fun C' T' lb' a1 a2 a3 a5 a4 => r_World_begin_135 (mi_act0 (by omega) ((a1.2.2.2.2.2.2.2.2.2.2.1 t ht4).2.1.trans ?_) (hQ C' T' lb' a1 (mi_kct N.2.1 a2) (mi_kpt N.2.2 a3) (mi_M2 ht4 hk30 eK rfl hl ef eu a4))))
    rw [a5]
    exact e80
  · obtain ⟨l, rfl⟩ : ∃ l', l = l' + 1 := ⟨l - 1, by omega⟩
    have O := mi_occ (C := C) (T := T) (n := n) (k := k) (l := l + 1) (kd := 4) (th := -1) (tg := -1) (z := 2) (a := nI (l + 1)) (b := T.1 85 0 (120 * t + 4 * k + 2)) ht4 hw e80 eN hk hn (by omega) (by omega) ⟨fun z => absurd z (nI_ne0 (by omega) (by omega)), fun _ => .inr (.inl ⟨rfl, rfl⟩)⟩
    refine mi_Eb4 (by omega) hk30 (hkd.trans w4) (nu.trans el) (mi_actW (by omega) O.1 ht4 (k := l) (by omega) (rl_ww _ _ _ _ _) (fun C' T' a1 a2 a3 a4 a5 => hQ C' T' lb a1 (mi_kct O.2.1 a2) (mi_kpt O.2.2 a3) ?_))
    intro d1 D Q1 hd1 h1
    exact mi_M4 (by omega) ht4 hk30 (by omega) eK w4 el rfl a4 a5 h1
  · have O := mi_occ (C := C) (T := T) (n := n) (k := k) (l := 2) (kd := 5) (th := nI x) (tg := nI s) (z := 3) (a := nI x) (b := nI s) ht4 hw e80 eN hk hn (by omega) (by omega) ⟨fun z => absurd z (by decide), fun _ => .inr (.inr ⟨rfl, rfl, rfl, rfl, ⟨x, hx, rfl⟩, s, hs, rfl⟩)⟩
    refine mi_Eb5 (by omega) hk30 (hkd.trans w5) (nu.trans es) (th.trans ex) (mi_actW (by omega) O.1 ht4 (k := 1) (by omega) (rl_ww _ _ _ _ _) (fun C' T' a1 a2 a3 a4 a5 => hQ C' T' lb a1 (mi_kct O.2.1 a2) (mi_kpt O.2.2 a3) ?_))
    intro d1 D Q1 hd1 h1
    exact mi_M5 (by omega) ht4 hk30 eK w5 ex es a4 h1
/-- a THREE's turn in the minute, in both -/
theorem mi_act {d c mm lb nz wc : Nat} {C T T0 : ov_S} {Q : ov_Q} {t : Nat} {v2 : Int32} (hd : 8 ≤ d) (hw : rl_w c mm lb nz wc C.1 T.1) (fl2 : ∀ j, j < 4 → C.1 2 0 j ≠ 0) (fl : ∀ j, j < 12 → C.1 3 0 j ≠ 0) (ht : t < c)
    (hnt : (v2 = 0 ∧ T.1 14 0 16 - T.1 14 0 16 / 240 * 240 < T.1 14 0 17) ∨ (v2 = 1 ∧ ¬ T.1 14 0 16 - T.1 14 0 16 / 240 * 240 < T.1 14 0 17))
    (hQ : ∀ (C' T' : ov_S) (lb' : Nat), rl_w c mm lb' nz wc C'.1 T'.1 → mi_kc C C' → mi_kp T T' → mi_ga t T T' → Q none (ov_mix C' T0)) : ov_V true true d 0 0 mq_World_act 0 [some (.inr (.inr (true, 1, 0))), some (.inl (nI t)), some (.inl v2), none] [] (ov_mix C T0) Q := by
  obtain ⟨g1, g2, g3, g4, g5, g6, g7, g8, g9, g10, g11, g12, g13, g14, g15, g16, g17, g18, g19, g20, g21, g22, g23, g24, g25, g26⟩ := id hw
  have hc := g1.1
  have ht4 : t < 4 := by omega
  have ht3 := (w_three (S := ov_mix C T0) (v := nI t) hc g1.2.1).2 ⟨t, ht, rfl⟩
  obtain ⟨e7, e8, ⟨k, hk, e80⟩, hdo⟩ := g11 t ht4
  obtain ⟨n, kk, hkn, hn, eN8, eN, eK, hst⟩ := g13 t ht4
  refine r_World_act_0 (by omega) ⟨fun _ => ?_, fun q => absurd ht3 q⟩
  rw [zz_ix (n := t) (by omega)]
  simp only [Nat.mul_zero, Nat.zero_add]
  rw [show ov_g (ov_mix C T0) 6 t 8 = nI k from e8.trans e80, show ov_g (ov_mix C T0) 8 t 4 = nI n from eN8, show ov_g (ov_mix C T0) 6 t 7 = nI kk from e7.trans eK, nI_1, mix_c rfl, show ov_g (ov_mix (ov_w C 6 t 7 (nI (kk + 1))) T0) 6 t 7 = nI (kk + 1) from rl_ww _ _ _ _ _, nI_pred]
  refine ⟨fl2 t ht4, fun nk => ?_, fun zk => ⟨fun q => ?_, fun q => ?_⟩⟩
  · obtain ⟨k', rfl⟩ : ∃ k', k = k' + 1 := by
      rcases k with _ | k
      · exact absurd rfl nk
      · exact ⟨k, rfl⟩
    exact mi_actW (by omega) hw ht4 (by omega) e80 (fun C' T' a1 a2 a3 a4 a5 => hQ C' T' lb a1 a2 a3 (mi_ga_k hc ht (by omega) g1.2.2 e80 a4 a5))
  · have hk0 : k = 0 := zz_inj (by omega) (by decide) (b := 0) zk
    subst hk0
    have hnk : n ≤ kk := (nI_leI (by omega) (by omega)).1 q
    exact mi_act0 (by omega) (e8.trans e80) (hQ C T lb hw mi_kcr mi_kpr (mi_ga_n hc ht g1.2.2 e80 eN eK hnk (by omega)))
  · have hk0 : k = 0 := zz_inj (by omega) (by decide) (b := 0) zk
    subst hk0
    have hnk : kk < n := Nat.lt_of_not_le (fun z => q (nI_le z (by omega)))
    exact mi_beg (by omega) hw fl2 fl ht e80 eK eN hnk hn (hst kk hnk) hnt (fun C' T' lb' a1 a2 a3 a4 => hQ C' T' lb' a1 a2 a3 (mi_ga_b hc ht g1.2.2 e80 eN eK hnk hn a4))
