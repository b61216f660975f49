/-! ===== a minute ===== -/
def mi_kq (T T' : ov_S) : Prop := (T'.1 83 = T.1 83 ∧ T'.1 84 = T.1 84 ∧ T'.1 99 = T.1 99) ∧ (T'.1 14 0 34 = T.1 14 0 34 ∧ T'.1 14 0 41 = T.1 14 0 41 ∧ T'.1 14 0 42 = T.1 14 0 42 ∧ T'.1 14 0 61 = T.1 14 0 61)
theorem mi_kpq {T T' : ov_S} (h : mi_kp T T') : mi_kq T T' := ⟨h.1, h.2.1, h.2.2.1, h.2.2.2.1, h.2.2.2.2.1⟩
theorem mi_kqt {T T1 T2 : ov_S} (h1 : mi_kq T T1) (h2 : mi_kq T1 T2) : mi_kq T T2 := ⟨⟨h2.1.1.trans h1.1.1, h2.1.2.1.trans h1.1.2.1, h2.1.2.2.trans h1.1.2.2⟩, h2.2.1.trans h1.2.1, h2.2.2.1.trans h1.2.2.1, h2.2.2.2.1.trans h1.2.2.2.1, h2.2.2.2.2.trans h1.2.2.2.2⟩
theorem mi_kqr {T : ov_S} : mi_kq T T := ⟨⟨rfl, rfl, rfl⟩, rfl, rfl, rfl, rfl⟩
theorem mi_kq14 {T T' : ov_S} {j : Nat} {v : Int32} (h : mi_kq T T') (hj : j ≠ 34 ∧ j ≠ 41 ∧ j ≠ 42 ∧ j ≠ 61) : mi_kq T (ov_w T' 14 0 j v) := by
  have row : ∀ q, q ≠ 14 → (ov_w T' 14 0 j v).1 q = T'.1 q := by
    intro q hq
    funext i' j'
    exact rl_wn (fun z => hq z.1)
  exact mi_kqt h ⟨⟨row 83 (by omega), row 84 (by omega), row 99 (by omega)⟩, rl_wn (by omega), rl_wn (by omega), rl_wn (by omega), rl_wn (by omega)⟩
/-- the reference: the THREES from one on -/
def mi_gL (c t : Nat) (T T' : ov_S) : Prop := ∀ (d : Nat) (D : ov_S) (Q : ov_Q), 6 ≤ d → ov_V true true d 0 0 mq_Mod_goesBy 26 [some (.inr (.inr (true, 14, 0))), some (.inl (nI c)), none] [] (ov_mix D T') Q → ov_V true true d 0 0 mq_Mod_goesBy 26 [some (.inr (.inr (true, 14, 0))), some (.inl (nI t)), none] [] (ov_mix D T) Q
theorem mi_loopA {d c mm nz wc : Nat} {T0 : ov_S} {Q : ov_Q} {v1 : Int32} (hd : 9 ≤ d) (ev : v1 = nI mm - nI mm / 240 * 240) : ∀ (j t : Nat), t + j = c → ∀ (C T : ov_S) (lb : Nat), rl_w c mm lb nz wc C.1 T.1 → (∀ j, j < 4 → C.1 2 0 j ≠ 0) → (∀ j, j < 12 → C.1 3 0 j ≠ 0) →
    (∀ (C' T' : ov_S) (lb' : Nat), rl_w c mm lb' nz wc C'.1 T'.1 → mi_kc C C' → mi_kp T T' → mi_gL c t T T' → ov_V true true d 0 0 mq_World_passMinute 28 [some (.inr (.inr (true, 1, 0))), some (.inl v1), some (.inl (nI c)), none] [] (ov_mix C' T0) Q) → ov_V true true d 0 0 mq_World_passMinute 28 [some (.inr (.inr (true, 1, 0))), some (.inl v1), some (.inl (nI t)), none] [] (ov_mix C T0) Q := by
  intro j
  induction j with
  | zero =>
    intro t ht C T lb hw fl2 fl hQ
    have e : t = c := by omega
    subst e
    exact hQ C T lb hw mi_kcr mi_kpr (fun d D Q hd h => h)
  | succ j ih =>
    intro t ht C T lb hw fl2 fl hQ
    have hc := hw.1.1
    have g3 := hw.2.2.1
    have g4 := hw.2.2.2.1
    have key : ∀ v2 : Int32, ((v2 = 0 ∧ v1 < T.1 14 0 17) ∨ (v2 = 1 ∧ ¬ v1 < T.1 14 0 17)) → ov_V true true ((d - 1)) 0 0 mq_World_act 0 [some (.inr (.inr (true, 1, 0))), some (.inl (nI t)), some (.inl v2), none] [] (ov_mix C T0) (fun r S1 => ov_V true true d 0 0 mq_World_passMinute 54 [some (.inr (.inr (true, 1, 0))), some (.inl v1), some (.inl (nI t)), none] (r.toList ++ []) S1 Q) := by
      intro v2 h2
      refine mi_act (by omega) hw fl2 fl (by omega) (by rw [g3.2.2, ← ev]; exact h2) (fun C' T' lb' a1 a2 a3 a4 => r_World_passMinute_54 ?_)
      rw [nI_1]
      refine ih (t + 1) (by omega) C' T' lb' a1 (by rw [a2.2.1.2.1]; exact fl2) (by rw [a2.2.1.2.2.1]; exact fl) (fun C2 T2 lb2 b1 b2 b3 b4 => hQ C2 T2 lb2 b1 (mi_kct a2 b2) (mi_kpt a3 b3) ?_)
      intro d1 D Q1 hd1 h1
      refine a4 d1 D Q1 hd1 (r_Mod_goesBy_94 ?_)
      rw [nI_1]
      exact b4 d1 D Q1 hd1 h1
    refine r_World_passMinute_28 (by omega) ?_
    rw [show ov_g (ov_mix C T0) 1 0 2 = nI c from hw.1.2.1, show ov_g (ov_mix C T0) 1 0 10 = T.1 14 0 17 from g4.1]
    exact ⟨fun q => absurd q (nI_ge (by omega) (by omega)), fun _ => ⟨fun y => r_World_passMinute_51 (by omega) (key 0 (.inl ⟨rfl, y⟩)), fun n => r_World_passMinute_51_2 (by omega) (key 1 (.inr ⟨rfl, n⟩))⟩⟩
theorem mh_aC {pl pl' : Nat → Nat → Int32} (h : ∀ t, t < 4 → ∀ x, x < 3 → pl t x = pl' t x) (a p x : Nat) : mh_a pl a p x = mh_a pl' a p x := by
  unfold mh_a
  by_cases q : p < 12 ∧ x < 3
  · rw [h (p / 3) (by omega) x q.2]
  · rw [if_neg (fun z => q ⟨z.1, z.2.1⟩), if_neg (fun z => q ⟨z.1, z.2.1⟩)]
theorem mh_bC {pl pl' : Nat → Nat → Int32} (h : ∀ t, t < 4 → ∀ x, x < 3 → pl t x = pl' t x) (l : Int32) (b p : Nat) : mh_b pl l b p = mh_b pl' l b p := by
  unfold mh_b
  by_cases q : p < 12
  · rw [h (p / 3) (by omega) 1 (by decide)]
  · rw [if_neg (fun z => q z.1), if_neg (fun z => q z.1)]
theorem mh_dC {pl pl' : Nat → Nat → Int32} (h : ∀ t, t < 4 → ∀ x, x < 3 → pl t x = pl' t x) (l : Int32) (b t : Nat) (ht : t < 4) : mh_d pl l b t = mh_d pl' l b t := by
  unfold mh_d
  rw [h t ht 1 (by decide)]
theorem mh_R {c m lb nz wc : Nat} {C T : ov_S} {l : Int32} {a b : Nat} (hw : rl_w c m lb nz wc C.1 T.1) (hm : m < 99999) (h4 : ∃ k : Nat, k ≤ 180 ∧ T.1 14 0 17 = nI k) : rl_w c (m + 1) lb nz wc (ov_w (mh_C C l a b) 1 0 9 (nI (m + 1))).1 (ov_w (mh_T T l a b) 14 0 16 (nI (m + 1))).1 := by
  obtain ⟨g1, g2, g3, g4, g5, g6, g7, g8, g9, g10, g11, g12, g13, g14, g15, g16, g17, g18, g19, g20, g21, g22, g23, g24, g25, g26⟩ := hw
  have hpl : ∀ t, t < 4 → ∀ x, x < 3 → C.1 34 t x = mh_p T t x := fun t ht x hx => (g10 t ht x hx).1
  refine ⟨g1, g2, ⟨by omega, rl_ww _ _ _ _ _, rl_ww _ _ _ _ _⟩, ⟨g4.1, .inr h4⟩, g5, g6, g7, g8, ?_, g10, g11, g12, g13, g14, g15, ?_, ?_, g18, g19, g20, g21, g22, g23, g24, g25, g26⟩
  · intro t ht
    refine ⟨(g9 t ht).1, (g9 t ht).2.1, ?_⟩
    show C.1 6 t 4 + mh_d (C.1 34) l b t = T.1 73 0 t + mh_d (mh_p T) l b t
    rw [(g9 t ht).2.2, mh_dC hpl l b t ht]
  · intro p hp x hx
    show C.1 40 p x + mh_a (C.1 34) a p x = T.1 66 0 (3 * p + x) + mh_a (mh_p T) a ((3 * p + x) / 3) ((3 * p + x) % 3)
    rw [g16 p hp x hx, mh_aC hpl, show (3 * p + x) / 3 = p by omega, show (3 * p + x) % 3 = x by omega]
  · intro p hp
    show C.1 7 p 6 + mh_b (C.1 34) l b p = T.1 72 0 p + mh_b (mh_p T) l b p
    rw [g17 p hp, mh_bC hpl]
theorem mh_kc {C : ov_S} {l : Int32} {a b : Nat} {v : Int32} (hb : b ≤ 4) : mi_kc C (ov_w (mh_C C l a b) 1 0 9 v) := by
  refine mi_kct (C1 := mh_C C l a b) ⟨fun r i k hr hk => ?_, ⟨?_, ?_, ?_, ?_, ?_⟩, rfl⟩ (mi_kcw mi_kcr (by decide) (by decide))
  · unfold mh_C
    dsimp only
    by_cases h1 : r = 40
    · subst h1
      have h2 : 12 ≤ i := hk.1
      rw [if_pos rfl, show mh_a (C.1 34) a i k = 0 from if_neg (fun q => by omega), Int32.add_zero]
    · rw [if_neg h1]
      by_cases h2 : r = 7 ∧ k = 6
      · obtain ⟨rfl, rfl⟩ := h2
        have h2 : 12 ≤ i := hk.1
        rw [if_pos ⟨rfl, rfl⟩, show mh_b (C.1 34) l b i = 0 from if_neg (fun q => by omega), Int32.add_zero]
      · rw [if_neg h2]
        by_cases h3 : r = 6 ∧ k = 4
        · obtain ⟨rfl, rfl⟩ := h3
          have h2 : 4 ≤ i := hk.1
          rw [if_pos ⟨rfl, rfl⟩, show mh_d (C.1 34) l b i = 0 from if_neg (fun q => by omega), Int32.add_zero]
        · rw [if_neg h3]
  all_goals funext i k; rfl
theorem mh_kq {T : ov_S} {l : Int32} {a b : Nat} {v : Int32} : mi_kq T (ov_w (mh_T T l a b) 14 0 16 v) := by
  refine mi_kq14 ⟨⟨?_, ?_, ?_⟩, rfl, rfl, rfl, rfl⟩ (by decide)
  all_goals funext i k; rfl
def mi_go (T T' : ov_S) : Prop := ∀ (d : Nat) (D : ov_S) (Q : ov_Q), 8 ≤ d → Q none (ov_mix D T') → ov_V true true d 0 0 mq_Mod_goesBy 0 [some (.inr (.inr (true, 14, 0))), none, none] [] (ov_mix D T) Q
/-- behind the sunset: the rest of the minute -/
def mi_g24 (T T' : ov_S) : Prop := ∀ (d : Nat) (D : ov_S) (Q : ov_Q), 8 ≤ d → Q none (ov_mix D T') → ov_V true true d 0 0 mq_Mod_goesBy 24 [some (.inr (.inr (true, 14, 0))), none, none] [] (ov_mix D T) Q
theorem mi_p26 {d c mm lb nz wc : Nat} {C T T0 : ov_S} {Q : ov_Q} {v1 : Int32} (hd : 9 ≤ d) (ev : v1 = nI mm - nI mm / 240 * 240) (hw : rl_w c mm lb nz wc C.1 T.1) (hm : mm < 99999) (h4 : ∃ k : Nat, k ≤ 180 ∧ T.1 14 0 17 = nI k) (fl2 : ∀ j, j < 4 → C.1 2 0 j ≠ 0) (fl : ∀ j, j < 12 → C.1 3 0 j ≠ 0)
    (hQ : ∀ (C' T' : ov_S) (lb' : Nat), rl_w c (mm + 1) lb' nz wc C'.1 T'.1 → mi_kc C C' → mi_kq T T' → mi_g24 T T' → Q none (ov_mix C' T0)) : ov_V true true d 0 0 mq_World_passMinute 26 [some (.inr (.inr (true, 1, 0))), some (.inl v1), none, none] [] (ov_mix C T0) Q := by
  refine r_World_passMinute_26 (mi_loopA hd ev c 0 (by omega) C T lb hw fl2 fl (fun C1 T1 lb1 a1 a2 a3 a4 => ?_))
  have fl2 : ∀ j, j < 4 → C1.1 2 0 j ≠ 0 := by rw [a2.2.1.2.1]; exact fl2
  have fl : ∀ j, j < 12 → C1.1 3 0 j ≠ 0 := by rw [a2.2.1.2.2.1]; exact fl
  have h4 : ∃ k : Nat, k ≤ 180 ∧ T1.1 14 0 17 = nI k := by rw [a3.2.2.2.2.2]; exact h4
  obtain ⟨g1, g2, g3, g4, g5, g6, g7, g8, g9, g10, g11, g12, g13, g14, g15, g16, g17, g18, g19, g20, g21, g22, g23, g24, g25, g26⟩ := id a1
  have hc := g1.1
  have ppC : ∀ t, t < 4 → ∀ x, x < 3 → rl_plc (C1.1 34 t x) := fun t ht x hx => by rw [(g10 t ht x hx).1]; exact (g10 t ht x hx).2
  have ppT : ∀ t, t < 4 → ∀ x, x < 3 → rl_plc (mh_p T1 t x) := fun t ht x hx => (g10 t ht x hx).2
  have hnn : mh_n (C1.1 21 0) (nI mm) nz ≤ nz := mh_n_le _ _ _
  have enn : mh_n (C1.1 21 0) (nI mm) nz = mh_n (T1.1 71 0) (nI mm) nz := mh_n_c nz (fun k hk => g6 k (by omega))
  generalize hl : mh_n (C1.1 21 0) (nI mm) nz = n at hnn enn
  refine r_World_passMinute_28 (by omega) ⟨fun _ => r_World_noisesNow_0 (mh_nE g5.1 g5.2.1 g3.2.1 ?_ nz 0 (by omega)), fun q => absurd (show ov_g (ov_mix C1 T0) 1 0 2 ≤ nI c by rw [show ov_g (ov_mix C1 T0) 1 0 2 = nI c from g1.2.1]; exact nI_le (Nat.le_refl _) (by omega)) q⟩
  rw [hl]
  refine r_World_passMinute_64 ?_
  have loop : ∀ j t, t + j = c → ov_V true true d 0 0 mq_World_passMinute 67 [some (.inr (.inr (true, 1, 0))), none, some (.inl (nI n)), some (.inl (nI t))] [] (ov_mix (mh_C C1 (nI n) (3 * t) t) T0) Q := by
    intro j
    induction j with
    | zero =>
      intro t ht
      have e : t = c := by omega
      subst e
      have hw2 := mh_R (l := nI n) (a := 3 * t) (b := t) a1 hm h4
      refine r_World_passMinute_67 (by omega) ⟨fun _ => ?_, fun q => absurd (show ov_g (ov_mix (mh_C C1 (nI n) (3 * t) t) T0) 1 0 2 ≤ nI t by rw [show ov_g (ov_mix (mh_C C1 (nI n) (3 * t) t) T0) 1 0 2 = nI t from g1.2.1]; exact nI_le (Nat.le_refl _) (by omega)) q⟩
      rw [show ov_g (ov_mix (mh_C C1 (nI n) (3 * t) t) T0) 1 0 9 = nI mm from g3.2.1, nI_1, mix_c rfl]
      refine hQ _ _ lb1 hw2 (mi_kct a2 (mh_kc hc)) (mi_kqt (mi_kpq a3) mh_kq) ?_
      intro d1 D Q1 hd1 h1
      refine r_Mod_goesBy_24 (a4 d1 D Q1 (by omega) (r_Mod_goesBy_26 (by omega) ⟨fun _ => ?_, fun q => absurd (show ov_g (ov_mix D T1) 14 0 2 ≤ nI t by rw [show ov_g (ov_mix D T1) 14 0 2 = nI t from g1.2.2]; exact nI_le (Nat.le_refl _) (by omega)) q⟩))
      have m2 := mh_M2 (d := d1) (D := D) (Q := Q1) (T := T1) (l := nI n) (b := 0) (by omega) hc g1.2.2 ppT (r_Mod_goesBy_102 (by omega) ⟨fun _ => r_Mod_sounds_0 ?_, fun q => absurd (show ov_g (ov_mix D (mh_T T1 (nI n) (3 * t) 0)) 14 0 2 ≤ nI t by rw [show ov_g (ov_mix D (mh_T T1 (nI n) (3 * t) 0)) 14 0 2 = nI t from g1.2.2]; exact nI_le (Nat.le_refl _) (by omega)) q⟩) t 0 (by omega)
      · rw [Nat.mul_zero, mh_T0] at m2
        exact m2
      · refine mh_nM (nz := nz) (mn := nI mm) (T := mh_T T1 (nI n) (3 * t) 0) g5.1 g5.2.2 g3.2.2 ?_ nz 0 (by omega)
        have en : mh_n ((mh_T T1 (nI n) (3 * t) 0).1 71 0) (nI mm) nz = n := enn.symm
        rw [en]
        refine mh_M3 (by omega) hc g1.2.2 ppT (r_Mod_goesBy_175 ?_) t 0 (by omega)
        rw [show ov_g (ov_mix D (mh_T T1 (nI n) (3 * t) t)) 14 0 16 = nI mm from g3.2.2, nI_1, mix_m rfl]
        exact h1
    | succ j ih =>
      intro t ht
      refine r_World_passMinute_67 (by omega) ⟨fun q => ?_, fun _ => mh_E2 (by omega) hc g1.2.1 (by omega) fl2 fl (by omega) (ppC t (by omega)) (r_World_passMinute_81 ?_)⟩
      · rw [show ov_g (ov_mix (mh_C C1 (nI n) (3 * t) t) T0) 1 0 2 = nI c from g1.2.1] at q
        exact absurd q (nI_ge (by omega) (by omega))
      · rw [nI_1]
        exact ih (t + 1) (by omega)
  have l0 := loop c 0 (by omega)
  rw [Nat.mul_zero, mh_C0] at l0
  exact l0
theorem mi_pass {d c mm lb nz wc : Nat} {C T T0 : ov_S} {Q : ov_Q} (hd : 9 ≤ d) (hw : rl_w c mm lb nz wc C.1 T.1) (hm : mm < 99999) (fl2 : ∀ j, j < 4 → C.1 2 0 j ≠ 0) (fl : ∀ j, j < 12 → C.1 3 0 j ≠ 0)
    (hQ : ∀ (C' T' : ov_S) (lb' : Nat), rl_w c (mm + 1) lb' nz wc C'.1 T'.1 → mi_kc C C' → mi_kq T T' → mi_go T T' → Q none (ov_mix C' T0)) : ov_V true true d 0 0 mq_World_passMinute 0 [some (.inr (.inr (true, 1, 0))), none, none, none] [] (ov_mix C T0) Q := by
  obtain ⟨g1, g2, g3, g4, g5, g6, g7, g8, g9, g10, g11, g12, g13, g14, g15, g16, g17, g18, g19, g20, g21, g22, g23, g24, g25, g26⟩ := id hw
  have er : nI mm - nI mm / 240 * 240 = nI (mm % 240) := pk_rem (d := 240) (by omega) (by decide) (by decide)
  refine r_World_passMinute_0 (by omega) ?_
  rw [show ov_g (ov_mix C T0) 1 0 9 = nI mm from g3.2.1]
  refine ⟨fun n => ?_, fun y => ?_⟩
  · have hm0 : mm ≠ 0 := by
      rintro rfl
      exact n (by decide)
    have h4 : ∃ k : Nat, k ≤ 180 ∧ T.1 14 0 17 = nI k := g4.2.elim (fun q => absurd q.2 hm0) (fun q => q)
    refine mi_p26 hd rfl hw hm h4 fl2 fl (fun C' T' lb' a1 a2 a3 a4 => hQ C' T' lb' a1 a2 a3 ?_)
    intro d1 D Q1 hd1 h1
    refine r_Mod_goesBy_0 (by omega) ?_
    rw [show ov_g (ov_mix D T) 14 0 16 = nI mm from g3.2.2]
    exact ⟨fun _ => a4 d1 D Q1 hd1 h1, fun y => absurd y n⟩
  · refine mi_drE (by decide) (by decide) g2 ?_
    have hb := dr_b (dr_s (T.1 14 0 1)) (k := 61) (by decide) (by decide)
    obtain ⟨k, hk, ek⟩ := hb
    have ek : dr_v (dr_s (T.1 14 0 1)) 61 = nI k := ek
    rw [ek]
    generalize hs1 : dr_s (T.1 14 0 1) = s1
    rw [hs1] at ek
    refine r_World_passMinute_22 ?_
    have e120 : (120 + nI k : Int32) = nI (120 + k) := nI_add 120 k
    rw [e120, mix_c rfl]
    have hw1 : rl_w c mm lb nz wc (ov_w (ov_w C 1 0 8 s1) 1 0 10 (nI (120 + k))).1 (ov_w (ov_w T 14 0 1 s1) 14 0 17 (nI (120 + k))).1 := ⟨g1, rfl, g3, ⟨rfl, .inr ⟨120 + k, by omega, rfl⟩⟩, g5, g6, g7, g8, g9, g10, g11, g12, g13, g14, g15, g16, g17, g18, g19, g20, g21, g22, g23, g24, g25, g26⟩
    refine mi_p26 hd rfl hw1 hm ⟨120 + k, by omega, rfl⟩ fl2 fl (fun C' T' lb' a1 a2 a3 a4 => hQ C' T' lb' a1 (mi_kct (mi_kcw (mi_kcw mi_kcr (by decide) (by decide)) (by decide) (by decide)) a2) (mi_kqt (mi_kq14 (mi_kq14 mi_kqr (by decide)) (by decide)) a3) ?_)
    intro d1 D Q1 hd1 h1
    refine r_Mod_goesBy_0 (by omega) ?_
    rw [show ov_g (ov_mix D T) 14 0 16 = nI mm from g3.2.2]
    refine ⟨fun n => absurd y n, fun _ => mi_drM (by decide) ?_⟩
    rw [hs1, ek]
    refine r_Mod_goesBy_20 ?_
    rw [e120, mix_m rfl]
    exact a4 d1 D Q1 hd1 h1
/-- minutes, one after another -/
def mi_gN (n k : Nat) (T T' : ov_S) : Prop := ∀ (d : Nat) (D : ov_S) (Q : ov_Q), 9 ≤ d → ov_V true true d 0 0 mq_Mod_minutes 33 [some (.inr (.inr (true, 14, 0))), some (.inl (nI n)), some (.inl (nI n))] [] (ov_mix D T') Q → ov_V true true d 0 0 mq_Mod_minutes 33 [some (.inr (.inr (true, 14, 0))), some (.inl (nI n)), some (.inl (nI k))] [] (ov_mix D T) Q
theorem mi_loopN {d c nz wc n : Nat} {T0 : ov_S} {Q : ov_Q} (hd : 10 ≤ d) (hn : n ≤ 1000) : ∀ (j k : Nat), k + j = n → ∀ (C T : ov_S) (mm lb : Nat), mm + j ≤ 99999 → rl_w c mm lb nz wc C.1 T.1 → (∀ j, j < 4 → C.1 2 0 j ≠ 0) → (∀ j, j < 12 → C.1 3 0 j ≠ 0) →
    (∀ (C' T' : ov_S) (lb' : Nat), rl_w c (mm + j) lb' nz wc C'.1 T'.1 → mi_kc C C' → mi_kq T T' → mi_gN n k T T' → ov_V true true d 0 0 mq_Eye_minutes 29 [some (.inr (.inr (true, 0, 0))), some (.inl (nI n)), some (.inl (nI n))] [] (ov_mix C' T0) Q) → ov_V true true d 0 0 mq_Eye_minutes 29 [some (.inr (.inr (true, 0, 0))), some (.inl (nI n)), some (.inl (nI k))] [] (ov_mix C T0) Q := by
  intro j
  induction j with
  | zero =>
    intro k hk C T mm lb hm hw fl2 fl hQ
    have e : k = n := by omega
    subst e
    exact hQ C T lb hw mi_kcr mi_kqr (fun d D Q hd h => h)
  | succ j ih =>
    intro k hk C T mm lb hm hw fl2 fl hQ
    refine r_Eye_minutes_29 (by omega) ⟨fun q => absurd q (nI_ge (by omega) (by omega)), fun _ => mi_pass (by omega) hw (by omega) fl2 fl (fun C1 T1 lb1 a1 a2 a3 a4 => r_Eye_minutes_41 ?_)⟩
    rw [nI_1]
    refine ih (k + 1) (by omega) C1 T1 (mm + 1) lb1 (by omega) a1 (by rw [a2.2.1.2.1]; exact fl2) (by rw [a2.2.1.2.2.1]; exact fl) (fun C2 T2 lb2 b1 b2 b3 b4 => hQ C2 T2 lb2 ?_ (mi_kct a2 b2) (mi_kqt a3 b3) ?_)
    · rw [show mm + (j + 1) = mm + 1 + j by omega]
      exact b1
    · intro d1 D Q1 hd1 h1
      refine r_Mod_minutes_33 (by omega) ⟨fun q => absurd q (nI_ge (by omega) (by omega)), fun _ => a4 (d1 - 1) D _ (by omega) (r_Mod_minutes_42 ?_)⟩
      rw [nI_1]
      exact b4 d1 D Q1 hd1 h1
theorem rl_i_h2 {S S' : ov_S} (e1 : ∀ r i j, r < 45 → r ≠ 14 → rl_k r i → S'.1 r i j = S.1 r i j) (e2 : S'.1 99 0 = S.1 99 0) (e3 : S'.1 0 0 1 = S.1 0 0 1) (e4 : S'.1 14 0 61 = S.1 14 0 61) (e5 : S'.2.2.1 = S.2.2.1) (hi : rl_i S) : rl_i S' := by
  rcases hi with ⟨h1, h2, h3⟩ | ⟨h1, h2, h3, h4, c, m, lb, nz, wc, u, h5, h6⟩
  · exact .inl ⟨e3.trans h1, e4.trans h2, by rw [e5]; exact h3⟩
  · refine .inr ⟨e3.trans h1, e4.trans h2, fun j hj => ?_, fun j hj => ?_, c, m, lb, nz, wc, u, rl_w_c ⟨?_, ?_⟩ ⟨fun _ _ _ _ _ => rfl, fun _ _ => rfl⟩ h5, by rw [e2]; exact h6⟩
    · rw [e1 2 1 j (by decide) (by decide) ⟨by decide, by decide⟩]; exact h3 j hj
    · rw [e1 3 1 j (by decide) (by decide) ⟨by decide, by decide⟩]; exact h4 j hj
    · intro r I J hm i hi j hj
      have hb : r < 45 ∧ r ≠ 14 ∧ I ≤ rl_sh r := (show ∀ x ∈ rl_da, x.1 < 45 ∧ x.1 ≠ 14 ∧ x.2.1 ≤ rl_sh x.1 by decide) _ hm
      exact e1 r (rl_sh r + i) j hb.1 hb.2.1 ⟨by omega, by omega⟩
    · intro r I j hm i hi
      have hb : r < 45 ∧ r ≠ 14 ∧ I ≤ rl_sh r := (show ∀ x ∈ rl_ds, x.1 < 45 ∧ x.1 ≠ 14 ∧ x.2.1 ≤ rl_sh x.1 by decide) _ hm
      exact e1 r (rl_sh r + i) j hb.1 hb.2.1 ⟨by omega, by omega⟩
/-- side by side, put together again -/
theorem mi_join {c m lb nz wc : Nat} {S C' T' : ov_S} (ho : rl_o S) (hi : rl_i S) (hw : rl_w c m lb nz wc C'.1 T'.1) (hc : mi_kc S C') (hq : mi_kq S T') : rl_S (ov_mix C' T') := by
  obtain ⟨o1, o2, o3, o4, o5, o6⟩ := ho
  obtain ⟨c1, ⟨c20, c22, c23, c29, c245⟩, c3⟩ := hc
  obtain ⟨⟨q83, q84, q99⟩, q34, q41, q42, q61⟩ := hq
  refine ⟨c, m, lb, nz, wc, rl_w_c ⟨?_, ?_⟩ ⟨?_, ?_⟩ hw, ⟨?_, ?_, ?_, ?_, ?_, ?_⟩, rl_i_h2 ?_ ?_ ?_ ?_ ?_ hi⟩
  · intro r I J hm i hi j hj
    have hb : rl_mr r = false := (show ∀ x ∈ rl_da, rl_mr x.1 = false by decide) _ hm
    show (cond (rl_mr r) (T'.1 r) (C'.1 r)) i j = _
    rw [hb]
    rfl
  · intro r I j hm i hi
    have hb : rl_mr r = false := (show ∀ x ∈ rl_ds, rl_mr x.1 = false by decide) _ hm
    show (cond (rl_mr r) (T'.1 r) (C'.1 r)) i j = _
    rw [hb]
    rfl
  · intro r J hm j hj
    have hb : rl_mr r = true := (show ∀ x ∈ rl_ua, rl_mr x.1 = true by decide) _ hm
    show (cond (rl_mr r) (T'.1 r) (C'.1 r)) 0 j = _
    rw [hb]
    rfl
  · intro j _
    rfl
  · show ∃ k : Nat, k ≤ 400 ∧ C'.1 9 0 1 = nI k ∧ T'.1 14 0 34 = nI k
    rw [c29, q34]
    exact o1
  · show ∀ j, j < 400 → C'.1 45 0 j = T'.1 84 0 j ∧ ∃ v : Nat, v < 256 ∧ T'.1 84 0 j = nI v
    rw [c245, q84]
    exact o2
  · show C'.1 9 0 3 = T'.1 14 0 41 ∧ C'.1 9 0 4 = T'.1 14 0 42
    rw [c29, q41, q42]
    exact o3
  · show ∀ j, j < 4 → C'.1 2 0 j ≠ 0
    rw [c22]
    exact o4
  · show ∀ j, j < 12 → C'.1 3 0 j ≠ 0
    rw [c23]
    exact o5
  · show ∀ k, k < 45 → T'.1 83 0 k = nI (rl_wds.getD k 0)
    rw [q83]
    exact o6
  · intro r i j hr h14 hk
    show (cond (rl_mr r) (T'.1 r) (C'.1 r)) i j = _
    have hb : rl_mr r = false := by
      have h1 : Nat.beq r 14 = false := by
        cases h : Nat.beq r 14
        · rfl
        · exact absurd (Nat.eq_of_beq_eq_true h) h14
      have h2 : Nat.blt 57 r = false := by
        cases h : Nat.blt 57 r
        · rfl
        · have : 57 < r := Nat.le_of_ble_eq_true h
          omega
      show (Nat.beq r 14 || Nat.blt 57 r) = false
      rw [h1, h2]
      rfl
    rw [hb]
    exact c1 r i j hr hk
  · exact congrFun q99 0
  · exact congrFun (congrFun c20 0) 1
  · exact q61
  · show C'.2.2.1 = S.2.2.1
    rw [c3]
theorem mi_toldR {S : ov_S} {c m lb nz wc : Nat} (h : rl_w c m lb nz wc S.1 S.1) : rl_w c m lb nz wc S.1 (ov_w S 14 0 0 0).1 := by
  unfold rl_w at h ⊢
  exact h
theorem s_minutes {d : Nat} {S : ov_S} {v1 : Int32} (hd : 10 ≤ d) (h : rl_S S) : rl_2 d mq_Eye_minutes mq_Mod_minutes [some (.inr (.inr (true, 0, 0))), some (.inl v1), none] [some (.inr (.inr (true, 14, 0))), some (.inl v1), none] S := by
  unfold rl_2
  obtain ⟨c, m, lb, nz, wc, hw, ho, hi⟩ := id h
  have g3 := hw.2.2.1
  have hw0 := mi_toldR hw
  refine r_Eye_minutes_0 (by omega) ?_
  rw [show ov_g S 1 0 9 = nI m from g3.2.1]
  have e16 : ov_g (ov_w S 14 0 0 0) 14 0 16 = nI m := g3.2.2
  refine ⟨fun n => r_Mod_minutes_0 (by omega) ⟨fun _ => rl_same h rfl, fun y => absurd y n⟩, fun q1 => ⟨fun q2 => ?_, fun n => r_Mod_minutes_0 (by omega) ⟨fun n1 => absurd q1 n1, fun _ => ⟨fun y => absurd (by rw [e16] at y; exact y) n, fun _ => rl_same h rfl⟩⟩⟩⟩
  obtain ⟨n, hn1, hn, rfl⟩ := (zz_rng (a := 1) (b := 1000) rfl rfl).1 q1
  have hmn : m + n ≤ 99999 := by
    rw [nI_add] at q2
    exact (nI_leI (b := 99999) (by omega) (by decide)).1 q2
  have L := mi_loopN (d := d) (c := c) (nz := nz) (wc := wc) (n := n) (T0 := S) (Q := fun r S1 => ov_V true true d 0 0 mq_Mod_minutes 0 [some (.inr (.inr (true, 14, 0))), some (.inl (nI n)), none] [] S1 (fun r' S2 => rl_e r r' S2)) hd hn n 0 (by omega) S (ov_w S 14 0 0 0) m lb hmn hw0 ho.2.2.2.1 ho.2.2.2.2.1 (fun C' T' lb' a1 a2 a3 a4 => ?_)
  · rw [mix_self] at L
    exact L
  have g3' := a1.2.2.1
  refine r_Eye_minutes_29 (by omega) ⟨fun _ => ?_, fun q => absurd (nI_le (Nat.le_refl _) (by omega)) q⟩
  rw [show ov_g (ov_mix C' S) 1 0 9 = nI (m + n) from g3'.2.1]
  refine r_Mod_minutes_0 (by omega) ?_
  rw [mix_m rfl, show ov_g (ov_mix C' (ov_w S 14 0 0 0)) 14 0 16 = nI m from g3.2.2]
  refine ⟨fun n => absurd q1 n, fun _ => ⟨fun _ => a4 d C' _ (by omega) (r_Mod_minutes_33 (by omega) ⟨fun _ => ?_, fun q => absurd (nI_le (Nat.le_refl _) (by omega)) q⟩), fun n => absurd q2 n⟩⟩
  rw [show ov_g (ov_mix C' T') 14 0 16 = nI (m + n) from g3'.2.2]
  exact ⟨_, rfl, rfl, mi_join ho hi a1 a2 (mi_kqt (mi_kq14 mi_kqr (by decide)) a3)⟩
