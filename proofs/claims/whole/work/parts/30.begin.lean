/-! ===== a STEP begins: the class ===== -/
theorem mi_Eb4 {d : Nat} {C T : ov_S} {Q : ov_Q} {t k : Nat} {v4 v : Int32} (hd : 4 ≤ d) (hk : k < 30) (ek : C.1 41 t k = 4) (ev : C.1 43 t k = v) (h : Q none (ov_mix (ov_w (ov_w (ov_w (ov_w C 6 t 9 4) 6 t 8 v) 6 t 10 (-1)) 6 t 11 (-1)) T)) : ov_V true true d 0 0 mq_World_begin 0 [some (.inr (.inr (true, 1, 0))), some (.inl (nI t)), some (.inr (.inr (true, 6, t))), some (.inl (nI k)), some (.inl v4), none, none, none] [] (ov_mix C T) Q := by
  have ib : ov_ib (nI k) 30 := zz_ib hk (by decide)
  have hin : 0 ≤ nI k ∧ nI k ≤ 29 := (zz_le (b := 29) rfl).2 ⟨k, by omega, rfl⟩
  refine r_World_begin_0 (by omega) ⟨fun _ => ?_, fun n => absurd hin n⟩
  rw [zz_ix (by omega), show ov_g (ov_mix C T) 41 t k = 4 from ek, show ov_g (ov_mix C T) 43 t k = v from ev]
  refine ⟨ib, ib, fun q => absurd q (by decide), fun q => absurd q (by decide), fun q => absurd q (by decide), fun q => absurd q (by decide), fun q => absurd q (by decide), fun _ => r_Three_occupy_0 (r_World_begin_147 ?_), fun q => absurd q (by decide)⟩
  rw [mix_c rfl, mix_c rfl, mix_c rfl, mix_c rfl]
  exact h
theorem mi_Eb5 {d : Nat} {C T : ov_S} {Q : ov_Q} {t k : Nat} {v4 v w : Int32} (hd : 4 ≤ d) (hk : k < 30) (ek : C.1 41 t k = 5) (ev : C.1 43 t k = v) (ew : C.1 42 t k = w) (h : Q none (ov_mix (ov_w (ov_w (ov_w (ov_w C 6 t 9 5) 6 t 8 2) 6 t 10 w) 6 t 11 v) T)) : ov_V true true d 0 0 mq_World_begin 0 [some (.inr (.inr (true, 1, 0))), some (.inl (nI t)), some (.inr (.inr (true, 6, t))), some (.inl (nI k)), some (.inl v4), none, none, none] [] (ov_mix C T) Q := by
  have ib : ov_ib (nI k) 30 := zz_ib hk (by decide)
  have hin : 0 ≤ nI k ∧ nI k ≤ 29 := (zz_le (b := 29) rfl).2 ⟨k, by omega, rfl⟩
  refine r_World_begin_0 (by omega) ⟨fun _ => ?_, fun n => absurd hin n⟩
  rw [zz_ix (by omega), show ov_g (ov_mix C T) 41 t k = 5 from ek, show ov_g (ov_mix C T) 43 t k = v from ev, show ov_g (ov_mix C T) 42 t k = w from ew]
  refine ⟨ib, ib, fun q => absurd q (by decide), fun q => absurd q (by decide), fun q => absurd q (by decide), fun q => absurd q (by decide), fun q => absurd q (by decide), fun q => absurd q (by decide), fun _ => ⟨ib, r_Three_occupy_0 (r_World_begin_165 ?_)⟩⟩
  rw [mix_c rfl, mix_c rfl, mix_c rfl, mix_c rfl]
  exact h
theorem mi_Eb0 {d : Nat} {C T : ov_S} {Q : ov_Q} {t k x y : Nat} {v4 hd0 pl : Int32} (hd : 4 ≤ d) (hk : k < 30) (hx : x < 3) (ek : C.1 41 t k = 0) (ev : C.1 43 t k = nI y) (ew : C.1 42 t k = nI x) (eh : C.1 6 t 0 = hd0) (ep : C.1 34 t x = pl)
    (h1 : ¬ (0 ≤ pl ∧ pl ≤ 2) ∨ pl = nI y → Q none (ov_mix C T))
    (h2 : (0 ≤ pl ∧ pl ≤ 2) → ¬ pl = nI y → Q none (ov_mix (ov_w (ov_w (ov_w (ov_w (ov_w C 34 t x 3) 6 t 9 0) 6 t 8 hd0) 6 t 10 (nI x)) 6 t 11 (nI y)) T)) : ov_V true true d 0 0 mq_World_begin 0 [some (.inr (.inr (true, 1, 0))), some (.inl (nI t)), some (.inr (.inr (true, 6, t))), some (.inl (nI k)), some (.inl v4), none, none, none] [] (ov_mix C T) Q := by
  have ib : ov_ib (nI k) 30 := zz_ib hk (by decide)
  have hin : 0 ≤ nI k ∧ nI k ≤ 29 := (zz_le (b := 29) rfl).2 ⟨k, by omega, rfl⟩
  have hxn : 0 ≤ nI x ∧ nI x ≤ 2 := (zz_le (b := 2) rfl).2 ⟨x, by omega, rfl⟩
  refine r_World_begin_0 (by omega) ⟨fun _ => ?_, fun n => absurd hin n⟩
  rw [zz_ix (by omega), show ov_g (ov_mix C T) 41 t k = 0 from ek, show ov_g (ov_mix C T) 43 t k = nI y from ev, show ov_g (ov_mix C T) 42 t k = nI x from ew]
  refine ⟨ib, ib, fun q => absurd q (by decide), fun _ => ⟨ib, r_World_give_0 (by omega) ?_⟩, fun q => absurd q (by decide), fun q => absurd q (by decide), fun q => absurd q (by decide), fun q => absurd q (by decide), fun q => absurd q (by decide)⟩
  have hf : ov_hof (ov_mix C T) t (nI x) = @ite _ ((0 ≤ nI x ∧ nI x ≤ 2) ∧ (0 ≤ pl ∧ pl ≤ 2)) (Classical.propDecidable _) pl (-1) := by
    unfold ov_hof
    rw [zz_ix (by omega), show ov_g (ov_mix C T) 34 t x = pl from ep]
  by_cases hp : 0 ≤ pl ∧ pl ≤ 2
  · rw [if_pos ⟨hxn, hp⟩] at hf
    rw [hf, zz_ix (by omega), mix_c rfl]
    have hne : ¬ pl = -1 := by
      rintro rfl
      exact absurd hp (by decide)
    refine ⟨fun q => absurd q hne, fun _ => ⟨fun n => ⟨zz_ib hx (by decide), r_Three_occupy_0 (r_World_give_38 (r_World_begin_90 ?_))⟩, fun q => r_World_begin_90 (h1 (.inr q))⟩⟩
    have e0 : ov_g (ov_mix (ov_w C 34 t x 3) T) 6 t 0 = hd0 := eh
    rw [e0, mix_c rfl, mix_c rfl, mix_c rfl, mix_c rfl]
    exact h2 hp n
  · rw [if_neg (fun q => hp q.2)] at hf
    rw [hf]
    exact ⟨fun _ => r_World_begin_90 (h1 (.inl hp)), fun n => absurd rfl n⟩
/-! ===== a STEP begins: the reference ===== -/
theorem mi_bg0 {d : Nat} {D T : ov_S} {Q : ov_Q} {t k : Nat} {w a b : Int32} (hd : 4 ≤ d) (ht : t < 4) (hk : k < 30) (eK : T.1 87 0 t = nI k) (ew : T.1 85 0 (120 * t + 4 * k) = w) (ea : T.1 85 0 (120 * t + 4 * k + 1) = a) (eb : T.1 85 0 (120 * t + 4 * k + 2) = b)
    (h1 : ¬ w = 1 → ov_V true true d 0 0 mq_Mod_begins 67 [some (.inr (.inr (true, 14, 0))), some (.inl (nI t)), none, some (.inl w), some (.inl a), some (.inl b), none] [] (ov_mix D (ov_w T 87 0 t (nI (k + 1)))) Q)
    (h2 : w = 1 → ov_V true true (d - 1) 0 0 mq_Mod_sees 0 [some (.inr (.inr (true, 14, 0))), some (.inl (nI t)), some (.inl a), none] [] (ov_mix D (ov_w T 87 0 t (nI (k + 1)))) (fun r S1 => ov_V true true d 0 0 mq_Mod_begins 67 [some (.inr (.inr (true, 14, 0))), some (.inl (nI t)), none, some (.inl w), some (.inl a), some (.inl b), none] (r.toList ++ []) S1 Q)) : ov_V true true d 0 0 mq_Mod_begins 0 [some (.inr (.inr (true, 14, 0))), some (.inl (nI t)), none, none, none, none, none] [] (ov_mix D T) Q := by
  have ib : ov_ib (nI t) 4 := zz_ib ht (by decide)
  have ex : ov_ix (nI t) = t := zz_ix (by omega)
  have e0 : (120 * nI t + 4 * nI k : Int32) = nI (120 * t + 4 * k) := by
    show nI 120 * nI t + nI 4 * nI k = _
    rw [pk_mul, pk_mul, nI_add]
  have e1 : (nI (120 * t + 4 * k) + 1 : Int32) = nI (120 * t + 4 * k + 1) := nI_add _ 1
  have e2 : (nI (120 * t + 4 * k) + 2 : Int32) = nI (120 * t + 4 * k + 2) := nI_add _ 2
  refine r_Mod_begins_0 (by omega) ?_
  rw [ex, show ov_g (ov_mix D T) 87 0 t = nI k from eK, e0, e1, e2, zz_ix (by omega), zz_ix (by omega), zz_ix (by omega), mix_m rfl, nI_1, show ov_g (ov_mix D T) 85 0 (120 * t + 4 * k) = w from ew, show ov_g (ov_mix D T) 85 0 (120 * t + 4 * k + 1) = a from ea, show ov_g (ov_mix D T) 85 0 (120 * t + 4 * k + 2) = b from eb]
  exact ⟨ib, zz_ib (by omega) (by decide), zz_ib (by omega) (by decide), zz_ib (by omega) (by decide), ib, ib, h1, h2⟩
theorem mi_M4 {d : Nat} {D T T' : ov_S} {Q : ov_Q} {t k l : Nat} {b : Int32} (hd : 4 ≤ d) (ht : t < 4) (hk : k < 30) (hl : l ≤ 98) (eK : T.1 87 0 t = nI k) (ew : T.1 85 0 (120 * t + 4 * k) = 4) (ea : T.1 85 0 (120 * t + 4 * k + 1) = nI (l + 1)) (eb : T.1 85 0 (120 * t + 4 * k + 2) = b)
    (h1 : 0 < l → T' = ov_w (ov_w (ov_w (ov_w (ov_w (ov_w T 87 0 t (nI (k + 1))) 79 0 t 2) 81 0 t (nI (l + 1))) 82 0 t b) 80 0 t (nI (l + 1))) 80 0 t (nI l))
    (h2 : l = 0 → mi_en t (ov_w (ov_w (ov_w (ov_w (ov_w (ov_w T 87 0 t (nI (k + 1))) 79 0 t 2) 81 0 t (nI (l + 1))) 82 0 t b) 80 0 t (nI (l + 1))) 80 0 t 0) T') (h : Q none (ov_mix D T')) : ov_V true true d 0 0 mq_Mod_begins 0 [some (.inr (.inr (true, 14, 0))), some (.inl (nI t)), none, none, none, none, none] [] (ov_mix D T) Q :=
  mi_bg0 hd ht hk eK ew ea eb (fun _ => r_Mod_begins_67 ⟨fun q => absurd q (by decide), fun _ => ⟨fun _ => r_Mod_begins_96 ⟨fun n => absurd rfl n, fun _ => r_Mod_begins_116_3 (by omega) ⟨fun _ => r_Mod_begins_165 ⟨fun _ => ⟨fun n => absurd rfl n, fun _ => mi_bg2 hd ht hl h1 h2 h⟩, fun q => absurd q (nI_ne0 (by omega) (by omega))⟩, fun q => absurd q (by decide)⟩⟩, fun q => absurd q (by decide)⟩⟩) (fun q => absurd q (by decide))
theorem mi_M5 {d : Nat} {D T T' : ov_S} {Q : ov_Q} {t k : Nat} {a b : Int32} (hd : 4 ≤ d) (ht : t < 4) (hk : k < 30) (eK : T.1 87 0 t = nI k) (ew : T.1 85 0 (120 * t + 4 * k) = 5) (ea : T.1 85 0 (120 * t + 4 * k + 1) = a) (eb : T.1 85 0 (120 * t + 4 * k + 2) = b)
    (h1 : 0 < 1 → T' = ov_w (ov_w (ov_w (ov_w (ov_w (ov_w T 87 0 t (nI (k + 1))) 79 0 t 3) 81 0 t a) 82 0 t b) 80 0 t (nI (1 + 1))) 80 0 t (nI 1)) (h : Q none (ov_mix D T')) : ov_V true true d 0 0 mq_Mod_begins 0 [some (.inr (.inr (true, 14, 0))), some (.inl (nI t)), none, none, none, none, none] [] (ov_mix D T) Q :=
  mi_bg0 hd ht hk eK ew ea eb (fun _ => r_Mod_begins_67 ⟨fun q => absurd q (by decide), fun _ => ⟨fun _ => r_Mod_begins_96 ⟨fun _ => ⟨fun n => absurd rfl n, fun _ => r_Mod_begins_116_2 (by omega) ⟨fun _ => r_Mod_begins_165 ⟨fun _ => ⟨fun _ => ⟨fun n => absurd rfl n, fun _ => mi_bg3 (k := 1) hd ht (by decide) h1 (fun q => absurd q (by decide)) h⟩, fun q => absurd q (by decide)⟩, fun q => absurd q (by decide)⟩, fun q => absurd q (by decide)⟩⟩, fun q => absurd q (by decide)⟩, fun q => absurd q (by decide)⟩⟩) (fun q => absurd q (by decide))
theorem mi_M0 {d : Nat} {D T T' : ov_S} {Q : ov_Q} {t k l x : Nat} {b pl : Int32} (hd : 4 ≤ d) (ht : t < 4) (hk : k < 30) (hl : l ≤ 98) (hx : x < 3) (eK : T.1 87 0 t = nI k) (ew : T.1 85 0 (120 * t + 4 * k) = 0) (ea : T.1 85 0 (120 * t + 4 * k + 1) = nI x) (eb : T.1 85 0 (120 * t + 4 * k + 2) = b) (ep : T.1 62 0 (3 * t + x) = pl) (eh : T.1 58 0 t = nI (l + 1)) (n3 : ¬ 3 ≤ pl) (nb : ¬ pl = b)
    (h1 : 0 < l → T' = ov_w (ov_w (ov_w (ov_w (ov_w (ov_w (ov_w T 87 0 t (nI (k + 1))) 62 0 (3 * t + x) 3) 79 0 t 1) 81 0 t (nI x)) 82 0 t b) 80 0 t (nI (l + 1))) 80 0 t (nI l))
    (h2 : l = 0 → mi_en t (ov_w (ov_w (ov_w (ov_w (ov_w (ov_w (ov_w T 87 0 t (nI (k + 1))) 62 0 (3 * t + x) 3) 79 0 t 1) 81 0 t (nI x)) 82 0 t b) 80 0 t (nI (l + 1))) 80 0 t 0) T') (h : Q none (ov_mix D T')) : ov_V true true d 0 0 mq_Mod_begins 0 [some (.inr (.inr (true, 14, 0))), some (.inl (nI t)), none, none, none, none, none] [] (ov_mix D T) Q := by
  have ib : ov_ib (nI t) 4 := zz_ib ht (by decide)
  have ex : ov_ix (nI t) = t := zz_ix (by omega)
  refine mi_bg0 hd ht hk eK ew ea eb (fun _ => r_Mod_begins_67 ⟨fun q => absurd q (by decide), fun _ => ⟨fun _ => r_Mod_begins_96 ⟨fun _ => ⟨fun _ => r_Mod_begins_116 (by omega) ⟨fun n => absurd rfl n, fun _ => ?_⟩, fun q => absurd q (by decide)⟩, fun q => absurd q (by decide)⟩, fun q => absurd q (by decide)⟩⟩) (fun q => absurd q (by decide))
  rw [zz_3, zz_ix (by omega), ex, mix_m rfl, show ov_g (ov_mix D (ov_w T 87 0 t (nI (k + 1)))) 62 0 (3 * t + x) = pl from ep, show ov_g (ov_mix D (ov_w T 87 0 t (nI (k + 1)))) 58 0 t = nI (l + 1) from eh]
  exact ⟨zz_ib (by omega) (by decide), fun q => absurd q n3, fun _ => ⟨zz_ib (by omega) (by decide), fun q => absurd q nb, fun _ => ⟨ib, zz_ib (by omega) (by decide), r_Mod_begins_165 ⟨fun _ => ⟨fun _ => ⟨fun _ => mi_bg1 hd ht hl h1 h2 h, fun q => absurd q (by decide)⟩, fun q => absurd q (by decide)⟩, fun q => absurd q (nI_ne0 (by omega) (by omega))⟩⟩⟩⟩
theorem mi_M0n {d : Nat} {D T : ov_S} {Q : ov_Q} {t k x : Nat} {b pl : Int32} (hd : 4 ≤ d) (ht : t < 4) (hk : k < 30) (hx : x < 3) (eK : T.1 87 0 t = nI k) (ew : T.1 85 0 (120 * t + 4 * k) = 0) (ea : T.1 85 0 (120 * t + 4 * k + 1) = nI x) (eb : T.1 85 0 (120 * t + 4 * k + 2) = b) (ep : T.1 62 0 (3 * t + x) = pl) (hn : 3 ≤ pl ∨ pl = b) (h : Q none (ov_mix D (ov_w T 87 0 t (nI (k + 1))))) : ov_V true true d 0 0 mq_Mod_begins 0 [some (.inr (.inr (true, 14, 0))), some (.inl (nI t)), none, none, none, none, none] [] (ov_mix D T) Q := by
  have ib : ov_ib (nI t) 4 := zz_ib ht (by decide)
  have ex : ov_ix (nI t) = t := zz_ix (by omega)
  have z : ov_V true true d 0 0 mq_Mod_begins 165 [some (.inr (.inr (true, 14, 0))), some (.inl (nI t)), none, some (.inl 0), some (.inl (nI x)), some (.inl b), some (.inl 0)] [] (ov_mix D (ov_w T 87 0 t (nI (k + 1)))) Q := r_Mod_begins_165 ⟨fun n => absurd rfl n, fun _ => h⟩
  refine mi_bg0 hd ht hk eK ew ea eb (fun _ => r_Mod_begins_67 ⟨fun q => absurd q (by decide), fun _ => ⟨fun _ => r_Mod_begins_96 ⟨fun _ => ⟨fun _ => r_Mod_begins_116 (by omega) ⟨fun n => absurd rfl n, fun _ => ?_⟩, fun q => absurd q (by decide)⟩, fun q => absurd q (by decide)⟩, fun q => absurd q (by decide)⟩⟩) (fun q => absurd q (by decide))
  rw [zz_3, zz_ix (by omega), ex, show ov_g (ov_mix D (ov_w T 87 0 t (nI (k + 1)))) 62 0 (3 * t + x) = pl from ep]
  exact ⟨zz_ib (by omega) (by decide), fun _ => z, fun n3 => ⟨zz_ib (by omega) (by decide), fun _ => z, fun nb => absurd hn (fun q => q.elim n3 nb)⟩⟩
