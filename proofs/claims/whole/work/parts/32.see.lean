/-! ===== who has a thing, in both ===== -/
theorem mi_hof1 {C T : ov_S} {t x m : Nat} (hx : x < 3) (hm : m < 3) (ep : C.1 34 t x = nI m) : ov_hof (ov_mix C T) t (nI x) = nI m := by
  unfold ov_hof
  rw [zz_ix (by omega), show ov_g (ov_mix C T) 34 t x = nI m from ep]
  exact if_pos ⟨(zz_le (b := 2) rfl).2 ⟨x, by omega, rfl⟩, (zz_le (b := 2) rfl).2 ⟨m, by omega, rfl⟩⟩
theorem mi_hof2 {C T : ov_S} {t x : Nat} {pl : Int32} (hx : x < 3) (ep : C.1 34 t x = pl) (hn : ¬ (0 ≤ pl ∧ pl ≤ 2)) : ov_hof (ov_mix C T) t (nI x) = -1 := by
  unfold ov_hof
  rw [zz_ix (by omega), show ov_g (ov_mix C T) 34 t x = pl from ep]
  exact if_neg (fun q => hn q.2)
theorem mi_hol1 {D T : ov_S} {t x m : Nat} (ht : t < 4) (hx : x < 3) (hm : m < 3) (ep : T.1 62 0 (3 * t + x) = nI m) : ov_hol (ov_mix D T) (nI t) (nI x) = nI (3 * t + m) := by
  unfold ov_hol
  rw [zz_3, zz_ix (by omega), show ov_g (ov_mix D T) 62 0 (3 * t + x) = nI m from ep, if_pos (show nI m < 3 from nI_lt (b := 3) hm (by decide)), zz_3]
theorem mi_hol2 {D T : ov_S} {t x : Nat} {pl : Int32} (ht : t < 4) (hx : x < 3) (ep : T.1 62 0 (3 * t + x) = pl) (hn : ¬ pl < 3) : ov_hol (ov_mix D T) (nI t) (nI x) = -1 := by
  unfold ov_hol
  rw [zz_3, zz_ix (by omega), show ov_g (ov_mix D T) 62 0 (3 * t + x) = pl from ep, if_neg hn]
/-- a place: a member, or nobody has it -/
theorem mi_plc {v : Int32} (h : rl_plc v) : (∃ m : Nat, m < 3 ∧ v = nI m) ∨ (¬ (0 ≤ v ∧ v ≤ 2) ∧ ¬ v < 3) := by
  have key : ∀ k : Nat, 3 ≤ k → k < 20 → v = nI k → ¬ (0 ≤ v ∧ v ≤ 2) ∧ ¬ v < 3 := by
    rintro k hk hk2 rfl
    exact ⟨fun q => nI_ge (a := 2) (by omega) (by omega) q.2, nI_nlt (b := 3) hk (by omega)⟩
  rcases h with ⟨k, hk, e⟩ | ⟨s, hs, e⟩
  · by_cases h3 : k < 3
    · exact .inl ⟨k, h3, e⟩
    · exact .inr (key k (by omega) (by omega) e)
  · exact .inr (key (10 + s) (by omega) (by omega) e)
theorem mi_seeE {d c : Nat} {C T : ov_S} {Q : ov_Q} {t f m : Nat} {mn v : Int32} (hd : 3 ≤ d) (hc : c ≤ 4) (e2 : C.1 1 0 2 = nI c) (ht : t < c) (fl : ∀ j, j < 12 → C.1 3 0 j ≠ 0) (hf : f < 10) (hm : m < 3) (ep : C.1 34 t 0 = nI m) (em : C.1 1 0 9 = mn) (ev : v = if C.1 20 0 f = 1 then 1 else 2) (h : Q none (ov_mix (ov_w (ov_w (ov_w (ov_w (ov_w C 35 (3 * t + m) f v) 36 (3 * t + m) f (nI (3 * t + m))) 37 (3 * t + m) f mn) 38 (3 * t + m) f 0) 39 (3 * t + m) f 0) T)) : ov_V true true d 0 0 mq_World_see 0 [some (.inr (.inr (true, 1, 0))), some (.inl (nI t)), some (.inr (.inr (true, 6, t))), some (.inl (nI f)), none, none] [] (ov_mix C T) Q := by
  have hfi : 0 ≤ nI f ∧ nI f ≤ 9 := (zz_le (b := 9) rfl).2 ⟨f, by omega, rfl⟩
  have ib : ov_ib (nI f) 10 := zz_ib hf (by decide)
  have hw := (w_three (S := ov_mix C T) (v := nI t) hc e2).2 ⟨t, ht, rfl⟩
  have hmi : 0 ≤ nI m ∧ nI m ≤ 2 := (zz_le (b := 2) rfl).2 ⟨m, by omega, rfl⟩
  have hh : ov_hof (ov_mix C T) t 0 = nI m := mi_hof1 (x := 0) (by decide) hm ep
  refine r_World_see_0 (by omega) ?_
  rw [hh, zz_3, zz_ix (n := 3 * t + m) (by omega), zz_ix (n := f) (by omega), Nat.mul_zero, Nat.zero_add]
  refine ⟨fun _ => ⟨fl _ (by omega), fun n => absurd hfi n, fun _ => ⟨ib, fun n1 => r_World_see_49 (by omega) (r_Person_seeFact_0 (by omega) ⟨fun _ => ?_, fun n => absurd hfi n⟩), fun y1 => r_World_see_49_2 (by omega) (r_Person_seeFact_0 (by omega) ⟨fun _ => ?_, fun n => absurd hfi n⟩)⟩⟩, fun n => absurd ⟨hw.1, hw.2, hmi⟩ n⟩
  · rw [if_neg (show ¬ C.1 20 0 f = 1 from n1)] at ev
    subst ev
    rw [zz_ix (n := f) (by omega), zz_3, show ov_g (ov_mix C T) 1 0 9 = mn from em, mix_c rfl, mix_c rfl, mix_c rfl, mix_c rfl, mix_c rfl]
    exact ⟨ib, ib, ib, ib, ib, r_World_see_62 h⟩
  · rw [if_pos (show C.1 20 0 f = 1 from y1)] at ev
    subst ev
    rw [zz_ix (n := f) (by omega), zz_3, show ov_g (ov_mix C T) 1 0 9 = mn from em, mix_c rfl, mix_c rfl, mix_c rfl, mix_c rfl, mix_c rfl]
    exact ⟨ib, ib, ib, ib, ib, r_World_see_62 h⟩
theorem mi_seeEn {d : Nat} {C T : ov_S} {Q : ov_Q} {t : Nat} {v1 v3 pl : Int32} (hd : 3 ≤ d) (ep : C.1 34 t 0 = pl) (hn : ¬ (0 ≤ pl ∧ pl ≤ 2)) (h : Q none (ov_mix C T)) : ov_V true true d 0 0 mq_World_see 0 [some (.inr (.inr (true, 1, 0))), some (.inl v1), some (.inr (.inr (true, 6, t))), some (.inl v3), none, none] [] (ov_mix C T) Q := by
  have hh : ov_hof (ov_mix C T) t 0 = -1 := mi_hof2 (x := 0) (by decide) ep hn
  refine r_World_see_0 (by omega) ?_
  rw [hh]
  exact ⟨fun q => absurd q.2.2 (by decide), fun _ => r_World_see_62 h⟩
theorem mi_seeM {d : Nat} {D T : ov_S} {Q : ov_Q} {t f m : Nat} {mn v : Int32} (hd : 3 ≤ d) (ht : t < 4) (hf : f < 10) (hm : m < 3) (ep : T.1 62 0 (3 * t + 0) = nI m) (em : T.1 14 0 16 = mn) (hday : mn - mn / 240 * 240 < T.1 14 0 17) (ev : v = if T.1 63 0 f = 1 then 1 else 2) (h : Q none (ov_mix D (ov_w (ov_w (ov_w (ov_w (ov_w T 64 0 (10 * (3 * t + m) + f) v) 67 0 (10 * (3 * t + m) + f) (nI (3 * t + m))) 68 0 (10 * (3 * t + m) + f) mn) 69 0 (10 * (3 * t + m) + f) 0) 70 0 (10 * (3 * t + m) + f) 0))) : ov_V true true d 0 0 mq_Mod_sees 0 [some (.inr (.inr (true, 14, 0))), some (.inl (nI t)), some (.inl (nI f)), none] [] (ov_mix D T) Q := by
  have hh : ov_hol (ov_mix D T) (nI t) 0 = nI (3 * t + m) := mi_hol1 (x := 0) ht (by decide) hm ep
  have e0 : (3 * nI t + 0 : Int32) = nI (3 * t + 0) := zz_3 t 0
  have ib : ov_ib (nI f) 10 := zz_ib hf (by decide)
  have ib2 : ov_ib (nI (10 * (3 * t + m) + f)) 120 := zz_ib (by omega) (by decide)
  have hne : ¬ nI (3 * t + m) = -1 := fun q => nI_pos (n := 3 * t + m) (by omega) (by rw [q]; decide)
  refine r_Mod_sees_0 (by omega) ?_
  rw [hh, e0, zz_10, show ov_g (ov_mix D T) 14 0 16 = mn from em, zz_ix (n := f) (by omega)]
  refine ⟨zz_ib (by omega) (by decide), fun q => absurd q hne, fun _ => ⟨fun _ => ⟨ib, fun n1 => r_Mod_sees_53 ?_, fun y1 => r_Mod_sees_53_2 ?_⟩, fun n => absurd hday n⟩⟩
  · rw [if_neg (show ¬ T.1 63 0 f = 1 from n1)] at ev
    subst ev
    rw [zz_10, zz_ix (by omega), mix_m rfl, mix_m rfl, show ov_g (ov_mix D (ov_w (ov_w T 64 0 (10 * (3 * t + m) + f) 2) 67 0 (10 * (3 * t + m) + f) (nI (3 * t + m)))) 14 0 16 = mn from em, mix_m rfl, mix_m rfl, mix_m rfl]
    exact ⟨ib2, ib2, ib2, ib2, ib2, h⟩
  · rw [if_pos (show T.1 63 0 f = 1 from y1)] at ev
    subst ev
    rw [zz_10, zz_ix (by omega), mix_m rfl, mix_m rfl, show ov_g (ov_mix D (ov_w (ov_w T 64 0 (10 * (3 * t + m) + f) 1) 67 0 (10 * (3 * t + m) + f) (nI (3 * t + m)))) 14 0 16 = mn from em, mix_m rfl, mix_m rfl, mix_m rfl]
    exact ⟨ib2, ib2, ib2, ib2, ib2, h⟩
theorem mi_seeMn {d : Nat} {D T : ov_S} {Q : ov_Q} {t : Nat} {v2 pl : Int32} (hd : 3 ≤ d) (ht : t < 4) (ep : T.1 62 0 (3 * t + 0) = pl) (hn : ¬ pl < 3 ∨ (∃ m : Nat, m < 3 ∧ pl = nI m) ∧ ¬ T.1 14 0 16 - T.1 14 0 16 / 240 * 240 < T.1 14 0 17) (h : Q none (ov_mix D T)) : ov_V true true d 0 0 mq_Mod_sees 0 [some (.inr (.inr (true, 14, 0))), some (.inl (nI t)), some (.inl v2), none] [] (ov_mix D T) Q := by
  have e0 : (3 * nI t + 0 : Int32) = nI (3 * t + 0) := zz_3 t 0
  refine r_Mod_sees_0 (by omega) ?_
  rw [e0]
  refine ⟨zz_ib (by omega) (by decide), fun _ => h, fun ne => ⟨fun q => ?_, fun _ => h⟩⟩
  rcases hn with hn | ⟨_, hn⟩
  · exact absurd (mi_hol2 (x := 0) ht (by decide) ep hn) ne
  · exact absurd q hn
