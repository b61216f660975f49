/-! ===== bits ===== -/
theorem zz_sh : ∀ t : Nat, t < 32 → (nI t &&& 31 = nI t) ∧ ((nI t).toBitVec.smod 32).toNat = t := by decide +kernel
theorem zz_bitN {b t : Nat} (hb : b < 2 ^ 31) (ht : t < 32) : (nI b >>> (nI t &&& 31)) &&& 1 = nI (b / 2 ^ t % 2) := by
  rw [(zz_sh t ht).1, pk_shrN hb _ t (zz_sh t ht).2]
  exact pk_andN (m := 1) (by have := Nat.div_le_self b (2 ^ t); omega) 1 rfl
theorem zz_bit {b t : Nat} (hb : b < 2 ^ 31) (ht : t < 32) : ov_bit (nI b) (nI t) ↔ b.testBit t = true := by
  unfold ov_bit
  rw [zz_bitN hb ht, Nat.testBit_eq_decide_div_mod_eq]
  have h2 : b / 2 ^ t % 2 < 2 := Nat.mod_lt _ (by decide)
  generalize b / 2 ^ t % 2 = x at h2
  constructor
  · intro h
    have : x ≠ 0 := fun e => h (by rw [e]; rfl)
    simp
    omega
  · intro h
    have : x = 1 := by simpa using h
    rw [this]
    decide
/-! ===== a saying, in both ===== -/
theorem mi_kno {C T : ov_S} {p f : Nat} (hf : f < 10) : ov_kno (ov_mix C T) p (nI f) = C.1 35 p f := by
  unfold ov_kno
  rw [zz_ix (by omega)]
  exact if_pos ((zz_le (b := 9) rfl).2 ⟨f, by omega, rfl⟩)
theorem mi_bk {c mm lb nz wc : Nat} {C T : ov_S} {p f : Nat} {so s0 v4 mn : Int32} (hp : p < 3 * c) (hf : f < 10) (hs : (so = 0 ∧ s0 = 2) ∨ (so = 1 ∧ s0 = 1)) (hw : rl_w c mm lb nz wc C.1 T.1) (em : T.1 14 0 16 = mn) : ∃ (C1 T1 : ov_S) (lb1 : Nat), rl_w c mm lb1 nz wc C1.1 T1.1 ∧ mi_kc C C1 ∧ mi_kp T T1 ∧ (∀ (d : Nat) (T0 : ov_S) (Q : ov_Q), 1 ≤ d → Q none (ov_mix C1 T0) → ov_V true true d 0 0 mq_Book_write 0 [some (.inr (.inr (true, 4, 0))), some (.inl (nI p)), some (.inl (nI f)), some (.inl so), some (.inl v4), some (.inl mn)] [] (ov_mix C T0) Q) ∧ (∀ (d : Nat) (D : ov_S) (Q : ov_Q) (v1 w4 : Int32), ov_V true true d 0 0 mq_Mod_says 164 [some (.inr (.inr (true, 14, 0))), some (.inl v1), some (.inl (nI f)), none, some (.inl w4), some (.inl (nI p)), some (.inl v4), some (.inl s0), none, none, none] [] (ov_mix D T1) Q → ov_V true true d 0 0 mq_Mod_says 78 [some (.inr (.inr (true, 14, 0))), some (.inl v1), some (.inl (nI f)), none, some (.inl w4), some (.inl (nI p)), some (.inl v4), none, none, none, none] [.inl s0] (ov_mix D T) Q) ∧ (∀ r, (r = 7 ∨ (34 ≤ r ∧ r ≤ 39)) → C1.1 r = C.1 r) ∧ (∀ r, ((62 ≤ r ∧ r ≤ 70) ∨ r = 80) → T1.1 r = T.1 r) := by
  have g19 := hw.2.2.2.2.2.2.2.2.2.2.2.2.2.2.2.2.2.2.1
  rcases Nat.lt_or_ge lb 99 with hl | hl
  · have hso : so = 0 ∨ so = 1 := hs.elim (fun h => .inl h.1) (fun h => .inr h.1)
    have es : so = if so = 0 then 0 else 1 := by rcases hso with h | h <;> rw [h] <;> rfl
    have es2 : so = if s0 = 1 then 1 else 0 := by rcases hs with ⟨h, k⟩ | ⟨h, k⟩ <;> rw [h, k] <;> rfl
    have hR := mi_bkR (v4 := v4) (mn := mn) hl hp hf hso hw
    refine ⟨_, _, lb + 1, hR.1, hR.2.1, hR.2.2, fun d T0 Q hd h => mi_bkE hd hl g19.2.1 es h, fun d D Q v1 w4 h => mi_bkM hl g19.2.2 em es2 h, fun r hr => ?_, fun r hr => ?_⟩
    · funext i j
      exact (rl_wn (by omega)).trans ((rl_wn (by omega)).trans ((rl_wn (by omega)).trans ((rl_wn (by omega)).trans ((rl_wn (by omega)).trans (rl_wn (by omega))))))
    · funext i j
      exact (rl_wn (by omega)).trans ((rl_wn (by omega)).trans ((rl_wn (by omega)).trans ((rl_wn (by omega)).trans ((rl_wn (by omega)).trans (rl_wn (by omega))))))
  · exact ⟨C, T, lb, hw, mi_kcr, mi_kpr, fun d T0 Q hd h => mi_bkEn hd hl g19.1 g19.2.1 h, fun d D Q v1 w4 h => mi_bkMn hl g19.1 g19.2.2 h, fun _ _ => rfl, fun _ _ => rfl⟩
def mi_sy (t f u : Nat) (ly : Int32) (T T' : ov_S) : Prop := ∀ (d : Nat) (D : ov_S) (Q : ov_Q), 3 ≤ d → Q none (ov_mix D T') → ov_V true true d 0 0 mq_Mod_says 0 [some (.inr (.inr (true, 14, 0))), some (.inl (nI t)), some (.inl (nI f)), some (.inl (nI u)), some (.inl ly), none, none, none, none, none, none] [] (ov_mix D T) Q
/-- the reference from the place where what is said is known -/
def mi_sz (t f p q : Nat) (ly v : Int32) (T T' : ov_S) : Prop := ∀ (d : Nat) (D : ov_S) (Q : ov_Q), Q none (ov_mix D T') → ov_V true true d 0 0 mq_Mod_says 78 [some (.inr (.inr (true, 14, 0))), some (.inl (nI t)), some (.inl (nI f)), none, some (.inl ly), some (.inl (nI p)), some (.inl (nI q)), none, none, none, none] [.inl v] (ov_mix D T) Q
theorem mi_sp93 {d c mm lb nz wc : Nat} {C T T0 : ov_S} {Q : ov_Q} {t m u e f : Nat} {ly so v : Int32} (hd : 3 ≤ d) (hw : rl_w c mm lb nz wc C.1 T.1) (ht : t < c) (hu : u < c) (hm : m < 3) (he : e < 3) (hf : f < 10) (hs : (so = 0 ∧ v = 2) ∨ (so = 1 ∧ v = 1))
    (hQ : ∀ (C' T' : ov_S) (lb' : Nat), rl_w c mm lb' nz wc C'.1 T'.1 → mi_kc C C' → mi_kp T T' → T'.1 80 = T.1 80 → mi_sz t f (3 * t + m) (3 * u + e) ly v T T' → Q none (ov_mix C' T0)) : ov_V true true d 0 0 mq_World_speak 93 [some (.inr (.inr (true, 1, 0))), some (.inl (nI t)), none, some (.inl (nI f)), some (.inl (nI u)), some (.inl ly), none, some (.inl (nI m)), some (.inl (nI e)), some (.inr (.inr (true, 7, (3 * t + m)))), some (.inr (.inr (true, 7, (3 * u + e)))), none] [.inl so] (ov_mix C T0) Q := by
  have hc := hw.1.1
  have g3 := hw.2.2.1
  obtain ⟨C1, T1, lb1, hw1, kc1, kp1, bE, bM, fC, fT⟩ := mi_bk (p := 3 * t + m) (f := f) (so := so) (s0 := v) (v4 := nI (3 * u + e)) (by omega) hf hs hw rfl
  have e9 : C.1 1 0 9 = T.1 14 0 16 := g3.2.1.trans g3.2.2.symm
  obtain ⟨b, hb, eb, hb3, _⟩ := hw1.2.2.2.2.2.2.2.2.2.2.2.2.2.2.2.2.2.1 (3 * u + e) (by omega)
  have et := hb3 (by omega) t (by omega)
  have g15 := hw1.2.2.2.2.2.2.2.2.2.2.2.2.2.2.1 (3 * t + m) (by omega) f hf
  have hbit := zz_bit (b := b) (t := t) (by omega) (by omega)
  have it : ov_ib (nI (4 * (3 * u + e) + t)) 48 := zz_ib (by omega) (by decide)
  have ia : ov_ib (nI (10 * (3 * t + m) + f)) 120 := zz_ib (by omega) (by decide)
  have hv : v = 1 ∨ v = 2 := hs.elim (fun h => .inr h.2) (fun h => .inl h.2)
  have k122 : ov_V true true d 0 0 mq_World_speak 122 [none, some (.inl (nI t)), none, some (.inl (nI f)), none, some (.inl ly), none, none, none, some (.inr (.inr (true, 7, (3 * t + m)))), some (.inr (.inr (true, 7, (3 * u + e)))), some (.inl so)] [] (ov_mix C1 T0) Q := by
    by_cases hbt : b.testBit t = true
    · rw [if_pos hbt] at et
      have hB : ov_V true true ((d - 1)) 0 0 mq_Person_believe 0 [some (.inr (.inr (true, 7, (3 * u + e)))), some (.inl (nI f)), some (.inl v), some (.inr (.inr (true, 7, (3 * t + m)))), some (.inl ly)] [] (ov_mix C1 T0) (fun r S1 => ov_V true true d 0 0 mq_World_speak 154 [none, none, none, none, none, none, none, none, none, none, none, none] (r.toList ++ []) S1 Q) := by
        have hR := mi_beR (q := 3 * u + e) (f := f) (v := v) (w36 := T1.1 67 0 (10 * (3 * t + m) + f)) (w37 := T1.1 68 0 (10 * (3 * t + m) + f)) (w38 := T1.1 69 0 (10 * (3 * t + m) + f) + 1) (w39 := T1.1 70 0 (10 * (3 * t + m) + f) + (if ly = 0 then 0 else 1)) (by omega) hf hv hw1
        refine mi_beE (by omega) hf g15.1 g15.2.1 g15.2.2.1 g15.2.2.2 rfl (r_World_speak_154 (hQ _ _ lb1 hR.1 (mi_kct kc1 hR.2.1) (mi_kpt kp1 hR.2.2) ((show _ = T1.1 80 by funext i j; exact (rl_wn (by omega)).trans ((rl_wn (by omega)).trans ((rl_wn (by omega)).trans ((rl_wn (by omega)).trans (rl_wn (by omega)))))).trans (fT 80 (.inr rfl))) ?_))
        intro d1 D Q1 h1
        refine bM d1 D Q1 _ _ (r_Mod_says_164 ?_)
        rw [zz_4, zz_10, zz_10, zz_ix (n := 4 * (3 * u + e) + t) (by omega), zz_ix (n := 10 * (3 * t + m) + f) (by omega), show ov_g (ov_mix D T1) 65 0 (4 * (3 * u + e) + t) = 1 from et]
        refine ⟨it, fun _ => ⟨ia, fun l0 => mi_beM0 (by omega) (by omega) rfl rfl rfl ?_, fun l1 => mi_beM1 (by omega) (by omega) rfl rfl rfl ?_⟩, fun q => absurd q (by decide)⟩
        · rw [if_pos l0] at h1
          exact h1
        · rw [if_neg l1] at h1
          exact h1
      refine r_World_speak_122 (by omega) ⟨fun n => absurd (show ov_bit (ov_g (ov_mix C1 T0) 7 (3 * u + e) 7) (nI t) by rw [show ov_g (ov_mix C1 T0) 7 (3 * u + e) 7 = nI b from eb]; exact hbit.2 hbt) n, fun _ => ⟨fun z => r_World_speak_147 (by omega) ?_, fun z => r_World_speak_147_2 (by omega) ?_⟩⟩
      · rcases hs with ⟨h1, h2⟩ | ⟨h1, h2⟩
        · rw [h2] at hB; exact hB
        · exact absurd (h1.symm.trans z) (by decide)
      · rcases hs with ⟨h1, h2⟩ | ⟨h1, h2⟩
        · exact absurd h1 z
        · rw [h2] at hB; exact hB
    · rw [if_neg hbt] at et
      refine r_World_speak_122 (by omega) ⟨fun _ => r_World_speak_154 (hQ _ _ lb1 hw1 kc1 kp1 (fT 80 (.inr rfl)) ?_), fun y => absurd (hbit.1 (by rw [show ov_g (ov_mix C1 T0) 7 (3 * u + e) 7 = nI b from eb] at y; exact y)) hbt⟩
      intro d1 D Q1 h1
      refine bM d1 D Q1 _ _ (r_Mod_says_164 ?_)
      rw [zz_4, zz_ix (n := 4 * (3 * u + e) + t) (by omega), show ov_g (ov_mix D T1) 65 0 (4 * (3 * u + e) + t) = 0 from et]
      exact ⟨it, fun n => absurd rfl n, fun _ => h1⟩
  rcases hs with ⟨rfl, rfl⟩ | ⟨rfl, rfl⟩
  · refine r_World_speak_93 (by omega) ?_
    rw [zz_3, zz_3, show ov_g (ov_mix C T0) 1 0 9 = T.1 14 0 16 from e9]
    exact bE _ _ _ (by omega) k122
  · refine r_World_speak_93_2 (by omega) ?_
    rw [zz_3, zz_3, show ov_g (ov_mix C T0) 1 0 9 = T.1 14 0 16 from e9]
    exact bE _ _ _ (by omega) k122
theorem mi_speak {d c mm lb nz wc : Nat} {C T T0 : ov_S} {Q : ov_Q} {t u f : Nat} {ly : Int32} (hd : 3 ≤ d) (hw : rl_w c mm lb nz wc C.1 T.1) (fl2 : ∀ j, j < 4 → C.1 2 0 j ≠ 0) (fl : ∀ j, j < 12 → C.1 3 0 j ≠ 0) (ht : t < c) (hu : u < c) (hf : f < 10) (hly : ly = 0 ∨ ly = 1)
    (hQ : ∀ (C' T' : ov_S) (lb' : Nat), rl_w c mm lb' nz wc C'.1 T'.1 → mi_kc C C' → mi_kp T T' → T'.1 80 = T.1 80 → mi_sy t f u ly T T' → Q none (ov_mix C' T0)) : ov_V true true d 0 0 mq_World_speak 0 [some (.inr (.inr (true, 1, 0))), some (.inl (nI t)), some (.inr (.inr (true, 6, t))), some (.inl (nI f)), some (.inl (nI u)), some (.inl ly), none, none, none, none, none, none] [] (ov_mix C T0) Q := by
  obtain ⟨g1, g2, g3, g4, g5, g6, g7, g8, g9, g10, g11, g12, g13, g14, g15, g16, g17, g18, g19, g20, g21, g22, g23, g24, g25, g26⟩ := id hw
  have hc := g1.1
  have hq0 : mi_sy t f u ly T T → Q none (ov_mix C T0) := fun h => hQ C T lb hw mi_kcr mi_kpr rfl h
  have hu3 := (w_three (S := ov_mix C T0) (v := nI u) hc g1.2.1).2 ⟨u, hu, rfl⟩
  have ht3 := (w_three (S := ov_mix C T0) (v := nI t) hc g1.2.1).2 ⟨t, ht, rfl⟩
  obtain ⟨em, pm⟩ := g10 t (by omega) 2 (by decide)
  obtain ⟨ee, pe⟩ := g10 u (by omega) 1 (by decide)
  have i2 : ov_ib (3 * nI t + 2) 12 := by
    rw [show (3 * nI t + 2 : Int32) = nI (3 * t + 2) from zz_3 t 2]; exact zz_ib (by omega) (by decide)
  have i1 : ov_ib (3 * nI u + 1) 12 := by
    rw [show (3 * nI u + 1 : Int32) = nI (3 * u + 1) from zz_3 u 1]; exact zz_ib (by omega) (by decide)
  have fu : ov_g (ov_mix C T0) 2 0 u ≠ 0 := fl2 u (by omega)
  rcases mi_plc pm with ⟨m, hm, em'⟩ | ⟨nm, nm3⟩
  · have hh : ov_hof (ov_mix C T0) t 2 = nI m := mi_hof1 (x := 2) (by decide) hm (em.trans em')
    have hmi : 0 ≤ nI m ∧ nI m ≤ 2 := (zz_le (b := 2) rfl).2 ⟨m, by omega, rfl⟩
    have fp : ov_g (ov_mix C T0) 3 0 (3 * t + m) ≠ 0 := fl _ (by omega)
    have hhM : ∀ D : ov_S, ov_hol (ov_mix D T) (nI t) 2 = nI (3 * t + m) := fun D => mi_hol1 (x := 2) (by omega) (by decide) hm em'
    have hneM : ¬ nI (3 * t + m) = -1 := fun q => nI_pos (n := 3 * t + m) (by omega) (by rw [q]; decide)
    rcases mi_plc pe with ⟨e, he, ee'⟩ | ⟨ne, ne3⟩
    · have hh2 : ov_hof (ov_mix C T0) u 1 = nI e := mi_hof1 (x := 1) (by decide) he (ee.trans ee')
      have hei : 0 ≤ nI e ∧ nI e ≤ 2 := (zz_le (b := 2) rfl).2 ⟨e, by omega, rfl⟩
      have fq : ov_g (ov_mix C T0) 3 0 (3 * u + e) ≠ 0 := fl _ (by omega)
      have hhN : ∀ D : ov_S, ov_hol (ov_mix D T) (nI u) 1 = nI (3 * u + e) := fun D => mi_hol1 (x := 1) (by omega) (by decide) he ee'
      have hneN : ¬ nI (3 * u + e) = -1 := fun q => nI_pos (n := 3 * u + e) (by omega) (by rw [q]; decide)
      have ia : ov_ib (nI (10 * (3 * t + m) + f)) 120 := zz_ib (by omega) (by decide)
      obtain ⟨ek, hk⟩ := g14 (3 * t + m) (by omega) f hf
      have hM : ∀ (T' : ov_S) (kv v : Int32), T.1 64 0 (10 * (3 * t + m) + f) = kv → ¬ kv = 0 → v = (if ly = 0 then kv else 3 - kv) → mi_sz t f (3 * t + m) (3 * u + e) ly v T T' → mi_sy t f u ly T T' := by
        intro T' kv v e1 e2 e3 hz d1 D Q1 hd1 h1
        refine r_Mod_says_0 (by omega) ?_
        rw [hhM, hhN, zz_10, zz_ix (n := 10 * (3 * t + m) + f) (by omega), show ov_g (ov_mix D T) 64 0 (10 * (3 * t + m) + f) = kv from e1]
        refine ⟨i2, i1, fun q => absurd q hneM, fun _ => ⟨fun q => absurd q hneN, fun _ => ⟨ia, fun _ => ⟨fun l0 => ⟨ia, ?_⟩, fun l1 => ⟨ia, ?_⟩⟩, fun q => absurd q e2⟩⟩⟩
        · rw [if_pos l0] at e3
          rw [← e3]
          exact hz d1 D Q1 h1
        · rw [if_neg l1] at e3
          rw [← e3]
          exact hz d1 D Q1 h1
      have go : ∀ so v : Int32, ((so = 0 ∧ v = 2) ∨ (so = 1 ∧ v = 1)) → ¬ T.1 64 0 (10 * (3 * t + m) + f) = 0 → v = (if ly = 0 then T.1 64 0 (10 * (3 * t + m) + f) else 3 - T.1 64 0 (10 * (3 * t + m) + f)) → ov_V true true d 0 0 mq_World_speak 93 [some (.inr (.inr (true, 1, 0))), some (.inl (nI t)), none, some (.inl (nI f)), some (.inl (nI u)), some (.inl ly), none, some (.inl (nI m)), some (.inl (nI e)), some (.inr (.inr (true, 7, (3 * t + m)))), some (.inr (.inr (true, 7, (3 * u + e)))), none] [.inl so] (ov_mix C T0) Q := by
        intro so v h1 h2 h3
        exact mi_sp93 (v := v) hd hw ht hu hm he hf h1 (fun C' T' lb' k1 k2 k3 k5 k4 => hQ C' T' lb' k1 k2 k3 k5 (hM T' _ v rfl h2 h3 k4))
      refine r_World_speak_0 (by omega) ?_
      rw [zz_ix (n := u) (by omega)]
      simp only [Nat.mul_zero, Nat.zero_add]
      rw [hh, hh2, zz_3 t m, zz_3 u e, zz_ix (n := 3 * t + m) (by omega), zz_ix (n := 3 * u + e) (by omega), mi_kno hf, show C.1 35 (3 * t + m) f = T.1 64 0 (10 * (3 * t + m) + f) from ek]
      refine ⟨fun _ => ⟨fu, ⟨fun _ => ⟨fp, ⟨fun _ => ⟨fq, ⟨fun k0 => ⟨fun n1 => r_World_speak_83 ⟨fun l => ?_, fun l => ?_⟩, fun y1 => r_World_speak_83_2 ⟨fun l => ?_, fun l => ?_⟩⟩, fun n0 => ?_⟩⟩, fun n => absurd ⟨hu3.1, hu3.2, hei⟩ n⟩⟩, fun n => absurd ⟨ht3.1, ht3.2, hmi⟩ n⟩⟩, fun n => absurd hu3 n⟩
      · subst l
        rcases hk with h | h | h
        · rw [h] at k0; exact absurd k0 (by decide)
        · exact absurd h n1
        · exact go 0 2 (.inl ⟨rfl, rfl⟩) (by rw [h]; decide) (by rw [h]; rfl)
      · rcases hly with l0 | l1
        · exact absurd l0.symm l
        · rcases hk with h | h | h
          · rw [h] at k0; exact absurd k0 (by decide)
          · exact absurd h n1
          · exact go 1 1 (.inr ⟨rfl, rfl⟩) (by rw [h]; decide) (by rw [h, l1]; rfl)
      · subst l
        exact go 0 2 (.inl ⟨rfl, rfl⟩) (by rw [y1]; decide) (by rw [y1]; rfl)
      · rcases hly with l0 | l1
        · exact go 1 1 (.inr ⟨rfl, rfl⟩) (by rw [y1]; decide) (by rw [y1, l0]; rfl)
        · exact absurd l1.symm l
      · have h0 : T.1 64 0 (10 * (3 * t + m) + f) = 0 := by
          rcases hk with h | h | h
          · exact h
          · rw [h] at n0; exact absurd (by decide) n0
          · rw [h] at n0; exact absurd (by decide) n0
        refine hq0 ?_
        intro d1 D Q1 hd1 h1
        refine r_Mod_says_0 (by omega) ?_
        rw [hhM, hhN, zz_10, zz_ix (n := 10 * (3 * t + m) + f) (by omega), show ov_g (ov_mix D T) 64 0 (10 * (3 * t + m) + f) = 0 from h0]
        exact ⟨i2, i1, fun q => absurd q hneM, fun _ => ⟨fun q => absurd q hneN, fun _ => ⟨ia, fun n => absurd rfl n, fun _ => h1⟩⟩⟩
    · have hh2 : ov_hof (ov_mix C T0) u 1 = -1 := mi_hof2 (x := 1) (by decide) ee ne
      have hhN : ∀ D : ov_S, ov_hol (ov_mix D T) (nI u) 1 = -1 := fun D => mi_hol2 (x := 1) (by omega) (by decide) rfl ne3
      have q0 : Q none (ov_mix C T0) := hq0 (by
        intro d1 D Q1 hd1 h1
        refine r_Mod_says_0 (by omega) ?_
        rw [hhM, hhN]
        exact ⟨i2, i1, fun q => absurd q hneM, fun _ => ⟨fun _ => h1, fun n => absurd rfl n⟩⟩)
      refine r_World_speak_0 (by omega) ?_
      rw [zz_ix (n := u) (by omega)]
      simp only [Nat.mul_zero, Nat.zero_add]
      rw [hh, hh2, zz_3 t m, zz_ix (n := 3 * t + m) (by omega)]
      exact ⟨fun _ => ⟨fu, ⟨fun _ => ⟨fp, ⟨fun q => absurd q.2.2 (by decide), fun _ => q0⟩⟩, fun n => absurd ⟨ht3.1, ht3.2, hmi⟩ n⟩⟩, fun n => absurd hu3 n⟩
  · have hh : ov_hof (ov_mix C T0) t 2 = -1 := mi_hof2 (x := 2) (by decide) em nm
    have hhM : ∀ D : ov_S, ov_hol (ov_mix D T) (nI t) 2 = -1 := fun D => mi_hol2 (x := 2) (by omega) (by decide) rfl nm3
    have q0 : Q none (ov_mix C T0) := hq0 (by
      intro d1 D Q1 hd1 h1
      refine r_Mod_says_0 (by omega) ?_
      rw [hhM]
      exact ⟨i2, i1, fun _ => h1, fun n => absurd rfl n⟩)
    have hfq : ∀ x : Int32, 0 ≤ x ∧ x ≤ 2 → ov_g (ov_mix C T0) 3 0 (ov_ix (3 * nI u + x)) ≠ 0 := by
      intro x hx
      obtain ⟨k, hk, rfl⟩ := (zz_le (b := 2) rfl).1 hx
      rw [zz_3, zz_ix (by omega)]
      exact fl _ (by omega)
    refine r_World_speak_0 (by omega) ?_
    rw [zz_ix (n := u) (by omega)]
    simp only [Nat.mul_zero, Nat.zero_add]
    rw [hh]
    exact ⟨fun _ => ⟨fu, ⟨fun q => absurd q.2.2 (by decide), fun _ => ⟨fun q => ⟨hfq _ q.2.2, q0⟩, fun _ => q0⟩⟩⟩, fun n => absurd hu3 n⟩
