/-! ===== who hears believes, in both ===== -/
theorem mi_beE {d : Nat} {C T : ov_S} {Q : ov_Q} {p q f : Nat} {v v4 w36 w37 w38 w39 li : Int32} (hd : 1 ≤ d) (hf : f < 10) (e36 : C.1 36 p f = w36) (e37 : C.1 37 p f = w37) (e38 : C.1 38 p f = w38) (e39 : C.1 39 p f = w39) (eli : li = if v4 = 0 then 0 else 1) (h : Q none (ov_mix (ov_w (ov_w (ov_w (ov_w (ov_w C 35 q f v) 36 q f w36) 37 q f w37) 38 q f (w38 + 1)) 39 q f (w39 + li)) T)) : ov_V true true d 0 0 mq_Person_believe 0 [some (.inr (.inr (true, 7, q))), some (.inl (nI f)), some (.inl v), some (.inr (.inr (true, 7, p))), some (.inl v4)] [] (ov_mix C T) Q := by
  have hfi : 0 ≤ nI f ∧ nI f ≤ 9 := (zz_le (b := 9) rfl).2 ⟨f, by omega, rfl⟩
  have ib : ov_ib (nI f) 10 := zz_ib hf (by decide)
  refine r_Person_believe_0 hd ⟨fun n => absurd hfi n, fun _ => ?_⟩
  rw [zz_ix (by omega), mix_c rfl, show ov_g (ov_mix (ov_w C 35 q f v) T) 36 p f = w36 from e36, mix_c rfl]
  have f37 : (ov_w (ov_w C 35 q f v) 36 q f w36).1 37 p f = w37 := e37
  have f38 : (ov_w (ov_w C 35 q f v) 36 q f w36).1 38 p f = w38 := e38
  have f39 : (ov_w (ov_w C 35 q f v) 36 q f w36).1 39 p f = w39 := e39
  generalize ov_w (ov_w C 35 q f v) 36 q f w36 = C2 at f37 f38 f39 h ⊢
  rw [show ov_g (ov_mix C2 T) 37 p f = w37 from f37, mix_c rfl, show ov_g (ov_mix (ov_w C2 37 q f w37) T) 38 p f = w38 from f38, mix_c rfl, show ov_g (ov_mix (ov_w (ov_w C2 37 q f w37) 38 q f (w38 + 1)) T) 39 p f = w39 from f39, mix_c rfl, mix_c rfl]
  refine ⟨ib, ib, ib, ib, ib, ib, ib, ib, fun z => ⟨ib, ?_⟩, fun z => ⟨ib, ?_⟩⟩
  · rw [if_pos z] at eli
    subst eli
    exact h
  · rw [if_neg z] at eli
    subst eli
    exact h
theorem mi_beM0 {d : Nat} {D T : ov_S} {Q : ov_Q} {a b : Nat} {v w67 w68 w69 w70 : Int32} (ha : a < 120) (hb : b < 120) (e67 : T.1 67 0 a = w67) (e68 : T.1 68 0 a = w68) (e69 : T.1 69 0 a = w69) (h : Q none (ov_mix D (ov_w (ov_w (ov_w (ov_w (ov_w T 64 0 b v) 67 0 b w67) 68 0 b w68) 69 0 b (w69 + 1)) 70 0 b (w70 + 0)))) : ov_V true true d 0 0 mq_Mod_says 214 [some (.inr (.inr (true, 14, 0))), none, none, none, none, none, none, some (.inl v), some (.inl (nI a)), some (.inl (nI b)), none] [.inl 0, .inl w70] (ov_mix D T) Q := by
  have ia : ov_ib (nI a) 120 := zz_ib ha (by decide)
  have ib : ov_ib (nI b) 120 := zz_ib hb (by decide)
  refine r_Mod_says_214 ?_
  rw [zz_ix (n := b) (by omega), zz_ix (n := a) (by omega), mix_m rfl, show ov_g (ov_mix D (ov_w T 64 0 b v)) 67 0 a = w67 from e67, mix_m rfl]
  have f68 : (ov_w (ov_w T 64 0 b v) 67 0 b w67).1 68 0 a = w68 := e68
  have f69 : (ov_w (ov_w T 64 0 b v) 67 0 b w67).1 69 0 a = w69 := e69
  generalize ov_w (ov_w T 64 0 b v) 67 0 b w67 = C2 at f68 f69 h ⊢
  rw [show ov_g (ov_mix D C2) 68 0 a = w68 from f68, mix_m rfl, show ov_g (ov_mix D (ov_w C2 68 0 b w68)) 69 0 a = w69 from f69, mix_m rfl, mix_m rfl]
  exact ⟨ib, ia, ib, ia, ib, ia, ib, ib, h⟩
theorem mi_beM1 {d : Nat} {D T : ov_S} {Q : ov_Q} {a b : Nat} {v w67 w68 w69 w70 : Int32} (ha : a < 120) (hb : b < 120) (e67 : T.1 67 0 a = w67) (e68 : T.1 68 0 a = w68) (e69 : T.1 69 0 a = w69) (h : Q none (ov_mix D (ov_w (ov_w (ov_w (ov_w (ov_w T 64 0 b v) 67 0 b w67) 68 0 b w68) 69 0 b (w69 + 1)) 70 0 b (w70 + 1)))) : ov_V true true d 0 0 mq_Mod_says 214 [some (.inr (.inr (true, 14, 0))), none, none, none, none, none, none, some (.inl v), some (.inl (nI a)), some (.inl (nI b)), none] [.inl 1, .inl w70] (ov_mix D T) Q := by
  have ia : ov_ib (nI a) 120 := zz_ib ha (by decide)
  have ib : ov_ib (nI b) 120 := zz_ib hb (by decide)
  refine r_Mod_says_214_2 ?_
  rw [zz_ix (n := b) (by omega), zz_ix (n := a) (by omega), mix_m rfl, show ov_g (ov_mix D (ov_w T 64 0 b v)) 67 0 a = w67 from e67, mix_m rfl]
  have f68 : (ov_w (ov_w T 64 0 b v) 67 0 b w67).1 68 0 a = w68 := e68
  have f69 : (ov_w (ov_w T 64 0 b v) 67 0 b w67).1 69 0 a = w69 := e69
  generalize ov_w (ov_w T 64 0 b v) 67 0 b w67 = C2 at f68 f69 h ⊢
  rw [show ov_g (ov_mix D C2) 68 0 a = w68 from f68, mix_m rfl, show ov_g (ov_mix D (ov_w C2 68 0 b w68)) 69 0 a = w69 from f69, mix_m rfl, mix_m rfl]
  exact ⟨ib, ia, ib, ia, ib, ia, ib, ib, h⟩
