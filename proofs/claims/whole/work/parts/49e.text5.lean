/-! ===== TEXT: the class reads a STEP ===== -/
theorem x_d115 {C A V : Nat → Nat} {N : Nat} {S0 : ov_S} {kd idx d : Nat} {S : ov_S} {Q : ov_Q} {v2 v3 v4 v5 : Int32} (hd : 5 ≤ d) (hH : xgH C V N) (hF : xgF C A V N S0 kd idx S) (h : Q none S) : ov_V true true d 0 0 mq_Reader_readStep 115 [some (.inr (.inr (true, 9, 0))), none, some (.inl v2), some (.inl v3), some (.inl v4), some (.inl v5)] [] S Q := by
  have nf : ¬ S.1 9 0 3 = 0 := by rw [hF.2.2.1.1]; exact fun e => absurd (zz_inj (b := 0) (by have := hF.2.2.1.2; omega) (by decide) e) (by have := hF.2.2.1.2; omega)
  exact r_Reader_readStep_115 (by omega) (x_expF (by omega) hH hF (fun x => r_Reader_readStep_123 (by omega) ⟨fun _ => r_Reader_readStep_144 h, fun z => absurd z nf⟩))
theorem x_d96 {C A V : Nat → Nat} {N : Nat} {S0 : ov_S} {kd idx d : Nat} {S : ov_S} {Q : ov_Q} {v1 v2 v3 v4 : Int32} (hd : 5 ≤ d) (hH : xgH C V N) (hF : xgF C A V N S0 kd idx S) (h : Q none S) : ov_V true true d 0 0 mq_Reader_readStep 96 [some (.inr (.inr (true, 9, 0))), some (.inl v1), some (.inl v2), some (.inl v3), some (.inl v4), none] [] S Q :=
  r_Reader_readStep_96 (by omega) (x_expF (by omega) hH hF (fun x => r_Reader_readStep_104 (by omega) (x_numF (by omega) hH hF (fun y => r_Reader_readStep_113 (x_d115 hd hH hF h)))))
theorem x_d81 {C A V : Nat → Nat} {N : Nat} {S0 : ov_S} {kd idx d : Nat} {S : ov_S} {Q : ov_Q} {v1 v2 v3 s0 : Int32} (hd : 5 ≤ d) (hH : xgH C V N) (hF : xgF C A V N S0 kd idx S) (h : Q none S) : ov_V true true d 0 0 mq_Reader_readStep 81 [some (.inr (.inr (true, 9, 0))), some (.inl v1), some (.inl v2), some (.inl v3), none, none] [.inl s0] S Q :=
  r_Reader_readStep_81 ⟨fun _ => x_d96 hd hH hF h, fun _ => ⟨fun _ => x_d115 hd hH hF h, fun _ => x_d96 hd hH hF h⟩⟩
theorem x_d62 {C A V : Nat → Nat} {N : Nat} {S0 : ov_S} {kd idx d : Nat} {S : ov_S} {Q : ov_Q} {v1 v2 s0 : Int32} (hd : 5 ≤ d) (hH : xgH C V N) (hF : xgF C A V N S0 kd idx S) (h : Q none S) : ov_V true true d 0 0 mq_Reader_readStep 62 [some (.inr (.inr (true, 9, 0))), some (.inl v1), some (.inl v2), none, none, none] [.inl s0] S Q :=
  r_Reader_readStep_62_2 ⟨fun _ => r_Reader_readStep_74 (by omega) (x_numF (by omega) hH hF (fun y => x_d81 hd hH hF h)), fun _ => r_Reader_readStep_74_2 (by omega) (x_numF (by omega) hH hF (fun y => x_d81 hd hH hF h))⟩
theorem x_d37 {C A V : Nat → Nat} {N : Nat} {S0 : ov_S} {kd idx d : Nat} {S : ov_S} {Q : ov_Q} {v1 v2 s0 : Int32} (hd : 5 ≤ d) (hH : xgH C V N) (hF : xgF C A V N S0 kd idx S) (h : Q none S) : ov_V true true d 0 0 mq_Reader_readStep 37 [some (.inr (.inr (true, 9, 0))), some (.inl v1), some (.inl v2), none, none, none] [.inl s0] S Q := by
  have go : ov_V true true d 0 0 mq_Reader_readStep 47 [some (.inr (.inr (true, 9, 0))), some (.inl v1), some (.inl v2), none, none, none] [] S Q := r_Reader_readStep_47 (by omega) (x_expF (by omega) hH hF (fun x => r_Reader_readStep_55 (x_d62 hd hH hF h)))
  exact r_Reader_readStep_37 ⟨fun _ => go, fun _ => ⟨fun _ => x_d62 hd hH hF h, fun _ => go⟩⟩
/-- the end of a STEP -/
theorem x_115 {c : Nat} {C A V : Nat → Nat} {N : Nat} {S0 : ov_S} {k n d a b : Nat} {S : ov_S} {Q : ov_Q} {th nu he : Int32} (hd : 5 ≤ d) (hH : xgH C V N) (hP : xgP c C A V N S0 k n S) (hn : n < 30) (h5 : C (xN c C V n) ≤ 5) (hst : rl_step c (nI (C (xN c C V n))) th nu he (nI (C (xN c C V n))) (nI a) (nI b)) (ho : xsp c C V (xN c C V n) = xse C k a b) (hok : ∀ a b k' S', xsp c C V (xN c C V n) = .inr (a, b, k') → xgP c C A V N S0 k' (n + 1) S' → Q none S') (her : ∀ kd idx S', xsp c C V (xN c C V n) = .inl (kd, idx) → xgF C A V N S0 kd idx S' → Q none S') : ov_V true true d 0 0 mq_Reader_readStep 115 [some (.inr (.inr (true, 9, 0))), none, some (.inl (nI (C (xN c C V n)))), some (.inl th), some (.inl nu), some (.inl he)] [] S Q := by
  refine r_Reader_readStep_115 (by omega) (x_exp (lo := 11) (hi := 11) (by omega) hH hP (by decide) (by decide) (fun y => ?_) (fun m => ?_))
  · have e11 : C k = 11 := by omega
    have ho' : xsp c C V (xN c C V n) = .inr (a, b, k + 1) := by rw [ho]; exact if_pos e11
    have hP' := xgP_a hH hP (show ¬ C k = 12 by omega)
    refine r_Reader_readStep_123 (by omega) ⟨fun z => absurd hP'.2.2.1 z, fun _ => ?_⟩
    obtain ⟨p1, p2, p3, p4, p5, p6, p7⟩ := hP'
    generalize ov_w S 9 0 9 (nI (k + 1)) = T at p1 p2 p3 p4 p5 p6 p7 ⊢
    have e4 : ov_g T 8 8 4 = nI n := p6.1
    refine r_Plan_add_0 (by omega) ⟨fun _ => ?_, fun z => absurd ((zz_le (b := 29) rfl).2 ⟨n, by omega, p6.1⟩) z⟩
    show ov_ib (ov_g T 8 8 4) 30 ∧ ov_ib (ov_g T 8 8 4) 30 ∧ ov_ib (ov_g T 8 8 4) 30 ∧ ov_ib (ov_g T 8 8 4) 30 ∧ ov_V true true d 0 0 mq_Reader_readStep 144 [none, none, none, none, none, none] [] (ov_w (ov_w (ov_w (ov_w (ov_w T 41 8 (ov_ix (ov_g T 8 8 4)) (nI (C (xN c C V n)))) 42 8 (ov_ix (ov_g T 8 8 4)) th) 43 8 (ov_ix (ov_g T 8 8 4)) nu) 44 8 (ov_ix (ov_g T 8 8 4)) he) 8 8 4 (ov_g T 8 8 4 + 1)) Q
    rw [e4, zz_ix (by omega), nI_1]
    refine ⟨zz_ib (by omega) (by decide), zz_ib (by omega) (by decide), zz_ib (by omega) (by decide), zz_ib (by omega) (by decide), r_Reader_readStep_144 (hok a b (k + 1) _ ho' ⟨xc_w (xc_w (xc_w (xc_w (xc_w p1 rfl) rfl) rfl) rfl) rfl, p2, p3, p4, p5, ⟨rfl, by omega⟩, fun i hi => ?_⟩)⟩
    unfold xgS
    rw [show (ov_w (ov_w (ov_w (ov_w (ov_w T 41 8 n (nI (C (xN c C V n)))) 42 8 n th) 43 8 n nu) 44 8 n he) 8 8 4 (nI (n + 1))).1 41 8 i = if i = n then nI (C (xN c C V n)) else T.1 41 8 i from rl_wr T 41 8 n _ i, show (ov_w (ov_w (ov_w (ov_w (ov_w T 41 8 n (nI (C (xN c C V n)))) 42 8 n th) 43 8 n nu) 44 8 n he) 8 8 4 (nI (n + 1))).1 42 8 i = if i = n then th else T.1 42 8 i from rl_wr T 42 8 n _ i, show (ov_w (ov_w (ov_w (ov_w (ov_w T 41 8 n (nI (C (xN c C V n)))) 42 8 n th) 43 8 n nu) 44 8 n he) 8 8 4 (nI (n + 1))).1 43 8 i = if i = n then nu else T.1 43 8 i from rl_wr T 43 8 n _ i, show (ov_w (ov_w (ov_w (ov_w (ov_w T 41 8 n (nI (C (xN c C V n)))) 42 8 n th) 43 8 n nu) 44 8 n he) 8 8 4 (nI (n + 1))).1 44 8 i = if i = n then he else T.1 44 8 i from rl_wr T 44 8 n _ i]
    by_cases q : i = n
    · subst q
      rw [if_pos rfl, if_pos rfl, if_pos rfl, if_pos rfl, xN_s ho']
      exact ⟨h5, a, b, ho', hst⟩
    · rw [if_neg q, if_neg q, if_neg q, if_neg q]
      exact p7 i (by omega)
  · have ho' : xsp c C V (xN c C V n) = .inl (1, k) := by rw [ho]; exact if_neg (fun e => m (by omega))
    have hF := xgP_f hP (kd := 1) (by decide) (by decide)
    exact r_Reader_readStep_123 (by omega) ⟨fun _ => r_Reader_readStep_144 (her 1 k _ ho' hF), fun z => absurd z (show ¬ nI 1 = 0 by decide)⟩
/-- a number in a STEP -/
theorem x_sn {C V : Nat → Nat} {k lo hi kd : Nat} {g : Nat → (Nat × Nat) ⊕ (Nat × Nat × Nat)} (h : (C k = 10 ∧ ¬ (lo ≤ V k ∧ V k ≤ hi) ∧ kd = 2) ∨ (¬ C k = 10 ∧ kd = 1)) : xsn C V k lo hi g = .inl (kd, k) ∧ 1 ≤ kd ∧ kd ≤ 3 := by
  unfold xsn
  rcases h with ⟨h1, h2, rfl⟩ | ⟨h1, rfl⟩
  · rw [if_pos h1, if_neg h2]; exact ⟨rfl, by decide, by decide⟩
  · rw [if_neg h1]; exact ⟨rfl, by decide, by decide⟩
theorem x_sn' {C V : Nat → Nat} {k lo hi : Nat} {g : Nat → (Nat × Nat) ⊕ (Nat × Nat × Nat)} (h1 : C k = 10) (h2 : lo ≤ V k ∧ V k ≤ hi) : xsn C V k lo hi g = g (V k) := by
  unfold xsn
  rw [if_pos h1, if_pos h2]
theorem x_sw' {C : Nat → Nat} {k lo hi : Nat} {g : Nat → (Nat × Nat) ⊕ (Nat × Nat × Nat)} (h2 : lo ≤ C k ∧ C k ≤ hi) : xsw C k lo hi g = g (C k) := if_pos h2
theorem x_sw {C : Nat → Nat} {k lo hi : Nat} {g : Nat → (Nat × Nat) ⊕ (Nat × Nat × Nat)} (h2 : ¬ (lo ≤ C k ∧ C k ≤ hi)) : xsw C k lo hi g = .inl (1, k) := if_neg h2
/-- GIVE and FEEL, behind the word -/
theorem x_gf {c hi : Nat} {C A V : Nat → Nat} {N : Nat} {S0 : ov_S} {n d : Nat} {S : ov_S} {Q : ov_Q} {v1 : Int32} (hd : 5 ≤ d) (hH : xgH C V N) (hP : xgP c C A V N S0 (xN c C V n + 1) n S) (hn : n < 30) (hk : (C (xN c C V n) = 0 ∧ hi = 2) ∨ (C (xN c C V n) = 5 ∧ hi = 8)) (hok : ∀ a b k' S', xsp c C V (xN c C V n) = .inr (a, b, k') → xgP c C A V N S0 k' (n + 1) S' → Q none S') (her : ∀ kd idx S', xsp c C V (xN c C V n) = .inl (kd, idx) → xgF C A V N S0 kd idx S' → Q none S') : ov_V true true d 0 0 mq_Reader_readStep 47 [some (.inr (.inr (true, 9, 0))), some (.inl v1), some (.inl (nI (C (xN c C V n)))), none, none, none] [] S Q := by
  have ho : xsp c C V (xN c C V n) = xsw C (xN c C V n + 1) 7 9 (fun w => xsn C V (xN c C V n + 2) 0 hi (fun v => xse C (xN c C V n + 3) (w - 7) v)) := by
    unfold xsp
    rcases hk with ⟨e, rfl⟩ | ⟨e, rfl⟩
    · rw [if_pos e]
    · rw [if_neg (by omega), if_pos e]
  have h5 : C (xN c C V n) ≤ 5 := by omega
  have hhi : hi ≤ 8 := by omega
  have em : ov_most (nI (C (xN c C V n))) = nI hi := by
    rcases hk with ⟨e, rfl⟩ | ⟨e, rfl⟩ <;> rw [e] <;> rfl
  have n4 : ¬ nI (C (xN c C V n)) = 4 := fun e => by have := zz_inj (b := 4) (by omega) (by decide) e; omega
  have n2 : ¬ nI (C (xN c C V n)) = 2 := fun e => by have := zz_inj (b := 2) (by omega) (by decide) e; omega
  have n3 : ¬ nI (C (xN c C V n)) = 3 := fun e => by have := zz_inj (b := 3) (by omega) (by decide) e; omega
  refine r_Reader_readStep_47 (by omega) (x_exp (lo := 7) (hi := 9) (by omega) hH hP (by decide) (by decide) (fun y => ?_) (fun m => ?_))
  · rw [x_sw' y] at ho
    have hP' := xgP_a hH hP (show ¬ C (xN c C V n + 1) = 12 by omega)
    refine r_Reader_readStep_55 (r_Reader_readStep_62_2 ⟨fun _ => r_Reader_readStep_74 (by omega) ?_, fun z => absurd z n4⟩)
    rw [em, show (nI (C (xN c C V n + 1)) - 7 : Int32) = nI (C (xN c C V n + 1) - 7) from pk_sub (b := 7) y.1]
    refine x_num (lo := 0) (by omega) hH hP' (by decide) (by omega) (fun y1 y2 => ?_) (fun kd x z => ?_)
    · rw [x_sn' y1 y2] at ho
      refine r_Reader_readStep_81 ⟨fun z => absurd z n2, fun _ => ⟨fun _ => x_115 hd hH (xgP_a hH hP' (show ¬ C (xN c C V n + 1 + 1) = 12 by rw [y1]; decide)) hn h5 ⟨rfl, ?_⟩ ho hok her, fun z => absurd z n3⟩⟩
      rcases hk with ⟨e, rfl⟩ | ⟨e, rfl⟩
      · exact .inl ⟨by rw [e]; rfl, rfl, rfl, ⟨_, by omega, rfl⟩, ⟨_, by omega, rfl⟩⟩
      · exact .inr (.inr (.inr (.inr ⟨by rw [e]; rfl, rfl, rfl, ⟨_, by omega, rfl⟩, ⟨_, by omega, rfl⟩⟩)))
    · obtain ⟨z1, z2, z3⟩ := x_sn (g := fun v => xse C (xN c C V n + 3) (C (xN c C V n + 1) - 7) v) z
      have hF := xgP_f hP' z2 z3
      exact x_d81 hd hH hF (her kd _ _ (ho.trans z1) hF)
  · rw [x_sw m] at ho
    have hF := xgP_f hP (kd := 1) (by decide) (by decide)
    exact r_Reader_readStep_55 (x_d62 hd hH hF (her 1 _ _ ho hF))
