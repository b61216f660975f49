/-! ===== IMAGE: a copied world beside the relation ===== -/
theorem kyb0 {S S1 : ov_S} {r i j p : Nat} (h : kyd (kys 0 1) S S1 r p j) (hp : p = i) : S1.1 r i j = rl_v S.1 r i j := by
  subst hp
  have e : kys 0 1 r p = rl_sh r + p := by unfold kys; omega
  have h' : S1.1 r p j = S.1 r (kys 0 1 r p) j := h
  rw [e] at h'
  exact h'
theorem kyb1 {S S1 : ov_S} {r i j p s : Nat} (h : kyd (kys 1 0) S S1 r p j) (hs : rl_sh r = s) (hp : p = s + i) : rl_v S1.1 r i j = S.1 r i j := by
  have e : kys 1 0 r p = i := by unfold kys; omega
  have h' : S1.1 r p j = S.1 r (kys 1 0 r p) j := h
  rw [e, hp, ← hs] at h'
  exact h'
theorem kyW_0 {S S1 : ov_S} (h : kyW 0 1 S S1) : rl_eC (rl_v S.1) S1.1 := by
  obtain ⟨_, A, P, w20, w21, ⟨b22, b23, b24, b25, b26, b4⟩, ⟨t29, t30, t31, t32, t33, t5⟩, ⟨w2, w7, w8, w9, w10⟩⟩ := h
  constructor
  · intro r I J hm i hi j hj
    simp [rl_da] at hm
    rcases hm with ⟨e1, e2, e3⟩ | ⟨e1, e2, e3⟩ | ⟨e1, e2, e3⟩ | ⟨e1, e2, e3⟩ | ⟨e1, e2, e3⟩ | ⟨e1, e2, e3⟩ | ⟨e1, e2, e3⟩ | ⟨e1, e2, e3⟩ | ⟨e1, e2, e3⟩ | ⟨e1, e2, e3⟩ | ⟨e1, e2, e3⟩ | ⟨e1, e2, e3⟩ | ⟨e1, e2, e3⟩ | ⟨e1, e2, e3⟩ | ⟨e1, e2, e3⟩ | ⟨e1, e2, e3⟩ | ⟨e1, e2, e3⟩ | ⟨e1, e2, e3⟩ | ⟨e1, e2, e3⟩ | ⟨e1, e2, e3⟩ | ⟨e1, e2, e3⟩ | ⟨e1, e2, e3⟩ | ⟨e1, e2, e3⟩
    all_goals subst e1
    all_goals subst e2
    all_goals subst e3
    · exact kyb0 (w20 j hj) (by omega)
    · exact kyb0 (w21 j hj) (by omega)
    · exact kyb0 ((A i hi).2.2.1 j hj) (by omega)
    · exact kyb0 ((A i hi).2.1 41 (by decide) (by decide) j hj) (by omega)
    · exact kyb0 ((A i hi).2.1 42 (by decide) (by decide) j hj) (by omega)
    · exact kyb0 ((A i hi).2.1 43 (by decide) (by decide) j hj) (by omega)
    · exact kyb0 ((A i hi).2.1 44 (by decide) (by decide) j hj) (by omega)
    · exact kyb0 ((P i hi).1 j hj) (by omega)
    · exact kyb0 ((P i hi).2.1 j hj) (by omega)
    · exact kyb0 ((P i hi).2.2.1 j hj) (by omega)
    · exact kyb0 ((P i hi).2.2.2.1 j hj) (by omega)
    · exact kyb0 ((P i hi).2.2.2.2.1 j hj) (by omega)
    · exact kyb0 ((P i hi).2.2.2.2.2.1 j hj) (by omega)
    · exact kyb0 (b22 j hj) (by omega)
    · exact kyb0 (b23 j hj) (by omega)
    · exact kyb0 (b24 j hj) (by omega)
    · exact kyb0 (b25 j hj) (by omega)
    · exact kyb0 (b26 j hj) (by omega)
    · exact kyb0 (t29 j hj) (by omega)
    · exact kyb0 (t30 j hj) (by omega)
    · exact kyb0 (t31 j hj) (by omega)
    · exact kyb0 (t32 j hj) (by omega)
    · exact kyb0 (t33 j hj) (by omega)
  · intro r I j hm i hi
    simp [rl_ds] at hm
    rcases hm with ⟨e1, e2, e3⟩ | ⟨e1, e2, e3⟩ | ⟨e1, e2, e3⟩ | ⟨e1, e2, e3⟩ | ⟨e1, e2, e3⟩ | ⟨e1, e2, e3⟩ | ⟨e1, e2, e3⟩ | ⟨e1, e2, e3⟩ | ⟨e1, e2, e3⟩ | ⟨e1, e2, e3⟩ | ⟨e1, e2, e3⟩ | ⟨e1, e2, e3⟩ | ⟨e1, e2, e3⟩ | ⟨e1, e2, e3⟩ | ⟨e1, e2, e3⟩ | ⟨e1, e2, e3⟩ | ⟨e1, e2, e3⟩ | ⟨e1, e2, e3⟩ | ⟨e1, e2, e3⟩ | ⟨e1, e2, e3⟩
    all_goals subst e1
    all_goals subst e2
    all_goals subst e3
    · exact kyb0 (w2) (by omega)
    · exact kyb0 (w7) (by omega)
    · exact kyb0 (w8) (by omega)
    · exact kyb0 (w9) (by omega)
    · exact kyb0 (w10) (by omega)
    · exact kyb0 ((A i hi).2.2.2 0 (by decide)) (by omega)
    · exact kyb0 ((A i hi).2.2.2 1 (by decide)) (by omega)
    · exact kyb0 ((A i hi).2.2.2 2 (by decide)) (by omega)
    · exact kyb0 ((A i hi).2.2.2 3 (by decide)) (by omega)
    · exact kyb0 ((A i hi).2.2.2 4 (by decide)) (by omega)
    · exact kyb0 ((A i hi).2.2.2 7 (by decide)) (by omega)
    · exact kyb0 ((A i hi).2.2.2 8 (by decide)) (by omega)
    · exact kyb0 ((A i hi).2.2.2 9 (by decide)) (by omega)
    · exact kyb0 ((A i hi).2.2.2 10 (by decide)) (by omega)
    · exact kyb0 ((A i hi).2.2.2 11 (by decide)) (by omega)
    · exact kyb0 ((A i hi).1) (by omega)
    · exact kyb0 ((P i hi).2.2.2.2.2.2.1) (by omega)
    · exact kyb0 ((P i hi).2.2.2.2.2.2.2) (by omega)
    · exact kyb0 (b4) (by omega)
    · exact kyb0 (t5) (by omega)
theorem kyW_1 {S S1 : ov_S} (h : kyW 1 0 S S1) : rl_eC S.1 (rl_v S1.1) := by
  obtain ⟨_, A, P, w20, w21, ⟨b22, b23, b24, b25, b26, b4⟩, ⟨t29, t30, t31, t32, t33, t5⟩, ⟨w2, w7, w8, w9, w10⟩⟩ := h
  constructor
  · intro r I J hm i hi j hj
    simp [rl_da] at hm
    rcases hm with ⟨e1, e2, e3⟩ | ⟨e1, e2, e3⟩ | ⟨e1, e2, e3⟩ | ⟨e1, e2, e3⟩ | ⟨e1, e2, e3⟩ | ⟨e1, e2, e3⟩ | ⟨e1, e2, e3⟩ | ⟨e1, e2, e3⟩ | ⟨e1, e2, e3⟩ | ⟨e1, e2, e3⟩ | ⟨e1, e2, e3⟩ | ⟨e1, e2, e3⟩ | ⟨e1, e2, e3⟩ | ⟨e1, e2, e3⟩ | ⟨e1, e2, e3⟩ | ⟨e1, e2, e3⟩ | ⟨e1, e2, e3⟩ | ⟨e1, e2, e3⟩ | ⟨e1, e2, e3⟩ | ⟨e1, e2, e3⟩ | ⟨e1, e2, e3⟩ | ⟨e1, e2, e3⟩ | ⟨e1, e2, e3⟩
    all_goals subst e1
    all_goals subst e2
    all_goals subst e3
    · exact kyb1 (s := 1) (w20 j hj) rfl (by omega)
    · exact kyb1 (s := 1) (w21 j hj) rfl (by omega)
    · exact kyb1 (s := 4) ((A i hi).2.2.1 j hj) rfl (by omega)
    · exact kyb1 (s := 4) ((A i hi).2.1 41 (by decide) (by decide) j hj) rfl (by omega)
    · exact kyb1 (s := 4) ((A i hi).2.1 42 (by decide) (by decide) j hj) rfl (by omega)
    · exact kyb1 (s := 4) ((A i hi).2.1 43 (by decide) (by decide) j hj) rfl (by omega)
    · exact kyb1 (s := 4) ((A i hi).2.1 44 (by decide) (by decide) j hj) rfl (by omega)
    · exact kyb1 (s := 12) ((P i hi).1 j hj) rfl (by omega)
    · exact kyb1 (s := 12) ((P i hi).2.1 j hj) rfl (by omega)
    · exact kyb1 (s := 12) ((P i hi).2.2.1 j hj) rfl (by omega)
    · exact kyb1 (s := 12) ((P i hi).2.2.2.1 j hj) rfl (by omega)
    · exact kyb1 (s := 12) ((P i hi).2.2.2.2.1 j hj) rfl (by omega)
    · exact kyb1 (s := 12) ((P i hi).2.2.2.2.2.1 j hj) rfl (by omega)
    · exact kyb1 (s := 1) (b22 j hj) rfl (by omega)
    · exact kyb1 (s := 1) (b23 j hj) rfl (by omega)
    · exact kyb1 (s := 1) (b24 j hj) rfl (by omega)
    · exact kyb1 (s := 1) (b25 j hj) rfl (by omega)
    · exact kyb1 (s := 1) (b26 j hj) rfl (by omega)
    · exact kyb1 (s := 1) (t29 j hj) rfl (by omega)
    · exact kyb1 (s := 1) (t30 j hj) rfl (by omega)
    · exact kyb1 (s := 1) (t31 j hj) rfl (by omega)
    · exact kyb1 (s := 1) (t32 j hj) rfl (by omega)
    · exact kyb1 (s := 1) (t33 j hj) rfl (by omega)
  · intro r I j hm i hi
    simp [rl_ds] at hm
    rcases hm with ⟨e1, e2, e3⟩ | ⟨e1, e2, e3⟩ | ⟨e1, e2, e3⟩ | ⟨e1, e2, e3⟩ | ⟨e1, e2, e3⟩ | ⟨e1, e2, e3⟩ | ⟨e1, e2, e3⟩ | ⟨e1, e2, e3⟩ | ⟨e1, e2, e3⟩ | ⟨e1, e2, e3⟩ | ⟨e1, e2, e3⟩ | ⟨e1, e2, e3⟩ | ⟨e1, e2, e3⟩ | ⟨e1, e2, e3⟩ | ⟨e1, e2, e3⟩ | ⟨e1, e2, e3⟩ | ⟨e1, e2, e3⟩ | ⟨e1, e2, e3⟩ | ⟨e1, e2, e3⟩ | ⟨e1, e2, e3⟩
    all_goals subst e1
    all_goals subst e2
    all_goals subst e3
    · exact kyb1 (s := 1) (w2) rfl (by omega)
    · exact kyb1 (s := 1) (w7) rfl (by omega)
    · exact kyb1 (s := 1) (w8) rfl (by omega)
    · exact kyb1 (s := 1) (w9) rfl (by omega)
    · exact kyb1 (s := 1) (w10) rfl (by omega)
    · exact kyb1 (s := 4) ((A i hi).2.2.2 0 (by decide)) rfl (by omega)
    · exact kyb1 (s := 4) ((A i hi).2.2.2 1 (by decide)) rfl (by omega)
    · exact kyb1 (s := 4) ((A i hi).2.2.2 2 (by decide)) rfl (by omega)
    · exact kyb1 (s := 4) ((A i hi).2.2.2 3 (by decide)) rfl (by omega)
    · exact kyb1 (s := 4) ((A i hi).2.2.2 4 (by decide)) rfl (by omega)
    · exact kyb1 (s := 4) ((A i hi).2.2.2 7 (by decide)) rfl (by omega)
    · exact kyb1 (s := 4) ((A i hi).2.2.2 8 (by decide)) rfl (by omega)
    · exact kyb1 (s := 4) ((A i hi).2.2.2 9 (by decide)) rfl (by omega)
    · exact kyb1 (s := 4) ((A i hi).2.2.2 10 (by decide)) rfl (by omega)
    · exact kyb1 (s := 4) ((A i hi).2.2.2 11 (by decide)) rfl (by omega)
    · exact kyb1 (s := 4) ((A i hi).1) rfl (by omega)
    · exact kyb1 (s := 12) ((P i hi).2.2.2.2.2.2.1) rfl (by omega)
    · exact kyb1 (s := 12) ((P i hi).2.2.2.2.2.2.2) rfl (by omega)
    · exact kyb1 (s := 1) (b4) rfl (by omega)
    · exact kyb1 (s := 1) (t5) rfl (by omega)
