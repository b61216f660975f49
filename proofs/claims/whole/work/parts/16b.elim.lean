theorem ov_get_e {mo : Bool} {S : ov_S} {r i ci k : Nat} {K : ov_A → Prop} (h : ov_get mo S r i ci k K) : ∃ fks kd q g, ov_sh r = .inl (ci, fks) ∧ fks[k]? = some (kd, q, g) ∧ (kd ≤ 1 ∧ K (.inl (ov_g S r i k)) ∨ kd = 2 ∧ mo = true ∧ K (.inr (.inr (true, q, g i))) ∨ 2 ≤ kd ∧ K (.inr (.inr (ov_g S r i k != 0, q, g i)))) := by
  unfold ov_get at h
  split at h
  · rename_i c fks hsh
    split at h
    · rename_i e
      have e := Nat.eq_of_beq_eq_true e
      subst e
      split at h
      · rename_i hk
        exact ⟨fks, _, _, _, hsh, hk, Or.inl ⟨by omega, h⟩⟩
      · rename_i hk
        exact ⟨fks, _, _, _, hsh, hk, Or.inl ⟨by omega, h⟩⟩
      · rename_i hk
        split at h
        · exact ⟨fks, _, _, _, hsh, hk, Or.inr (Or.inl ⟨rfl, rfl, h⟩)⟩
        · exact ⟨fks, _, _, _, hsh, hk, Or.inr (Or.inr ⟨by omega, h⟩)⟩
      · rename_i hk
        exact ⟨fks, _, _, _, hsh, hk, Or.inr (Or.inr ⟨by omega, h⟩)⟩
      · exact h.elim
    · exact h.elim
  · exact h.elim
theorem ov_put_e {mo : Bool} {y : ov_M} {S : ov_S} {r i ci k : Nat} {v : ov_A} {K : ov_S → Prop} (h : ov_put mo y S r i ci k v K) : ∃ fks kd q g x, ov_sh r = .inl (ci, fks) ∧ fks[k]? = some (kd, q, g) ∧ K (ov_w S r i k x) ∧ (kd ≤ 1 ∧ v = .inl x ∧ (kd = 1 → x = 0 ∨ x = 1) ∨ (kd = 2 ∧ mo = false ∧ y.2.1.name = "<init>" ∧ y.1 = ci ∨ kd = 3) ∧ v = .inr (.inr (true, q, g i)) ∧ x = 1 ∨ kd = 3 ∧ (∃ q' j, v = .inr (.inr (false, q', j))) ∧ x = 0) := by
  unfold ov_put at h
  split at h
  · rename_i c fks hsh
    split at h
    · rename_i e
      have e := Nat.eq_of_beq_eq_true e
      subst e
      split at h
      · rename_i hk
        exact ⟨fks, _, _, _, _, hsh, hk, h, Or.inl ⟨by omega, rfl, fun h => by omega⟩⟩
      · rename_i hk
        exact ⟨fks, _, _, _, _, hsh, hk, h.2, Or.inl ⟨by omega, rfl, fun _ => h.1⟩⟩
      · rename_i hk
        obtain ⟨h1, h2, h3, rfl, rfl, h6⟩ := h
        exact ⟨fks, _, _, _, _, hsh, hk, h6, Or.inr (Or.inl ⟨Or.inl ⟨rfl, h1, h2, h3⟩, rfl, rfl⟩)⟩
      · rename_i hk
        obtain ⟨rfl, rfl, h6⟩ := h
        exact ⟨fks, _, _, _, _, hsh, hk, h6, Or.inr (Or.inl ⟨Or.inr rfl, rfl, rfl⟩)⟩
      · rename_i hk
        exact ⟨fks, _, _, _, _, hsh, hk, h, Or.inr (Or.inr ⟨rfl, ⟨_, _, rfl⟩, rfl⟩)⟩
      · exact h.elim
    · exact h.elim
  · exact h.elim
theorem ov_arI_e {t : Nat} {S : ov_S} {r : Nat} {x : Int32} {K : Prop} (h : ov_arI t S r x K) : ∃ n q g, ov_sh r = .inr (t, n, q, g) ∧ ov_ib x n ∧ K := by
  unfold ov_arI at h
  split at h
  · rename_i hsh
    split at h
    · rename_i e
      have e := Nat.eq_of_beq_eq_true e
      subst e
      exact ⟨_, _, _, hsh, h⟩
    · exact h.elim
  · exact h.elim
theorem ov_iald_e {S : ov_S} {r i : Nat} {x : Int32} {K : Int32 → Prop} (h : ov_iald S r i x K) : (∃ n q g, ov_sh r = .inr (0, n, q, g) ∧ ov_ib x n ∧ K (ov_g S r i (ov_ix x))) ∨ (∃ n q g, ov_sh r = .inr (10, n, q, g) ∧ i = 0 ∧ ov_ib x S.2.2.2.1 ∧ K (S.2.2.2.2 (ov_ix x))) := by
  unfold ov_iald at h
  split at h
  · rename_i hsh
    exact Or.inl ⟨_, _, _, hsh, h⟩
  · rename_i hsh
    exact Or.inr ⟨_, _, _, hsh, h⟩
  · exact h.elim
theorem ov_lald_e {S : ov_S} {r i : Nat} {x : Int32} {K : Int64 → Prop} (h : ov_lald S r i x K) : (∃ n q g, ov_sh r = .inr (2, n, q, g) ∧ ov_ib x n ∧ K (ov_gl S r i (ov_ix x))) ∨ (∃ n q g, ov_sh r = .inr (11, n, q, g) ∧ i = 0 ∧ ov_ib x 6 ∧ K (ov_sw (ov_ix x))) := by
  unfold ov_lald at h
  split at h
  · rename_i hsh
    exact Or.inl ⟨_, _, _, hsh, h⟩
  · rename_i hsh
    exact Or.inr ⟨_, _, _, hsh, h⟩
  · exact h.elim
theorem ov_aald_e {S : ov_S} {r i : Nat} {x : Int32} {K : ov_A → Prop} (h : ov_aald S r i x K) : ∃ t n q g, ov_sh r = .inr (t, n, q, g) ∧ (t = 3 ∨ t = 4) ∧ ov_ib x n ∧ K (.inr (.inr (ov_g S r i (ov_ix x) != 0, q, g i (ov_ix x)))) := by
  unfold ov_aald at h
  split at h
  · rename_i hsh
    exact ⟨_, _, _, _, hsh, Or.inl rfl, h⟩
  · rename_i hsh
    exact ⟨_, _, _, _, hsh, Or.inr rfl, h⟩
  · exact h.elim
theorem ov_aast_e {S : ov_S} {r i : Nat} {x : Int32} {q' j : Nat} {K : ov_S → Prop} (h : ov_aast S r i x q' j K) : ∃ t n q g, ov_sh r = .inr (t, n, q, g) ∧ (t = 3 ∨ t = 4) ∧ ov_ib x n ∧ q' = q ∧ j = g i (ov_ix x) ∧ K (ov_w S r i (ov_ix x) 1) := by
  unfold ov_aast at h
  split at h
  · rename_i hsh
    exact ⟨_, _, _, _, hsh, Or.inl rfl, h⟩
  · rename_i hsh
    exact ⟨_, _, _, _, hsh, Or.inr rfl, h⟩
  · exact h.elim
theorem ov_len_e {S : ov_S} {r : Nat} {K : Int32 → Prop} (h : ov_len S r K) : (∃ n q g, ov_sh r = .inr (10, n, q, g) ∧ K (Int32.ofNat S.2.2.2.1)) ∨ ∃ t n q g, ov_sh r = .inr (t, n, q, g) ∧ t ≤ 2 ∧ K (Int32.ofNat n) := by
  unfold ov_len at h
  split at h
  · rename_i hsh
    exact Or.inl ⟨_, _, _, hsh, h⟩
  · rename_i hsh
    exact Or.inr ⟨_, _, _, _, hsh, by omega, h⟩
  · rename_i hsh
    exact Or.inr ⟨_, _, _, _, hsh, by omega, h⟩
  · exact h.elim
theorem ov_copy_e {S : ov_S} {r i r1 i1 : Nat} {sp dp n : Int32} {K : ov_S → Prop} (h : ov_copy S r i r1 i1 sp dp n K) : ∃ n0 q g n1 q1 g1, ov_sh r = .inr (0, n0, q, g) ∧ ov_sh r1 = .inr (0, n1, q1, g1) ∧ (¬ sp < 0 ∧ ¬ dp < 0 ∧ ¬ n < 0 ∧ ov_ix sp + ov_ix n ≤ n0 ∧ ov_ix dp + ov_ix n ≤ n1) ∧ K (ov_wa S r1 i1 (va_cpy (S.1 r i) (S.1 r1 i1) (ov_ix sp) (ov_ix dp) (ov_ix n))) := by
  unfold ov_copy at h
  split at h
  · rename_i h1 h2
    exact ⟨_, _, _, _, _, _, h1, h2, h⟩
  · exact h.elim
theorem ov_swT_e {x : Int32} {k : Int → Prop} : ∀ {os : List Int} {lo : Int}, ov_swT x k lo os → ∀ (j : Nat) (off : Int), os[j]? = some off → x.toInt = lo + (j : Int) → k off
  | [], _, _, j, off, h, _ => by simp at h
  | o :: os, lo, g, 0, off, h, e => by
    simp at h
    subst h
    exact g.1 (by simpa using e)
  | o :: os, lo, g, j + 1, off, h, e => ov_swT_e g.2 j off (by simpa using h) (by rw [e]; push_cast; omega)
theorem ov_ret_e {mo0 mo : Bool} {P : Prop} (h : ov_ret mo0 mo P) : mo = mo0 ∧ P := by
  unfold ov_ret at h
  split at h
  · exact ⟨rfl, h⟩
  · exact ⟨rfl, h⟩
  · exact h.elim
theorem ov_rt_e {m : ov_M} {x : Int32} {P : Prop} (h : ov_rt m x P) : (m.2.2.2.2.1 = some .int ∨ m.2.2.2.2.1 = some .boolean ∧ (x = 0 ∨ x = 1)) ∧ P := by
  unfold ov_rt at h
  split at h
  · rename_i e
    exact ⟨Or.inl e, h⟩
  · rename_i e
    exact ⟨Or.inr ⟨e, h.1⟩, h.2⟩
  · exact h.elim
theorem ov_call_e {Xc X : ov_X} {mo0 mo : Bool} {d a b : Nat} {y : ov_M} {pc : Nat} {ls : List (Option ov_A)} {S : ov_S} {Q : ov_Q} {m : ov_M} {as t : List ov_A} (h : ov_call Xc X mo0 mo d a b y pc ls S Q m as t) : ov_rm m.2.2.2.1 as t = true ∧ 0 < d ∧ ∃ a' b', a' ≤ a ∧ b' ≤ b ∧ Xc mo mo (d - 1) a' b' m 0 (ov_en m.2.2.2.1 as) [] S (fun r S' => X mo0 mo d (a - a') (b - b') y (pc + 3) ls (r.toList ++ t) S' Q) := by
  unfold ov_call at h
  split at h
  · rename_i e
    refine ⟨e, h.1, ?_⟩
    cases mo
    · exact h.2
    · exact ⟨0, 0, by omega, by omega, h.2⟩
  · exact h.elim
theorem ov_swL_e {x : Int32} {k : Int → Prop} {dflt : Int} : ∀ {ps : List (Int × Int)}, ov_swL x k dflt ps → k (Op.lookupswitch.offset ps dflt x.toInt)
  | [], g => g
  | (v, o) :: ps, g => by
    unfold Op.lookupswitch.offset
    by_cases e : x.toInt = v
    · have := g.1 e
      split
      · exact this
      · rename_i h
        exact absurd e (by first | exact fun q => h q.symm | exact h | simpa using h | (intro q; simp [q] at h))
    · have := ov_swL_e (g.2 e)
      split
      · rename_i h
        exact absurd (by first | exact h | exact h.symm | simpa using h | (simp at h; exact h) | (simp at h; exact h.symm)) e
      · exact this
theorem ov_ra_e {m : ov_M} {mo0 mo : Bool} {P : Prop} (h : ov_ra m (ov_ret mo0 mo P)) : (∃ ty, m.2.2.2.2.1 = some ty ∧ ((∃ n, ty = .object n) ∨ ∃ t, ty = .array t)) ∧ mo = mo0 ∧ P := by
  unfold ov_ra at h
  split at h
  · rename_i e
    exact ⟨⟨_, e, Or.inl ⟨_, rfl⟩⟩, ov_ret_e h⟩
  · rename_i e
    exact ⟨⟨_, e, Or.inr ⟨_, rfl⟩⟩, ov_ret_e h⟩
  · exact h.elim
theorem ov_rn_e {m : ov_M} {mo0 mo : Bool} {P : Prop} (h : ov_rn m (ov_ret mo0 mo P)) : m.2.2.2.2.1 = none ∧ mo = mo0 ∧ P := by
  unfold ov_rn at h
  split at h
  · rename_i e
    exact ⟨e, ov_ret_e h⟩
  · exact h.elim
