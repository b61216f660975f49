/-! ===== IMAGE: a world copied ===== -/
def kyg (r : Nat) : Bool := List.elem r [1, 4, 5, 6, 7, 8, 20, 21, 22, 23, 24, 25, 26, 29, 30, 31, 32, 33, 34, 35, 36, 37, 38, 39, 40, 41, 42, 43, 44]
def kyT (a r i : Nat) : Prop := kyg r = true ∧ rl_sh r * a ≤ i ∧ i < rl_sh r * a + rl_sh r
def kys (a b r i : Nat) : Nat := i + rl_sh r * b - rl_sh r * a
theorem ky_R {a b r i s : Nat} (hab : (a = 0 ∧ b = 1) ∨ (a = 1 ∧ b = 0)) (hg : kyg r = true) (hs : rl_sh r = s) (hi : i < s) : kyR (kyT a) (kys a b) r (s * a + i) (s * b + i) := by
  unfold kyR kyT kys
  rw [hs]
  rcases hab with ⟨e1, e2⟩ | ⟨e1, e2⟩ <;> subst e1 <;> subst e2
  · exact ⟨⟨hg, by omega, by omega⟩, by omega, by omega⟩
  · exact ⟨⟨hg, by omega, by omega⟩, by omega, by omega⟩
theorem ky_R1 {a b r : Nat} (hab : (a = 0 ∧ b = 1) ∨ (a = 1 ∧ b = 0)) (hg : kyg r = true) (hs : rl_sh r = 1) : kyR (kyT a) (kys a b) r a b := by
  have h := ky_R (i := 0) hab hg hs (by decide)
  rw [Nat.one_mul, Nat.one_mul, Nat.add_zero, Nat.add_zero] at h
  exact h
theorem ky_nz {x : Int32} (h : x ≠ 0) : (x != 0) = true := bne_iff_ne.2 h
def kyA (a : Nat) (sr : Nat → Nat → Nat) (S0 S : ov_S) (t : Nat) : Prop := kyd sr S0 S 8 (4 * a + t) 4 ∧ (∀ r, 41 ≤ r → r ≤ 44 → ∀ j, j < 30 → kyd sr S0 S r (4 * a + t) j) ∧ (∀ j, j < 3 → kyd sr S0 S 34 (4 * a + t) j) ∧ ∀ j, j < 5 ∨ (7 ≤ j ∧ j < 12) → kyd sr S0 S 6 (4 * a + t) j
def kyB (a : Nat) (sr : Nat → Nat → Nat) (S0 S : ov_S) (p : Nat) : Prop := (∀ j, j < 10 → kyd sr S0 S 35 (12 * a + p) j) ∧ (∀ j, j < 10 → kyd sr S0 S 36 (12 * a + p) j) ∧ (∀ j, j < 10 → kyd sr S0 S 37 (12 * a + p) j) ∧ (∀ j, j < 10 → kyd sr S0 S 38 (12 * a + p) j) ∧ (∀ j, j < 10 → kyd sr S0 S 39 (12 * a + p) j) ∧ (∀ j, j < 3 → kyd sr S0 S 40 (12 * a + p) j) ∧ kyd sr S0 S 7 (12 * a + p) 6 ∧ kyd sr S0 S 7 (12 * a + p) 7
theorem kyA_m {a t : Nat} {sr : Nat → Nat → Nat} {S0 S S' : ov_S} (h : kyA a sr S0 S t) (m : kym sr S0 S S') : kyA a sr S0 S' t := ⟨m _ _ _ h.1, fun r x y j hj => m _ _ _ (h.2.1 r x y j hj), fun j hj => m _ _ _ (h.2.2.1 j hj), fun j hj => m _ _ _ (h.2.2.2 j hj)⟩
theorem kyB_m {a t : Nat} {sr : Nat → Nat → Nat} {S0 S S' : ov_S} (h : kyB a sr S0 S t) (m : kym sr S0 S S') : kyB a sr S0 S' t := ⟨fun j hj => m _ _ _ (h.1 j hj), fun j hj => m _ _ _ (h.2.1 j hj), fun j hj => m _ _ _ (h.2.2.1 j hj), fun j hj => m _ _ _ (h.2.2.2.1 j hj), fun j hj => m _ _ _ (h.2.2.2.2.1 j hj), fun j hj => m _ _ _ (h.2.2.2.2.2.1 j hj), m _ _ _ h.2.2.2.2.2.2.1, m _ _ _ h.2.2.2.2.2.2.2⟩
/-- what a copied world has -/
def kyW (a b : Nat) (S0 S : ov_S) : Prop := kyc (kyT a) S0 S ∧ (∀ t, t < 4 → kyA a (kys a b) S0 S t) ∧ (∀ p, p < 12 → kyB a (kys a b) S0 S p) ∧ (∀ j, j < 10 → kyd (kys a b) S0 S 20 a j) ∧ (∀ j, j < 20 → kyd (kys a b) S0 S 21 a j) ∧ ((∀ j, j < 99 → kyd (kys a b) S0 S 22 a j) ∧ (∀ j, j < 99 → kyd (kys a b) S0 S 23 a j) ∧ (∀ j, j < 99 → kyd (kys a b) S0 S 24 a j) ∧ (∀ j, j < 99 → kyd (kys a b) S0 S 25 a j) ∧ (∀ j, j < 99 → kyd (kys a b) S0 S 26 a j) ∧ kyd (kys a b) S0 S 4 a 5) ∧ ((∀ j, j < 108 → kyd (kys a b) S0 S 29 a j) ∧ (∀ j, j < 9 → kyd (kys a b) S0 S 30 a j) ∧ (∀ j, j < 9 → kyd (kys a b) S0 S 31 a j) ∧ (∀ j, j < 9 → kyd (kys a b) S0 S 32 a j) ∧ (∀ j, j < 4 → kyd (kys a b) S0 S 33 a j) ∧ kyd (kys a b) S0 S 5 a 4) ∧ (kyd (kys a b) S0 S 1 a 2 ∧ kyd (kys a b) S0 S 1 a 7 ∧ kyd (kys a b) S0 S 1 a 8 ∧ kyd (kys a b) S0 S 1 a 9 ∧ kyd (kys a b) S0 S 1 a 10)
/-- the end of it -/
theorem ky_w30 {a b d : Nat} {S0 S : ov_S} {Q : ov_Q} (hd : 3 ≤ d) (hab : (a = 0 ∧ b = 1) ∨ (a = 1 ∧ b = 0)) (h : kyc (kyT a) S0 S) (hA : ∀ t, t < 4 → kyA a (kys a b) S0 S t) (hB : ∀ p, p < 12 → kyB a (kys a b) S0 S p) (hQ : ∀ S', kyW a b S0 S' → Q none S') : ov_V true true d 0 0 mq_World_copyFrom 30 [some (.inr (.inr (true, 1, a))), some (.inr (.inr (true, 1, b))), some (.inl (nI 12))] [] S Q := by
  refine r_World_copyFrom_30 (by omega) ⟨fun _ => ?_, fun n => absurd (nI_le (a := 12) (b := 12) (by omega) (by decide)) n⟩
  show ov_V true true ((d - 1)) 0 0 mq_Book_copyFrom 0 [some (.inr (.inr (true, 4, a))), some (.inr (.inr (true, 4, b)))] [] (kyr (kyf S 1 a b 2) 20 a b 10) _
  have n10 : ov_ix (10 : Int32) = 10 := zz_ix (n := 10) (by decide)
  have n20 : ov_ix (20 : Int32) = 20 := zz_ix (n := 20) (by decide)
  have g1 := ky_R1 (r := 1) hab rfl rfl
  have g20 := ky_R1 (r := 20) hab rfl rfl
  have g21 := ky_R1 (r := 21) hab rfl rfl
  obtain ⟨a0, b0, c0⟩ := ky_f (j := 2) h g1.1 g1.2.1 g1.2.2
  obtain ⟨a1, b1, c1⟩ := ky_r n10 a0 g20.1 g20.2.1 g20.2.2
  refine ky_book (by omega) a1 (ky_R1 hab rfl rfl) (ky_R1 hab rfl rfl) (ky_R1 hab rfl rfl) (ky_R1 hab rfl rfl) (ky_R1 hab rfl rfl) (ky_R1 hab rfl rfl) (fun S1 k1 m1 x1 x2 x3 x4 x5 x6 => r_World_copyFrom_91 (by omega) ?_)
  refine ky_tables (by omega) k1 (ky_R1 hab rfl rfl) (ky_R1 hab rfl rfl) (ky_R1 hab rfl rfl) (ky_R1 hab rfl rfl) (ky_R1 hab rfl rfl) (ky_R1 hab rfl rfl) (fun S2 k2 m2 y1 y2 y3 y4 y5 y6 => r_World_copyFrom_102 (by omega) ?_)
  show Q none (kyf (kyf (kyf (kyf (kyr S2 21 a b 20) 1 a b 7) 1 a b 8) 1 a b 9) 1 a b 10)
  obtain ⟨a2, b2, c2⟩ := ky_r n20 k2 g21.1 g21.2.1 g21.2.2
  obtain ⟨a3, b3, c3⟩ := ky_f (j := 7) a2 g1.1 g1.2.1 g1.2.2
  obtain ⟨a4, b4, c4⟩ := ky_f (j := 8) a3 g1.1 g1.2.1 g1.2.2
  obtain ⟨a5, b5, c5⟩ := ky_f (j := 9) a4 g1.1 g1.2.1 g1.2.2
  obtain ⟨a6, b6, c6⟩ := ky_f (j := 10) a5 g1.1 g1.2.1 g1.2.2
  have e3 := kym_t c3 (kym_t c4 (kym_t c5 c6))
  have e2 := kym_t c2 e3
  have e1 := kym_t m2 e2
  have e0 := kym_t m1 e1
  have eS := kym_t c0 (kym_t c1 e0)
  exact hQ _ ⟨a6, fun t ht => kyA_m (hA t ht) eS, fun p hp => kyB_m (hB p hp) eS, fun j hj => e0 _ _ _ (b1 j hj), fun j hj => e3 _ _ _ (b2 j hj), ⟨fun j hj => e1 _ _ _ (x1 j hj), fun j hj => e1 _ _ _ (x2 j hj), fun j hj => e1 _ _ _ (x3 j hj), fun j hj => e1 _ _ _ (x4 j hj), fun j hj => e1 _ _ _ (x5 j hj), e1 _ _ _ x6⟩, ⟨fun j hj => e2 _ _ _ (y1 j hj), fun j hj => e2 _ _ _ (y2 j hj), fun j hj => e2 _ _ _ (y3 j hj), fun j hj => e2 _ _ _ (y4 j hj), fun j hj => e2 _ _ _ (y5 j hj), e2 _ _ _ y6⟩, e0 _ _ _ (c1 _ _ _ b0), c6 _ _ _ (c5 _ _ _ (c4 _ _ _ b3)), c6 _ _ _ (c5 _ _ _ b4), c6 _ _ _ b5, b6⟩
theorem ky_wp {a b d : Nat} {S0 : ov_S} {Q : ov_Q} (hd : 3 ≤ d) (hab : (a = 0 ∧ b = 1) ∨ (a = 1 ∧ b = 0)) (h3a : ∀ j, j < 12 → S0.1 3 a j ≠ 0) (h3b : ∀ j, j < 12 → S0.1 3 b j ≠ 0) (hQ : ∀ S', kyW a b S0 S' → Q none S') : ∀ m p S, p + m = 12 → kyc (kyT a) S0 S → (∀ t, t < 4 → kyA a (kys a b) S0 S t) → (∀ p', p' < p → kyB a (kys a b) S0 S p') → ov_V true true d 0 0 mq_World_copyFrom 30 [some (.inr (.inr (true, 1, a))), some (.inr (.inr (true, 1, b))), some (.inl (nI p))] [] S Q := by
  intro m
  induction m with
  | zero =>
    intro p S hp h hA hB
    have e : p = 12 := hp
    subst e
    exact ky_w30 hd hab h hA hB hQ
  | succ m ih =>
    intro p S hp h hA hB
    refine r_World_copyFrom_30 (by omega) ⟨fun y => absurd y (nI_ge (b := 12) (by omega) (by decide)), fun _ => ⟨zz_ib (by omega) (by decide), ?_⟩⟩
    rw [zz_ix (by omega), show (ov_g S 3 a p != 0) = true from ky_nz (by rw [show ov_g S 3 a p = S0.1 3 a p from h.2 3 a p (fun q => absurd q.1 (by decide))]; exact h3a p (by omega))]
    refine r_World_copyFrom_42 ⟨zz_ib (by omega) (by decide), ?_⟩
    rw [zz_ix (by omega), show (ov_g S 3 b p != 0) = true from ky_nz (by rw [show ov_g S 3 b p = S0.1 3 b p from h.2 3 b p (fun q => absurd q.1 (by decide))]; exact h3b p (by omega))]
    refine r_World_copyFrom_48 (by omega) (ky_person (by omega) h (ky_R hab rfl rfl (by omega)) (ky_R hab rfl rfl (by omega)) (ky_R hab rfl rfl (by omega)) (ky_R hab rfl rfl (by omega)) (ky_R hab rfl rfl (by omega)) (ky_R hab rfl rfl (by omega)) (ky_R hab rfl rfl (by omega)) (fun S1 k1 m1 x1 x2 x3 x4 x5 x6 x7 x8 => r_World_copyFrom_51 ?_))
    rw [nI_1]
    refine ih (p + 1) S1 (by omega) k1 (fun t ht => kyA_m (hA t ht) m1) (fun p' hp' => ?_)
    by_cases q : p' = p
    · subst q
      exact ⟨x1, x2, x3, x4, x5, x6, x7, x8⟩
    · exact kyB_m (hB p' (by omega)) m1
theorem ky_wt {a b d : Nat} {S0 : ov_S} {Q : ov_Q} (hd : 3 ≤ d) (hab : (a = 0 ∧ b = 1) ∨ (a = 1 ∧ b = 0)) (h2a : ∀ j, j < 4 → S0.1 2 a j ≠ 0) (h2b : ∀ j, j < 4 → S0.1 2 b j ≠ 0) (h3a : ∀ j, j < 12 → S0.1 3 a j ≠ 0) (h3b : ∀ j, j < 12 → S0.1 3 b j ≠ 0) (hQ : ∀ S', kyW a b S0 S' → Q none S') : ∀ m t S, t + m = 4 → kyc (kyT a) S0 S → (∀ t', t' < t → kyA a (kys a b) S0 S t') → ov_V true true d 0 0 mq_World_copyFrom 2 [some (.inr (.inr (true, 1, a))), some (.inr (.inr (true, 1, b))), some (.inl (nI t))] [] S Q := by
  intro m
  induction m with
  | zero =>
    intro t S ht h hA
    have e : t = 4 := ht
    subst e
    exact r_World_copyFrom_2 ⟨fun _ => ky_wp hd hab h3a h3b hQ 12 0 S rfl h hA (fun p' hp' => absurd hp' (by omega)), fun n => absurd (nI_le (a := 4) (b := 4) (by omega) (by decide)) n⟩
  | succ m ih =>
    intro t S ht h hA
    refine r_World_copyFrom_2 ⟨fun y => absurd y (nI_ge (b := 4) (by omega) (by decide)), fun _ => ⟨zz_ib (by omega) (by decide), ?_⟩⟩
    rw [zz_ix (by omega), show (ov_g S 2 a t != 0) = true from ky_nz (by rw [show ov_g S 2 a t = S0.1 2 a t from h.2 2 a t (fun q => absurd q.1 (by decide))]; exact h2a t (by omega))]
    refine r_World_copyFrom_13 ⟨zz_ib (by omega) (by decide), ?_⟩
    rw [zz_ix (by omega), show (ov_g S 2 b t != 0) = true from ky_nz (by rw [show ov_g S 2 b t = S0.1 2 b t from h.2 2 b t (fun q => absurd q.1 (by decide))]; exact h2b t (by omega))]
    have g41 : ∀ r, 41 ≤ r → r ≤ 44 → kyR (kyT a) (kys a b) r (4 * a + t) (4 * b + t) := by
      intro r x y
      have hr : r = 41 ∨ r = 42 ∨ r = 43 ∨ r = 44 := by omega
      rcases hr with e | e | e | e <;> subst e <;> exact ky_R hab rfl rfl (by omega)
    refine r_World_copyFrom_19 (by omega) (ky_three (by omega) h (ky_R hab rfl rfl (by omega)) (ky_R hab rfl rfl (by omega)) (ky_R hab rfl rfl (by omega)) g41 (fun S1 k1 m1 x1 x2 x3 x4 => r_World_copyFrom_22 ?_))
    rw [nI_1]
    refine ih (t + 1) S1 (by omega) k1 (fun t' ht' => ?_)
    by_cases q : t' = t
    · subst q
      exact ⟨x1, x2, x3, x4⟩
    · exact kyA_m (hA t' (by omega)) m1
/-- a world copied from the other -/
theorem ky_world {a b d : Nat} {S : ov_S} {Q : ov_Q} (hd : 3 ≤ d) (hab : (a = 0 ∧ b = 1) ∨ (a = 1 ∧ b = 0)) (h2a : ∀ j, j < 4 → S.1 2 a j ≠ 0) (h2b : ∀ j, j < 4 → S.1 2 b j ≠ 0) (h3a : ∀ j, j < 12 → S.1 3 a j ≠ 0) (h3b : ∀ j, j < 12 → S.1 3 b j ≠ 0) (hQ : ∀ S', kyW a b S S' → Q none S') : ov_V true true d 0 0 mq_World_copyFrom 0 [some (.inr (.inr (true, 1, a))), some (.inr (.inr (true, 1, b))), none] [] S Q :=
  r_World_copyFrom_0 (ky_wt hd hab h2a h2b h3a h3b hQ 4 0 S rfl ⟨rfl, fun _ _ _ _ => rfl⟩ (fun t' ht' => absurd ht' (by omega)))
