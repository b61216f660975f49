/-! ===== sets as numbers ===== -/
theorem zz_or (a b : Nat) : nI a ||| nI b = nI (a ||| b) := by
  apply Int32.toBitVec_inj.mp
  rw [Int32.toBitVec_or]
  exact BitVec.ofNat_or.symm
theorem zz_and (a b : Nat) : nI a &&& nI b = nI (a &&& b) := by
  apply Int32.toBitVec_inj.mp
  rw [Int32.toBitVec_and]
  exact BitVec.ofNat_and.symm
theorem zz_xor (a b : Nat) : nI a ^^^ nI b = nI (a ^^^ b) := by
  apply Int32.toBitVec_inj.mp
  rw [Int32.toBitVec_xor]
  exact BitVec.ofNat_xor.symm
theorem zz_shl {t : Nat} (ht : t < 32) : (1 : Int32) <<< (nI t &&& 31) = nI (2 ^ t) := by
  rw [(zz_sh t ht).1]
  have h : (nI 1 <<< nI t : Int32) = nI (1 * 2 ^ t) := pk_shlN _ t (zz_sh t ht).2 (by rw [Nat.one_mul]; exact Nat.pow_lt_pow_of_lt (by decide) ht)
  rw [Nat.one_mul] at h
  exact h
theorem zz_wbo {b t : Nat} (ht : t < 32) : ov_wb (nI b) (nI t) 1 = nI (b ||| 2 ^ t) := by
  unfold ov_wb
  rw [if_neg (by decide), zz_shl ht, zz_or]
theorem zz_n0 {a : Nat} (h : a < 2 ^ 32) : nI a = 0 ↔ a = 0 := by
  constructor
  · intro e
    have h1 := pk_tn h
    rw [e] at h1
    exact h1.symm
  · intro e
    rw [e]
    rfl
/-- all of the one are in the other -/
def sb (a b : Nat) : Prop := ∀ k, a.testBit k = true → b.testBit k = true
theorem sb_r (a : Nat) : sb a a := fun _ h => h
theorem sb_t {a b c : Nat} (h : sb a b) (k : sb b c) : sb a c := fun i q => k i (h i q)
theorem sb_not {a b : Nat} (ha : a < 2 ^ 31) : (nI a &&& (nI b ^^^ (-1))) = 0 ↔ sb a b := by
  have e1 : (-1 : Int32) = nI (2 ^ 32 - 1) := by decide
  have hl : a &&& (b ^^^ (2 ^ 32 - 1)) ≤ a := Nat.and_le_left
  rw [e1, zz_xor, zz_and, zz_n0 (by omega)]
  constructor
  · intro h k hk
    have hk32 : k < 32 := by
      apply Classical.byContradiction
      intro hn
      have : a < 2 ^ k := Nat.lt_of_lt_of_le ha (Nat.pow_le_pow_right (by decide) (by omega))
      rw [Nat.testBit_lt_two_pow this] at hk
      cases hk
    have h2 : (a &&& (b ^^^ (2 ^ 32 - 1))).testBit k = false := by rw [h]; exact Nat.zero_testBit k
    rw [Nat.testBit_and, Nat.testBit_xor, Nat.testBit_two_pow_sub_one, hk, decide_eq_true hk32] at h2
    cases hb : b.testBit k
    · rw [hb] at h2; cases h2
    · rfl
  · intro h
    apply Nat.eq_of_testBit_eq
    intro k
    rw [Nat.zero_testBit, Nat.testBit_and, Nat.testBit_xor, Nat.testBit_two_pow_sub_one]
    cases ha2 : a.testBit k
    · rfl
    · have hk32 : k < 32 := by
        apply Classical.byContradiction
        intro hn
        have : a < 2 ^ k := Nat.lt_of_lt_of_le ha (Nat.pow_le_pow_right (by decide) (by omega))
        rw [Nat.testBit_lt_two_pow this] at ha2
        cases ha2
      rw [h k ha2, decide_eq_true hk32]
      rfl
/-- how many -/
def lpj (n : Nat) : Nat → Nat
  | 0 => 0
  | j + 1 => lpj n j + (if n.testBit j then 1 else 0)
def lp (n : Nat) : Nat := lpj n 12
theorem lpj_mono {a b : Nat} (h : sb a b) : ∀ j, lpj a j ≤ lpj b j ∧ (lpj a j = lpj b j → ∀ k, k < j → b.testBit k = true → a.testBit k = true)
  | 0 => ⟨Nat.le_refl _, fun _ k hk => absurd hk (by omega)⟩
  | j + 1 => by
    obtain ⟨h1, h2⟩ := lpj_mono h j
    show lpj a j + (if a.testBit j then 1 else 0) ≤ lpj b j + (if b.testBit j then 1 else 0) ∧ (lpj a j + (if a.testBit j then 1 else 0) = lpj b j + (if b.testBit j then 1 else 0) → _)
    by_cases ha : a.testBit j = true
    · have hb := h j ha
      rw [if_pos ha, if_pos hb]
      refine ⟨by omega, fun e k hk hk2 => ?_⟩
      by_cases ek : k = j
      · rw [ek]; exact ha
      · exact h2 (by omega) k (by omega) hk2
    · rw [if_neg ha]
      by_cases hb : b.testBit j = true
      · rw [if_pos hb]
        exact ⟨by omega, fun e => absurd e (by omega)⟩
      · rw [if_neg hb]
        refine ⟨by omega, fun e k hk hk2 => ?_⟩
        by_cases ek : k = j
        · rw [ek] at hk2; exact absurd hk2 hb
        · exact h2 (by omega) k (by omega) hk2
theorem lp_le {a b : Nat} (h : sb a b) : lp a ≤ lp b := (lpj_mono h 12).1
theorem lp_eq {a b : Nat} (h : sb a b) (hb : b < 4096) (e : lp a = lp b) : a = b := by
  apply Nat.eq_of_testBit_eq
  intro k
  by_cases hk : k < 12
  · have h2 := (lpj_mono h 12).2 e k hk
    cases ha : a.testBit k
    · cases hb2 : b.testBit k
      · rfl
      · rw [h2 hb2] at ha; cases ha
    · rw [h k ha]
  · have h1 : b.testBit k = false := by
      have h12 : 2 ^ 12 ≤ 2 ^ k := Nat.pow_le_pow_right (by decide) (by omega)
      exact Nat.testBit_lt_two_pow (Nat.lt_of_lt_of_le hb h12)
    cases ha : a.testBit k
    · rw [h1]
    · rw [h k ha] at h1; cases h1
set_option maxRecDepth 100000 in
theorem lp_pop : ∀ n : Nat, n < 4096 → ov_pop (nI n) = nI (lp n) := by decide +kernel
set_option maxRecDepth 100000 in
theorem lp_dec : ∀ n : Nat, n < 4096 → n = 0 ∨ ((n &&& (n - 1)) < n ∧ lp (n &&& (n - 1)) + 1 = lp n) := by decide +kernel
theorem lp_12 (n : Nat) : lp n ≤ 12 := by
  have : ∀ j, lpj n j ≤ j := by
    intro j
    induction j with
    | zero => exact Nat.le_refl _
    | succ j ih =>
      show lpj n j + (if n.testBit j then 1 else 0) ≤ j + 1
      split <;> omega
  exact this 12
theorem ones_M {d : Nat} {S : ov_S} {Q : ov_Q} {n : Nat} (hn : n < 4096) (h : Q (some (.inl (nI (lp n)))) S) : ov_V true true d 0 0 mq_Mod_ones 0 [some (.inr (.inr (true, 14, 0))), some (.inl (nI n)), none, none] [] S Q := by
  have loop : ∀ (m k : Nat), m < 4096 → k + lp m = lp n → ov_V true true d 0 0 mq_Mod_ones 4 [none, none, some (.inl (nI k)), some (.inl (nI m))] [] S Q := by
    intro m
    induction m using Nat.strongRecOn with
    | ind m ih =>
      intro k hm hk
      refine r_Mod_ones_4 ⟨fun q => ?_, fun q => ?_⟩
      · have : m = 0 := (zz_n0 (by omega)).1 q
        subst this
        have h0 : lp 0 = 0 := rfl
        have : k = lp n := by omega
        rw [this]
        exact h
      · have hm0 : m ≠ 0 := fun e => q (by rw [e]; rfl)
        rcases lp_dec m hm with e | ⟨e1, e2⟩
        · exact absurd e hm0
        · have e3 : (nI m - 1 : Int32) = nI (m - 1) := pk_sub (b := 1) (by omega)
          rw [nI_1, e3, zz_and]
          exact ih _ e1 (k + 1) (by omega) (by omega)
  exact r_Mod_ones_0 (loop n 0 hn (by omega))
