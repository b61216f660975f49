/-! ===== LIARS ===== -/
def lw (S : ov_S) (i : Nat) : Nat := ov_ix (S.1 74 0 i)
def lf (S : ov_S) (i : Nat) : Nat := ov_ix (S.1 75 0 i)
/-- without these all goes together -/
def la (S : ov_S) (lb set : Nat) : Prop := ∀ i j, i < lb → j < lb → lf S i = lf S j → S.1 76 0 i = 1 → ¬ S.1 76 0 j = 1 → set.testBit (lw S i) = true ∨ set.testBit (lw S j) = true
theorem la_sc {S S' : ov_S} (h : sc S S') : lw S' = lw S ∧ lf S' = lf S ∧ ∀ i, S'.1 76 0 i = S.1 76 0 i := by
  refine ⟨?_, ?_, fun i => h.2 76 0 i rfl⟩
  · funext i; unfold lw; rw [h.2 74 0 i rfl]
  · funext i; unfold lf; rw [h.2 75 0 i rfl]
theorem la_ln {c mm lb nz wc : Nat} {S : ov_S} (hw : rl_w c mm lb nz wc S.1 S.1) {i : Nat} (hi : i < lb) : S.1 74 0 i = nI (lw S i) ∧ lw S i < 3 * c ∧ S.1 75 0 i = nI (lf S i) ∧ lf S i < 10 := by
  have hc := hw.1.1
  obtain ⟨⟨p, hp, ep⟩, ⟨f, hf, ef⟩, _⟩ := hw.2.2.2.2.2.2.2.2.2.2.2.2.2.2.2.2.2.2.2.2.1 i hi
  have h1 : lw S i = p := by unfold lw; rw [ep]; exact zz_ix (by omega)
  have h2 : lf S i = f := by unfold lf; rw [ef]; exact zz_ix (by omega)
  rw [h1, h2]
  exact ⟨ep, hp, ef, hf⟩
/-- the best so far -/
def lB (A : Nat → Prop) (U s b : Nat) : Prop := sb b U ∧ A b ∧ (b = U ∨ b < s) ∧ ∀ s', s' < s → sb s' U → A s' → lp b < lp s' ∨ (lp b = lp s' ∧ b ≤ s')
theorem lB_no {A : Nat → Prop} {U s b : Nat} (hU : U < 4096) (h : lB A U s b) (hn : sb s U → lp s < lp b → A s → False) : lB A U (s + 1) b := by
  obtain ⟨h1, h2, h3, h4⟩ := h
  refine ⟨h1, h2, h3.elim .inl (fun q => .inr (by omega)), fun s' hs hsb hA => ?_⟩
  by_cases e : s' = s
  · subst e
    have hle : lp b ≤ lp s' := Nat.le_of_not_lt (fun q => hn hsb q hA)
    rcases Nat.lt_or_ge (lp b) (lp s') with q | q
    · exact .inl q
    · refine .inr ⟨by omega, ?_⟩
      rcases h3 with e | e
      · have : s' = U := lp_eq hsb hU (by rw [← e]; omega)
        omega
      · omega
  · exact h4 s' (by omega) hsb hA
theorem lB_yes {A : Nat → Prop} {U s b : Nat} (h : lB A U s b) (h1 : sb s U) (h2 : lp s < lp b) (h3 : A s) : lB A U (s + 1) s := by
  obtain ⟨g1, g2, g3, g4⟩ := h
  refine ⟨h1, h3, .inr (by omega), fun s' hs hsb hA => ?_⟩
  by_cases e : s' = s
  · subst e; exact .inr ⟨rfl, Nat.le_refl _⟩
  · have := g4 s' (by omega) hsb hA
    exact .inl (by omega)
theorem lB_same {A : Nat → Prop} {U U' N N' b b' : Nat} (hA : ∀ s, A s → A (s &&& U)) (hUU : sb U U') (hU' : U' < 4096) (hN : U < N) (hN' : U' < N') (h : lB A U N b) (h' : lB A U' N' b') : b = b' := by
  have hlt : ∀ a b : Nat, sb a b → a ≤ b := fun a b q => by
    have : a &&& b = a := by
      apply Nat.eq_of_testBit_eq
      intro k
      rw [Nat.testBit_and]
      cases ha : a.testBit k
      · rfl
      · rw [q k ha]; rfl
    rw [← this]
    exact Nat.and_le_right
  obtain ⟨g1, g2, g3, g4⟩ := h
  obtain ⟨k1, k2, k3, k4⟩ := h'
  have hb1 := hlt _ _ g1
  have hb2 := hlt _ _ k1
  have hbU := hlt _ _ hUU
  have s1 : sb (b' &&& U) b' := fun i q => by
    rw [Nat.testBit_and] at q
    exact (Bool.and_eq_true_iff.mp q).1
  have s2 : sb (b' &&& U) U := fun i q => by
    rw [Nat.testBit_and] at q
    exact (Bool.and_eq_true_iff.mp q).2
  have t1 := k4 (b' &&& U) (by have := hlt _ _ s1; omega) (sb_t s1 k1) (hA _ k2)
  have t2 := lp_le s1
  have e1 : b' &&& U = b' := lp_eq s1 (by omega) (by omega)
  have s3 : sb b' U := by rw [← e1]; exact s2
  have t3 := g4 b' (by have := hlt _ _ s3; omega) s3 k2
  have t4 := k4 b (by omega) (sb_t g1 hUU) g2
  omega
/-! the reference -/
def lg1 (S : ov_S) (set i : Nat) (so : Bool) (a : Nat) : Prop := a < 1024 ∧ ∀ f, a.testBit f = true ↔ ∃ i', i' < i ∧ ¬ set.testBit (lw S i') = true ∧ (S.1 76 0 i' = 1 ↔ so = true) ∧ lf S i' = f
theorem lg1_keep {S : ov_S} {set i : Nat} {so : Bool} {a : Nat} (h : lg1 S set i so a) (hn : ¬ (¬ set.testBit (lw S i) = true ∧ (S.1 76 0 i = 1 ↔ so = true))) : lg1 S set (i + 1) so a := by
  refine ⟨h.1, fun f => ?_⟩
  rw [h.2 f]
  constructor
  · rintro ⟨i', h1, h2⟩
    exact ⟨i', by omega, h2⟩
  · rintro ⟨i', h1, h2, h3, h4⟩
    by_cases e : i' = i
    · subst e; exact absurd ⟨h2, h3⟩ hn
    · exact ⟨i', by omega, h2, h3, h4⟩
theorem lg1_add {S : ov_S} {set i : Nat} {so : Bool} {a : Nat} (h : lg1 S set i so a) (hf : lf S i < 10) (h1 : ¬ set.testBit (lw S i) = true) (h2 : S.1 76 0 i = 1 ↔ so = true) : lg1 S set (i + 1) so (a ||| 2 ^ lf S i) := by
  refine ⟨Nat.or_lt_two_pow (n := 10) h.1 (Nat.pow_lt_pow_of_lt (by decide) hf), fun f => ?_⟩
  rw [Nat.testBit_or, Bool.or_eq_true, Nat.testBit_two_pow, decide_eq_true_iff, h.2 f]
  constructor
  · rintro (⟨i', k1, k2⟩ | e)
    · exact ⟨i', by omega, k2⟩
    · exact ⟨i, by omega, h1, h2, e⟩
  · rintro ⟨i', k1, k2, k3, k4⟩
    by_cases e : i' = i
    · subst e; exact .inr k4
    · exact .inl ⟨i', by omega, k2, k3, k4⟩
theorem lg_M {d c mm lb nz wc : Nat} {S : ov_S} {Q : ov_Q} {set : Nat} (hw : rl_w c mm lb nz wc S.1 S.1) (hs : set < 4096) (h1 : la S lb set → Q (some (.inl 1)) S) (h0 : ¬ la S lb set → Q (some (.inl 0)) S) : ov_V true true d 0 0 mq_Mod_goTogether 0 [some (.inr (.inr (true, 14, 0))), some (.inl (nI set)), none, none, none] [] S Q := by
  have hc := hw.1.1
  have g19 := hw.2.2.2.2.2.2.2.2.2.2.2.2.2.2.2.2.2.2.1
  have loop : ∀ (j i a b : Nat), i + j = lb → lg1 S set i true a → lg1 S set i false b → ov_V true true d 0 0 mq_Mod_goTogether 7 [some (.inr (.inr (true, 14, 0))), some (.inl (nI set)), some (.inl (nI a)), some (.inl (nI b)), some (.inl (nI i))] [] S Q := by
    intro j
    induction j with
    | zero =>
      intro i a b hi ha hb
      have e : i = lb := by omega
      subst e
      refine r_Mod_goTogether_7 ?_
      rw [show ov_g S 14 0 22 = nI i from g19.2.2, zz_and, zz_n0 (by have : a &&& b ≤ a := Nat.and_le_left; have := ha.1; omega)]
      refine ⟨fun _ => ⟨fun n => h0 ?_, fun yz => h1 ?_⟩, fun q => absurd (nI_le (Nat.le_refl _) (by omega)) q⟩
      · intro hl
        apply n
        apply Nat.eq_of_testBit_eq
        intro f
        rw [Nat.zero_testBit, Nat.testBit_and]
        cases h2 : a.testBit f
        · rfl
        · cases h3 : b.testBit f
          · rfl
          · obtain ⟨x, x1, x2, x3, x4⟩ := (ha.2 f).1 h2
            obtain ⟨y, y1, y2, y3, y4⟩ := (hb.2 f).1 h3
            rcases hl x y x1 y1 (x4.trans y4.symm) (x3.2 rfl) (fun q => by have := y3.1 q; cases this) with q | q
            · exact absurd q x2
            · exact absurd q y2
      · intro x y hx hy hf hx1 hy1
        apply Classical.byContradiction
        intro hn
        have h2 : a.testBit (lf S x) = true := (ha.2 _).2 ⟨x, hx, fun q => hn (.inl q), ⟨fun _ => rfl, fun _ => hx1⟩, rfl⟩
        have h3 : b.testBit (lf S x) = true := (hb.2 _).2 ⟨y, hy, fun q => hn (.inr q), ⟨fun q => absurd q hy1, fun q => by cases q⟩, hf.symm⟩
        have h4 : (a &&& b).testBit (lf S x) = true := by rw [Nat.testBit_and, h2, h3]; rfl
        rw [yz, Nat.zero_testBit] at h4
        cases h4
    | succ j ih =>
      intro i a b hi ha hb
      obtain ⟨e1, l1, e2, l2⟩ := la_ln hw (i := i) (by omega)
      have ib : ov_ib (nI i) 99 := zz_ib (by omega) (by decide)
      refine r_Mod_goTogether_7 ?_
      rw [show ov_g S 14 0 22 = nI lb from g19.2.2, zz_ix (n := i) (by omega), show ov_g S 74 0 i = nI (lw S i) from e1, show ov_g S 75 0 i = nI (lf S i) from e2, zz_bitN (by omega) (by omega), zz_shl (by omega), zz_or, zz_or]
      have htb : set.testBit (lw S i) = true ↔ nI (set / 2 ^ lw S i % 2) = 1 := by
        rw [Nat.testBit_eq_decide_div_mod_eq]
        have h2 : set / 2 ^ lw S i % 2 < 2 := Nat.mod_lt _ (by decide)
        constructor
        · intro z
          have : set / 2 ^ lw S i % 2 = 1 := by simpa using z
          rw [this]; rfl
        · intro z
          have := zz_inj (b := 1) (by omega) (by decide) z
          simpa using this
      refine ⟨fun q => absurd q (nI_ge (by omega) (by omega)), fun _ => ⟨ib, fun n => ⟨ib, fun ns => ⟨ib, r_Mod_goTogether_72 ?_⟩, fun ys => ⟨ib, r_Mod_goTogether_72 ?_⟩⟩, fun y => r_Mod_goTogether_72 ?_⟩⟩
      · have hn := fun z => n (htb.1 z)
        rw [nI_1]
        exact ih (i + 1) _ _ (by omega) (lg1_keep ha (fun z => ns (z.2.2 rfl))) (lg1_add hb l2 hn ⟨fun q => absurd q ns, fun q => by cases q⟩)
      · have hn := fun z => n (htb.1 z)
        rw [nI_1]
        exact ih (i + 1) _ _ (by omega) (lg1_add ha l2 hn ⟨fun _ => rfl, fun _ => ys⟩) (lg1_keep hb (fun z => by have := z.2.1 ys; cases this))
      · rw [nI_1]
        exact ih (i + 1) _ _ (by omega) (lg1_keep ha (fun z => z.1 (htb.2 y))) (lg1_keep hb (fun z => z.1 (htb.2 y)))
  have z0 : ∀ so, lg1 S set 0 so 0 := fun so => ⟨by decide, fun f => ⟨fun q => (by rw [Nat.zero_testBit] at q; cases q), fun ⟨i', q, _⟩ => absurd q (by omega)⟩⟩
  exact r_Mod_goTogether_0 (loop lb 0 0 0 (by omega) (z0 true) (z0 false))
theorem li_2c : ∀ c : Nat, c < 5 → (1 : Int32) <<< ((3 * nI c) &&& 31) = nI (2 ^ (3 * c)) ∧ (nI (2 ^ (3 * c)) - 1 : Int32) = nI (2 ^ (3 * c) - 1) ∧ 2 ^ (3 * c) ≤ 4096 ∧ 0 < 2 ^ (3 * c) := by decide +kernel
theorem li_sb {n s : Nat} (h : s < 2 ^ n) : sb s (2 ^ n - 1) := fun k hk => by
  rw [Nat.testBit_two_pow_sub_one]
  apply decide_eq_true
  apply Classical.byContradiction
  intro hn
  have : s < 2 ^ k := Nat.lt_of_lt_of_le h (Nat.pow_le_pow_right (by decide) (by omega))
  rw [Nat.testBit_lt_two_pow this] at hk
  cases hk
theorem li_M {d c mm lb nz wc : Nat} {S : ov_S} {Q : ov_Q} (hd : 3 ≤ d) (hw : rl_w c mm lb nz wc S.1 S.1) (h : ∀ b, lB (la S lb) (2 ^ (3 * c) - 1) (2 ^ (3 * c)) b → b < 4096 → Q (some (.inl (nI b))) (ov_w S 14 0 0 0)) : ov_V true true d 0 0 mq_Mod_liars 0 [some (.inr (.inr (true, 14, 0))), none, none] [] S Q := by
  have hc := hw.1.1
  obtain ⟨p1, p2, p3, p4⟩ := li_2c c (by omega)
  have hw0 : rl_w c mm lb nz wc (ov_w S 14 0 0 0).1 (ov_w S 14 0 0 0).1 := rl_told hw
  have hla : ∀ s, la (ov_w S 14 0 0 0) lb s ↔ la S lb s := fun s => Iff.rfl
  refine r_Mod_liars_0 ?_
  rw [show ov_g (ov_w S 14 0 0 0) 14 0 2 = nI c from hw.1.2.2, p1, p2]
  have loop : ∀ (j s b : Nat), s + j = 2 ^ (3 * c) → b < 4096 → lB (la S lb) (2 ^ (3 * c) - 1) s b → ov_V true true d 0 0 mq_Mod_liars 18 [some (.inr (.inr (true, 14, 0))), some (.inl (nI b)), some (.inl (nI s))] [] (ov_w S 14 0 0 0) Q := by
    intro j
    induction j with
    | zero =>
      intro s b hs hb hB
      have e : s = 2 ^ (3 * c) := by omega
      subst e
      refine r_Mod_liars_18 (by omega) ?_
      rw [show ov_g (ov_w S 14 0 0 0) 14 0 2 = nI c from hw.1.2.2, p1]
      exact ⟨fun _ => h b hB hb, fun q => absurd (nI_le (Nat.le_refl _) (by omega)) q⟩
    | succ j ih =>
      intro s b hs hb hB
      have hs2 : s < 2 ^ (3 * c) := by omega
      refine r_Mod_liars_18 (by omega) ?_
      rw [show ov_g (ov_w S 14 0 0 0) 14 0 2 = nI c from hw.1.2.2, p1]
      refine ⟨fun q => absurd q (nI_ge hs2 (by omega)), fun _ => ones_M (by omega) (r_Mod_liars_35 (by omega) (ones_M hb (r_Mod_liars_40 (by omega) ⟨fun q => r_Mod_liars_53 ?_, fun q => lg_M hw0 (by omega) (fun y => r_Mod_liars_48 ⟨fun z => absurd z (by decide), fun _ => r_Mod_liars_53 ?_⟩) (fun n => r_Mod_liars_48 ⟨fun _ => r_Mod_liars_53 ?_, fun z => absurd rfl z⟩)⟩)))⟩
      · have hle : lp b ≤ lp s := (nI_leI (by have := lp_12 b; omega) (by have := lp_12 s; omega)).1 q
        rw [nI_1]
        exact ih (s + 1) b (by omega) hb (lB_no (by omega) hB (fun _ z _ => by omega))
      · have hlt : lp s < lp b := Nat.lt_of_not_le (fun z => q (nI_le z (by have := lp_12 s; omega)))
        rw [nI_1]
        exact ih (s + 1) s (by omega) (by omega) (lB_yes hB (li_sb hs2) hlt y)
      · rw [nI_1]
        exact ih (s + 1) b (by omega) hb (lB_no (by omega) hB (fun _ _ z => n z))
  refine loop (2 ^ (3 * c)) 0 (2 ^ (3 * c) - 1) (by omega) (by omega) ⟨sb_r _, ?_, .inl rfl, fun s' hs' => absurd hs' (by omega)⟩
  intro i j hi hj _ _ _
  refine .inl ?_
  rw [Nat.testBit_two_pow_sub_one]
  exact decide_eq_true (la_ln hw hi).2.1
/-! the class -/
def lX (S : ov_S) (i : Nat) (so : Bool) (f : Nat) (x : Nat) : Prop := x < 4096 ∧ ∀ k, x.testBit k = true ↔ ∃ i', i' < i ∧ (S.1 76 0 i' = 1 ↔ so = true) ∧ lf S i' = f ∧ lw S i' = k
theorem lX_keep {S : ov_S} {i f x : Nat} {so : Bool} (h : lX S i so f x) (hn : ¬ ((S.1 76 0 i = 1 ↔ so = true) ∧ lf S i = f)) : lX S (i + 1) so f x := by
  refine ⟨h.1, fun k => ?_⟩
  rw [h.2 k]
  constructor
  · rintro ⟨i', h1, h2⟩
    exact ⟨i', by omega, h2⟩
  · rintro ⟨i', h1, h2, h3, h4⟩
    by_cases e : i' = i
    · subst e; exact absurd ⟨h2, h3⟩ hn
    · exact ⟨i', by omega, h2, h3, h4⟩
theorem lX_add {S : ov_S} {i f x : Nat} {so : Bool} (h : lX S i so f x) (hw : lw S i < 12) (h1 : S.1 76 0 i = 1 ↔ so = true) (h2 : lf S i = f) : lX S (i + 1) so f (x ||| 2 ^ lw S i) := by
  refine ⟨Nat.or_lt_two_pow (n := 12) h.1 (Nat.pow_lt_pow_of_lt (by decide) hw), fun k => ?_⟩
  rw [Nat.testBit_or, Bool.or_eq_true, Nat.testBit_two_pow, decide_eq_true_iff, h.2 k]
  constructor
  · rintro (⟨i', k1, k2⟩ | e)
    · exact ⟨i', by omega, k2⟩
    · exact ⟨i, by omega, h1, h2, e⟩
  · rintro ⟨i', k1, k2, k3, k4⟩
    by_cases e : i' = i
    · subst e; exact .inr k4
    · exact .inl ⟨i', by omega, k2, k3, k4⟩
def lAll (S : ov_S) (i x : Nat) : Prop := x < 4096 ∧ ∀ k, x.testBit k = true ↔ ∃ i', i' < i ∧ lw S i' = k
theorem lAll_add {S : ov_S} {i x : Nat} (h : lAll S i x) (hw : lw S i < 12) : lAll S (i + 1) (x ||| 2 ^ lw S i) := by
  refine ⟨Nat.or_lt_two_pow (n := 12) h.1 (Nat.pow_lt_pow_of_lt (by decide) hw), fun k => ?_⟩
  rw [Nat.testBit_or, Bool.or_eq_true, Nat.testBit_two_pow, decide_eq_true_iff, h.2 k]
  constructor
  · rintro (⟨i', k1, k2⟩ | e)
    · exact ⟨i', by omega, k2⟩
    · exact ⟨i, by omega, e⟩
  · rintro ⟨i', k1, k2⟩
    by_cases e : i' = i
    · subst e; exact .inr k2
    · exact .inl ⟨i', by omega, k2⟩
theorem fill27 {d : Nat} {S0 : ov_S} {Q : ov_Q} (h : ∀ S', sc S0 S' → (∀ f, f < 10 → S'.1 27 0 f = 0) → Q none S') : ∀ (j i : Nat), i + j = 10 → ∀ S, sc S0 S → (∀ f, f < i → S.1 27 0 f = 0) → ov_V true true d 0 0 mq_Arrays_fillI 5 [some (.inr (.inr (true, 27, 0))), some (.inl 0), some (.inl (nI i)), some (.inl (nI 10))] [] S Q := by
  intro j
  induction j with
  | zero =>
    intro i hi S a1 a2
    have e : i = 10 := by omega
    subst e
    exact rx27_Arrays_fillI_5 ⟨fun _ => h S a1 a2, fun q => absurd (by decide) q⟩
  | succ j ih =>
    intro i hi S a1 a2
    refine rx27_Arrays_fillI_5 ⟨fun q => absurd q (nI_ge (by omega) (by decide)), fun _ => ⟨zz_ib (by omega) (by decide), ?_⟩⟩
    rw [nI_1, zz_ix (n := i) (by omega)]
    refine ih (i + 1) (by omega) _ (sc_w a1 rfl) (fun s hs => ?_)
    rw [rl_wr]
    by_cases e : s = i
    · rw [if_pos e]
    · rw [if_neg e]; exact a2 s (by omega)
theorem fill28 {d : Nat} {S0 : ov_S} {Q : ov_Q} (h : ∀ S', sc S0 S' → (∀ f, f < 10 → S'.1 28 0 f = 0) → (∀ f, f < 10 → S'.1 27 0 f = 0) → Q none S') : ∀ (j i : Nat), i + j = 10 → ∀ S, sc S0 S → (∀ f, f < 10 → S.1 27 0 f = 0) → (∀ f, f < i → S.1 28 0 f = 0) → ov_V true true d 0 0 mq_Arrays_fillI 5 [some (.inr (.inr (true, 28, 0))), some (.inl 0), some (.inl (nI i)), some (.inl (nI 10))] [] S Q := by
  intro j
  induction j with
  | zero =>
    intro i hi S a1 a3 a2
    have e : i = 10 := by omega
    subst e
    exact rx28_Arrays_fillI_5 ⟨fun _ => h S a1 a2 a3, fun q => absurd (by decide) q⟩
  | succ j ih =>
    intro i hi S a1 a3 a2
    refine rx28_Arrays_fillI_5 ⟨fun q => absurd q (nI_ge (by omega) (by decide)), fun _ => ⟨zz_ib (by omega) (by decide), ?_⟩⟩
    rw [nI_1, zz_ix (n := i) (by omega)]
    refine ih (i + 1) (by omega) _ (sc_w a1 rfl) a3 (fun s hs => ?_)
    rw [rl_wr]
    by_cases e : s = i
    · rw [if_pos e]
    · rw [if_neg e]; exact a2 s (by omega)
def lR (S S' : ov_S) (i : Nat) : Prop := sc S S' ∧ (∀ f, f < 10 → ∃ x, S'.1 27 0 f = nI x ∧ lX S i true f x) ∧ (∀ f, f < 10 → ∃ x, S'.1 28 0 f = nI x ∧ lX S i false f x)
theorem li_gather {d c mm lb nz wc : Nat} {S : ov_S} {Q : ov_Q} (hd : 2 ≤ d) (hw : rl_w c mm lb nz wc S.1 S.1) (h : ∀ S' all, lR S S' lb → lAll S lb all → Q (some (.inl (nI all))) S') : ov_V true true d 0 0 mq_Book_gatherSayers 0 [some (.inr (.inr (true, 4, 0))), none, none, none, none] [] S Q := by
  obtain ⟨g1, g2, g3, g4, g5, g6, g7, g8, g9, g10, g11, g12, g13, g14, g15, g16, g17, g18, g19, g20, g21, g22, g23, g24, g25, g26⟩ := id hw
  have hc := g1.1
  have loop : ∀ (j i all : Nat), i + j = lb → ∀ S', lR S S' i → lAll S i all → ov_V true true d 0 0 mq_Book_gatherSayers 20 [some (.inr (.inr (true, 4, 0))), some (.inl (nI all)), some (.inl (nI i)), none, none] [] S' Q := by
    intro j
    induction j with
    | zero =>
      intro i all hi S' hR hA
      have e : i = lb := by omega
      subst e
      refine r_Book_gatherSayers_20 (by omega) ⟨fun _ => h S' all hR hA, fun q => absurd (show ov_g S' 4 0 5 ≤ nI i by rw [show ov_g S' 4 0 5 = nI i from (hR.1.2 4 0 5 rfl).trans g19.2.1]; exact nI_le (Nat.le_refl _) (by omega)) q⟩
    | succ j ih =>
      intro i all hi S' hR hA
      obtain ⟨e1, l1, e2, l2⟩ := la_ln hw (i := i) (by omega)
      have ib : ov_ib (nI i) 99 := zz_ib (by omega) (by decide)
      have ibf : ov_ib (nI (lf S i)) 10 := zz_ib l2 (by decide)
      have g20i := g20 i (by omega)
      have e22 : S'.1 22 0 i = nI (lw S i) := (hR.1.2 22 0 i rfl).trans (g20i.1.trans e1)
      have e23 : S'.1 23 0 i = nI (lf S i) := (hR.1.2 23 0 i rfl).trans (g20i.2.1.trans e2)
      have e24 : S'.1 24 0 i = S.1 76 0 i := (hR.1.2 24 0 i rfl).trans g20i.2.2.1
      have hin : 0 ≤ nI (lf S i) ∧ nI (lf S i) ≤ 9 := (zz_le (b := 9) rfl).2 ⟨_, by omega, rfl⟩
      obtain ⟨x, ex, hx⟩ := hR.2.1 (lf S i) l2
      obtain ⟨y, ey, hy⟩ := hR.2.2 (lf S i) l2
      refine r_Book_gatherSayers_20 (by omega) ?_
      rw [show ov_g S' 4 0 5 = nI lb from (hR.1.2 4 0 5 rfl).trans g19.2.1, zz_ix (n := i) (by omega), show ov_g S' 23 0 i = nI (lf S i) from e23, show ov_g S' 24 0 i = S.1 76 0 i from e24]
      refine ⟨fun q => absurd q (nI_ge (by omega) (by omega)), fun _ => ⟨fun q => absurd q (nI_ge (b := 99) (by omega) (by decide)), fun _ => ⟨ib, fun n => absurd hin n, fun _ => ⟨ib, fun n => r_Book_gatherSayers_72 (by omega) ?_, fun yy => r_Book_gatherSayers_72_2 (by omega) ?_⟩⟩⟩⟩
      · rw [zz_ix (n := i) (by omega), zz_ix (n := lf S i) (by omega), show ov_g S' 22 0 i = nI (lw S i) from e22, show ov_g S' 28 0 (lf S i) = nI y from ey, zz_wbo (by omega)]
        refine ⟨ibf, ib, ibf, ib, r_Book_gatherSayers_104 ?_⟩
        rw [show ov_g (ov_w S' 28 0 (lf S i) (nI (y ||| 2 ^ lw S i))) 22 0 i = nI (lw S i) from e22, zz_wbo (by omega), nI_1]
        refine ih (i + 1) _ (by omega) _ ⟨sc_w hR.1 rfl, fun f hf => ?_, fun f hf => ?_⟩ (lAll_add hA (by omega))
        · obtain ⟨x2, k1, k2⟩ := hR.2.1 f hf
          exact ⟨x2, k1, lX_keep k2 (fun z => n (z.1.2 rfl))⟩
        · rw [rl_wr]
          by_cases e : f = lf S i
          · rw [if_pos e]
            exact ⟨_, rfl, by rw [e]; exact lX_add hy (by omega) ⟨fun q => absurd q n, fun q => by cases q⟩ rfl⟩
          · rw [if_neg e]
            obtain ⟨x2, k1, k2⟩ := hR.2.2 f hf
            exact ⟨x2, k1, lX_keep k2 (fun z => e z.2.symm)⟩
      · rw [zz_ix (n := i) (by omega), zz_ix (n := lf S i) (by omega), show ov_g S' 22 0 i = nI (lw S i) from e22, show ov_g S' 27 0 (lf S i) = nI x from ex, zz_wbo (by omega)]
        refine ⟨ibf, ib, ibf, ib, r_Book_gatherSayers_104 ?_⟩
        rw [show ov_g (ov_w S' 27 0 (lf S i) (nI (x ||| 2 ^ lw S i))) 22 0 i = nI (lw S i) from e22, zz_wbo (by omega), nI_1]
        refine ih (i + 1) _ (by omega) _ ⟨sc_w hR.1 rfl, fun f hf => ?_, fun f hf => ?_⟩ (lAll_add hA (by omega))
        · rw [rl_wr]
          by_cases e : f = lf S i
          · rw [if_pos e]
            exact ⟨_, rfl, by rw [e]; exact lX_add hx (by omega) ⟨fun _ => rfl, fun _ => yy⟩ rfl⟩
          · rw [if_neg e]
            obtain ⟨x2, k1, k2⟩ := hR.2.1 f hf
            exact ⟨x2, k1, lX_keep k2 (fun z => e z.2.symm)⟩
        · obtain ⟨x2, k1, k2⟩ := hR.2.2 f hf
          exact ⟨x2, k1, lX_keep k2 (fun z => by have := z.1.1 yy; cases this)⟩
  have z0 : ∀ so f, lX S 0 so f 0 := fun so f => ⟨by decide, fun k => ⟨fun q => (by rw [Nat.zero_testBit] at q; cases q), fun ⟨i', q, _⟩ => absurd q (by omega)⟩⟩
  refine r_Book_gatherSayers_0 (by omega) (rx27_Arrays_fillI_0 (fill27 (fun S1 s1 f1 => r_Book_gatherSayers_10 (by omega) (rx28_Arrays_fillI_0 (fill28 (fun S2 s2 f2 f3 => r_Book_gatherSayers_18 (loop lb 0 0 (by omega) S2 ⟨s2, fun f hf => ⟨0, f3 f hf, z0 _ _⟩, fun f hf => ⟨0, f2 f hf, z0 _ _⟩⟩ ⟨by decide, fun k => ⟨fun q => (by rw [Nat.zero_testBit] at q; cases q), fun ⟨i', q, _⟩ => absurd q (by omega)⟩⟩)) 10 0 (by omega) S1 s1 f1 (fun f hf => absurd hf (by omega))))) 10 0 (by omega) S sc_r (fun f hf => absurd hf (by omega))))
theorem li_agree {d lb : Nat} {S S' : ov_S} {Q : ov_Q} {set : Nat} (hs : set < 4096) (hl : ∀ i, i < lb → lf S i < 10) (hR : lR S S' lb) (h1 : la S lb set → Q (some (.inl 1)) S') (h0 : ¬ la S lb set → Q (some (.inl 0)) S') : ov_V true true d 0 0 mq_Book_agreeWithout 0 [some (.inr (.inr (true, 4, 0))), some (.inl (nI set)), none] [] S' Q := by
  have loop : ∀ (j f : Nat), f + j = 10 → (∀ i j, i < lb → j < lb → lf S i = lf S j → lf S i < f → S.1 76 0 i = 1 → ¬ S.1 76 0 j = 1 → set.testBit (lw S i) = true ∨ set.testBit (lw S j) = true) → ov_V true true d 0 0 mq_Book_agreeWithout 2 [some (.inr (.inr (true, 4, 0))), some (.inl (nI set)), some (.inl (nI f))] [] S' Q := by
    intro j
    induction j with
    | zero =>
      intro f hf hI
      have e : f = 10 := by omega
      subst e
      exact r_Book_agreeWithout_2 ⟨fun _ => h1 (fun i j hi hj hf => hI i j hi hj hf (hl i hi)), fun q => absurd (by decide) q⟩
    | succ j ih =>
      intro f hf hI
      obtain ⟨x, ex, hx⟩ := hR.2.1 f (by omega)
      obtain ⟨y, ey, hy⟩ := hR.2.2 f (by omega)
      have ib : ov_ib (nI f) 10 := zz_ib (by omega) (by decide)
      refine r_Book_agreeWithout_2 ?_
      rw [zz_ix (n := f) (by omega), show ov_g S' 27 0 f = nI x from ex, show ov_g S' 28 0 f = nI y from ey, sb_not (by have := hx.1; omega), sb_not (by have := hy.1; omega)]
      refine ⟨fun q => absurd q (nI_ge (b := 10) (by omega) (by decide)), fun _ => ⟨ib, fun q => r_Book_agreeWithout_36 ?_, fun n1 => ⟨ib, fun q => r_Book_agreeWithout_36 ?_, fun n2 => h0 ?_⟩⟩⟩
      · rw [nI_1]
        refine ih (f + 1) (by omega) (fun i j hi hj he hlt hsi hsj => ?_)
        by_cases e : lf S i = f
        · exact .inl (q _ ((hx.2 _).2 ⟨i, hi, ⟨fun _ => rfl, fun _ => hsi⟩, e, rfl⟩))
        · exact hI i j hi hj he (by omega) hsi hsj
      · rw [nI_1]
        refine ih (f + 1) (by omega) (fun i j hi hj he hlt hsi hsj => ?_)
        by_cases e : lf S i = f
        · exact .inr (q _ ((hy.2 _).2 ⟨j, hj, ⟨fun z => absurd z hsj, fun z => by cases z⟩, he ▸ e, rfl⟩))
        · exact hI i j hi hj he (by omega) hsi hsj
      · intro hla
        apply n1
        intro k hk
        obtain ⟨i, i1, i2, i3, i4⟩ := (hx.2 k).1 hk
        apply Classical.byContradiction
        intro hnk
        apply n2
        intro k2 hk2
        obtain ⟨i', j1, j2, j3, j4⟩ := (hy.2 k2).1 hk2
        rcases hla i i' i1 j1 (i3.trans j3.symm) (i2.2 rfl) (fun z => by have := j2.1 z; cases this) with z | z
        · rw [i4] at z; exact absurd z hnk
        · rw [j4] at z; exact z
  exact r_Book_agreeWithout_0 (loop 10 0 (by omega) (fun i j _ _ _ hlt => absurd hlt (by omega)))
theorem li_E {d c mm lb nz wc : Nat} {S : ov_S} {Q : ov_Q} (hd : 4 ≤ d) (hw : rl_w c mm lb nz wc S.1 S.1) (h : ∀ S' all b, sc S S' → lAll S lb all → b < 4096 → lB (la S lb) all 4096 b → Q (some (.inl (nI b))) S') : ov_V true true d 0 0 mq_Eye_liars 0 [some (.inr (.inr (true, 0, 0)))] [] S Q := by
  have hl : ∀ i, i < lb → lf S i < 10 := fun i hi => (la_ln hw hi).2.2.2
  refine r_Eye_liars_0 (by omega) (r_Book_fewestLiars_0 (by omega) (li_gather (by omega) hw (fun S1 all hR hA => r_Book_fewestLiars_4 ?_)))
  have loop : ∀ (j s b : Nat), s + j = 4096 → b < 4096 → lB (la S lb) all s b → ov_V true true ((d - 1)) 0 0 mq_Book_fewestLiars 9 [some (.inr (.inr (true, 4, 0))), some (.inl (nI all)), some (.inl (nI b)), some (.inl (nI s))] [] S1 (fun r S1 => ov_V true true d 0 0 mq_Eye_liars 10 [none] (r.toList ++ []) S1 Q) := by
    intro j
    induction j with
    | zero =>
      intro s b hs hb hB
      have e : s = 4096 := by omega
      subst e
      exact r_Book_fewestLiars_9 (by omega) ⟨fun _ => r_Eye_liars_10 (h S1 all b hR.1 hA hb hB), fun q => absurd (by decide) q⟩
    | succ j ih =>
      intro s b hs hb hB
      have hA1 := hA.1
      refine r_Book_fewestLiars_9 (by omega) ?_
      rw [sb_not (by omega), lp_pop b hb, lp_pop s (by omega)]
      refine ⟨fun q => absurd q (nI_ge (b := 4096) (by omega) (by decide)), fun _ => ⟨fun n => r_Book_fewestLiars_45 ?_, fun y => ⟨fun q => r_Book_fewestLiars_45 ?_, fun q => li_agree (by omega) hl hR (fun ya => r_Book_fewestLiars_40 ⟨fun z => absurd z (by decide), fun _ => r_Book_fewestLiars_45 ?_⟩) (fun na => r_Book_fewestLiars_40 ⟨fun _ => r_Book_fewestLiars_45 ?_, fun z => absurd rfl z⟩)⟩⟩⟩
      · rw [nI_1]
        exact ih (s + 1) b (by omega) hb (lB_no hA1 hB (fun z _ _ => n z))
      · have hle : lp b ≤ lp s := (nI_leI (by have := lp_12 b; omega) (by have := lp_12 s; omega)).1 q
        rw [nI_1]
        exact ih (s + 1) b (by omega) hb (lB_no hA1 hB (fun _ z _ => by omega))
      · have hlt : lp s < lp b := Nat.lt_of_not_le (fun z => q (nI_le z (by have := lp_12 s; omega)))
        rw [nI_1]
        exact ih (s + 1) s (by omega) (by omega) (lB_yes hB y hlt ya)
      · rw [nI_1]
        exact ih (s + 1) b (by omega) hb (lB_no hA1 hB (fun _ _ z => na z))
  refine loop 4096 0 all (by omega) hA.1 ⟨sb_r _, ?_, .inl rfl, fun s' hs' => absurd hs' (by omega)⟩
  · intro i j hi hj _ _ _
    exact .inl ((hA.2 _).2 ⟨i, hi, rfl⟩)
theorem s_liars {d : Nat} {S : ov_S} (hd : 5 ≤ d) (h : rl_S S) : rl_2 d mq_Eye_liars mq_Mod_liars [some (.inr (.inr (true, 0, 0)))] [some (.inr (.inr (true, 14, 0))), none, none] S := by
  unfold rl_2
  obtain ⟨c, m, lb, nz, wc, hw, ho, hi⟩ := id h
  have hc := hw.1.1
  obtain ⟨p1, p2, p3, p4⟩ := li_2c c (by omega)
  refine li_E (by omega) hw (fun S1 all b s1 hA hb hB => li_M (by omega) (sc_W hw s1) (fun b' hB' hb' => ?_))
  obtain ⟨e1, e2, e3⟩ := la_sc s1
  have hla : la S1 lb = la S lb := by
    funext s
    unfold la
    rw [e1, e2]
    simp only [e3]
  rw [hla] at hB'
  have hlt : ∀ a b : Nat, sb a b → a ≤ b := fun a b q => by
    have : a &&& b = a := by
      apply Nat.eq_of_testBit_eq
      intro k
      rw [Nat.testBit_and]
      cases ha : a.testBit k
      · rfl
      · rw [q k ha]; rfl
    rw [← this]
    exact Nat.and_le_right
  have hUU : sb all (2 ^ (3 * c) - 1) := fun k hk => by
    obtain ⟨i, i1, i2⟩ := (hA.2 k).1 hk
    rw [Nat.testBit_two_pow_sub_one]
    exact decide_eq_true (by rw [← i2]; exact (la_ln hw i1).2.1)
  have e : b = b' := lB_same (U := all) (fun s hs i j hi hj hf h1 h2 => by
    have a1 : all.testBit (lw S i) = true := (hA.2 _).2 ⟨i, hi, rfl⟩
    have a2 : all.testBit (lw S j) = true := (hA.2 _).2 ⟨j, hj, rfl⟩
    rw [Nat.testBit_and, Nat.testBit_and, a1, a2, Bool.and_true, Bool.and_true]
    exact hs i j hi hj hf h1 h2) hUU (by omega) hA.1 (by omega) hB hB'
  rw [e]
  exact sc_ans h (sc_t s1 sc_told) rfl
