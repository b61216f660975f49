/-! ===== RING ===== -/
/-- a THREE would lend x for y -/
def rL (S : ov_S) (t x y : Nat) : Prop := S.1 97 0 (9 * t + 3 * x + y) = 1
theorem rL_sc {S S' : ov_S} (h : sc S S') : rL S' = rL S := by
  funext t x y
  unfold rL
  rw [h.2 97 0 _ rfl]
/-- lent on, through all the rest, and the last lends w -/
def rF (S : ov_S) : Nat → Nat → Nat → Nat → Prop
  | 0, g, rest, w => rest = 0 ∧ g = w
  | n + 1, g, rest, w => (rest = 0 ∧ g = w) ∨ (rest ≠ 0 ∧ ∃ nx, nx < 4 ∧ rest.testBit nx = true ∧ ∃ g', g' < 3 ∧ rL S nx g' g ∧ rF S n g' (zz_off rest nx) w)
def rG (S : ov_S) (n t got rest w : Nat) : Prop := ∃ g, g < 3 ∧ rL S t g got ∧ rF S n g rest w
theorem rg_off : ∀ b : Nat, b < 16 → ∀ t : Nat, t < 4 → zz_off b t < 16 ∧ (b.testBit t = true → lp (zz_off b t) + 1 = lp b) := by decide +kernel
theorem rg_lp0 : ∀ b : Nat, b < 16 → lp b ≤ 4 ∧ (lp b = 0 → b = 0) := by decide +kernel
theorem rF_up {S : ov_S} : ∀ (n g rest w : Nat), rF S n g rest w → rF S (n + 1) g rest w
  | 0, g, rest, w, h => .inl h
  | n + 1, g, rest, w, h => by
    rcases h with h | ⟨h1, nx, h2, h3, g', h4, h5, h6⟩
    · exact .inl h
    · exact .inr ⟨h1, nx, h2, h3, g', h4, h5, rF_up n _ _ _ h6⟩
theorem rF_dn {S : ov_S} : ∀ (n g rest w : Nat), rest < 16 → lp rest ≤ n → rF S (n + 1) g rest w → rF S n g rest w
  | 0, g, rest, w, hr, hl, h => by
    have e : rest = 0 := (rg_lp0 rest hr).2 (by omega)
    rcases h with h | ⟨h1, _⟩
    · exact h
    · exact absurd e h1
  | n + 1, g, rest, w, hr, hl, h => by
    rcases h with h | ⟨h1, nx, h2, h3, g', h4, h5, h6⟩
    · exact .inl h
    · have ho := rg_off rest hr nx h2
      exact .inr ⟨h1, nx, h2, h3, g', h4, h5, rF_dn n _ _ _ ho.1 (by have := ho.2 h3; omega) h6⟩
theorem rF_4 {S : ov_S} {n g rest w : Nat} (hr : rest < 16) (h : rF S n g rest w) : rF S 4 g rest w := by
  have up : ∀ k m, rF S m g rest w → rF S (m + k) g rest w := by
    intro k
    induction k with
    | zero => intro m h; exact h
    | succ k ih => intro m h; exact rF_up _ _ _ _ (ih m h)
  have dn : ∀ k, rF S (4 + k) g rest w → rF S 4 g rest w := by
    intro k
    induction k with
    | zero => intro h; exact h
    | succ k ih => intro h; exact ih (rF_dn _ _ _ _ hr (by have := (rg_lp0 rest hr).1; omega) h)
  have h1 := up 4 n h
  rw [show n + 4 = 4 + n by omega] at h1
  exact dn n h1
/-! the class -/
theorem rg_lend {d c mm lb nz wc : Nat} {S : ov_S} {Q : ov_Q} {t x y : Nat} (hd : 1 ≤ d) (hw : rl_w c mm lb nz wc S.1 S.1) (ht : t < 4) (hx : x < 3) (hy : y < 3) (h1 : rL S t x y → Q (some (.inl 1)) S) (h0 : ¬ rL S t x y → Q (some (.inl 0)) S) : ov_V true true d 0 0 mq_Tables_wouldLend 0 [some (.inr (.inr (true, 5, 0))), some (.inl (nI t)), some (.inl (nI x)), some (.inl (nI y))] [] S Q := by
  obtain ⟨b, hb, eb, h97⟩ := hw.2.2.2.2.2.2.2.2.2.2.2.2.2.2.2.2.2.2.2.2.2.2.2.2.2 t ht
  have hbit := zz_bit (b := b) (t := 3 * x + y) (by omega) (by omega)
  have e97 := h97 (3 * x + y) (by omega)
  rw [← Nat.add_assoc] at e97
  have hin : 0 ≤ nI t ∧ nI t ≤ 3 := (zz_le (b := 3) rfl).2 ⟨t, by omega, rfl⟩
  refine r_Tables_wouldLend_0 hd ?_
  rw [zz_ix (n := t) (by omega), show ov_g S 33 0 t = nI b from eb, zz_3]
  refine ⟨fun n => absurd hin n, fun _ => ⟨zz_ib ht (by decide), fun n => h0 ?_, fun y => h1 ?_⟩⟩
  · intro q
    unfold rL at q
    rw [e97] at q
    by_cases hb2 : b.testBit (3 * x + y) = true
    · exact n (hbit.2 hb2)
    · rw [if_neg hb2] at q
      exact absurd q (by decide)
  · unfold rL
    rw [e97, if_pos (hbit.1 y)]
theorem rg_E {c mm lb nz wc : Nat} {S : ov_S} (hw : rl_w c mm lb nz wc S.1 S.1) : ∀ (n t got rest w d : Nat) (Q : ov_Q), lp rest ≤ n → rest < 16 → t < 4 → got < 3 → w < 3 → 2 * n + 3 ≤ d → (rG S n t got rest w → Q (some (.inl 1)) S) → (¬ rG S n t got rest w → Q (some (.inl 0)) S) → ov_V true true d 0 0 mq_Tables_goesRound 0 [some (.inr (.inr (true, 5, 0))), some (.inl (nI t)), some (.inl (nI got)), some (.inl (nI rest)), some (.inl (nI w)), none] [] S Q := by
  intro n
  induction n with
  | zero =>
    intro t got rest w d Q hl hr ht hg hw3 hd h1 h0
    have er : rest = 0 := (rg_lp0 rest hr).2 (by omega)
    subst er
    have loop : ∀ j g, g + j = 3 → (∀ g', g' < g → ¬ (rL S t g' got ∧ rF S 0 g' 0 w)) → ov_V true true d 0 0 mq_Tables_goesRound 3 [some (.inr (.inr (true, 5, 0))), some (.inl (nI t)), some (.inl (nI got)), some (.inl (nI 0)), some (.inl (nI w)), some (.inl (nI g))] [] S Q := by
      intro j
      induction j with
      | zero =>
        intro g hg2 hI
        have e : g = 3 := by omega
        subst e
        exact r_Tables_goesRound_3 (by omega) ⟨fun _ => h0 (fun ⟨g', k1, k2, k3⟩ => hI g' k1 ⟨k2, k3⟩), fun q => absurd (by decide) q⟩
      | succ j ih =>
        intro g hg2 hI
        have nx : ¬ (rL S t g got ∧ rF S 0 g 0 w) → ov_V true true d 0 0 mq_Tables_goesRound 48 [some (.inr (.inr (true, 5, 0))), some (.inl (nI t)), some (.inl (nI got)), some (.inl (nI 0)), some (.inl (nI w)), some (.inl (nI g))] [] S Q := by
          intro hn
          refine r_Tables_goesRound_48 ?_
          rw [nI_1]
          refine ih (g + 1) (by omega) (fun g' hg' => ?_)
          by_cases e : g' = g
          · rw [e]; exact hn
          · exact hI g' (by omega)
        refine r_Tables_goesRound_3 (by omega) ⟨fun q => absurd q (nI_ge (b := 3) (by omega) (by decide)), fun _ => rg_lend (by omega) hw ht (by omega) hg (fun y => r_Tables_goesRound_17 (by omega) ⟨fun q => absurd q (by decide), fun _ => ⟨fun q => absurd rfl q, fun _ => ⟨fun q => nx (fun z => q (by rw [z.2.2])), fun q => h1 ⟨g, by omega, y, rfl, zz_inj (by omega) (by omega) q⟩⟩⟩⟩) (fun n => r_Tables_goesRound_17 (by omega) ⟨fun _ => nx (fun z => n z.1), fun q => absurd rfl q⟩)⟩
    exact r_Tables_goesRound_0 (loop 3 0 (by omega) (fun g' hg' => absurd hg' (by omega)))
  | succ n ihn =>
    intro t got rest w d Q hl hr ht hg hw3 hd h1 h0
    have loop : ∀ j g, g + j = 3 → (∀ g', g' < g → ¬ (rL S t g' got ∧ rF S (n + 1) g' rest w)) → ov_V true true d 0 0 mq_Tables_goesRound 3 [some (.inr (.inr (true, 5, 0))), some (.inl (nI t)), some (.inl (nI got)), some (.inl (nI rest)), some (.inl (nI w)), some (.inl (nI g))] [] S Q := by
      intro j
      induction j with
      | zero =>
        intro g hg2 hI
        have e : g = 3 := by omega
        subst e
        exact r_Tables_goesRound_3 (by omega) ⟨fun _ => h0 (fun ⟨g', k1, k2, k3⟩ => hI g' k1 ⟨k2, k3⟩), fun q => absurd (by decide) q⟩
      | succ j ih =>
        intro g hg2 hI
        have nx : ¬ (rL S t g got ∧ rF S (n + 1) g rest w) → ov_V true true d 0 0 mq_Tables_goesRound 48 [some (.inr (.inr (true, 5, 0))), some (.inl (nI t)), some (.inl (nI got)), some (.inl (nI rest)), some (.inl (nI w)), some (.inl (nI g))] [] S Q := by
          intro hn
          refine r_Tables_goesRound_48 ?_
          rw [nI_1]
          refine ih (g + 1) (by omega) (fun g' hg' => ?_)
          by_cases e : g' = g
          · rw [e]; exact hn
          · exact hI g' (by omega)
        refine r_Tables_goesRound_3 (by omega) ⟨fun q => absurd q (nI_ge (b := 3) (by omega) (by decide)), fun _ => rg_lend (by omega) hw ht (by omega) hg (fun y => r_Tables_goesRound_17 (by omega) ⟨fun q => absurd q (by decide), fun _ => ⟨fun nr => ?_, fun yr => ?_⟩⟩) (fun n => r_Tables_goesRound_17 (by omega) ⟨fun _ => nx (fun z => n z.1), fun q => absurd rfl q⟩)⟩
        · have hr0 : rest ≠ 0 := fun e => nr (by rw [e]; rfl)
          -- on to the next one
          have on : ∀ (j i : Nat), i + j = 4 → (∀ i', i' < i → ¬ (rest.testBit i' = true ∧ rG S n i' g (zz_off rest i') w)) → ov_V true true ((d - 1)) 0 0 mq_Tables_goesOn 3 [some (.inr (.inr (true, 5, 0))), some (.inl (nI g)), some (.inl (nI rest)), some (.inl (nI w)), some (.inl (nI i))] [] S (fun r S1 => ov_V true true d 0 0 mq_Tables_goesRound 43 [some (.inr (.inr (true, 5, 0))), some (.inl (nI t)), some (.inl (nI got)), some (.inl (nI rest)), some (.inl (nI w)), some (.inl (nI g))] (r.toList ++ []) S1 Q) := by
            intro j
            induction j with
            | zero =>
              intro i hi hI2
              have e : i = 4 := by omega
              subst e
              refine r_Tables_goesOn_3 (by omega) ⟨fun _ => r_Tables_goesRound_43 ⟨fun _ => nx ?_, fun q => absurd rfl q⟩, fun q => absurd (by decide) q⟩
              rintro ⟨_, z | ⟨_, i', z1, z2, g', z3, z4, z5⟩⟩
              · exact hr0 z.1
              · exact hI2 i' z1 ⟨z2, g', z3, z4, z5⟩
            | succ j ih2 =>
              intro i hi hI2
              have hbit := zz_bit (b := rest) (t := i) (by omega) (by omega)
              have ho := rg_off rest hr i (by omega)
              have n38 : ¬ (rest.testBit i = true ∧ rG S n i g (zz_off rest i) w) → ov_V true true ((d - 1)) 0 0 mq_Tables_goesOn 38 [some (.inr (.inr (true, 5, 0))), some (.inl (nI g)), some (.inl (nI rest)), some (.inl (nI w)), some (.inl (nI i))] [] S (fun r S1 => ov_V true true d 0 0 mq_Tables_goesRound 43 [some (.inr (.inr (true, 5, 0))), some (.inl (nI t)), some (.inl (nI got)), some (.inl (nI rest)), some (.inl (nI w)), some (.inl (nI g))] (r.toList ++ []) S1 Q) := by
                intro hn
                refine r_Tables_goesOn_38 ?_
                rw [nI_1]
                refine ih2 (i + 1) (by omega) (fun i' hi' => ?_)
                by_cases e : i' = i
                · rw [e]; exact hn
                · exact hI2 i' (by omega)
              refine r_Tables_goesOn_3 (by omega) ⟨fun q => absurd q (nI_ge (b := 4) (by omega) (by decide)), fun _ => ⟨fun q => n38 (fun z => q (hbit.2 z.1)), fun q => ?_⟩⟩
              have hb := hbit.1 q
              rw [(zz_wb1 rest (by omega) i (by omega)).1]
              refine ihn i g (zz_off rest i) w _ _ (by have := ho.2 hb; omega) ho.1 (by omega) (by omega) hw3 (by omega) (fun yG => r_Tables_goesOn_33 ⟨fun q => absurd q (by decide), fun _ => r_Tables_goesRound_43 ⟨fun q => absurd q (by decide), fun _ => h1 ?_⟩⟩) (fun nG => r_Tables_goesOn_33 ⟨fun _ => n38 (fun z => nG z.2), fun q => absurd rfl q⟩)
              obtain ⟨g', z3, z4, z5⟩ := yG
              exact ⟨g, by omega, y, .inr ⟨hr0, i, by omega, hb, g', z3, z4, z5⟩⟩
          exact r_Tables_goesOn_0 (on 4 0 (by omega) (fun i' hi' => absurd hi' (by omega)))
        · have hr0 : rest = 0 := (zz_n0 (by omega)).1 yr
          refine ⟨fun q => nx ?_, fun q => h1 ⟨g, by omega, y, .inl ⟨hr0, zz_inj (by omega) (by omega) q⟩⟩⟩
          rintro ⟨_, z | ⟨z, _⟩⟩
          · exact q (by rw [z.2])
          · exact z hr0
    exact r_Tables_goesRound_0 (loop 3 0 (by omega) (fun g' hg' => absurd hg' (by omega)))
/-- the least of a set -/
def rlo (s : Nat) : Nat := if s.testBit 0 then 0 else if s.testBit 1 then 1 else if s.testBit 2 then 2 else 3
theorem rlo_ok : ∀ s : Nat, s < 16 → rlo s < 4 ∧ (s = 0 ∨ s.testBit (rlo s) = true) := by decide +kernel
/-- a set lends round -/
def rC (S : ov_S) (s : Nat) : Prop := ∃ got, got < 3 ∧ rG S 4 (rlo s) got (zz_off s (rlo s)) got
theorem rg_closes {d c mm lb nz wc : Nat} {S : ov_S} {Q : ov_Q} {s : Nat} (hd : 12 ≤ d) (hw : rl_w c mm lb nz wc S.1 S.1) (hs : s < 16) (h0s : 0 < s) (h1 : rC S s → Q (some (.inl 1)) S) (h0 : ¬ rC S s → Q (some (.inl 0)) S) : ov_V true true d 0 0 mq_Tables_closes 0 [some (.inr (.inr (true, 5, 0))), some (.inl (nI s)), none, none] [] S Q := by
  have hlo := rlo_ok s hs
  have ho := rg_off s hs (rlo s) hlo.1
  have loop : ∀ j g, g + j = 3 → (∀ g', g' < g → ¬ rG S 4 (rlo s) g' (zz_off s (rlo s)) g') → ov_V true true d 0 0 mq_Tables_closes 23 [some (.inr (.inr (true, 5, 0))), some (.inl (nI s)), some (.inl (nI (rlo s))), some (.inl (nI g))] [] S Q := by
    intro j
    induction j with
    | zero =>
      intro g hg hI
      have e : g = 3 := by omega
      subst e
      exact r_Tables_closes_23 (by omega) ⟨fun _ => h0 (fun ⟨g', k1, k2⟩ => hI g' k1 k2), fun q => absurd (by decide) q⟩
    | succ j ih =>
      intro g hg hI
      refine r_Tables_closes_23 (by omega) ⟨fun q => absurd q (nI_ge (b := 3) (by omega) (by decide)), fun _ => ?_⟩
      rw [(zz_wb1 s (by omega) (rlo s) (by omega)).1]
      refine rg_E hw 4 (rlo s) g _ g _ _ (rg_lp0 _ ho.1).1 ho.1 hlo.1 (by omega) (by omega) (by omega) (fun y => r_Tables_closes_41 ⟨fun q => absurd q (by decide), fun _ => h1 ⟨g, by omega, y⟩⟩) (fun n => r_Tables_closes_41 ⟨fun _ => ?_, fun q => absurd rfl q⟩)
      rw [nI_1]
      refine ih (g + 1) (by omega) (fun g' hg' => ?_)
      by_cases e : g' = g
      · rw [e]; exact n
      · exact hI g' (by omega)
  have b0 := zz_bit (b := s) (t := 0) (by omega) (by omega)
  have b1 := zz_bit (b := s) (t := 1) (by omega) (by omega)
  have b2 := zz_bit (b := s) (t := 2) (by omega) (by omega)
  have fin : ∀ g, g = rlo s → ov_V true true d 0 0 mq_Tables_closes 21 [some (.inr (.inr (true, 5, 0))), some (.inl (nI s)), some (.inl (nI g)), none] [] S Q := by
    rintro g rfl
    exact r_Tables_closes_21 (loop 3 0 (by omega) (fun g' hg' => absurd hg' (by omega)))
  refine r_Tables_closes_0 (r_Tables_closes_2 (by omega) ⟨fun q => absurd q (by decide), fun _ => ⟨fun y => fin 0 (by unfold rlo; rw [if_pos (b0.1 y)]), fun n0 => r_Tables_closes_2 (by omega) ⟨fun q => absurd q (by decide), fun _ => ⟨fun y => fin 1 (by unfold rlo; rw [if_neg (fun z => n0 (b0.2 z)), if_pos (b1.1 y)]), fun n1 => r_Tables_closes_2 (by omega) ⟨fun q => absurd q (by decide), fun _ => ⟨fun y => fin 2 (by unfold rlo; rw [if_neg (fun z => n0 (b0.2 z)), if_neg (fun z => n1 (b1.2 z)), if_pos (b2.1 y)]), fun n2 => r_Tables_closes_2 (by omega) ⟨fun _ => fin 3 (by unfold rlo; rw [if_neg (fun z => n0 (b0.2 z)), if_neg (fun z => n1 (b1.2 z)), if_neg (fun z => n2 (b2.2 z))]), fun q => absurd (by decide) q⟩⟩⟩⟩⟩⟩⟩)
/-- the best ring -/
def rB (A : Nat → Prop) (s : Nat) : Option Nat → Prop
  | none => ∀ s', 1 ≤ s' → s' < s → 1 < lp s' → ¬ A s'
  | some b => 1 ≤ b ∧ b < s ∧ 1 < lp b ∧ A b ∧ ∀ s', 1 ≤ s' → s' < s → 1 < lp s' → A s' → lp b < lp s' ∨ (lp b = lp s' ∧ b ≤ s')
def rV : Option Nat → Int32
  | none => -1
  | some b => nI b
theorem rB_same {A : Nat → Prop} {s : Nat} : ∀ {o o' : Option Nat}, rB A s o → rB A s o' → o = o'
  | none, none, _, _ => rfl
  | none, some b, h, h' => absurd h'.2.2.2.1 (h b h'.1 h'.2.1 h'.2.2.1)
  | some b, none, h, h' => absurd h.2.2.2.1 (h' b h.1 h.2.1 h.2.2.1)
  | some b, some b', h, h' => by
    have t1 := h.2.2.2.2 b' h'.1 h'.2.1 h'.2.2.1 h'.2.2.2.1
    have t2 := h'.2.2.2.2 b h.1 h.2.1 h.2.2.1 h.2.2.2.1
    have : b = b' := by omega
    rw [this]
theorem rg_2c : ∀ c : Nat, c < 5 → (1 : Int32) <<< (nI c &&& 31) = nI (2 ^ c) ∧ 2 ^ c ≤ 16 ∧ 0 < 2 ^ c := by decide +kernel
theorem rg_Eye {d c mm lb nz wc : Nat} {S : ov_S} {Q : ov_Q} (hd : 16 ≤ d) (hw : rl_w c mm lb nz wc S.1 S.1) (h : ∀ o, rB (rC S) (2 ^ c) o → Q (some (.inl (rV o))) S) : ov_V true true d 0 0 mq_Eye_ring 0 [some (.inr (.inr (true, 0, 0)))] [] S Q := by
  have hc := hw.1.1
  obtain ⟨p1, p2, p3⟩ := rg_2c c (by omega)
  have loop : ∀ (k z : Nat), z + k = 5 → 2 ≤ z → (∀ s', 1 ≤ s' → s' < 2 ^ c → 1 < lp s' → lp s' < z → ¬ rC S s') → ov_V true true ((d - 1)) 0 0 mq_Tables_smallestRing 2 [some (.inr (.inr (true, 5, 0))), some (.inl (nI c)), some (.inl (nI z)), none] [] S (fun r S1 => ov_V true true d 0 0 mq_Eye_ring 17 [none] (r.toList ++ []) S1 Q) := by
    intro k
    induction k with
    | zero =>
      intro z hz hz2 hI
      have e : z = 5 := by omega
      subst e
      refine r_Tables_smallestRing_2 ⟨fun _ => r_Eye_ring_17 (h none (fun s' a1 a2 a3 => hI s' a1 a2 a3 ?_)), fun q => absurd (by decide) q⟩
      have := (rg_lp0 s' (by omega)).1
      omega
    | succ k ih =>
      intro z hz hz2 hI
      have inner : ∀ (j s : Nat), s + j = 2 ^ c → 1 ≤ s → (∀ s', 1 ≤ s' → s' < s → lp s' = z → ¬ rC S s') → ov_V true true ((d - 1)) 0 0 mq_Tables_smallestRing 9 [some (.inr (.inr (true, 5, 0))), some (.inl (nI c)), some (.inl (nI z)), some (.inl (nI s))] [] S (fun r S1 => ov_V true true d 0 0 mq_Eye_ring 17 [none] (r.toList ++ []) S1 Q) := by
        intro j
        induction j with
        | zero =>
          intro s hs h1s hI2
          have e : s = 2 ^ c := by omega
          refine r_Tables_smallestRing_9 (by omega) ?_
          rw [p1]
          refine ⟨fun _ => r_Tables_smallestRing_46 ?_, fun q => absurd (nI_le (by omega) (by omega)) q⟩
          rw [nI_1]
          refine ih (z + 1) (by omega) (by omega) (fun s' a1 a2 a3 a4 => ?_)
          by_cases ez : lp s' = z
          · exact hI2 s' a1 (by omega) ez
          · exact hI s' a1 a2 a3 (by omega)
        | succ j ih2 =>
          intro s hs h1s hI2
          have n40 : ¬ (lp s = z ∧ rC S s) → ov_V true true ((d - 1)) 0 0 mq_Tables_smallestRing 40 [some (.inr (.inr (true, 5, 0))), some (.inl (nI c)), some (.inl (nI z)), some (.inl (nI s))] [] S (fun r S1 => ov_V true true d 0 0 mq_Eye_ring 17 [none] (r.toList ++ []) S1 Q) := by
            intro hn
            refine r_Tables_smallestRing_40 ?_
            rw [nI_1]
            refine ih2 (s + 1) (by omega) (by omega) (fun s' a1 a2 a3 => ?_)
            by_cases e : s' = s
            · rw [e] at a3 ⊢; exact fun q => hn ⟨a3, q⟩
            · exact hI2 s' a1 (by omega) a3
          refine r_Tables_smallestRing_9 (by omega) ?_
          rw [p1, lp_pop s (by omega)]
          refine ⟨fun q => absurd q (nI_ge (by omega) (by omega)), fun _ => ⟨fun q => absurd q (nI_ge (b := 16) (by omega) (by decide)), fun _ => ⟨fun q => n40 (fun zz => q (by rw [zz.1])), fun q => ?_⟩⟩⟩
          have ez : lp s = z := zz_inj (by have := lp_12 s; omega) (by omega) q
          refine rg_closes (by omega) hw (by omega) (by omega) (fun y => r_Tables_smallestRing_35 ⟨fun q => absurd q (by decide), fun _ => r_Eye_ring_17 (h (some s) ⟨h1s, by omega, by omega, y, fun s' a1 a2 a3 a4 => ?_⟩)⟩) (fun n => r_Tables_smallestRing_35 ⟨fun _ => n40 (fun zz => n zz.2), fun q => absurd rfl q⟩)
          rcases Nat.lt_or_ge (lp s') z with hlt | hge
          · exact absurd a4 (hI s' a1 a2 a3 hlt)
          · rcases Nat.lt_or_ge (lp s) (lp s') with hl2 | hl2
            · exact .inl hl2
            · refine .inr ⟨by omega, ?_⟩
              apply Classical.byContradiction
              intro hns
              exact hI2 s' a1 (by omega) (by omega) a4
      exact r_Tables_smallestRing_2 ⟨fun q => absurd q (show ¬ nI 4 < nI z from nI_nlt (by omega) (by decide)), fun _ => inner (2 ^ c - 1) 1 (by omega) (by omega) (fun s' a1 a2 => absurd a2 (by omega))⟩
  refine r_Eye_ring_0 (by omega) (r_Tables_smallestRing_0 ?_)
  rw [show ov_g S 1 0 2 = nI c from hw.1.2.1]
  exact loop 3 2 (by omega) (by omega) (fun s' _ _ a3 a4 => absurd a3 (by omega))
/-! the reference -/
def rP (S : ov_S) (set f l : Nat) : Nat → Nat → Nat → Nat → Prop
  | 0, s, t, x => s = 2 ^ f ∧ t = f ∧ x = l
  | n + 1, s, t, x => ∃ s' t' x', rP S set f l n s' t' x' ∧ s'.testBit t = false ∧ set.testBit t = true ∧ s = s' ||| 2 ^ t ∧ x < 3 ∧ rL S t x x'
theorem rP_sb {S : ov_S} {set f l : Nat} (hf : set.testBit f = true) : ∀ (n s t x : Nat), rP S set f l n s t x → sb s set
  | 0, s, t, x, h => by
    rw [h.1]
    intro k hk
    rw [Nat.testBit_two_pow, decide_eq_true_iff] at hk
    rw [← hk]
    exact hf
  | n + 1, s, t, x, h => by
    obtain ⟨s', t', x', h1, h2, h3, h4, _⟩ := h
    rw [h4]
    intro k hk
    rw [Nat.testBit_or, Bool.or_eq_true] at hk
    rcases hk with hk | hk
    · exact rP_sb hf n s' t' x' h1 k hk
    · rw [Nat.testBit_two_pow, decide_eq_true_iff] at hk
      rw [← hk]
      exact h3
def rRs (set s rest : Nat) : Prop := rest < 16 ∧ ∀ k, rest.testBit k = true ↔ (set.testBit k = true ∧ ¬ s.testBit k = true)
theorem rRs_0 {set s rest : Nat} (h : rRs set s rest) (e : rest = 0) (hs : sb s set) : s = set := by
  apply Nat.eq_of_testBit_eq
  intro k
  cases h1 : set.testBit k
  · cases h2 : s.testBit k
    · rfl
    · rw [hs k h2] at h1; cases h1
  · cases h2 : s.testBit k
    · have := (h.2 k).2 ⟨h1, by rw [h2]; decide⟩
      rw [e, Nat.zero_testBit] at this
      cases this
    · rfl
theorem rRs_off {set s rest t : Nat} (h : rRs set s rest) (ht : t < 4) : rRs set (s ||| 2 ^ t) (zz_off rest t) := by
  have h16 := (rg_off rest h.1 t ht).1
  refine ⟨h16, fun k => ?_⟩
  rw [Nat.testBit_or, Bool.or_eq_true, Nat.testBit_two_pow, decide_eq_true_iff]
  by_cases hk : k < 9
  · rw [(zz_wb4 rest (by have := h.1; omega) t (by omega) k hk).1]
    by_cases e : k = t
    · rw [if_pos e]
      exact ⟨fun q => (by cases q), fun q => absurd (Or.inr e.symm) q.2⟩
    · rw [if_neg e, h.2 k]
      exact ⟨fun q => ⟨q.1, fun z => z.elim q.2 (fun z => e z.symm)⟩, fun q => ⟨q.1, fun z => q.2 (.inl z)⟩⟩
  · have p4 : 2 ^ 4 ≤ 2 ^ k := Nat.pow_le_pow_right (by decide) (by omega)
    have z1 : (zz_off rest t).testBit k = false := Nat.testBit_lt_two_pow (by omega)
    have z2 : rest.testBit k = false := Nat.testBit_lt_two_pow (by have := h.1; omega)
    rw [z1]
    constructor
    · intro q; cases q
    · intro q
      have := (h.2 k).2 ⟨q.1, fun z => q.2 (.inl z)⟩
      rw [z2] at this
      cases this
theorem rP_F {S : ov_S} {set f l : Nat} (hset : set < 16) (hf : set.testBit f = true) (hl : l < 3) {w rest0 : Nat} (hr0 : rRs set (2 ^ f) rest0) : ∀ (n m s t x rest : Nat), rRs set s rest → rP S set f l n s t x → rF S m x rest w → ∃ k, rF S k l rest0 w
  | 0, m, s, t, x, rest, hr, hP, hF => by
    obtain ⟨e1, e2, e3⟩ := hP
    subst e1; subst e3
    have : rest = rest0 := by
      apply Nat.eq_of_testBit_eq
      intro k
      have a := hr.2 k
      have b := hr0.2 k
      cases h1 : rest.testBit k
      · cases h2 : rest0.testBit k
        · rfl
        · have := a.2 (b.1 h2); rw [h1] at this; cases this
      · rw [b.2 (a.1 h1)]
    rw [← this]
    exact ⟨m, hF⟩
  | n + 1, m, s, t, x, rest, hr, hP, hF => by
    obtain ⟨s', t', x', h1, h2, h3, h4, h5, h6⟩ := hP
    have ht4 : t < 4 := by
      apply Classical.byContradiction
      intro hn
      have p4 : 2 ^ 4 ≤ 2 ^ t := Nat.pow_le_pow_right (by decide) (by omega)
      rw [Nat.testBit_lt_two_pow (show set < 2 ^ t by omega)] at h3
      cases h3
    -- what is left before t
    have hx : ∃ rest', rRs set s' rest' := by
      refine ⟨rest ||| 2 ^ t, ?_, fun k => ?_⟩
      · exact Nat.or_lt_two_pow (n := 4) hr.1 (Nat.pow_lt_pow_of_lt (by decide) ht4)
      · rw [Nat.testBit_or, Bool.or_eq_true, Nat.testBit_two_pow, decide_eq_true_iff, hr.2 k, h4, Nat.testBit_or, Bool.or_eq_true, Nat.testBit_two_pow, decide_eq_true_iff]
        by_cases e : t = k
        · subst e
          exact ⟨fun _ => ⟨h3, by rw [h2]; decide⟩, fun _ => .inr rfl⟩
        · exact ⟨fun q => q.elim (fun z => ⟨z.1, fun y => z.2 (.inl y)⟩) (fun z => absurd z e), fun q => .inl ⟨q.1, fun z => z.elim q.2 e⟩⟩
    obtain ⟨rest', hr'⟩ := hx
    have hb : rest'.testBit t = true := (hr'.2 t).2 ⟨h3, by rw [h2]; decide⟩
    have ho := rRs_off hr' ht4
    have eo : zz_off rest' t = rest := by
      apply Nat.eq_of_testBit_eq
      intro k
      have a := ho.2 k
      have b := hr.2 k
      rw [← h4] at a
      cases z1 : (zz_off rest' t).testBit k
      · cases z2 : rest.testBit k
        · rfl
        · have := a.2 (b.1 z2); rw [z1] at this; cases this
      · rw [b.2 (a.1 z1)]
    refine rP_F hset hf hl hr0 n (m + 1) s' t' x' rest' hr' h1 (.inr ⟨?_, t, ht4, hb, x, h5, h6, by rw [eo]; exact hF⟩)
    intro e
    rw [e, Nat.zero_testBit] at hb
    cases hb
theorem rF_P {S : ov_S} {set f l : Nat} (hf : set.testBit f = true) {w : Nat} : ∀ (m n s t x rest : Nat), rRs set s rest → rP S set f l n s t x → rF S m x rest w → ∃ n t, rP S set f l n set t w
  | 0, n, s, t, x, rest, hr, hP, hF => by
    have e := rRs_0 hr hF.1 (rP_sb hf n s t x hP)
    rw [e, hF.2] at hP
    exact ⟨n, t, hP⟩
  | m + 1, n, s, t, x, rest, hr, hP, hF => by
    rcases hF with hF | ⟨h1, nx, h2, h3, g', h4, h5, h6⟩
    · have e := rRs_0 hr hF.1 (rP_sb hf n s t x hP)
      rw [e, hF.2] at hP
      exact ⟨n, t, hP⟩
    · have q := (hr.2 nx).1 h3
      exact rF_P hf m (n + 1) (s ||| 2 ^ nx) nx g' (zz_off rest nx) (rRs_off hr h2) ⟨s, t, x, hP, Bool.eq_false_iff.mpr q.2, q.1, rfl, h4, h5⟩ h6
def rI (S S' : ov_S) (R : Nat → Nat) : Prop := sc S S' ∧ ∀ s, s < 16 → S'.1 98 0 s = nI (R s) ∧ R s < 4096
def rSd (S : ov_S) (set f l : Nat) (R : Nat → Nat) : Prop := ∀ s a, s < 16 → (R s).testBit a = true → a < 12 ∧ ∃ n, rP S set f l n s (a / 3) (a % 3)
def rMn (s : Nat) (R R' : Nat → Nat) : Prop := (∀ s', sb (R s') (R' s')) ∧ ∀ s', s' ≤ s → R' s' = R s'
theorem rMn_r {s : Nat} {R : Nat → Nat} : rMn s R R := ⟨fun _ => sb_r _, fun _ _ => rfl⟩
theorem rMn_t {s : Nat} {R R1 R2 : Nat → Nat} (h : rMn s R R1) (k : rMn s R1 R2) : rMn s R R2 := ⟨fun s' => sb_t (h.1 s') (k.1 s'), fun s' hs => (k.2 s' hs).trans (h.2 s' hs)⟩
theorem rg_or : ∀ s : Nat, s < 16 → ∀ t : Nat, t < 4 → (s ||| 2 ^ t) < 16 ∧ (s.testBit t = false → s < (s ||| 2 ^ t)) := by decide +kernel
theorem rg_grows {d c mm lb nz wc : Nat} {S S0 : ov_S} {Q : ov_Q} {set f l s a : Nat} {R0 : Nat → Nat} (hw : rl_w c mm lb nz wc S.1 S.1) (hset : set < 2 ^ c) (hs : s < 16) (ha : a < 12) (hI0 : rI S S0 R0) (hS0 : rSd S set f l R0) (hbit : (R0 s).testBit a = true)
    (h : ∀ S' R', rI S S' R' → rSd S set f l R' → rMn s R0 R' → (∀ t x, t < 4 → x < 3 → set.testBit t = true → s.testBit t = false → rL S t x (a % 3) → (R' (s ||| 2 ^ t)).testBit (3 * t + x) = true) → Q none S') : ov_V true true d 0 0 mq_Mod_grows 0 [some (.inr (.inr (true, 14, 0))), some (.inl (nI s)), some (.inl (nI set)), some (.inl (nI a)), none, none] [] S0 Q := by
  have hc := hw.1.1
  obtain ⟨p1, p2, p3⟩ := rg_2c c (by omega)
  have ea : (nI a - nI a / 3 * 3 : Int32) = nI (a % 3) := pk_rem (d := 3) (by omega) (by decide) (by decide)
  have ha3 : a % 3 < 3 := Nat.mod_lt _ (by decide)
  obtain ⟨_, na, hPa⟩ := hS0 s a hs hbit
  -- one THREE
  have inner : ∀ (t : Nat), t < 4 → set.testBit t = true → s.testBit t = false → ∀ (P : (Nat → Nat) → Prop), (∀ R R' : Nat → Nat, rMn s R R' → P R → P R') → (∀ S' R', rI S S' R' → rSd S set f l R' → rMn s R0 R' → P R' → (∀ x, x < 3 → rL S t x (a % 3) → (R' (s ||| 2 ^ t)).testBit (3 * t + x) = true) → ov_V true true d 0 0 mq_Mod_grows 104 [some (.inr (.inr (true, 14, 0))), some (.inl (nI s)), some (.inl (nI set)), some (.inl (nI a)), some (.inl (nI t)), none] [] S' Q) → ∀ (j x : Nat), x + j = 3 → ∀ S' R', rI S S' R' → rSd S set f l R' → rMn s R0 R' → P R' → (∀ x', x' < x → rL S t x' (a % 3) → (R' (s ||| 2 ^ t)).testBit (3 * t + x') = true) → ov_V true true d 0 0 mq_Mod_grows 37 [some (.inr (.inr (true, 14, 0))), some (.inl (nI s)), some (.inl (nI set)), some (.inl (nI a)), some (.inl (nI t)), some (.inl (nI x))] [] S' Q := by
    intro t ht hst hs0 P hP hk j
    have hor := rg_or s hs t ht
    induction j with
    | zero =>
      intro x hx S' R' k1 k2 k3 kP k4
      have e : x = 3 := by omega
      subst e
      exact r_Mod_grows_37 ⟨fun _ => hk S' R' k1 k2 k3 kP k4, fun q => absurd (by decide) q⟩
    | succ j ih =>
      intro x hx S' R' k1 k2 k3 kP k4
      have hx3 : x < 3 := by omega
      refine r_Mod_grows_37 ?_
      have e36 : (9 * nI t + 3 * nI x + nI (a % 3) : Int32) = nI (9 * t + 3 * x + a % 3) := zz_9 t x (a % 3)
      have e98 : ov_g S' 98 0 (s ||| 2 ^ t) = nI (R' (s ||| 2 ^ t)) := (k1.2 _ hor.1).1
      rw [ea, e36, zz_ix (n := 9 * t + 3 * x + a % 3) (by omega), zz_shl (t := t) (by omega), zz_or, zz_ix (n := s ||| 2 ^ t) (by omega), e98, zz_3, zz_shl (t := 3 * t + x) (by omega), zz_or]
      have eL : ov_g S' 97 0 (9 * t + 3 * x + a % 3) = S.1 97 0 (9 * t + 3 * x + a % 3) := k1.1.2 97 0 _ rfl
      rw [eL]
      have ib : ov_ib (nI (9 * t + 3 * x + a % 3)) 36 := zz_ib (by omega) (by decide)
      have ib2 : ov_ib (nI (s ||| 2 ^ t)) 16 := zz_ib hor.1 (by decide)
      refine ⟨fun q => absurd q (nI_ge (b := 3) hx3 (by decide)), fun _ => ⟨ib, fun n => r_Mod_grows_98 ?_, fun y => ⟨ib2, ib2, r_Mod_grows_98 ?_⟩⟩⟩
      · rw [nI_1]
        refine ih (x + 1) (by omega) S' R' k1 k2 k3 kP (fun x' hx' hL => ?_)
        by_cases e : x' = x
        · subst e; exact absurd hL n
        · exact k4 x' (by omega) hL
      · rw [nI_1]
        have mn : rMn s R' (fun s' => if s' = s ||| 2 ^ t then R' s' ||| 2 ^ (3 * t + x) else R' s') := by
          refine ⟨fun s' k hk => ?_, fun s' hs' => if_neg (by have := hor.2 hs0; omega)⟩
          show (if s' = s ||| 2 ^ t then R' s' ||| 2 ^ (3 * t + x) else R' s').testBit k = true
          by_cases e : s' = s ||| 2 ^ t
          · rw [if_pos e, Nat.testBit_or, hk]; rfl
          · rw [if_neg e]; exact hk
        refine ih (x + 1) (by omega) _ (fun s' => if s' = s ||| 2 ^ t then R' s' ||| 2 ^ (3 * t + x) else R' s') ⟨sc_w k1.1 rfl, fun s' hs' => ?_⟩ (fun s' b hs' hb => ?_) (rMn_t k3 mn) (hP _ _ mn kP) (fun x' hx' hL => ?_)
        · show (ov_w S' 98 0 (s ||| 2 ^ t) (nI (R' (s ||| 2 ^ t) ||| 2 ^ (3 * t + x)))).1 98 0 s' = nI (if s' = s ||| 2 ^ t then R' s' ||| 2 ^ (3 * t + x) else R' s') ∧ (if s' = s ||| 2 ^ t then R' s' ||| 2 ^ (3 * t + x) else R' s') < 4096
          rw [rl_wr]
          by_cases e : s' = s ||| 2 ^ t
          · rw [if_pos e, if_pos e, e]
            exact ⟨rfl, Nat.or_lt_two_pow (n := 12) (k1.2 _ hor.1).2 (Nat.pow_lt_pow_of_lt (by decide) (by omega))⟩
          · rw [if_neg e, if_neg e]; exact k1.2 s' hs'
        · have hb : (if s' = s ||| 2 ^ t then R' s' ||| 2 ^ (3 * t + x) else R' s').testBit b = true := hb
          by_cases e : s' = s ||| 2 ^ t
          · rw [if_pos e, Nat.testBit_or, Bool.or_eq_true] at hb
            rcases hb with hb | hb
            · exact k2 s' b hs' hb
            · rw [Nat.testBit_two_pow, decide_eq_true_iff] at hb
              subst hb
              refine ⟨by omega, na + 1, s, a / 3, a % 3, hPa, ?_, ?_, ?_, by omega, ?_⟩
              · rw [show (3 * t + x) / 3 = t by omega]; exact hs0
              · rw [show (3 * t + x) / 3 = t by omega]; exact hst
              · rw [show (3 * t + x) / 3 = t by omega]; exact e
              · rw [show (3 * t + x) / 3 = t by omega, show (3 * t + x) % 3 = x by omega]; exact y
          · rw [if_neg e] at hb
            exact k2 s' b hs' hb
        · show (if s ||| 2 ^ t = s ||| 2 ^ t then R' (s ||| 2 ^ t) ||| 2 ^ (3 * t + x) else _).testBit (3 * t + x') = true
          rw [if_pos rfl, Nat.testBit_or, Bool.or_eq_true, Nat.testBit_two_pow, decide_eq_true_iff]
          by_cases e : x' = x
          · exact .inr (by omega)
          · exact .inl (k4 x' (by omega) hL)
  have outer : ∀ (j t : Nat), t + j = c → ∀ S' R', rI S S' R' → rSd S set f l R' → rMn s R0 R' → (∀ t' x, t' < t → x < 3 → set.testBit t' = true → s.testBit t' = false → rL S t' x (a % 3) → (R' (s ||| 2 ^ t')).testBit (3 * t' + x) = true) → ov_V true true d 0 0 mq_Mod_grows 3 [some (.inr (.inr (true, 14, 0))), some (.inl (nI s)), some (.inl (nI set)), some (.inl (nI a)), some (.inl (nI t)), none] [] S' Q := by
    intro j
    induction j with
    | zero =>
      intro t ht S' R' k1 k2 k3 k4
      have e : t = c := by omega
      subst e
      have e2 : ov_g S' 14 0 2 = nI t := (k1.1.2 14 0 2 rfl).trans hw.1.2.2
      refine r_Mod_grows_3 ⟨fun _ => h S' R' k1 k2 k3 (fun t' x ht' hx hst hs0 hL => ?_), fun q => absurd (by rw [e2]; exact nI_le (Nat.le_refl _) (by omega)) q⟩
      refine k4 t' x ?_ hx hst hs0 hL
      apply Classical.byContradiction
      intro hn
      have p4 : 2 ^ t ≤ 2 ^ t' := Nat.pow_le_pow_right (by decide) (by omega)
      rw [Nat.testBit_lt_two_pow (show set < 2 ^ t' by omega)] at hst
      cases hst
    | succ j ih =>
      intro t ht S' R' k1 k2 k3 k4
      have e2 : ov_g S' 14 0 2 = nI c := (k1.1.2 14 0 2 rfl).trans hw.1.2.2
      have skip : ¬ (set.testBit t = true ∧ s.testBit t = false) → ov_V true true d 0 0 mq_Mod_grows 104 [some (.inr (.inr (true, 14, 0))), some (.inl (nI s)), some (.inl (nI set)), some (.inl (nI a)), some (.inl (nI t)), none] [] S' Q := by
        intro hn
        refine r_Mod_grows_104 ?_
        rw [nI_1]
        refine ih (t + 1) (by omega) S' R' k1 k2 k3 (fun t' x ht' hx hst hs0 hL => ?_)
        by_cases e : t' = t
        · subst e; exact absurd ⟨hst, hs0⟩ hn
        · exact k4 t' x (by omega) hx hst hs0 hL
      have tb : ∀ m : Nat, m < 16 → (nI (m / 2 ^ t % 2) = 0 ↔ m.testBit t = false) ∧ (nI (m / 2 ^ t % 2) = 1 ↔ m.testBit t = true) := by
        intro m hm
        rw [Nat.testBit_eq_decide_div_mod_eq]
        have h2 : m / 2 ^ t % 2 < 2 := Nat.mod_lt _ (by decide)
        generalize m / 2 ^ t % 2 = y at h2
        have : y = 0 ∨ y = 1 := by omega
        rcases this with e | e <;> subst e <;> decide
      refine r_Mod_grows_3 ?_
      rw [e2, zz_bitN (b := set) (by omega) (by omega), zz_bitN (b := s) (by omega) (by omega)]
      refine ⟨fun q => absurd q (nI_ge (by omega) (by omega)), fun _ => ⟨fun q => skip (fun z => by have := (tb set (by omega)).1.1 q; rw [z.1] at this; cases this), fun q => ⟨fun q2 => ?_, fun q2 => skip (fun z => by have := (tb s hs).2.1 q2; rw [z.2] at this; cases this)⟩⟩⟩
      have hst : set.testBit t = true := by
        cases z : set.testBit t
        · exact absurd ((tb set (by omega)).1.2 z) q
        · rfl
      have hs0 : s.testBit t = false := by
        cases z : s.testBit t
        · rfl
        · exact absurd ((tb s hs).2.2 z) q2
      refine inner t (by omega) hst hs0 (fun R => ∀ t' x, t' < t → x < 3 → set.testBit t' = true → s.testBit t' = false → rL S t' x (a % 3) → (R (s ||| 2 ^ t')).testBit (3 * t' + x) = true) (fun R R' hm hR t' x z1 z2 z3 z4 z5 => hm.1 _ _ (hR t' x z1 z2 z3 z4 z5)) (fun S2 R2 m1 m2 m3 mP m4 => r_Mod_grows_104 ?_) 3 0 (by omega) S' R' k1 k2 k3 k4 (fun x' hx' => absurd hx' (by omega))
      rw [nI_1]
      refine ih (t + 1) (by omega) S2 R2 m1 m2 m3 (fun t' x ht' hx hst' hs0' hL => ?_)
      by_cases e : t' = t
      · subst e; exact m4 x hx hL
      · exact mP t' x (by omega) hx hst' hs0' hL
  exact r_Mod_grows_0 (outer c 0 (by omega) S0 R0 hI0 hS0 rMn_r (fun t' x ht' => absurd ht' (by omega)))
def rCp (S : ov_S) (set s0 : Nat) (R : Nat → Nat) : Prop := ∀ s, s < s0 → sb s set → ∀ a, a < 12 → (R s).testBit a = true → ∀ t x, t < 4 → x < 3 → set.testBit t = true → s.testBit t = false → rL S t x (a % 3) → (R (s ||| 2 ^ t)).testBit (3 * t + x) = true
theorem rCp_m {S : ov_S} {set s : Nat} {R R' : Nat → Nat} (hm : rMn s R R') (h : rCp S set s R) : rCp S set s R' := by
  intro s' hs' hsb a ha hb t x ht hx h1 h2 h3
  rw [hm.2 s' (by omega)] at hb
  exact hm.1 _ _ (h s' hs' hsb a ha hb t x ht hx h1 h2 h3)
/-- a set lends round, as the reference asks: first f, lending l -/
def rK (S : ov_S) (set f l : Nat) : Prop := ∃ n t x, rP S set f l n set t x ∧ x < 3 ∧ rL S f l x
theorem rg_isRing {d c mm lb nz wc : Nat} {S S0 : ov_S} {Q : ov_Q} {set f l : Nat} (hd : 2 ≤ d) (hw : rl_w c mm lb nz wc S.1 S.1) (hset : set < 2 ^ c) (hf4 : f < 4) (hl : l < 3) (hf : set.testBit f = true) (hs0 : sc S S0)
    (h1 : ∀ S', sc S S' → rK S set f l → Q (some (.inl 1)) S') (h0 : ∀ S', sc S S' → ¬ rK S set f l → Q (some (.inl 0)) S') : ov_V true true d 0 0 mq_Mod_isRing 0 [some (.inr (.inr (true, 14, 0))), some (.inl (nI set)), some (.inl (nI f)), some (.inl (nI l)), none, none] [] S0 Q := by
  have hc := hw.1.1
  obtain ⟨p1, p2, p3⟩ := rg_2c c (by omega)
  have hf16 : 2 ^ f < 16 := Nat.pow_lt_pow_of_lt (m := 4) (by decide) hf4
  have hset16 : set < 16 := by omega
  -- the answer
  have fin : ∀ S' R', rI S S' R' → rSd S set f l R' → rCp S set 16 R' → (R' (2 ^ f)).testBit (3 * f + l) = true → ov_V true true d 0 0 mq_Mod_isRing 121 [some (.inr (.inr (true, 14, 0))), some (.inl (nI set)), some (.inl (nI f)), some (.inl (nI l)), some (.inl 0), none] [] S' Q := by
    intro S' R' k1 k2 k3 kB
    have compl : ∀ (n s t x : Nat), rP S set f l n s t x → s < 16 ∧ t < 4 ∧ x < 3 ∧ (R' s).testBit (3 * t + x) = true := by
      intro n
      induction n with
      | zero =>
        rintro s t x ⟨rfl, rfl, rfl⟩
        exact ⟨hf16, hf4, hl, kB⟩
      | succ n ih =>
        rintro s t x ⟨s', t', x', q1, q2, q3, q4, q5, q6⟩
        obtain ⟨z1, z2, z3, z4⟩ := ih s' t' x' q1
        have ht4 : t < 4 := by
          apply Classical.byContradiction
          intro hn
          have p4 : 2 ^ 4 ≤ 2 ^ t := Nat.pow_le_pow_right (by decide) (by omega)
          rw [Nat.testBit_lt_two_pow (show set < 2 ^ t by omega)] at q3
          cases q3
        have hor := rg_or s' z1 t ht4
        refine ⟨by rw [q4]; exact hor.1, ht4, q5, ?_⟩
        rw [q4]
        refine k3 s' z1 (rP_sb hf n s' t' x' q1) (3 * t' + x') (by omega) z4 t x ht4 q5 q3 q2 ?_
        rw [show (3 * t' + x') % 3 = x' by omega]
        exact q6
    have e98 : ov_g S' 98 0 set = nI (R' set) := (k1.2 set hset16).1
    have l98 := (k1.2 set hset16).2
    have loop : ∀ (j a : Nat), a + j = 12 → (∀ a', a' < a → ¬ ((R' set).testBit a' = true ∧ rL S f l (a' % 3))) → ov_V true true d 0 0 mq_Mod_isRing 121 [some (.inr (.inr (true, 14, 0))), some (.inl (nI set)), some (.inl (nI f)), some (.inl (nI l)), some (.inl (nI a)), none] [] S' Q := by
      intro j
      induction j with
      | zero =>
        intro a ha hI
        have e : a = 12 := by omega
        subst e
        refine r_Mod_isRing_121 ⟨fun _ => h0 S' k1.1 ?_, fun q => absurd (by decide) q⟩
        rintro ⟨n, t, x, q1, q2, q3⟩
        obtain ⟨_, z2, _, z4⟩ := compl n set t x q1
        exact hI (3 * t + x) (by omega) ⟨z4, by rw [show (3 * t + x) % 3 = x by omega]; exact q3⟩
      | succ j ih =>
        intro a ha hI
        have ea : (nI a - nI a / 3 * 3 : Int32) = nI (a % 3) := pk_rem (d := 3) (by omega) (by decide) (by decide)
        have ha3 : a % 3 < 3 := Nat.mod_lt _ (by decide)
        have e36 : (9 * nI f + 3 * nI l + nI (a % 3) : Int32) = nI (9 * f + 3 * l + a % 3) := zz_9 f l (a % 3)
        have eL : ov_g S' 97 0 (9 * f + 3 * l + a % 3) = S.1 97 0 (9 * f + 3 * l + a % 3) := k1.1.2 97 0 _ rfl
        have tb : (nI (R' set / 2 ^ a % 2) = 1 ↔ (R' set).testBit a = true) := by
          rw [Nat.testBit_eq_decide_div_mod_eq]
          have h2 : R' set / 2 ^ a % 2 < 2 := Nat.mod_lt _ (by decide)
          generalize R' set / 2 ^ a % 2 = y at h2
          have : y = 0 ∨ y = 1 := by omega
          rcases this with e | e <;> subst e <;> decide
        have skip : ¬ ((R' set).testBit a = true ∧ rL S f l (a % 3)) → ov_V true true d 0 0 mq_Mod_isRing 167 [some (.inr (.inr (true, 14, 0))), some (.inl (nI set)), some (.inl (nI f)), some (.inl (nI l)), some (.inl (nI a)), none] [] S' Q := by
          intro hn
          refine r_Mod_isRing_167 ?_
          rw [nI_1]
          refine ih (a + 1) (by omega) (fun a' ha' => ?_)
          by_cases e : a' = a
          · rw [e]; exact hn
          · exact hI a' (by omega)
        refine r_Mod_isRing_121 ?_
        rw [zz_ix (n := set) (by omega), e98, zz_bitN (by omega) (by omega), ea, e36, zz_ix (n := 9 * f + 3 * l + a % 3) (by omega), eL]
        refine ⟨fun q => absurd q (nI_ge (b := 12) (by omega) (by decide)), fun _ => ⟨zz_ib hset16 (by decide), fun n => skip (fun z => n (tb.2 z.1)), fun y => ⟨zz_ib (by omega) (by decide), fun n => skip (fun z => n z.2), fun y2 => h1 S' k1.1 ?_⟩⟩⟩
        obtain ⟨_, n, hP⟩ := k2 set a hset16 (tb.1 y)
        exact ⟨n, a / 3, a % 3, hP, ha3, y2⟩
    exact loop 12 0 (by omega) (fun a' ha' => absurd ha' (by omega))
  -- set by set
  have pass : ∀ (j s : Nat), s + j = 16 → ∀ S' R', rI S S' R' → rSd S set f l R' → rCp S set s R' → (R' (2 ^ f)).testBit (3 * f + l) = true → ov_V true true d 0 0 mq_Mod_isRing 42 [some (.inr (.inr (true, 14, 0))), some (.inl (nI set)), some (.inl (nI f)), some (.inl (nI l)), some (.inl (nI s)), none] [] S' Q := by
    intro j
    induction j with
    | zero =>
      intro s hs S' R' k1 k2 k3 kB
      have e : s = 16 := by omega
      subst e
      exact r_Mod_isRing_42 ⟨fun _ => fin S' R' k1 k2 k3 kB, fun q => absurd (by decide) q⟩
    | succ j ih =>
      intro s hs S' R' k1 k2 k3 kB
      have hs16 : s < 16 := by omega
      have next : ∀ S2 R2, rI S S2 R2 → rSd S set f l R2 → rCp S set (s + 1) R2 → (R2 (2 ^ f)).testBit (3 * f + l) = true → ov_V true true d 0 0 mq_Mod_isRing 112 [some (.inr (.inr (true, 14, 0))), some (.inl (nI set)), some (.inl (nI f)), some (.inl (nI l)), some (.inl (nI s)), none] [] S2 Q := by
        intro S2 R2 m1 m2 m3 mB
        refine r_Mod_isRing_112 ?_
        rw [nI_1]
        exact ih (s + 1) (by omega) S2 R2 m1 m2 m3 mB
      have e98 : ov_g S' 98 0 s = nI (R' s) := (k1.2 s hs16).1
      have l98 := (k1.2 s hs16).2
      refine r_Mod_isRing_42 ?_
      rw [sb_not (by omega), zz_ix (n := s) (by omega), e98]
      refine ⟨fun q => absurd q (nI_ge (b := 16) hs16 (by decide)), fun _ => ⟨fun n => next S' R' k1 k2 (fun s' hs' hsb => ?_) kB, fun y => ⟨zz_ib hs16 (by decide), fun n => ?_, fun z => next S' R' k1 k2 (fun s' hs' hsb a ha hb => ?_) kB⟩⟩⟩
      · by_cases e : s' = s
        · subst e; exact absurd hsb n
        · exact k3 s' (by omega) hsb
      · -- every end of a row
        have al : ∀ (j a : Nat), a + j = 12 → ∀ S2 R2, rI S S2 R2 → rSd S set f l R2 → rMn s R' R2 → (∀ a', a' < a → (R' s).testBit a' = true → ∀ t x, t < 4 → x < 3 → set.testBit t = true → s.testBit t = false → rL S t x (a' % 3) → (R2 (s ||| 2 ^ t)).testBit (3 * t + x) = true) → ov_V true true d 0 0 mq_Mod_isRing 74 [some (.inr (.inr (true, 14, 0))), some (.inl (nI set)), some (.inl (nI f)), some (.inl (nI l)), some (.inl (nI s)), some (.inl (nI a))] [] S2 Q := by
          intro j
          induction j with
          | zero =>
            intro a ha S2 R2 m1 m2 m3 m4
            have e : a = 12 := by omega
            subst e
            refine r_Mod_isRing_74 (by omega) ⟨fun _ => next S2 R2 m1 m2 (fun s' hs' hsb a ha hb => ?_) (m3.1 _ _ kB), fun q => absurd (by decide) q⟩
            by_cases e : s' = s
            · subst e
              rw [m3.2 s' (Nat.le_refl _)] at hb
              exact m4 a ha hb
            · exact rCp_m m3 k3 s' (by omega) hsb a ha hb
          | succ j ih2 =>
            intro a ha S2 R2 m1 m2 m3 m4
            have eR : R2 s = R' s := m3.2 s (Nat.le_refl _)
            have e982 : ov_g S2 98 0 s = nI (R' s) := by rw [← eR]; exact (m1.2 s hs16).1
            have tb : (nI (R' s / 2 ^ a % 2) = 1 ↔ (R' s).testBit a = true) := by
              rw [Nat.testBit_eq_decide_div_mod_eq]
              have h2 : R' s / 2 ^ a % 2 < 2 := Nat.mod_lt _ (by decide)
              generalize R' s / 2 ^ a % 2 = y at h2
              have : y = 0 ∨ y = 1 := by omega
              rcases this with e | e <;> subst e <;> decide
            refine r_Mod_isRing_74 (by omega) ?_
            rw [zz_ix (n := s) (by omega), e982, zz_bitN (by omega) (by omega)]
            refine ⟨fun q => absurd q (nI_ge (b := 12) (by omega) (by decide)), fun _ => ⟨zz_ib hs16 (by decide), fun n => r_Mod_isRing_106 ?_, fun yb => ?_⟩⟩
            · rw [nI_1]
              refine ih2 (a + 1) (by omega) S2 R2 m1 m2 m3 (fun a' ha' hb => ?_)
              by_cases e : a' = a
              · subst e; exact absurd (tb.2 hb) n
              · exact m4 a' (by omega) hb
            · refine rg_grows hw hset hs16 (by omega) m1 m2 (by rw [eR]; exact tb.1 yb) (fun S3 R3 w1 w2 w3 w4 => r_Mod_isRing_106 ?_)
              rw [nI_1]
              refine ih2 (a + 1) (by omega) S3 R3 w1 w2 (rMn_t m3 w3) (fun a' ha' hb t x ht hx z1 z2 z3 => ?_)
              by_cases e : a' = a
              · subst e; exact w4 t x ht hx z1 z2 z3
              · exact w3.1 _ _ (m4 a' (by omega) hb t x ht hx z1 z2 z3)
        exact al 12 0 (by omega) S' R' k1 k2 rMn_r (fun a' ha' => absurd ha' (by omega))
      · by_cases e : s' = s
        · subst e
          have e0 : R' s' = 0 := (zz_n0 (by omega)).1 z
          rw [e0, Nat.zero_testBit] at hb
          cases hb
        · exact k3 s' (by omega) hsb a ha hb
  -- all empty
  have fill : ∀ (j i : Nat), i + j = 16 → ∀ S', sc S S' → (∀ s, s < i → S'.1 98 0 s = 0) → ov_V true true d 0 0 mq_Mod_isRing 3 [some (.inr (.inr (true, 14, 0))), some (.inl (nI set)), some (.inl (nI f)), some (.inl (nI l)), some (.inl (nI i)), none] [] S' Q := by
    intro j
    induction j with
    | zero =>
      intro i hi S' a1 a2
      have e : i = 16 := by omega
      subst e
      refine r_Mod_isRing_3 ⟨fun _ => ?_, fun q => absurd (by decide) q⟩
      rw [zz_shl (t := f) (by omega), zz_3, zz_shl (t := 3 * f + l) (by omega), zz_ix (n := 2 ^ f) (by omega)]
      have h12 : 2 ^ (3 * f + l) < 4096 := Nat.pow_lt_pow_of_lt (m := 12) (by decide) (by omega)
      refine ⟨zz_ib hf16 (by decide), pass 16 0 (by omega) _ (fun s => if s = 2 ^ f then 2 ^ (3 * f + l) else 0) ⟨sc_w a1 rfl, fun s hs => ?_⟩ (fun s a hs hb => ?_) (fun s hs => absurd hs (by omega)) ?_⟩
      · show (ov_w S' 98 0 (2 ^ f) (nI (2 ^ (3 * f + l)))).1 98 0 s = nI (if s = 2 ^ f then 2 ^ (3 * f + l) else 0) ∧ (if s = 2 ^ f then 2 ^ (3 * f + l) else 0) < 4096
        rw [rl_wr]
        by_cases e : s = 2 ^ f
        · rw [if_pos e, if_pos e]; exact ⟨rfl, h12⟩
        · rw [if_neg e, if_neg e]; exact ⟨a2 s hs, by decide⟩
      · have hb : (if s = 2 ^ f then 2 ^ (3 * f + l) else 0).testBit a = true := hb
        by_cases e : s = 2 ^ f
        · rw [if_pos e, Nat.testBit_two_pow, decide_eq_true_iff] at hb
          subst hb
          exact ⟨by omega, 0, e, by omega, by omega⟩
        · rw [if_neg e, Nat.zero_testBit] at hb
          cases hb
      · show (if 2 ^ f = 2 ^ f then 2 ^ (3 * f + l) else 0).testBit (3 * f + l) = true
        rw [if_pos rfl]
        exact Nat.testBit_two_pow_self
    | succ j ih =>
      intro i hi S' a1 a2
      refine r_Mod_isRing_3 ⟨fun q => absurd q (nI_ge (b := 16) (by omega) (by decide)), fun _ => ⟨zz_ib (by omega) (by decide), ?_⟩⟩
      rw [nI_1, zz_ix (n := i) (by omega)]
      refine ih (i + 1) (by omega) _ (sc_w a1 rfl) (fun s hs => ?_)
      rw [rl_wr]
      by_cases e : s = i
      · rw [if_pos e]
      · rw [if_neg e]; exact a2 s (by omega)
  exact r_Mod_isRing_0 (fill 16 0 (by omega) S0 hs0 (fun s hs => absurd hs (by omega)))
theorem rK_C {S : ov_S} {set : Nat} (hset : set < 16) (h0 : 0 < set) : (∃ l, l < 3 ∧ rK S set (rlo set) l) ↔ rC S set := by
  obtain ⟨hlo, hb⟩ := rlo_ok set hset
  have hf : set.testBit (rlo set) = true := hb.elim (fun e => absurd e (by omega)) (fun e => e)
  have hr0 : rRs set (2 ^ rlo set) (zz_off set (rlo set)) := by
    have h := rRs_off (set := set) (s := 0) (rest := set) (t := rlo set) ⟨hset, fun k => ⟨fun q => ⟨q, by rw [Nat.zero_testBit]; decide⟩, fun q => q.1⟩⟩ hlo
    rw [Nat.zero_or] at h
    exact h
  constructor
  · rintro ⟨l, hl, n, t, x, hP, hx, hL⟩
    have hre : rRs set set 0 := ⟨by decide, fun k => ⟨fun q => (by rw [Nat.zero_testBit] at q; cases q), fun q => absurd q.1 q.2⟩⟩
    obtain ⟨k, hk⟩ := rP_F hset hf hl hr0 n 0 set t x 0 hre hP ⟨rfl, rfl⟩
    exact ⟨x, hx, l, hl, hL, rF_4 hr0.1 hk⟩
  · rintro ⟨got, hg, l, hl, hL, hF⟩
    obtain ⟨n, t, hP⟩ := rF_P hf 4 0 (2 ^ rlo set) (rlo set) l _ hr0 ⟨rfl, rfl, rfl⟩ hF
    exact ⟨l, hl, n, t, got, hP, hg, hL⟩
theorem rg_can {d c mm lb nz wc : Nat} {S S0 : ov_S} {Q : ov_Q} {set : Nat} (hd : 3 ≤ d) (hw : rl_w c mm lb nz wc S.1 S.1) (hset : set < 2 ^ c) (h0s : 0 < set) (hs0 : sc S S0)
    (h1 : ∀ S', sc S S' → rC S set → Q (some (.inl 1)) S') (h0 : ∀ S', sc S S' → ¬ rC S set → Q (some (.inl 0)) S') : ov_V true true d 0 0 mq_Mod_canRing 0 [some (.inr (.inr (true, 14, 0))), some (.inl (nI set)), none, none] [] S0 Q := by
  have hc := hw.1.1
  obtain ⟨p1, p2, p3⟩ := rg_2c c (by omega)
  obtain ⟨hlo, hb⟩ := rlo_ok set (by omega)
  have hf : set.testBit (rlo set) = true := hb.elim (fun e => absurd e (by omega)) (fun e => e)
  have hKC := rK_C (S := S) (set := set) (by omega) h0s
  have loop : ∀ (j l : Nat), l + j = 3 → ∀ S', sc S S' → (∀ l', l' < l → ¬ rK S set (rlo set) l') → ov_V true true d 0 0 mq_Mod_canRing 19 [some (.inr (.inr (true, 14, 0))), some (.inl (nI set)), some (.inl (nI (rlo set))), some (.inl (nI l))] [] S' Q := by
    intro j
    induction j with
    | zero =>
      intro l hl S' s1 hI
      have e : l = 3 := by omega
      subst e
      refine r_Mod_canRing_19 (by omega) ⟨fun _ => h0 S' s1 (fun q => ?_), fun q => absurd (by decide) q⟩
      obtain ⟨l, k1, k2⟩ := hKC.2 q
      exact hI l k1 k2
    | succ j ih =>
      intro l hl S' s1 hI
      refine r_Mod_canRing_19 (by omega) ⟨fun q => absurd q (nI_ge (b := 3) (by omega) (by decide)), fun _ => rg_isRing (by omega) hw hset hlo (by omega) hf s1 (fun S2 s2 y => r_Mod_canRing_31 ⟨fun q => absurd q (by decide), fun _ => h1 S2 s2 (hKC.1 ⟨l, by omega, y⟩)⟩) (fun S2 s2 n => r_Mod_canRing_31 ⟨fun _ => ?_, fun q => absurd rfl q⟩)⟩
      rw [nI_1]
      refine ih (l + 1) (by omega) S2 s2 (fun l' hl' => ?_)
      by_cases e : l' = l
      · rw [e]; exact n
      · exact hI l' (by omega)
  have tb : ∀ t, t < 4 → (nI (set / 2 ^ t % 2) = 0 ↔ set.testBit t = false) := by
    intro t _
    rw [Nat.testBit_eq_decide_div_mod_eq]
    have h2 : set / 2 ^ t % 2 < 2 := Nat.mod_lt _ (by decide)
    generalize set / 2 ^ t % 2 = y at h2
    have : y = 0 ∨ y = 1 := by omega
    rcases this with e | e <;> subst e <;> decide
  have find : ∀ (j t : Nat), t + j = rlo set → (∀ t', t' < t → set.testBit t' = false) → ov_V true true d 0 0 mq_Mod_canRing 2 [some (.inr (.inr (true, 14, 0))), some (.inl (nI set)), some (.inl (nI t)), none] [] S0 Q := by
    intro j
    induction j with
    | zero =>
      intro t ht _
      have e : t = rlo set := by omega
      subst e
      refine r_Mod_canRing_2 ?_
      rw [zz_bitN (by omega) (by omega)]
      exact ⟨fun _ => loop 3 0 (by omega) S0 hs0 (fun l' hl' => absurd hl' (by omega)), fun q => by have := (tb _ hlo).1 q; rw [hf] at this; cases this⟩
    | succ j ih =>
      intro t ht hI
      have hz : set.testBit t = false := by
        cases z : set.testBit t
        · rfl
        · have hlt : t < rlo set := by omega
          have : t < 3 := by omega
          unfold rlo at hlt
          have hc3 : t = 0 ∨ t = 1 ∨ t = 2 := by omega
          rcases hc3 with e | e | e
          · subst e; rw [if_pos z] at hlt; exact absurd hlt (by omega)
          · subst e; rw [if_pos z] at hlt; split at hlt <;> exact absurd hlt (by omega)
          · subst e; rw [if_pos z] at hlt; split at hlt <;> (try split at hlt) <;> exact absurd hlt (by omega)
      refine r_Mod_canRing_2 ?_
      rw [zz_bitN (by omega) (by omega)]
      refine ⟨fun n => absurd ((tb t (by omega)).2 hz) n, fun _ => ?_⟩
      rw [nI_1]
      refine ih (t + 1) (by omega) (fun t' ht' => ?_)
      by_cases e : t' = t
      · rw [e]; exact hz
      · exact hI t' (by omega)
  exact r_Mod_canRing_0 (find (rlo set) 0 (by omega) (fun t' ht' => absurd ht' (by omega)))
theorem rg_M {d c mm lb nz wc : Nat} {S : ov_S} {Q : ov_Q} (hd : 5 ≤ d) (hw : rl_w c mm lb nz wc S.1 S.1) (h : ∀ S' o, sc S S' → rB (rC S) (2 ^ c) o → Q (some (.inl (rV o))) S') : ov_V true true d 0 0 mq_Mod_ring 0 [some (.inr (.inr (true, 14, 0))), none, none] [] S Q := by
  have hc := hw.1.1
  obtain ⟨p1, p2, p3⟩ := rg_2c c (by omega)
  have loop : ∀ (j s : Nat), s + j = 2 ^ c → 1 ≤ s → ∀ S' o, sc S S' → rB (rC S) s o → ov_V true true d 0 0 mq_Mod_ring 9 [some (.inr (.inr (true, 14, 0))), some (.inl (rV o)), some (.inl (nI s))] [] S' Q := by
    intro j
    induction j with
    | zero =>
      intro s hs h1s S' o s1 hB
      have e : s = 2 ^ c := by omega
      subst e
      refine r_Mod_ring_9 (by omega) ?_
      rw [show ov_g S' 14 0 2 = nI c from (s1.2 14 0 2 rfl).trans hw.1.2.2, p1]
      exact ⟨fun _ => h S' o s1 hB, fun q => absurd (nI_le (Nat.le_refl _) (by omega)) q⟩
    | succ j ih =>
      intro s hs h1s S' o s1 hB
      have no : ∀ S2, sc S S2 → rB (rC S) (s + 1) o → ov_V true true d 0 0 mq_Mod_ring 56 [some (.inr (.inr (true, 14, 0))), some (.inl (rV o)), some (.inl (nI s))] [] S2 Q := by
        intro S2 s2 hB2
        refine r_Mod_ring_56 ?_
        rw [nI_1]
        exact ih (s + 1) (by omega) (by omega) S2 o s2 hB2
      have yes : ∀ S2, sc S S2 → rB (rC S) (s + 1) (some s) → ov_V true true d 0 0 mq_Mod_ring 56 [some (.inr (.inr (true, 14, 0))), some (.inl (nI s)), some (.inl (nI s))] [] S2 Q := by
        intro S2 s2 hB2
        refine r_Mod_ring_56 ?_
        rw [nI_1]
        exact ih (s + 1) (by omega) (by omega) S2 (some s) s2 hB2
      have skip : (1 < lp s → rC S s → False) → rB (rC S) (s + 1) o := by
        intro hn
        match o, hB with
        | none, hB =>
          intro s' a1 a2 a3
          by_cases e : s' = s
          · subst e; exact hn a3
          · exact hB s' a1 (by omega) a3
        | some b, hB =>
          refine ⟨hB.1, by have := hB.2.1; omega, hB.2.2.1, hB.2.2.2.1, fun s' a1 a2 a3 a4 => ?_⟩
          by_cases e : s' = s
          · subst e; exact absurd a4 (hn a3)
          · exact hB.2.2.2.2 s' a1 (by omega) a3 a4
      have lps := lp_12 s
      refine r_Mod_ring_9 (by omega) ?_
      rw [show ov_g S' 14 0 2 = nI c from (s1.2 14 0 2 rfl).trans hw.1.2.2, p1]
      refine ⟨fun q => absurd q (nI_ge (by omega) (by omega)), fun _ => ones_M (by omega) (r_Mod_ring_24 (by omega) ⟨fun q => no S' s1 (skip (fun z => ?_)), fun q => ⟨fun en => ?_, fun nn => ?_⟩⟩)⟩
      · have : lp s ≤ 1 := (nI_leI (b := 1) (by omega) (by decide)).1 q
        omega
      · have h1 : 1 < lp s := Nat.lt_of_not_le (fun z => q (nI_le (b := 1) z (by decide)))
        have eo : o = none := by
          match o, hB, en with
          | none, _, _ => rfl
          | some b, hB, en =>
            have en : nI b = -1 := en
            exact absurd (show nI b < 0 by rw [en]; decide) (nI_pos (by have := hB.2.1; omega))
        subst eo
        refine r_Mod_ring_46 (by omega) (rg_can (by omega) hw (by omega) (by omega) s1 (fun S2 s2 y => r_Mod_ring_51 ⟨fun q => absurd q (by decide), fun _ => yes S2 s2 ⟨h1s, by omega, h1, y, fun s' a1 a2 a3 a4 => ?_⟩⟩) (fun S2 s2 n => r_Mod_ring_51 ⟨fun _ => no S2 s2 (skip (fun _ => n)), fun q => absurd rfl q⟩))
        by_cases e : s' = s
        · subst e; exact .inr ⟨rfl, Nat.le_refl _⟩
        · exact absurd a4 (hB s' a1 (by omega) a3)
      · have h1 : 1 < lp s := Nat.lt_of_not_le (fun z => q (nI_le (b := 1) z (by decide)))
        match o, hB, nn, no, skip with
        | none, _, nn, _, _ => exact absurd rfl nn
        | some b, hB, nn, no, skip =>
          have lpb := lp_12 b
          refine ones_M (by omega) (r_Mod_ring_38 (by omega) (ones_M (n := b) (by have := hB.2.1; omega) (r_Mod_ring_43 ⟨fun q2 => no S' s1 ?_, fun q2 => r_Mod_ring_46 (by omega) (rg_can (by omega) hw (by omega) (by omega) s1 (fun S2 s2 y => r_Mod_ring_51 ⟨fun q => absurd q (by decide), fun _ => yes S2 s2 ⟨h1s, by omega, h1, y, fun s' a1 a2 a3 a4 => ?_⟩⟩) (fun S2 s2 n => r_Mod_ring_51 ⟨fun _ => no S2 s2 (skip (fun _ => n)), fun q => absurd rfl q⟩))⟩)))
          · have hle : lp b ≤ lp s := (nI_leI (by omega) (by omega)).1 q2
            refine ⟨hB.1, by have := hB.2.1; omega, hB.2.2.1, hB.2.2.2.1, fun s' a1 a2 a3 a4 => ?_⟩
            by_cases e : s' = s
            · subst e
              have := hB.2.1
              omega
            · exact hB.2.2.2.2 s' a1 (by omega) a3 a4
          · have hlt : lp s < lp b := Nat.lt_of_not_le (fun z => q2 (nI_le z (by omega)))
            by_cases e : s' = s
            · subst e; exact .inr ⟨rfl, Nat.le_refl _⟩
            · have := hB.2.2.2.2 s' a1 (by omega) a3 a4
              exact .inl (by omega)
  exact r_Mod_ring_0 (loop (2 ^ c - 1) 1 (by omega) (by omega) _ none sc_told (fun s' a1 a2 => absurd a2 (by omega)))
theorem s_ring {d : Nat} {S : ov_S} (hd : 16 ≤ d) (h : rl_S S) : rl_2 d mq_Eye_ring mq_Mod_ring [some (.inr (.inr (true, 0, 0)))] [some (.inr (.inr (true, 14, 0))), none, none] S := by
  unfold rl_2
  obtain ⟨c, m, lb, nz, wc, hw, ho, hi⟩ := id h
  refine rg_Eye hd hw (fun o hB => rg_M (by omega) hw (fun S' o' s1 hB' => ?_))
  rw [rB_same hB' hB]
  exact sc_ans h s1 rfl
