theorem rl_wn {S : ov_S} {r i j : Nat} {v : Int32} {r' i' j' : Nat} (h : ¬ (r' = r ∧ i' = i ∧ j' = j)) : (ov_w S r i j v).1 r' i' j' = S.1 r' i' j' := if_neg h
theorem rl_ww (S : ov_S) (r i j : Nat) (v : Int32) : (ov_w S r i j v).1 r i j = v := if_pos ⟨rfl, rfl, rfl⟩
theorem rl_w2 (S : ov_S) (r i j : Nat) (v w : Int32) : ov_w (ov_w S r i j v) r i j w = ov_w S r i j w := by
  have e : ov_u3 (ov_u3 S.1 r i j v) r i j w = ov_u3 S.1 r i j w := by
    funext r' i' j'
    show (if r' = r ∧ i' = i ∧ j' = j then w else if r' = r ∧ i' = i ∧ j' = j then v else S.1 r' i' j') = if r' = r ∧ i' = i ∧ j' = j then w else S.1 r' i' j'
    by_cases h : r' = r ∧ i' = i ∧ j' = j
    · rw [if_pos h, if_pos h]
    · rw [if_neg h, if_neg h, if_neg h]
  show (ov_u3 (ov_u3 S.1 r i j v) r i j w, S.2) = (ov_u3 S.1 r i j w, S.2)
  rw [e]
/-- what one THREE does changes only its own cells and the state of chance -/
theorem rl_w_3 {c m lb nz wc : Nat} {C C' T T' : Nat → Nat → Nat → Int32} {t : Nat} (ht : t < 4) (h : rl_w c m lb nz wc C T)
  (hC : ∀ r i j, ¬ (r = 6 ∧ i = t ∧ 2 ≤ j) → ¬ (r = 34 ∧ i = t) → ¬ (r = 1 ∧ j = 8) → C' r i j = C r i j)
  (hT : ∀ r j, ¬ (r = 14 ∧ j = 1) → ¬ ((r = 60 ∨ r = 61 ∨ r = 73 ∨ r = 79 ∨ r = 80 ∨ r = 81 ∨ r = 82 ∨ r = 87) ∧ j = t) → ¬ (r = 62 ∧ 3 * t ≤ j ∧ j < 3 * t + 3) → T' r 0 j = T r 0 j)
  (n2 : C' 1 0 8 = T' 14 0 1)
  (n9 : C' 6 t 2 = T' 60 0 t ∧ C' 6 t 3 = T' 61 0 t ∧ C' 6 t 4 = T' 73 0 t)
  (n10 : ∀ x, x < 3 → C' 34 t x = T' 62 0 (3 * t + x) ∧ rl_plc (T' 62 0 (3 * t + x)))
  (n11 : C' 6 t 7 = T' 87 0 t ∧ C' 6 t 8 = T' 80 0 t ∧ (∃ k : Nat, k ≤ 99 ∧ T' 80 0 t = nI k) ∧ rl_do (C' 6 t 8) (C' 6 t 9) (C' 6 t 10) (C' 6 t 11) (T' 79 0 t) (T' 81 0 t) (T' 82 0 t))
  (n12 : ∀ x, x < 3 → T' 62 0 (3 * t + x) = 3 → T' 79 0 t = 1 ∧ T' 81 0 t = nI x)
  (n13 : ∀ n : Nat, T 86 0 t = nI n → n ≤ 30 → ∃ k : Nat, k ≤ n ∧ T' 87 0 t = nI k) : rl_w c m lb nz wc C' T' := by
  obtain ⟨g1, g2, g3, g4, g5, g6, g7, g8, g9, g10, g11, g12, g13, g14, g15, g16, g17, g18, g19, g20, g21, g22, g23, g24, g25, g26⟩ := h
  refine ⟨?_, ?_, ?_, ?_, ?_, ?_, ?_, ?_, ?_, ?_, ?_, ?_, ?_, ?_, ?_, ?_, ?_, ?_, ?_, ?_, ?_, ?_, ?_, ?_, ?_, ?_⟩
  · rw [hC 1 0 2 (by omega) (by omega) (by omega), hT 14 2 (by omega) (by omega) (by omega)]; exact g1
  · exact n2
  · rw [hC 1 0 9 (by omega) (by omega) (by omega), hT 14 16 (by omega) (by omega) (by omega)]; exact g3
  · rw [hC 1 0 10 (by omega) (by omega) (by omega), hT 14 17 (by omega) (by omega) (by omega)]; exact g4
  · rw [hC 1 0 7 (by omega) (by omega) (by omega), hT 14 18 (by omega) (by omega) (by omega)]; exact g5
  · intro k hk; rw [hC 21 0 k (by omega) (by omega) (by omega), hT 71 k (by omega) (by omega) (by omega)]; exact g6 k hk
  · intro k hk; rw [hC 20 0 k (by omega) (by omega) (by omega), hT 63 k (by omega) (by omega) (by omega)]; exact g7 k hk
  · intro k hk; rw [hC 6 k 0 (by omega) (by omega) (by omega), hC 6 k 1 (by omega) (by omega) (by omega), hT 58 k (by omega) (by omega) (by omega), hT 59 k (by omega) (by omega) (by omega)]; exact g8 k hk
  · intro t0 ht0
    by_cases e : t0 = t
    · subst e; exact n9
    · rw [hC 6 t0 2 (by omega) (by omega) (by omega), hC 6 t0 3 (by omega) (by omega) (by omega), hC 6 t0 4 (by omega) (by omega) (by omega), hT 60 t0 (by omega) (by omega) (by omega), hT 61 t0 (by omega) (by omega) (by omega), hT 73 t0 (by omega) (by omega) (by omega)]; exact g9 t0 ht0
  · intro t0 ht0 x hx
    by_cases e : t0 = t
    · subst e; exact n10 x hx
    · rw [hC 34 t0 x (by omega) (by omega) (by omega), hT 62 (3 * t0 + x) (by omega) (by omega) (by omega)]; exact g10 t0 ht0 x hx
  · intro t0 ht0
    by_cases e : t0 = t
    · subst e; exact n11
    · rw [hC 6 t0 7 (by omega) (by omega) (by omega), hC 6 t0 8 (by omega) (by omega) (by omega), hC 6 t0 9 (by omega) (by omega) (by omega), hC 6 t0 10 (by omega) (by omega) (by omega), hC 6 t0 11 (by omega) (by omega) (by omega), hT 87 t0 (by omega) (by omega) (by omega), hT 80 t0 (by omega) (by omega) (by omega), hT 79 t0 (by omega) (by omega) (by omega), hT 81 t0 (by omega) (by omega) (by omega), hT 82 t0 (by omega) (by omega) (by omega)]; exact g11 t0 ht0
  · intro t0 ht0 x hx
    by_cases e : t0 = t
    · subst e; exact n12 x hx
    · rw [hT 62 (3 * t0 + x) (by omega) (by omega) (by omega), hT 79 t0 (by omega) (by omega) (by omega), hT 81 t0 (by omega) (by omega) (by omega)]; exact g12 t0 ht0 x hx
  · intro t0 ht0
    obtain ⟨n, k, h1, h2, h3, h4, h5, h6⟩ := g13 t0 ht0
    have h7 : ∀ j, j < n → rl_step c (C' 41 t0 j) (C' 42 t0 j) (C' 43 t0 j) (C' 44 t0 j) (T' 85 0 (120 * t0 + 4 * j)) (T' 85 0 (120 * t0 + 4 * j + 1)) (T' 85 0 (120 * t0 + 4 * j + 2)) := by
      intro j hj
      rw [hC 41 t0 j (by omega) (by omega) (by omega), hC 42 t0 j (by omega) (by omega) (by omega), hC 43 t0 j (by omega) (by omega) (by omega), hC 44 t0 j (by omega) (by omega) (by omega), hT 85 (120 * t0 + 4 * j) (by omega) (by omega) (by omega), hT 85 (120 * t0 + 4 * j + 1) (by omega) (by omega) (by omega), hT 85 (120 * t0 + 4 * j + 2) (by omega) (by omega) (by omega)]; exact h6 j hj
    have h3 : C' 8 t0 4 = nI n := by rw [hC 8 t0 4 (by omega) (by omega) (by omega)]; exact h3
    have h40 := h4
    have h4 : T' 86 0 t0 = nI n := by rw [hT 86 t0 (by omega) (by omega) (by omega)]; exact h4
    by_cases e : t0 = t
    · subst e
      obtain ⟨k', k1, k2⟩ := n13 n h40 h2
      exact ⟨n, k', k1, h2, h3, h4, k2, h7⟩
    · exact ⟨n, k, h1, h2, h3, h4, by rw [hT 87 t0 (by omega) (by omega) (by omega)]; exact h5, h7⟩
  · intro p hp f hf; rw [hC 35 p f (by omega) (by omega) (by omega), hT 64 (10 * p + f) (by omega) (by omega) (by omega)]; exact g14 p hp f hf
  · intro p hp f hf; rw [hC 36 p f (by omega) (by omega) (by omega), hC 37 p f (by omega) (by omega) (by omega), hC 38 p f (by omega) (by omega) (by omega), hC 39 p f (by omega) (by omega) (by omega), hT 67 (10 * p + f) (by omega) (by omega) (by omega), hT 68 (10 * p + f) (by omega) (by omega) (by omega), hT 69 (10 * p + f) (by omega) (by omega) (by omega), hT 70 (10 * p + f) (by omega) (by omega) (by omega)]; exact g15 p hp f hf
  · intro p hp x hx; rw [hC 40 p x (by omega) (by omega) (by omega), hT 66 (3 * p + x) (by omega) (by omega) (by omega)]; exact g16 p hp x hx
  · intro p hp; rw [hC 7 p 6 (by omega) (by omega) (by omega), hT 72 p (by omega) (by omega) (by omega)]; exact g17 p hp
  · intro p hp
    obtain ⟨b, h1, h2, h3, h4⟩ := g18 p hp
    exact ⟨b, h1, by rw [hC 7 p 7 (by omega) (by omega) (by omega)]; exact h2, fun q t1 ht1 => by rw [hT 65 (4 * p + t1) (by omega) (by omega) (by omega)]; exact h3 q t1 ht1, h4⟩
  · rw [hC 4 0 5 (by omega) (by omega) (by omega), hT 14 22 (by omega) (by omega) (by omega)]; exact g19
  · intro i hi; rw [hC 22 0 i (by omega) (by omega) (by omega), hC 23 0 i (by omega) (by omega) (by omega), hC 24 0 i (by omega) (by omega) (by omega), hC 25 0 i (by omega) (by omega) (by omega), hC 26 0 i (by omega) (by omega) (by omega), hT 74 i (by omega) (by omega) (by omega), hT 75 i (by omega) (by omega) (by omega), hT 76 i (by omega) (by omega) (by omega), hT 77 i (by omega) (by omega) (by omega), hT 78 i (by omega) (by omega) (by omega)]; exact g20 i hi
  · intro i hi; rw [hT 74 i (by omega) (by omega) (by omega), hT 75 i (by omega) (by omega) (by omega), hT 76 i (by omega) (by omega) (by omega)]; exact g21 i hi
  · intro k hk; rw [hC 29 0 k (by omega) (by omega) (by omega), hT 90 k (by omega) (by omega) (by omega)]; exact g22 k hk
  · intro s hs; rw [hC 30 0 s (by omega) (by omega) (by omega), hC 31 0 s (by omega) (by omega) (by omega), hT 92 s (by omega) (by omega) (by omega), hT 93 s (by omega) (by omega) (by omega)]; exact g23 s hs
  · rw [hC 5 0 4 (by omega) (by omega) (by omega), hT 14 55 (by omega) (by omega) (by omega)]; exact g24
  · intro i hi; rw [hC 32 0 i (by omega) (by omega) (by omega), hT 95 i (by omega) (by omega) (by omega)]; exact g25 i hi
  · intro t1 ht1
    obtain ⟨b, h1, h2, h3⟩ := g26 t1 ht1
    exact ⟨b, h1, by rw [hC 33 0 t1 (by omega) (by omega) (by omega)]; exact h2, fun k hk => by rw [hT 97 (9 * t1 + k) (by omega) (by omega) (by omega)]; exact h3 k hk⟩
/-! ===== what the minute leaves alone ===== -/
def mi_kp (T T' : ov_S) : Prop := (T'.1 83 = T.1 83 ∧ T'.1 84 = T.1 84 ∧ T'.1 99 = T.1 99) ∧ (T'.1 14 0 34 = T.1 14 0 34 ∧ T'.1 14 0 41 = T.1 14 0 41 ∧ T'.1 14 0 42 = T.1 14 0 42 ∧ T'.1 14 0 61 = T.1 14 0 61 ∧ T'.1 14 0 17 = T.1 14 0 17)
def mi_kc (C C' : ov_S) : Prop := (∀ r i j, r < 45 → rl_k r i → C'.1 r i j = C.1 r i j) ∧ (C'.1 0 = C.1 0 ∧ C'.1 2 = C.1 2 ∧ C'.1 3 = C.1 3 ∧ C'.1 9 = C.1 9 ∧ C'.1 45 = C.1 45) ∧ C'.2 = C.2
theorem mi_kpt {T T1 T2 : ov_S} (h1 : mi_kp T T1) (h2 : mi_kp T1 T2) : mi_kp T T2 := ⟨⟨h2.1.1.trans h1.1.1, h2.1.2.1.trans h1.1.2.1, h2.1.2.2.trans h1.1.2.2⟩, h2.2.1.trans h1.2.1, h2.2.2.1.trans h1.2.2.1, h2.2.2.2.1.trans h1.2.2.2.1, h2.2.2.2.2.1.trans h1.2.2.2.2.1, h2.2.2.2.2.2.trans h1.2.2.2.2.2⟩
theorem mi_kct {C C1 C2 : ov_S} (h1 : mi_kc C C1) (h2 : mi_kc C1 C2) : mi_kc C C2 := ⟨fun r i j a b => (h2.1 r i j a b).trans (h1.1 r i j a b), ⟨h2.2.1.1.trans h1.2.1.1, h2.2.1.2.1.trans h1.2.1.2.1, h2.2.1.2.2.1.trans h1.2.1.2.2.1, h2.2.1.2.2.2.1.trans h1.2.1.2.2.2.1, h2.2.1.2.2.2.2.trans h1.2.1.2.2.2.2⟩, h2.2.2.trans h1.2.2⟩
theorem mi_kpr {T : ov_S} : mi_kp T T := ⟨⟨rfl, rfl, rfl⟩, rfl, rfl, rfl, rfl, rfl⟩
theorem mi_kcr {C : ov_S} : mi_kc C C := ⟨fun _ _ _ _ _ => rfl, ⟨rfl, rfl, rfl, rfl, rfl⟩, rfl⟩
theorem mi_kcw {C C' : ov_S} {r i j : Nat} {v : Int32} (h : mi_kc C C') (hi : i < rl_sh r) (hr : r ≠ 0 ∧ r ≠ 2 ∧ r ≠ 3 ∧ r ≠ 9 ∧ r ≠ 45) : mi_kc C (ov_w C' r i j v) := by
  have row : ∀ q, q ≠ r → (ov_w C' r i j v).1 q = C'.1 q := by
    intro q hq
    funext i' j'
    exact rl_wn (fun z => hq z.1)
  refine mi_kct h ⟨fun r' i' j' h1 h2 => rl_wn ?_, ⟨row 0 (by omega), row 2 (by omega), row 3 (by omega), row 9 (by omega), row 45 (by omega)⟩, rfl⟩
  rintro ⟨rfl, rfl, _⟩
  have := h2.1
  omega
theorem mi_kpw {T T' : ov_S} {r j : Nat} {v : Int32} (h : mi_kp T T') (hr : r ≠ 83 ∧ r ≠ 84 ∧ r ≠ 99) (hj : r ≠ 14 ∨ (j ≠ 34 ∧ j ≠ 41 ∧ j ≠ 42 ∧ j ≠ 61 ∧ j ≠ 17)) : mi_kp T (ov_w T' r 0 j v) := by
  have row : ∀ q, q ≠ r → (ov_w T' r 0 j v).1 q = T'.1 q := by
    intro q hq
    funext i' j'
    exact rl_wn (fun z => hq z.1)
  exact mi_kpt h ⟨⟨row 83 (by omega), row 84 (by omega), row 99 (by omega)⟩, rl_wn (by omega), rl_wn (by omega), rl_wn (by omega), rl_wn (by omega), rl_wn (by omega)⟩

