/-- what one person holds of one FACT changes -/
theorem rl_w_p {c m lb nz wc : Nat} {C C' T T' : Nat → Nat → Nat → Int32} {p f : Nat} (hp : p < 12) (hf : f < 10) (h : rl_w c m lb nz wc C T)
  (hC : ∀ r i j, ¬ ((35 ≤ r ∧ r ≤ 39) ∧ i = p ∧ j = f) → C' r i j = C r i j)
  (hT : ∀ r j, ¬ ((r = 64 ∨ (67 ≤ r ∧ r ≤ 70)) ∧ j = 10 * p + f) → T' r 0 j = T r 0 j)
  (n14 : C' 35 p f = T' 64 0 (10 * p + f) ∧ (T' 64 0 (10 * p + f) = 0 ∨ T' 64 0 (10 * p + f) = 1 ∨ T' 64 0 (10 * p + f) = 2))
  (n15 : C' 36 p f = T' 67 0 (10 * p + f) ∧ C' 37 p f = T' 68 0 (10 * p + f) ∧ C' 38 p f = T' 69 0 (10 * p + f) ∧ C' 39 p f = T' 70 0 (10 * p + f)) : rl_w c m lb nz wc C' T' := by
  obtain ⟨g1, g2, g3, g4, g5, g6, g7, g8, g9, g10, g11, g12, g13, g14, g15, g16, g17, g18, g19, g20, g21, g22, g23, g24, g25, g26⟩ := h
  refine ⟨?_, ?_, ?_, ?_, ?_, ?_, ?_, ?_, ?_, ?_, ?_, ?_, ?_, ?_, ?_, ?_, ?_, ?_, ?_, ?_, ?_, ?_, ?_, ?_, ?_, ?_⟩
  · rw [hC 1 0 2 (by omega), hT 14 2 (by omega)]; exact g1
  · rw [hC 1 0 8 (by omega), hT 14 1 (by omega)]; exact g2
  · rw [hC 1 0 9 (by omega), hT 14 16 (by omega)]; exact g3
  · rw [hC 1 0 10 (by omega), hT 14 17 (by omega)]; exact g4
  · rw [hC 1 0 7 (by omega), hT 14 18 (by omega)]; exact g5
  · intro k hk; rw [hC 21 0 k (by omega), hT 71 k (by omega)]; exact g6 k hk
  · intro k hk; rw [hC 20 0 k (by omega), hT 63 k (by omega)]; exact g7 k hk
  · intro k hk; rw [hC 6 k 0 (by omega), hC 6 k 1 (by omega), hT 58 k (by omega), hT 59 k (by omega)]; exact g8 k hk
  · intro k hk; rw [hC 6 k 2 (by omega), hC 6 k 3 (by omega), hC 6 k 4 (by omega), hT 60 k (by omega), hT 61 k (by omega), hT 73 k (by omega)]; exact g9 k hk
  · intro k hk x hx; rw [hC 34 k x (by omega), hT 62 (3 * k + x) (by omega)]; exact g10 k hk x hx
  · intro k hk; rw [hC 6 k 7 (by omega), hC 6 k 8 (by omega), hC 6 k 9 (by omega), hC 6 k 10 (by omega), hC 6 k 11 (by omega), hT 87 k (by omega), hT 80 k (by omega), hT 79 k (by omega), hT 81 k (by omega), hT 82 k (by omega)]; exact g11 k hk
  · intro k hk x hx; rw [hT 62 (3 * k + x) (by omega), hT 79 k (by omega), hT 81 k (by omega)]; exact g12 k hk x hx
  · intro t0 ht0
    obtain ⟨n, k, h1, h2, h3, h4, h5, h6⟩ := g13 t0 ht0
    exact ⟨n, k, h1, h2, by rw [hC 8 t0 4 (by omega)]; exact h3, by rw [hT 86 t0 (by omega)]; exact h4, by rw [hT 87 t0 (by omega)]; exact h5, fun j hj => by rw [hC 41 t0 j (by omega), hC 42 t0 j (by omega), hC 43 t0 j (by omega), hC 44 t0 j (by omega), hT 85 (120 * t0 + 4 * j) (by omega), hT 85 (120 * t0 + 4 * j + 1) (by omega), hT 85 (120 * t0 + 4 * j + 2) (by omega)]; exact h6 j hj⟩
  · intro p0 hp0 f0 hf0
    by_cases e : p0 = p ∧ f0 = f
    · obtain ⟨rfl, rfl⟩ := e; exact n14
    · rw [hC 35 p0 f0 (by omega), hT 64 (10 * p0 + f0) (by omega)]; exact g14 p0 hp0 f0 hf0
  · intro p0 hp0 f0 hf0
    by_cases e : p0 = p ∧ f0 = f
    · obtain ⟨rfl, rfl⟩ := e; exact n15
    · rw [hC 36 p0 f0 (by omega), hC 37 p0 f0 (by omega), hC 38 p0 f0 (by omega), hC 39 p0 f0 (by omega), hT 67 (10 * p0 + f0) (by omega), hT 68 (10 * p0 + f0) (by omega), hT 69 (10 * p0 + f0) (by omega), hT 70 (10 * p0 + f0) (by omega)]; exact g15 p0 hp0 f0 hf0
  · intro p0 hp0 x hx; rw [hC 40 p0 x (by omega), hT 66 (3 * p0 + x) (by omega)]; exact g16 p0 hp0 x hx
  · intro p0 hp0; rw [hC 7 p0 6 (by omega), hT 72 p0 (by omega)]; exact g17 p0 hp0
  · intro p0 hp0
    obtain ⟨b, h1, h2, h3, h4⟩ := g18 p0 hp0
    exact ⟨b, h1, by rw [hC 7 p0 7 (by omega)]; exact h2, fun q t1 ht1 => by rw [hT 65 (4 * p0 + t1) (by omega)]; exact h3 q t1 ht1, h4⟩
  · rw [hC 4 0 5 (by omega), hT 14 22 (by omega)]; exact g19
  · intro i hi; rw [hC 22 0 i (by omega), hC 23 0 i (by omega), hC 24 0 i (by omega), hC 25 0 i (by omega), hC 26 0 i (by omega), hT 74 i (by omega), hT 75 i (by omega), hT 76 i (by omega), hT 77 i (by omega), hT 78 i (by omega)]; exact g20 i hi
  · intro i hi; rw [hT 74 i (by omega), hT 75 i (by omega), hT 76 i (by omega)]; exact g21 i hi
  · intro k hk; rw [hC 29 0 k (by omega), hT 90 k (by omega)]; exact g22 k hk
  · intro s hs; rw [hC 30 0 s (by omega), hC 31 0 s (by omega), hT 92 s (by omega), hT 93 s (by omega)]; exact g23 s hs
  · rw [hC 5 0 4 (by omega), hT 14 55 (by omega)]; exact g24
  · intro i hi; rw [hC 32 0 i (by omega), hT 95 i (by omega)]; exact g25 i hi
  · intro t1 ht1
    obtain ⟨b, h1, h2, h3⟩ := g26 t1 ht1
    exact ⟨b, h1, by rw [hC 33 0 t1 (by omega)]; exact h2, fun k hk => by rw [hT 97 (9 * t1 + k) (by omega)]; exact h3 k hk⟩
/-- a line is written -/
theorem rl_w_b {c m lb nz wc : Nat} {C C' T T' : Nat → Nat → Nat → Int32} (hl : lb < 99) (h : rl_w c m lb nz wc C T)
  (hC : ∀ r i j, ¬ ((22 ≤ r ∧ r ≤ 26) ∧ j = lb) → ¬ (r = 4 ∧ j = 5) → C' r i j = C r i j)
  (hT : ∀ r j, ¬ ((74 ≤ r ∧ r ≤ 78) ∧ j = lb) → ¬ (r = 14 ∧ j = 22) → T' r 0 j = T r 0 j)
  (n19 : C' 4 0 5 = nI (lb + 1) ∧ T' 14 0 22 = nI (lb + 1))
  (n20 : C' 22 0 lb = T' 74 0 lb ∧ C' 23 0 lb = T' 75 0 lb ∧ C' 24 0 lb = T' 76 0 lb ∧ C' 25 0 lb = T' 77 0 lb ∧ C' 26 0 lb = T' 78 0 lb)
  (n21 : (∃ p : Nat, p < 3 * c ∧ T' 74 0 lb = nI p) ∧ (∃ f : Nat, f < 10 ∧ T' 75 0 lb = nI f) ∧ (T' 76 0 lb = 0 ∨ T' 76 0 lb = 1)) : rl_w c m (lb + 1) nz wc C' T' := by
  obtain ⟨g1, g2, g3, g4, g5, g6, g7, g8, g9, g10, g11, g12, g13, g14, g15, g16, g17, g18, g19, g20, g21, g22, g23, g24, g25, g26⟩ := h
  refine ⟨?_, ?_, ?_, ?_, ?_, ?_, ?_, ?_, ?_, ?_, ?_, ?_, ?_, ?_, ?_, ?_, ?_, ?_, ?_, ?_, ?_, ?_, ?_, ?_, ?_, ?_⟩
  · rw [hC 1 0 2 (by omega) (by omega), hT 14 2 (by omega) (by omega)]; exact g1
  · rw [hC 1 0 8 (by omega) (by omega), hT 14 1 (by omega) (by omega)]; exact g2
  · rw [hC 1 0 9 (by omega) (by omega), hT 14 16 (by omega) (by omega)]; exact g3
  · rw [hC 1 0 10 (by omega) (by omega), hT 14 17 (by omega) (by omega)]; exact g4
  · rw [hC 1 0 7 (by omega) (by omega), hT 14 18 (by omega) (by omega)]; exact g5
  · intro k hk; rw [hC 21 0 k (by omega) (by omega), hT 71 k (by omega) (by omega)]; exact g6 k hk
  · intro k hk; rw [hC 20 0 k (by omega) (by omega), hT 63 k (by omega) (by omega)]; exact g7 k hk
  · intro k hk; rw [hC 6 k 0 (by omega) (by omega), hC 6 k 1 (by omega) (by omega), hT 58 k (by omega) (by omega), hT 59 k (by omega) (by omega)]; exact g8 k hk
  · intro k hk; rw [hC 6 k 2 (by omega) (by omega), hC 6 k 3 (by omega) (by omega), hC 6 k 4 (by omega) (by omega), hT 60 k (by omega) (by omega), hT 61 k (by omega) (by omega), hT 73 k (by omega) (by omega)]; exact g9 k hk
  · intro k hk x hx; rw [hC 34 k x (by omega) (by omega), hT 62 (3 * k + x) (by omega) (by omega)]; exact g10 k hk x hx
  · intro k hk; rw [hC 6 k 7 (by omega) (by omega), hC 6 k 8 (by omega) (by omega), hC 6 k 9 (by omega) (by omega), hC 6 k 10 (by omega) (by omega), hC 6 k 11 (by omega) (by omega), hT 87 k (by omega) (by omega), hT 80 k (by omega) (by omega), hT 79 k (by omega) (by omega), hT 81 k (by omega) (by omega), hT 82 k (by omega) (by omega)]; exact g11 k hk
  · intro k hk x hx; rw [hT 62 (3 * k + x) (by omega) (by omega), hT 79 k (by omega) (by omega), hT 81 k (by omega) (by omega)]; exact g12 k hk x hx
  · intro t0 ht0
    obtain ⟨n, k, h1, h2, h3, h4, h5, h6⟩ := g13 t0 ht0
    exact ⟨n, k, h1, h2, by rw [hC 8 t0 4 (by omega) (by omega)]; exact h3, by rw [hT 86 t0 (by omega) (by omega)]; exact h4, by rw [hT 87 t0 (by omega) (by omega)]; exact h5, fun j hj => by rw [hC 41 t0 j (by omega) (by omega), hC 42 t0 j (by omega) (by omega), hC 43 t0 j (by omega) (by omega), hC 44 t0 j (by omega) (by omega), hT 85 (120 * t0 + 4 * j) (by omega) (by omega), hT 85 (120 * t0 + 4 * j + 1) (by omega) (by omega), hT 85 (120 * t0 + 4 * j + 2) (by omega) (by omega)]; exact h6 j hj⟩
  · intro p0 hp0 f0 hf0; rw [hC 35 p0 f0 (by omega) (by omega), hT 64 (10 * p0 + f0) (by omega) (by omega)]; exact g14 p0 hp0 f0 hf0
  · intro p0 hp0 f0 hf0; rw [hC 36 p0 f0 (by omega) (by omega), hC 37 p0 f0 (by omega) (by omega), hC 38 p0 f0 (by omega) (by omega), hC 39 p0 f0 (by omega) (by omega), hT 67 (10 * p0 + f0) (by omega) (by omega), hT 68 (10 * p0 + f0) (by omega) (by omega), hT 69 (10 * p0 + f0) (by omega) (by omega), hT 70 (10 * p0 + f0) (by omega) (by omega)]; exact g15 p0 hp0 f0 hf0
  · intro p0 hp0 x hx; rw [hC 40 p0 x (by omega) (by omega), hT 66 (3 * p0 + x) (by omega) (by omega)]; exact g16 p0 hp0 x hx
  · intro p0 hp0; rw [hC 7 p0 6 (by omega) (by omega), hT 72 p0 (by omega) (by omega)]; exact g17 p0 hp0
  · intro p0 hp0
    obtain ⟨b, h1, h2, h3, h4⟩ := g18 p0 hp0
    exact ⟨b, h1, by rw [hC 7 p0 7 (by omega) (by omega)]; exact h2, fun q t1 ht1 => by rw [hT 65 (4 * p0 + t1) (by omega) (by omega)]; exact h3 q t1 ht1, h4⟩
  · exact ⟨hl, n19.1, n19.2⟩
  · intro i hi
    by_cases e : i = lb
    · subst e; exact n20
    · rw [hC 22 0 i (by omega) (by omega), hC 23 0 i (by omega) (by omega), hC 24 0 i (by omega) (by omega), hC 25 0 i (by omega) (by omega), hC 26 0 i (by omega) (by omega), hT 74 i (by omega) (by omega), hT 75 i (by omega) (by omega), hT 76 i (by omega) (by omega), hT 77 i (by omega) (by omega), hT 78 i (by omega) (by omega)]; exact g20 i hi
  · intro i hi
    by_cases e : i = lb
    · subst e; exact n21
    · rw [hT 74 i (by omega) (by omega), hT 75 i (by omega) (by omega), hT 76 i (by omega) (by omega)]; exact g21 i (by omega)
  · intro k hk; rw [hC 29 0 k (by omega) (by omega), hT 90 k (by omega) (by omega)]; exact g22 k hk
  · intro s hs; rw [hC 30 0 s (by omega) (by omega), hC 31 0 s (by omega) (by omega), hT 92 s (by omega) (by omega), hT 93 s (by omega) (by omega)]; exact g23 s hs
  · rw [hC 5 0 4 (by omega) (by omega), hT 14 55 (by omega) (by omega)]; exact g24
  · intro i hi; rw [hC 32 0 i (by omega) (by omega), hT 95 i (by omega) (by omega)]; exact g25 i hi
  · intro t1 ht1
    obtain ⟨b, h1, h2, h3⟩ := g26 t1 ht1
    exact ⟨b, h1, by rw [hC 33 0 t1 (by omega) (by omega)]; exact h2, fun k hk => by rw [hT 97 (9 * t1 + k) (by omega) (by omega)]; exact h3 k hk⟩
