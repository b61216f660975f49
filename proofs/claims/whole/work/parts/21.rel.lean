/-! ===== which cells the relation reads ===== -/
def rl_da : List (Nat × Nat × Nat) := [(20,1,10),(21,1,20),(34,4,3),(41,4,30),(42,4,30),(43,4,30),(44,4,30),(35,12,10),(36,12,10),(37,12,10),(38,12,10),(39,12,10),(40,12,3),(22,1,99),(23,1,99),(24,1,99),(25,1,99),(26,1,99),(29,1,108),(30,1,9),(31,1,9),(32,1,9),(33,1,4)]
def rl_ds : List (Nat × Nat × Nat) := [(1,1,2),(1,1,7),(1,1,8),(1,1,9),(1,1,10),(6,4,0),(6,4,1),(6,4,2),(6,4,3),(6,4,4),(6,4,7),(6,4,8),(6,4,9),(6,4,10),(6,4,11),(8,4,4),(7,12,6),(7,12,7),(4,1,5),(5,1,4)]
def rl_ua : List (Nat × Nat) := [(58,4),(59,4),(60,4),(61,4),(73,4),(79,4),(80,4),(81,4),(82,4),(86,4),(87,4),(62,12),(63,10),(64,120),(67,120),(68,120),(69,120),(70,120),(65,48),(66,36),(71,20),(72,12),(74,99),(75,99),(76,99),(77,99),(78,99),(85,480),(90,108),(92,9),(93,9),(95,9),(97,36)]
def rl_us : List Nat := [1,2,16,17,18,22,55]
def rl_eC (C C' : Nat → Nat → Nat → Int32) : Prop := (∀ r I J, (r, I, J) ∈ rl_da → ∀ i, i < I → ∀ j, j < J → C' r i j = C r i j) ∧ (∀ r I j, (r, I, j) ∈ rl_ds → ∀ i, i < I → C' r i j = C r i j)
def rl_eu (u u' : Nat → Nat → Nat → Int32) : Prop := (∀ r J, (r, J) ∈ rl_ua → ∀ j, j < J → u' r 0 j = u r 0 j) ∧ (∀ j, j ∈ rl_us → u' 14 0 j = u 14 0 j)

theorem rl_w_c {c m lb nz wc : Nat} {C C' u u' : Nat → Nat → Nat → Int32} (hC : rl_eC C C') (hu : rl_eu u u') (h : rl_w c m lb nz wc C u) : rl_w c m lb nz wc C' u' := by
  obtain ⟨cA, cS⟩ := hC
  obtain ⟨uA, uS⟩ := hu
  obtain ⟨g1, g2, g3, g4, g5, g6, g7, g8, g9, g10, g11, g12, g13, g14, g15, g16, g17, g18, g19, g20, g21, g22, g23, g24, g25, g26⟩ := h
  refine ⟨?_, ?_, ?_, ?_, ?_, ?_, ?_, ?_, ?_, ?_, ?_, ?_, ?_, ?_, ?_, ?_, ?_, ?_, ?_, ?_, ?_, ?_, ?_, ?_, ?_, ?_⟩
  · rw [cS 1 1 2 (by decide) 0 (by decide), uS 2 (by decide)]; exact g1
  · rw [cS 1 1 8 (by decide) 0 (by decide), uS 1 (by decide)]; exact g2
  · rw [cS 1 1 9 (by decide) 0 (by decide), uS 16 (by decide)]; exact g3
  · rw [cS 1 1 10 (by decide) 0 (by decide), uS 17 (by decide)]; exact g4
  · rw [cS 1 1 7 (by decide) 0 (by decide), uS 18 (by decide)]; exact g5
  · intro k hk; rw [cA 21 1 20 (by decide) 0 (by decide) k hk, uA 71 20 (by decide) k hk]; exact g6 k hk
  · intro k hk; rw [cA 20 1 10 (by decide) 0 (by decide) k hk, uA 63 10 (by decide) k hk]; exact g7 k hk
  · intro t ht; rw [cS 6 4 0 (by decide) t ht, cS 6 4 1 (by decide) t ht, uA 58 4 (by decide) t ht, uA 59 4 (by decide) t ht]; exact g8 t ht
  · intro t ht; rw [cS 6 4 2 (by decide) t ht, cS 6 4 3 (by decide) t ht, cS 6 4 4 (by decide) t ht, uA 60 4 (by decide) t ht, uA 61 4 (by decide) t ht, uA 73 4 (by decide) t ht]; exact g9 t ht
  · intro t ht x hx; rw [cA 34 4 3 (by decide) t ht x hx, uA 62 12 (by decide) (3 * t + x) (by omega)]; exact g10 t ht x hx
  · intro t ht; rw [cS 6 4 7 (by decide) t ht, cS 6 4 8 (by decide) t ht, cS 6 4 9 (by decide) t ht, cS 6 4 10 (by decide) t ht, cS 6 4 11 (by decide) t ht, uA 87 4 (by decide) t ht, uA 80 4 (by decide) t ht, uA 79 4 (by decide) t ht, uA 81 4 (by decide) t ht, uA 82 4 (by decide) t ht]; exact g11 t ht
  · intro t ht x hx; rw [uA 62 12 (by decide) (3 * t + x) (by omega), uA 79 4 (by decide) t ht, uA 81 4 (by decide) t ht]; exact g12 t ht x hx
  · intro t ht
    obtain ⟨n, k, h1, h2, h3, h4, h5, h6⟩ := g13 t ht
    refine ⟨n, k, h1, h2, ?_, ?_, ?_, fun j hj => ?_⟩
    · rw [cS 8 4 4 (by decide) t ht]; exact h3
    · rw [uA 86 4 (by decide) t ht]; exact h4
    · rw [uA 87 4 (by decide) t ht]; exact h5
    · rw [cA 41 4 30 (by decide) t ht j (by omega), cA 42 4 30 (by decide) t ht j (by omega), cA 43 4 30 (by decide) t ht j (by omega), cA 44 4 30 (by decide) t ht j (by omega), uA 85 480 (by decide) (120 * t + 4 * j) (by omega), uA 85 480 (by decide) (120 * t + 4 * j + 1) (by omega), uA 85 480 (by decide) (120 * t + 4 * j + 2) (by omega)]; exact h6 j hj
  · intro p hp f hf; rw [cA 35 12 10 (by decide) p hp f hf, uA 64 120 (by decide) (10 * p + f) (by omega)]; exact g14 p hp f hf
  · intro p hp f hf; rw [cA 36 12 10 (by decide) p hp f hf, cA 37 12 10 (by decide) p hp f hf, cA 38 12 10 (by decide) p hp f hf, cA 39 12 10 (by decide) p hp f hf, uA 67 120 (by decide) (10 * p + f) (by omega), uA 68 120 (by decide) (10 * p + f) (by omega), uA 69 120 (by decide) (10 * p + f) (by omega), uA 70 120 (by decide) (10 * p + f) (by omega)]; exact g15 p hp f hf
  · intro p hp x hx; rw [cA 40 12 3 (by decide) p hp x hx, uA 66 36 (by decide) (3 * p + x) (by omega)]; exact g16 p hp x hx
  · intro p hp; rw [cS 7 12 6 (by decide) p hp, uA 72 12 (by decide) p hp]; exact g17 p hp
  · intro p hp
    obtain ⟨b, h1, h2, h3, h4⟩ := g18 p hp
    refine ⟨b, h1, ?_, fun hpc t ht => ?_, h4⟩
    · rw [cS 7 12 7 (by decide) p hp]; exact h2
    · rw [uA 65 48 (by decide) (4 * p + t) (by omega)]; exact h3 hpc t ht
  · rw [cS 4 1 5 (by decide) 0 (by decide), uS 22 (by decide)]; exact g19
  · intro i hi; rw [cA 22 1 99 (by decide) 0 (by decide) i hi, cA 23 1 99 (by decide) 0 (by decide) i hi, cA 24 1 99 (by decide) 0 (by decide) i hi, cA 25 1 99 (by decide) 0 (by decide) i hi, cA 26 1 99 (by decide) 0 (by decide) i hi, uA 74 99 (by decide) i hi, uA 75 99 (by decide) i hi, uA 76 99 (by decide) i hi, uA 77 99 (by decide) i hi, uA 78 99 (by decide) i hi]; exact g20 i hi
  · intro i hi
    have hl := g19.1
    rw [uA 74 99 (by decide) i (by omega), uA 75 99 (by decide) i (by omega), uA 76 99 (by decide) i (by omega)]; exact g21 i hi
  · intro k hk; rw [cA 29 1 108 (by decide) 0 (by decide) k hk, uA 90 108 (by decide) k hk]; exact g22 k hk
  · intro s hs; rw [cA 30 1 9 (by decide) 0 (by decide) s hs, cA 31 1 9 (by decide) 0 (by decide) s hs, uA 92 9 (by decide) s hs, uA 93 9 (by decide) s hs]; exact g23 s hs
  · rw [cS 5 1 4 (by decide) 0 (by decide), uS 55 (by decide)]; exact g24
  · intro i hi; rw [cA 32 1 9 (by decide) 0 (by decide) i hi, uA 95 9 (by decide) i hi]; exact g25 i hi
  · intro t ht
    obtain ⟨b, h1, h2, h3⟩ := g26 t ht
    refine ⟨b, h1, ?_, fun k hk => ?_⟩
    · rw [cA 33 1 4 (by decide) 0 (by decide) t ht]; exact h2
    · rw [uA 97 36 (by decide) (9 * t + k) (by omega)]; exact h3 k hk
/-! ===== the relation of the whole ===== -/
def rl_wds : List Nat := [32, 103, 105, 118, 101, 32, 115, 101, 101, 32, 115, 97, 121, 32, 108, 105, 101, 32, 114, 101, 115, 116, 32, 102, 101, 101, 108, 32, 116, 111, 32, 101, 121, 101, 32, 101, 97, 114, 32, 109, 111, 117, 116, 104, 32]
def rl_o (S : ov_S) : Prop :=
  (∃ k : Nat, k ≤ 400 ∧ S.1 9 0 1 = nI k ∧ S.1 14 0 34 = nI k) ∧
  (∀ j, j < 400 → S.1 45 0 j = S.1 84 0 j ∧ ∃ v : Nat, v < 256 ∧ S.1 84 0 j = nI v) ∧
  (S.1 9 0 3 = S.1 14 0 41 ∧ S.1 9 0 4 = S.1 14 0 42) ∧
  (∀ j, j < 4 → S.1 2 0 j ≠ 0) ∧
  (∀ j, j < 12 → S.1 3 0 j ≠ 0) ∧
  (∀ k, k < 45 → S.1 83 0 k = nI (rl_wds.getD k 0))
/-- where the kept world's cells lie -/
def rl_sh (r : Nat) : Nat := if r = 6 ∨ r = 8 ∨ r = 34 ∨ (41 ≤ r ∧ r ≤ 44) then 4 else if r = 7 ∨ (35 ≤ r ∧ r ≤ 40) then 12 else 1
def rl_v (C : Nat → Nat → Nat → Int32) : Nat → Nat → Nat → Int32 := fun r i j => C r (rl_sh r + i) j
/-- a cell of the kept world -/
def rl_k (r i : Nat) : Prop := rl_sh r ≤ i ∧ i < 2 * rl_sh r
/-- the image as the reference lays it down -/
def rl_im (G : Nat → Int32) (u : Nat → Nat → Nat → Int32) : Prop :=
  (G 0 = u 14 0 1 ∧ G 1 = u 14 0 16 ∧ G 12 = u 14 0 22 ∧ G 508 = u 14 0 2 ∧ G 1851 = u 14 0 55 ∧ G 1897 = u 14 0 17 ∧ G 1898 = u 14 0 18) ∧
  (∀ f, f < 10 → G (2 + f) = u 63 0 f) ∧
  (∀ i, i < 99 → G (13 + 5 * i) = u 74 0 i ∧ G (14 + 5 * i) = u 75 0 i ∧ G (15 + 5 * i) = u 76 0 i ∧ G (16 + 5 * i) = u 77 0 i ∧ G (17 + 5 * i) = u 78 0 i) ∧
  (∀ t, t < 4 → G (509 + 10 * t) = u 58 0 t ∧ G (510 + 10 * t) = u 59 0 t ∧ G (511 + 10 * t) = u 60 0 t ∧ G (512 + 10 * t) = u 61 0 t ∧ G (513 + 10 * t) = u 79 0 t ∧ G (514 + 10 * t) = u 80 0 t ∧ G (515 + 10 * t) = u 81 0 t ∧ G (516 + 10 * t) = u 82 0 t ∧ G (517 + 10 * t) = u 86 0 t ∧ G (518 + 10 * t) = u 87 0 t) ∧
  (∀ k, k < 12 → G (549 + k) = u 62 0 k) ∧
  (∀ k, k < 120 → G (561 + 5 * k) = u 64 0 k ∧ G (562 + 5 * k) = u 67 0 k ∧ G (563 + 5 * k) = u 68 0 k ∧ G (564 + 5 * k) = u 69 0 k ∧ G (565 + 5 * k) = u 70 0 k) ∧
  (∀ k, k < 48 → G (1161 + k) = u 65 0 k) ∧
  (∀ k, k < 36 → G (1209 + k) = u 66 0 k) ∧
  (∀ k, k < 480 → G (1245 + k) = u 85 0 k) ∧
  (∀ k, k < 108 → G (1725 + k) = u 90 0 k) ∧
  (∀ s, s < 9 → G (1833 + 2 * s) = u 92 0 s ∧ G (1834 + 2 * s) = u 93 0 s) ∧
  (∀ i, i < 9 → G (1852 + i) = u 95 0 i) ∧
  (∀ k, k < 36 → G (1861 + k) = u 97 0 k) ∧
  (∀ k, k < 20 → G (1899 + k) = u 71 0 k) ∧
  (∀ p, p < 12 → G (1919 + p) = u 72 0 p) ∧
  (∀ t, t < 4 → G (1931 + t) = u 73 0 t)
def rl_i (S : ov_S) : Prop :=
  (S.1 0 0 1 = 0 ∧ S.1 14 0 61 = 0 ∧ ∀ r i, rl_k r i → r < 45 → (r, i) ∉ S.2.2.1) ∨
  (S.1 0 0 1 = 1 ∧ S.1 14 0 61 = 1 ∧ (∀ j, j < 4 → S.1 2 1 j ≠ 0) ∧ (∀ j, j < 12 → S.1 3 1 j ≠ 0) ∧ ∃ (c m lb nz wc : Nat) (u : Nat → Nat → Nat → Int32), rl_w c m lb nz wc (rl_v S.1) u ∧ rl_im (S.1 99 0) u)
def rl_S (S : ov_S) : Prop := ∃ c m lb nz wc : Nat, rl_w c m lb nz wc S.1 S.1 ∧ rl_o S ∧ rl_i S
/-- the kept world and the image stay -/
def rl_hi (S S' : ov_S) : Prop := (∀ r i j, r < 45 → rl_k r i → S'.1 r i j = S.1 r i j) ∧ S'.1 99 0 = S.1 99 0 ∧ S'.1 0 0 1 = S.1 0 0 1 ∧ S'.1 14 0 61 = S.1 14 0 61 ∧ S'.2.2.1 = S.2.2.1
theorem rl_hi_t {S S1 S2 : ov_S} (h1 : rl_hi S S1) (h2 : rl_hi S1 S2) : rl_hi S S2 := ⟨fun r i j hr hk => (h2.1 r i j hr hk).trans (h1.1 r i j hr hk), h2.2.1.trans h1.2.1, h2.2.2.1.trans h1.2.2.1, h2.2.2.2.1.trans h1.2.2.2.1, h2.2.2.2.2.trans h1.2.2.2.2⟩
theorem rl_hi_r {S : ov_S} : rl_hi S S := ⟨fun _ _ _ _ _ => rfl, rfl, rfl, rfl, rfl⟩
/-- one write outside of them -/
theorem rl_hi_w {S S' : ov_S} {r i j : Nat} {v : Int32} (h : rl_hi S S') (hk : ¬ (r < 45 ∧ rl_k r i)) (h9 : r ≠ 99) (h0 : r ≠ 0) (h14 : r = 14 → j ≠ 61) : rl_hi S (ov_w S' r i j v) := by
  refine rl_hi_t h ⟨fun r' i' j' hr hk' => ?_, ?_, ?_, ?_, rfl⟩
  · show (if r' = r ∧ i' = i ∧ j' = j then v else S'.1 r' i' j') = _
    rw [if_neg]
    rintro ⟨rfl, rfl, _⟩
    exact hk ⟨hr, hk'⟩
  · funext k
    show (if 99 = r ∧ 0 = i ∧ k = j then v else S'.1 99 0 k) = _
    rw [if_neg]
    rintro ⟨e, _⟩
    exact h9 e.symm
  · show (if 0 = r ∧ 0 = i ∧ 1 = j then v else S'.1 0 0 1) = _
    rw [if_neg]
    rintro ⟨e, _⟩
    exact h0 e.symm
  · show (if 14 = r ∧ 0 = i ∧ 61 = j then v else S'.1 14 0 61) = _
    rw [if_neg]
    rintro ⟨e, _, e2⟩
    exact h14 e.symm e2.symm
theorem rl_hi_wa {S S' : ov_S} {r i : Nat} {f : Nat → Int32} (h : rl_hi S S') (hk : ¬ (r < 45 ∧ rl_k r i)) (h9 : r ≠ 99) (h0 : r ≠ 0) (h14 : r ≠ 14) : rl_hi S (ov_wa S' r i f) := by
  refine rl_hi_t h ⟨fun r' i' j' hr hk' => ?_, ?_, ?_, ?_, rfl⟩
  · show (if r' = r ∧ i' = i then f else S'.1 r' i') j' = _
    rw [if_neg]
    rintro ⟨rfl, rfl⟩
    exact hk ⟨hr, hk'⟩
  · show (if 99 = r ∧ 0 = i then f else S'.1 99 0) = _
    rw [if_neg]
    rintro ⟨e, _⟩
    exact h9 e.symm
  · show (if 0 = r ∧ 0 = i then f else S'.1 0 0) 1 = _
    rw [if_neg]
    rintro ⟨e, _⟩
    exact h0 e.symm
  · show (if 14 = r ∧ 0 = i then f else S'.1 14 0) 61 = _
    rw [if_neg]
    rintro ⟨e, _⟩
    exact h14 e.symm
theorem rl_i_hi {S S' : ov_S} (h : rl_hi S S') (hi : rl_i S) : rl_i S' := by
  obtain ⟨e1, e2, e3, e4, e5⟩ := h
  rcases hi with ⟨h1, h2, h3⟩ | ⟨h1, h2, h3, h4, c, m, lb, nz, wc, u, h5, h6⟩
  · exact .inl ⟨e3.trans h1, e4.trans h2, by rw [e5]; exact h3⟩
  · refine .inr ⟨e3.trans h1, e4.trans h2, fun j hj => ?_, fun j hj => ?_, c, m, lb, nz, wc, u, rl_w_c ⟨?_, ?_⟩ ⟨fun _ _ _ _ _ => rfl, fun _ _ => rfl⟩ h5, by rw [e2]; exact h6⟩
    · rw [e1 2 1 j (by decide) ⟨by decide, by decide⟩]; exact h3 j hj
    · rw [e1 3 1 j (by decide) ⟨by decide, by decide⟩]; exact h4 j hj
    · intro r I J hm i hi j hj
      have hb : r < 45 ∧ I ≤ rl_sh r := (show ∀ x ∈ rl_da, x.1 < 45 ∧ x.2.1 ≤ rl_sh x.1 by decide) _ hm
      exact e1 r (rl_sh r + i) j hb.1 ⟨by omega, by omega⟩
    · intro r I j hm i hi
      have hb : r < 45 ∧ I ≤ rl_sh r := (show ∀ x ∈ rl_ds, x.1 < 45 ∧ x.2.1 ≤ rl_sh x.1 by decide) _ hm
      exact e1 r (rl_sh r + i) j hb.1 ⟨by omega, by omega⟩
/-- a call of both: the same answer, and side by side again -/
def rl_e (r : Option ov_A) (r' : Option ov_A) (S2 : ov_S) : Prop := ∃ x : Int32, r = some (.inl x) ∧ r' = some (.inl x) ∧ rl_S S2
def rl_2 (d : Nat) (me mm : ov_M) (le lm : List (Option ov_A)) (S : ov_S) : Prop := ov_V true true d 0 0 me 0 le [] S (fun r S1 => ov_V true true d 0 0 mm 0 lm [] S1 (fun r' S2 => rl_e r r' S2))
theorem rl_told {S : ov_S} {c m lb nz wc : Nat} (h : rl_w c m lb nz wc S.1 S.1) : rl_w c m lb nz wc (ov_w S 14 0 0 0).1 (ov_w S 14 0 0 0).1 := by
  unfold rl_w at h ⊢
  exact h
theorem rl_Stold {S : ov_S} (h : rl_S S) : rl_S (ov_w S 14 0 0 0) := by
  obtain ⟨c, m, lb, nz, wc, h1, h2, h3⟩ := h
  exact ⟨c, m, lb, nz, wc, rl_told h1, h2, rl_i_hi (rl_hi_w rl_hi_r (by rintro ⟨h, h1, _⟩; exact absurd h1 (by decide)) (by decide) (by decide) (by decide)) h3⟩
theorem rl_same {S : ov_S} {x y : Int32} (h : rl_S S) (e : y = x) : rl_e (some (.inl x)) (some (.inl y)) (ov_w S 14 0 0 0) := ⟨x, rfl, by rw [e], rl_Stold h⟩

