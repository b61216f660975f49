/-! ===== TEXT: both worlds behind it ===== -/
theorem xc_d {S S' : ov_S} (h : xc S S') {r i j : Nat} (h9 : r = 9 → j = 1) (h14 : r = 14 → ¬ (j = 0 ∨ (35 ≤ j ∧ j ≤ 42))) (h85 : r = 85 → j < 480) (h46 : ¬ (46 ≤ r ∧ r ≤ 48)) (h8 : (r = 8 ∨ (41 ≤ r ∧ r ≤ 44)) → ¬ i = 8) : S'.1 r i j = S.1 r i j := by
  refine h.2 r i j ?_
  unfold xc_k
  cases b9 : Nat.beq r 9 with
  | true =>
    show Nat.beq j 1 = true
    rw [h9 (Nat.eq_of_beq_eq_true b9)]
    rfl
  | false =>
    cases b14 : Nat.beq r 14 with
    | true =>
      have h1 := h14 (Nat.eq_of_beq_eq_true b14)
      show (!(List.elem j [0, 35, 36, 37, 38, 39, 40, 41, 42])) = true
      simp
      omega
    | false =>
      cases b85 : Nat.beq r 85 with
      | true => exact Nat.ble_eq_true_of_le (h85 (Nat.eq_of_beq_eq_true b85))
      | false =>
        show cond (List.elem r [46, 47, 48]) false (cond (List.elem r [8, 41, 42, 43, 44]) (!(Nat.beq i 8)) true) = true
        cases e46 : List.elem r [46, 47, 48] with
        | true => simp at e46; omega
        | false =>
          cases e8 : List.elem r [8, 41, 42, 43, 44] with
          | true =>
            show (!(Nat.beq i 8)) = true
            cases b8 : Nat.beq i 8 with
            | false => rfl
            | true =>
              simp at e8
              exact absurd (Nat.eq_of_beq_eq_true b8) (h8 (by omega))
          | false => rfl
/-- all but what TEXT changes of the three t -/
def xd_p (t r i j : Nat) : Prop := r = 9 ∨ (r = 14 ∧ (j = 0 ∨ (34 ≤ j ∧ j ≤ 42))) ∨ (r = 85 ∧ (480 ≤ j ∨ (120 * t ≤ j ∧ j < 120 * t + 120))) ∨ (46 ≤ r ∧ r ≤ 48) ∨ ((r = 8 ∨ (41 ≤ r ∧ r ≤ 44)) ∧ (i = 8 ∨ i = t)) ∨ (r = 6 ∧ i = t ∧ (j = 7 ∨ j = 8)) ∨ ((r = 86 ∨ r = 87 ∨ r = 79 ∨ r = 80) ∧ j = t)
def xd (t : Nat) (S S' : ov_S) : Prop := S'.2.2.1 = S.2.2.1 ∧ ∀ r i j, ¬ xd_p t r i j → S'.1 r i j = S.1 r i j
theorem xd_c {t : Nat} {S S' S2 : ov_S} (h : xd t S S') (hc : xc S' S2) : xd t S S2 := ⟨hc.1.trans h.1, fun r i j hk => (xc_d hc (by unfold xd_p at hk; omega) (by unfold xd_p at hk; omega) (by unfold xd_p at hk; omega) (by unfold xd_p at hk; omega) (by unfold xd_p at hk; omega)).trans (h.2 r i j hk)⟩
theorem xd_w {t : Nat} {S S' : ov_S} {r i j : Nat} {v : Int32} (h : xd t S S') (hk : xd_p t r i j) : xd t S (ov_w S' r i j v) := ⟨h.1, fun r' i' j' hk' => (rl_wn (fun q => hk' (by rw [q.1, q.2.1, q.2.2]; exact hk))).trans (h.2 r' i' j' hk')⟩
theorem xd_r {t : Nat} {S : ov_S} : xd t S S := ⟨rfl, fun _ _ _ _ => rfl⟩
theorem xd_I {t : Nat} {S S' : ov_S} (ht : t < 4) (hi : rl_i S) (hs : xd t S S') : rl_i S' := by
  have e99 : S'.1 99 0 = S.1 99 0 := funext fun j => hs.2 99 0 j (by unfold xd_p; omega)
  rcases hi with ⟨h1, h2, h3⟩ | ⟨h1, h2, h3, h4, c, m, lb, nz, wc, u, h5, h6⟩
  · exact .inl ⟨(hs.2 0 0 1 (by unfold xd_p; omega)).trans h1, (hs.2 14 0 61 (by unfold xd_p; omega)).trans h2, by rw [hs.1]; exact h3⟩
  · refine .inr ⟨(hs.2 0 0 1 (by unfold xd_p; omega)).trans h1, (hs.2 14 0 61 (by unfold xd_p; omega)).trans h2, fun j hj => ?_, fun j hj => ?_, c, m, lb, nz, wc, u, rl_w_c ⟨?_, ?_⟩ ⟨fun _ _ _ _ _ => rfl, fun _ _ => rfl⟩ h5, by rw [e99]; exact h6⟩
    · rw [hs.2 2 1 j (by unfold xd_p; omega)]; exact h3 j hj
    · rw [hs.2 3 1 j (by unfold xd_p; omega)]; exact h4 j hj
    · intro r I J hm i hi j hj
      have hb : r < 45 ∧ ¬ r = 9 ∧ ¬ r = 14 ∧ I ≤ rl_sh r ∧ ((r = 8 ∨ r = 6 ∨ (41 ≤ r ∧ r ≤ 44)) → rl_sh r = 4) := (show ∀ x ∈ rl_da, x.1 < 45 ∧ ¬ x.1 = 9 ∧ ¬ x.1 = 14 ∧ x.2.1 ≤ rl_sh x.1 ∧ ((x.1 = 8 ∨ x.1 = 6 ∨ (41 ≤ x.1 ∧ x.1 ≤ 44)) → rl_sh x.1 = 4) by decide) _ hm
      exact hs.2 r (rl_sh r + i) j (by unfold xd_p; omega)
    · intro r I j hm i hi
      have hb : r < 45 ∧ ¬ r = 9 ∧ ¬ r = 14 ∧ I ≤ rl_sh r ∧ ((r = 8 ∨ r = 6 ∨ (41 ≤ r ∧ r ≤ 44)) → rl_sh r = 4) := (show ∀ x ∈ rl_ds, x.1 < 45 ∧ ¬ x.1 = 9 ∧ ¬ x.1 = 14 ∧ x.2.1 ≤ rl_sh x.1 ∧ ((x.1 = 8 ∨ x.1 = 6 ∨ (41 ≤ x.1 ∧ x.1 ≤ 44)) → rl_sh x.1 = 4) by decide) _ hm
      exact hs.2 r (rl_sh r + i) j (by unfold xd_p; omega)
theorem xd_O {t : Nat} {S S' : ov_S} (ho : rl_o S) (hs : xd t S S') (h1 : S'.1 9 0 1 = 0) (h2 : S'.1 14 0 34 = 0) (h3 : S'.1 9 0 3 = S'.1 14 0 41) (h4 : S'.1 9 0 4 = S'.1 14 0 42) : rl_o S' := by
  obtain ⟨o1, o2, o3, o4, o5, o6⟩ := ho
  refine ⟨⟨0, by decide, h1, h2⟩, fun j hj => ?_, ⟨h3, h4⟩, fun j hj => ?_, fun j hj => ?_, fun k hk => ?_⟩
  · rw [hs.2 45 0 j (by unfold xd_p; omega), hs.2 84 0 j (by unfold xd_p; omega)]; exact o2 j hj
  · rw [hs.2 2 0 j (by unfold xd_p; omega)]; exact o4 j hj
  · rw [hs.2 3 0 j (by unfold xd_p; omega)]; exact o5 j hj
  · rw [hs.2 83 0 k (by unfold xd_p; omega)]; exact o6 k hk
/-- nothing of a world changed -/
def xe_p (r i j : Nat) : Prop := r = 9 ∨ (r = 14 ∧ (j = 0 ∨ (34 ≤ j ∧ j ≤ 42))) ∨ (r = 85 ∧ 480 ≤ j) ∨ (46 ≤ r ∧ r ≤ 48) ∨ ((r = 8 ∨ (41 ≤ r ∧ r ≤ 44)) ∧ i = 8)
def xe (S S' : ov_S) : Prop := S'.2.2.1 = S.2.2.1 ∧ ∀ r i j, ¬ xe_p r i j → S'.1 r i j = S.1 r i j
theorem xe_r {S : ov_S} : xe S S := ⟨rfl, fun _ _ _ _ => rfl⟩
theorem xe_c {S S' S2 : ov_S} (h : xe S S') (hc : xc S' S2) : xe S S2 := ⟨hc.1.trans h.1, fun r i j hk => (xc_d hc (by unfold xe_p at hk; omega) (by unfold xe_p at hk; omega) (by unfold xe_p at hk; omega) (by unfold xe_p at hk; omega) (by unfold xe_p at hk; omega)).trans (h.2 r i j hk)⟩
theorem xe_w {S S' : ov_S} {r i j : Nat} {v : Int32} (h : xe S S') (hk : xe_p r i j) : xe S (ov_w S' r i j v) := ⟨h.1, fun r' i' j' hk' => (rl_wn (fun q => hk' (by rw [q.1, q.2.1, q.2.2]; exact hk))).trans (h.2 r' i' j' hk')⟩
theorem xe_d {S S' : ov_S} (t : Nat) (h : xe S S') : xd t S S' := ⟨h.1, fun r i j hk => h.2 r i j (by unfold xd_p at hk; unfold xe_p; omega)⟩
theorem xe_W {c m lb nz wc : Nat} {S S' : ov_S} (h : rl_w c m lb nz wc S.1 S.1) (hs : xe S S') : rl_w c m lb nz wc S'.1 S'.1 := by
  refine rl_w_c ⟨?_, ?_⟩ ⟨?_, ?_⟩ h
  · intro r I J hm i hi j hj
    have hb : r < 45 ∧ ¬ r = 9 ∧ ¬ r = 14 ∧ ((r = 8 ∨ (41 ≤ r ∧ r ≤ 44)) → I ≤ 4) := (show ∀ x ∈ rl_da, x.1 < 45 ∧ ¬ x.1 = 9 ∧ ¬ x.1 = 14 ∧ ((x.1 = 8 ∨ (41 ≤ x.1 ∧ x.1 ≤ 44)) → x.2.1 ≤ 4) by decide) _ hm
    exact hs.2 r i j (by unfold xe_p; omega)
  · intro r I j hm i hi
    have hb : r < 45 ∧ ¬ r = 9 ∧ ¬ r = 14 ∧ ((r = 8 ∨ (41 ≤ r ∧ r ≤ 44)) → I ≤ 4) := (show ∀ x ∈ rl_ds, x.1 < 45 ∧ ¬ x.1 = 9 ∧ ¬ x.1 = 14 ∧ ((x.1 = 8 ∨ (41 ≤ x.1 ∧ x.1 ≤ 44)) → x.2.1 ≤ 4) by decide) _ hm
    exact hs.2 r i j (by unfold xe_p; omega)
  · intro r J hm j hj
    have hb : 58 ≤ r ∧ (r = 85 → J ≤ 480) := (show ∀ x ∈ rl_ua, 58 ≤ x.1 ∧ (x.1 = 85 → x.2 ≤ 480) by decide) _ hm
    exact hs.2 r 0 j (by unfold xe_p; omega)
  · intro j hj
    have hb : ¬ j = 0 ∧ (j < 34 ∨ 42 < j) := (show ∀ x ∈ rl_us, ¬ x = 0 ∧ (x < 34 ∨ 42 < x) by decide) _ hj
    exact hs.2 14 0 j (by unfold xe_p; omega)
theorem xe_S {S S' : ov_S} (h : rl_S S) (hs : xe S S') (h1 : S'.1 9 0 1 = 0) (h2 : S'.1 14 0 34 = 0) (h3 : S'.1 9 0 3 = S'.1 14 0 41) (h4 : S'.1 9 0 4 = S'.1 14 0 42) : rl_S S' := by
  obtain ⟨c, m, lb, nz, wc, hw, ho, hi⟩ := h
  exact ⟨c, m, lb, nz, wc, xe_W hw hs, xd_O ho (xe_d 0 hs) h1 h2 h3 h4, xd_I (t := 0) (by decide) hi (xe_d 0 hs)⟩
/-- the PLAN of the three t is new -/
theorem xd_W {c m lb nz wc t n : Nat} {S S' : ov_S} (ht : t < 4) (h : rl_w c m lb nz wc S.1 S.1) (hs : xd t S S') (hn : n ≤ 30) (e84 : S'.1 8 t 4 = nI n) (e86 : S'.1 86 0 t = nI n) (e87 : S'.1 87 0 t = 0) (e67 : S'.1 6 t 7 = 0) (hst : ∀ j, j < n → rl_step c (S'.1 41 t j) (S'.1 42 t j) (S'.1 43 t j) (S'.1 44 t j) (S'.1 85 0 (120 * t + 4 * j)) (S'.1 85 0 (120 * t + 4 * j + 1)) (S'.1 85 0 (120 * t + 4 * j + 2))) (hdo : (S'.1 6 t 8 = S.1 6 t 8 ∧ S'.1 80 0 t = S.1 80 0 t ∧ S'.1 79 0 t = S.1 79 0 t) ∨ (S'.1 6 t 8 = 0 ∧ S'.1 80 0 t = 0 ∧ S'.1 79 0 t = 0 ∧ ¬ S.1 79 0 t = 1)) : rl_w c m lb nz wc S'.1 S'.1 := by
  obtain ⟨g1, g2, g3, g4, g5, g6, g7, g8, g9, g10, g11, g12, g13, g14, g15, g16, g17, g18, g19, g20, g21, g22, g23, g24, g25, g26⟩ := h
  have hX := hs.2
  refine ⟨?_, ?_, ?_, ?_, ?_, ?_, ?_, ?_, ?_, ?_, ?_, ?_, ?_, ?_, ?_, ?_, ?_, ?_, ?_, ?_, ?_, ?_, ?_, ?_, ?_, ?_⟩
  · rw [hX 1 0 2 (by unfold xd_p; omega), hX 14 0 2 (by unfold xd_p; omega)]; exact g1
  · rw [hX 1 0 8 (by unfold xd_p; omega), hX 14 0 1 (by unfold xd_p; omega)]; exact g2
  · rw [hX 1 0 9 (by unfold xd_p; omega), hX 14 0 16 (by unfold xd_p; omega)]; exact g3
  · rw [hX 1 0 10 (by unfold xd_p; omega), hX 14 0 17 (by unfold xd_p; omega)]; exact g4
  · rw [hX 1 0 7 (by unfold xd_p; omega), hX 14 0 18 (by unfold xd_p; omega)]; exact g5
  · intro k hk; rw [hX 21 0 k (by unfold xd_p; omega), hX 71 0 k (by unfold xd_p; omega)]; exact g6 k hk
  · intro k hk; rw [hX 20 0 k (by unfold xd_p; omega), hX 63 0 k (by unfold xd_p; omega)]; exact g7 k hk
  · intro q hq; rw [hX 6 q 0 (by unfold xd_p; omega), hX 6 q 1 (by unfold xd_p; omega), hX 58 0 q (by unfold xd_p; omega), hX 59 0 q (by unfold xd_p; omega)]; exact g8 q hq
  · intro q hq; rw [hX 6 q 2 (by unfold xd_p; omega), hX 6 q 3 (by unfold xd_p; omega), hX 6 q 4 (by unfold xd_p; omega), hX 60 0 q (by unfold xd_p; omega), hX 61 0 q (by unfold xd_p; omega), hX 73 0 q (by unfold xd_p; omega)]; exact g9 q hq
  · intro q hq x hx; rw [hX 34 q x (by unfold xd_p; omega), hX 62 0 (3 * q + x) (by unfold xd_p; omega)]; exact g10 q hq x hx
  · intro q hq
    obtain ⟨a1, a2, a3, a4⟩ := g11 q hq
    by_cases e : q = t
    · subst e
      rw [hX 6 q 9 (by unfold xd_p; omega), hX 6 q 10 (by unfold xd_p; omega), hX 6 q 11 (by unfold xd_p; omega), hX 81 0 q (by unfold xd_p; omega), hX 82 0 q (by unfold xd_p; omega), e67, e87]
      rcases hdo with ⟨d1, d2, d3⟩ | ⟨d1, d2, d3, d4⟩
      · rw [d1, d2, d3]; exact ⟨rfl, a2, a3, a4⟩
      · rw [d1, d2, d3]; exact ⟨rfl, rfl, ⟨0, by decide, rfl⟩, ⟨fun _ => rfl, fun z => absurd rfl z⟩⟩
    · rw [hX 6 q 7 (by unfold xd_p; omega), hX 6 q 8 (by unfold xd_p; omega), hX 6 q 9 (by unfold xd_p; omega), hX 6 q 10 (by unfold xd_p; omega), hX 6 q 11 (by unfold xd_p; omega), hX 87 0 q (by unfold xd_p; omega), hX 80 0 q (by unfold xd_p; omega), hX 79 0 q (by unfold xd_p; omega), hX 81 0 q (by unfold xd_p; omega), hX 82 0 q (by unfold xd_p; omega)]
      exact ⟨a1, a2, a3, a4⟩
  · intro q hq x hx
    rw [hX 62 0 (3 * q + x) (by unfold xd_p; omega), hX 81 0 q (by unfold xd_p; omega)]
    intro h3
    have a := g12 q hq x hx h3
    by_cases e : q = t
    · subst e
      rcases hdo with ⟨d1, d2, d3⟩ | ⟨d1, d2, d3, d4⟩
      · rw [d3]; exact a
      · exact absurd a.1 d4
    · rw [hX 79 0 q (by unfold xd_p; omega)]; exact a
  · intro q hq
    by_cases e : q = t
    · subst e
      exact ⟨n, 0, by omega, hn, e84, e86, e87, hst⟩
    · obtain ⟨n', k', h1, h2, h3, h4, h5, h6⟩ := g13 q hq
      refine ⟨n', k', h1, h2, ?_, ?_, ?_, fun j hj => ?_⟩
      · rw [hX 8 q 4 (by unfold xd_p; omega)]; exact h3
      · rw [hX 86 0 q (by unfold xd_p; omega)]; exact h4
      · rw [hX 87 0 q (by unfold xd_p; omega)]; exact h5
      · rw [hX 41 q j (by unfold xd_p; omega), hX 42 q j (by unfold xd_p; omega), hX 43 q j (by unfold xd_p; omega), hX 44 q j (by unfold xd_p; omega), hX 85 0 (120 * q + 4 * j) (by unfold xd_p; omega), hX 85 0 (120 * q + 4 * j + 1) (by unfold xd_p; omega), hX 85 0 (120 * q + 4 * j + 2) (by unfold xd_p; omega)]; exact h6 j hj
  · intro p hp k hk; rw [hX 35 p k (by unfold xd_p; omega), hX 64 0 (10 * p + k) (by unfold xd_p; omega)]; exact g14 p hp k hk
  · intro p hp k hk; rw [hX 36 p k (by unfold xd_p; omega), hX 37 p k (by unfold xd_p; omega), hX 38 p k (by unfold xd_p; omega), hX 39 p k (by unfold xd_p; omega), hX 67 0 (10 * p + k) (by unfold xd_p; omega), hX 68 0 (10 * p + k) (by unfold xd_p; omega), hX 69 0 (10 * p + k) (by unfold xd_p; omega), hX 70 0 (10 * p + k) (by unfold xd_p; omega)]; exact g15 p hp k hk
  · intro p hp x hx; rw [hX 40 p x (by unfold xd_p; omega), hX 66 0 (3 * p + x) (by unfold xd_p; omega)]; exact g16 p hp x hx
  · intro p hp; rw [hX 7 p 6 (by unfold xd_p; omega), hX 72 0 p (by unfold xd_p; omega)]; exact g17 p hp
  · intro p hp
    obtain ⟨b, h1, h2, h3, h4⟩ := g18 p hp
    refine ⟨b, h1, ?_, fun hpc q hq => ?_, h4⟩
    · rw [hX 7 p 7 (by unfold xd_p; omega)]; exact h2
    · rw [hX 65 0 (4 * p + q) (by unfold xd_p; omega)]; exact h3 hpc q hq
  · rw [hX 4 0 5 (by unfold xd_p; omega), hX 14 0 22 (by unfold xd_p; omega)]; exact g19
  · intro i hi; rw [hX 22 0 i (by unfold xd_p; omega), hX 23 0 i (by unfold xd_p; omega), hX 24 0 i (by unfold xd_p; omega), hX 25 0 i (by unfold xd_p; omega), hX 26 0 i (by unfold xd_p; omega), hX 74 0 i (by unfold xd_p; omega), hX 75 0 i (by unfold xd_p; omega), hX 76 0 i (by unfold xd_p; omega), hX 77 0 i (by unfold xd_p; omega), hX 78 0 i (by unfold xd_p; omega)]; exact g20 i hi
  · intro i hi; rw [hX 74 0 i (by unfold xd_p; omega), hX 75 0 i (by unfold xd_p; omega), hX 76 0 i (by unfold xd_p; omega)]; exact g21 i hi
  · intro k hk; rw [hX 29 0 k (by unfold xd_p; omega), hX 90 0 k (by unfold xd_p; omega)]; exact g22 k hk
  · intro q hq; rw [hX 30 0 q (by unfold xd_p; omega), hX 31 0 q (by unfold xd_p; omega), hX 92 0 q (by unfold xd_p; omega), hX 93 0 q (by unfold xd_p; omega)]; exact g23 q hq
  · rw [hX 5 0 4 (by unfold xd_p; omega), hX 14 0 55 (by unfold xd_p; omega)]; exact g24
  · intro i hi; rw [hX 32 0 i (by unfold xd_p; omega), hX 95 0 i (by unfold xd_p; omega)]; exact g25 i hi
  · intro q hq
    obtain ⟨b, h1, h2, h3⟩ := g26 q hq
    refine ⟨b, h1, ?_, fun k hk => ?_⟩
    · rw [hX 33 0 q (by unfold xd_p; omega)]; exact h2
    · rw [hX 97 0 (9 * q + k) (by unfold xd_p; omega)]; exact h3 k hk
