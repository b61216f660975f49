/-! ===== IMAGE: the reference's ===== -/
/-- the place n of the image belongs to the cell (r, 0, j) -/
def kzR (n r j : Nat) : Prop := (r = 14 ∧ ((n = 0 ∧ j = 1) ∨ (n = 1 ∧ j = 16) ∨ (n = 12 ∧ j = 22) ∨ (n = 508 ∧ j = 2) ∨ (n = 1851 ∧ j = 55) ∨ (n = 1897 ∧ j = 17) ∨ (n = 1898 ∧ j = 18))) ∨ (r = 63 ∧ j < 10 ∧ n = 2 + j) ∨ (74 ≤ r ∧ r ≤ 78 ∧ j < 99 ∧ n + 74 = 13 + 5 * j + r) ∨ (58 ≤ r ∧ r ≤ 61 ∧ j < 4 ∧ n + 58 = 509 + 10 * j + r) ∨ (79 ≤ r ∧ r ≤ 82 ∧ j < 4 ∧ n + 79 = 513 + 10 * j + r) ∨ (86 ≤ r ∧ r ≤ 87 ∧ j < 4 ∧ n + 86 = 517 + 10 * j + r) ∨ (r = 62 ∧ j < 12 ∧ n = 549 + j) ∨ (r = 64 ∧ j < 120 ∧ n = 561 + 5 * j) ∨ (67 ≤ r ∧ r ≤ 70 ∧ j < 120 ∧ n + 67 = 562 + 5 * j + r) ∨ (r = 65 ∧ j < 48 ∧ n = 1161 + j) ∨ (r = 66 ∧ j < 36 ∧ n = 1209 + j) ∨ (r = 85 ∧ j < 480 ∧ n = 1245 + j) ∨ (r = 90 ∧ j < 108 ∧ n = 1725 + j) ∨ (92 ≤ r ∧ r ≤ 93 ∧ j < 9 ∧ n + 92 = 1833 + 2 * j + r) ∨ (r = 95 ∧ j < 9 ∧ n = 1852 + j) ∨ (r = 97 ∧ j < 36 ∧ n = 1861 + j) ∨ (r = 71 ∧ j < 20 ∧ n = 1899 + j) ∨ (r = 72 ∧ j < 12 ∧ n = 1919 + j) ∨ (r = 73 ∧ j < 4 ∧ n = 1931 + j)
theorem kzR_u {n m r j : Nat} (h1 : kzR n r j) (h2 : kzR m r j) : n = m := by
  unfold kzR at h1 h2
  omega
theorem kzR_s {n r j : Nat} (h : kzR n r j) : n < 1935 ∧ ¬ r = 99 ∧ ¬ (r = 14 ∧ (j = 60 ∨ j = 61 ∨ j = 62)) := by
  unfold kzR at h
  omega
/-- n places are gone through: what they hold is what their cells hold -/
def kzq (B : ov_S) (N : Nat) (S : ov_S) : Prop := S.1 14 0 62 = nI N ∧ S.2.2.1 = B.2.2.1 ∧ (∀ n, n < N → ∃ r j, kzR n r j ∧ S.1 r 0 j = S.1 99 0 n) ∧ (¬ B.1 14 0 60 = 0 → ∀ r i j, ¬ (r = 99 ∧ i = 0) → ¬ (r = 14 ∧ i = 0 ∧ j = 62) → S.1 r i j = B.1 r i j) ∧ (B.1 14 0 60 = 0 → ∀ j, S.1 99 0 j = B.1 99 0 j) ∧ ∀ r i j, ¬ (r = 99 ∧ i = 0) → ¬ (r = 14 ∧ i = 0 ∧ j = 62) → ¬ (i = 0 ∧ ∃ n, kzR n r j) → S.1 r i j = B.1 r i j
theorem kz_k {B S : ov_S} {N r0 j0 d : Nat} {Q : ov_Q} {v : Int32} (hk : kzq B N S) (hR : kzR N r0 j0) (ev : v = S.1 r0 0 j0) (hQ : ∀ x S1, kzq B (N + 1) (ov_w S1 r0 0 j0 x) → Q (some (.inl x)) S1) : ov_V true true d 0 0 mq_Mod_kept 0 [some (.inr (.inr (true, 14, 0))), some (.inl v)] [] S Q := by
  obtain ⟨k1, k2, k3, k4, k5, k6⟩ := hk
  obtain ⟨b1, b2, b3⟩ := kzR_s hR
  have e62 : (nI N + 1 - 1 : Int32) = nI N := by rw [nI_1]; exact nI_pred N
  have e60 : S.1 14 0 60 = B.1 14 0 60 := k6 14 0 60 (by omega) (by omega) (fun q => q.2.elim fun n h => (kzR_s h).2.2 ⟨rfl, .inl rfl⟩)
  refine r_Mod_kept_0 ⟨fun n => ?_, fun y => ?_⟩
  · have nB : ¬ B.1 14 0 60 = 0 := fun q => n (e60.trans q)
    show ov_ib (ov_g S 14 0 62 + 1 - 1) 2000 ∧ Q (some (.inl v)) (ov_w (ov_w S 14 0 62 (ov_g S 14 0 62 + 1)) 99 0 (ov_ix (ov_g S 14 0 62 + 1 - 1)) v)
    rw [show ov_g S 14 0 62 = nI N from k1, e62, zz_ix (by omega), nI_1]
    refine ⟨zz_ib (by omega) (by decide), hQ _ _ ?_⟩
    have c1 : ∀ r i j, ¬ (r = 99 ∧ i = 0) → ¬ (r = 14 ∧ i = 0 ∧ j = 62) → (ov_w (ov_w (ov_w S 14 0 62 (nI (N + 1))) 99 0 N v) r0 0 j0 v).1 r i j = S.1 r i j := by
      intro r i j x1 x2
      by_cases z : r = r0 ∧ i = 0 ∧ j = j0
      · obtain ⟨z1, z2, z3⟩ := z
        subst z1; subst z2; subst z3
        exact (rl_ww _ _ _ _ _).trans ev
      · exact (rl_wn z).trans ((rl_wn (by omega)).trans (rl_wn x2))
    have c99 : ∀ j, (ov_w (ov_w (ov_w S 14 0 62 (nI (N + 1))) 99 0 N v) r0 0 j0 v).1 99 0 j = if j = N then v else S.1 99 0 j := fun j => (rl_wn (by omega)).trans ((rl_wr _ _ _ _ _ _).trans (by rw [rl_wn (S := S) (r := 14) (i := 0) (j := 62) (v := nI (N + 1)) (r' := 99) (i' := 0) (j' := j) (by omega)]))
    refine ⟨(rl_wn (by omega)).trans ((rl_wn (by omega)).trans (rl_ww _ _ _ _ _)), k2, fun n' hn => ?_, fun _ r i j x1 x2 => (c1 r i j x1 x2).trans (k4 nB r i j x1 x2), fun q => absurd q nB, fun r i j x1 x2 x3 => (c1 r i j x1 x2).trans (k6 r i j x1 x2 x3)⟩
    by_cases q : n' = N
    · subst q
      refine ⟨r0, j0, hR, ?_⟩
      rw [c99, if_pos rfl, c1 r0 0 j0 (by omega) (by omega), ev]
    · obtain ⟨r, j, hr, e⟩ := k3 n' (by omega)
      obtain ⟨s1, s2, s3⟩ := kzR_s hr
      refine ⟨r, j, hr, ?_⟩
      rw [c99, if_neg q, c1 r 0 j (by omega) (by omega)]
      exact e
  · have yB : B.1 14 0 60 = 0 := e60.symm.trans y
    show ov_ib (ov_g S 14 0 62 + 1 - 1) 2000 ∧ Q (some (.inl (ov_g S 99 0 (ov_ix (ov_g S 14 0 62 + 1 - 1))))) (ov_w S 14 0 62 (ov_g S 14 0 62 + 1))
    rw [show ov_g S 14 0 62 = nI N from k1, e62, zz_ix (by omega), nI_1]
    refine ⟨zz_ib (by omega) (by decide), hQ _ _ ?_⟩
    have c1 : ∀ r i j, ¬ (r = r0 ∧ i = 0 ∧ j = j0) → ¬ (r = 14 ∧ i = 0 ∧ j = 62) → (ov_w (ov_w S 14 0 62 (nI (N + 1))) r0 0 j0 (ov_g S 99 0 N)).1 r i j = S.1 r i j := fun r i j x1 x2 => (rl_wn x1).trans (rl_wn x2)
    have c0 : (ov_w (ov_w S 14 0 62 (nI (N + 1))) r0 0 j0 (ov_g S 99 0 N)).1 r0 0 j0 = S.1 99 0 N := rl_ww _ _ _ _ _
    refine ⟨(rl_wn (by omega)).trans (rl_ww _ _ _ _ _), k2, fun n' hn => ?_, fun q => absurd yB q, fun _ j => (c1 99 0 j (by omega) (by omega)).trans (k5 yB j), fun r i j x1 x2 x3 => (c1 r i j (fun q => x3 ⟨q.2.1, N, by rw [q.1, q.2.2]; exact hR⟩) x2).trans (k6 r i j x1 x2 x3)⟩
    by_cases q : n' = N
    · subst q
      refine ⟨r0, j0, hR, ?_⟩
      rw [c0, c1 99 0 n' (by omega) (by omega)]
    · obtain ⟨r, j, hr, e⟩ := k3 n' (by omega)
      obtain ⟨s1, s2, s3⟩ := kzR_s hr
      refine ⟨r, j, hr, ?_⟩
      rw [c1 99 0 n' (by omega) (by omega), c1 r 0 j (fun z => ?_) (by omega)]
      · exact e
      · rw [z.1, z.2.2] at hr
        exact q (kzR_u hr hR)
