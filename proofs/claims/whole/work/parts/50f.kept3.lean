/-! ===== IMAGE: what the reference keeps ===== -/
theorem kz_g {S : ov_S} {n r0 j0 : Nat} (h : ∀ n, n < 1935 → ∃ r j, kzR n r j ∧ S.1 r 0 j = S.1 99 0 n) (hn : n < 1935) (hu : ∀ r j, kzR n r j → r = r0 ∧ j = j0) : S.1 99 0 n = S.1 r0 0 j0 := by
  obtain ⟨r, j, hr, e⟩ := h n hn
  obtain ⟨e1, e2⟩ := hu r j hr
  rw [← e1, ← e2]
  exact e.symm
theorem kz_im {S : ov_S} (h : ∀ n, n < 1935 → ∃ r j, kzR n r j ∧ S.1 r 0 j = S.1 99 0 n) : rl_im (S.1 99 0) S.1 := by
  refine ⟨⟨?_, ?_, ?_, ?_, ?_, ?_, ?_⟩, ?_, ?_, ?_, ?_, ?_, ?_, ?_, ?_, ?_, ?_, ?_, ?_, ?_, ?_, ?_⟩
  · exact kz_g (n := 0) (r0 := 14) (j0 := 1) h (by omega) (fun r j q => by unfold kzR at q; omega)
  · exact kz_g (n := 1) (r0 := 14) (j0 := 16) h (by omega) (fun r j q => by unfold kzR at q; omega)
  · exact kz_g (n := 12) (r0 := 14) (j0 := 22) h (by omega) (fun r j q => by unfold kzR at q; omega)
  · exact kz_g (n := 508) (r0 := 14) (j0 := 2) h (by omega) (fun r j q => by unfold kzR at q; omega)
  · exact kz_g (n := 1851) (r0 := 14) (j0 := 55) h (by omega) (fun r j q => by unfold kzR at q; omega)
  · exact kz_g (n := 1897) (r0 := 14) (j0 := 17) h (by omega) (fun r j q => by unfold kzR at q; omega)
  · exact kz_g (n := 1898) (r0 := 14) (j0 := 18) h (by omega) (fun r j q => by unfold kzR at q; omega)
  · intro x hk
    exact kz_g (n := 2 + x) (r0 := 63) (j0 := x) h (by omega) (fun r j q => by unfold kzR at q; omega)
  · intro x hk
    refine ⟨?_, ?_, ?_, ?_, ?_⟩
    · exact kz_g (n := 13 + 5 * x) (r0 := 74) (j0 := x) h (by omega) (fun r j q => by unfold kzR at q; omega)
    · exact kz_g (n := 14 + 5 * x) (r0 := 75) (j0 := x) h (by omega) (fun r j q => by unfold kzR at q; omega)
    · exact kz_g (n := 15 + 5 * x) (r0 := 76) (j0 := x) h (by omega) (fun r j q => by unfold kzR at q; omega)
    · exact kz_g (n := 16 + 5 * x) (r0 := 77) (j0 := x) h (by omega) (fun r j q => by unfold kzR at q; omega)
    · exact kz_g (n := 17 + 5 * x) (r0 := 78) (j0 := x) h (by omega) (fun r j q => by unfold kzR at q; omega)
  · intro x hk
    refine ⟨?_, ?_, ?_, ?_, ?_, ?_, ?_, ?_, ?_, ?_⟩
    · exact kz_g (n := 509 + 10 * x) (r0 := 58) (j0 := x) h (by omega) (fun r j q => by unfold kzR at q; omega)
    · exact kz_g (n := 510 + 10 * x) (r0 := 59) (j0 := x) h (by omega) (fun r j q => by unfold kzR at q; omega)
    · exact kz_g (n := 511 + 10 * x) (r0 := 60) (j0 := x) h (by omega) (fun r j q => by unfold kzR at q; omega)
    · exact kz_g (n := 512 + 10 * x) (r0 := 61) (j0 := x) h (by omega) (fun r j q => by unfold kzR at q; omega)
    · exact kz_g (n := 513 + 10 * x) (r0 := 79) (j0 := x) h (by omega) (fun r j q => by unfold kzR at q; omega)
    · exact kz_g (n := 514 + 10 * x) (r0 := 80) (j0 := x) h (by omega) (fun r j q => by unfold kzR at q; omega)
    · exact kz_g (n := 515 + 10 * x) (r0 := 81) (j0 := x) h (by omega) (fun r j q => by unfold kzR at q; omega)
    · exact kz_g (n := 516 + 10 * x) (r0 := 82) (j0 := x) h (by omega) (fun r j q => by unfold kzR at q; omega)
    · exact kz_g (n := 517 + 10 * x) (r0 := 86) (j0 := x) h (by omega) (fun r j q => by unfold kzR at q; omega)
    · exact kz_g (n := 518 + 10 * x) (r0 := 87) (j0 := x) h (by omega) (fun r j q => by unfold kzR at q; omega)
  · intro x hk
    exact kz_g (n := 549 + x) (r0 := 62) (j0 := x) h (by omega) (fun r j q => by unfold kzR at q; omega)
  · intro x hk
    refine ⟨?_, ?_, ?_, ?_, ?_⟩
    · exact kz_g (n := 561 + 5 * x) (r0 := 64) (j0 := x) h (by omega) (fun r j q => by unfold kzR at q; omega)
    · exact kz_g (n := 562 + 5 * x) (r0 := 67) (j0 := x) h (by omega) (fun r j q => by unfold kzR at q; omega)
    · exact kz_g (n := 563 + 5 * x) (r0 := 68) (j0 := x) h (by omega) (fun r j q => by unfold kzR at q; omega)
    · exact kz_g (n := 564 + 5 * x) (r0 := 69) (j0 := x) h (by omega) (fun r j q => by unfold kzR at q; omega)
    · exact kz_g (n := 565 + 5 * x) (r0 := 70) (j0 := x) h (by omega) (fun r j q => by unfold kzR at q; omega)
  · intro x hk
    exact kz_g (n := 1161 + x) (r0 := 65) (j0 := x) h (by omega) (fun r j q => by unfold kzR at q; omega)
  · intro x hk
    exact kz_g (n := 1209 + x) (r0 := 66) (j0 := x) h (by omega) (fun r j q => by unfold kzR at q; omega)
  · intro x hk
    exact kz_g (n := 1245 + x) (r0 := 85) (j0 := x) h (by omega) (fun r j q => by unfold kzR at q; omega)
  · intro x hk
    exact kz_g (n := 1725 + x) (r0 := 90) (j0 := x) h (by omega) (fun r j q => by unfold kzR at q; omega)
  · intro x hk
    refine ⟨?_, ?_⟩
    · exact kz_g (n := 1833 + 2 * x) (r0 := 92) (j0 := x) h (by omega) (fun r j q => by unfold kzR at q; omega)
    · exact kz_g (n := 1834 + 2 * x) (r0 := 93) (j0 := x) h (by omega) (fun r j q => by unfold kzR at q; omega)
  · intro x hk
    exact kz_g (n := 1852 + x) (r0 := 95) (j0 := x) h (by omega) (fun r j q => by unfold kzR at q; omega)
  · intro x hk
    exact kz_g (n := 1861 + x) (r0 := 97) (j0 := x) h (by omega) (fun r j q => by unfold kzR at q; omega)
  · intro x hk
    exact kz_g (n := 1899 + x) (r0 := 71) (j0 := x) h (by omega) (fun r j q => by unfold kzR at q; omega)
  · intro x hk
    exact kz_g (n := 1919 + x) (r0 := 72) (j0 := x) h (by omega) (fun r j q => by unfold kzR at q; omega)
  · intro x hk
    exact kz_g (n := 1931 + x) (r0 := 73) (j0 := x) h (by omega) (fun r j q => by unfold kzR at q; omega)
