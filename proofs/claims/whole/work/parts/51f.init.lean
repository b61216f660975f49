/-! ===== the start: both are built ===== -/
def in_O : List cb_O := (0, 0, none) :: co_Eye 0 ((14, 0, none) :: co_Mod 0 [])
def in_S (L : Nat) (xs : Nat → Int32) : ov_S := (fun _ _ _ => 0, fun _ _ _ => 0, [], (L, xs))
/-- the ops as they are, once -/
def in_K (r i j : Nat) : Int32 := cb_l in_O r i j 0
theorem in_z {r i : Nat} (h : cb_zc in_O r i = true) (j : Nat) : in_K r i j = 0 := cb_z0 in_O r i j h
theorem in_nd : (cb_n in_O).Nodup := by decide +kernel
theorem in_h : cb_h in_O [] := cb_hn in_O [] (fun _ _ h => nomatch h) in_nd
theorem in_own : cb_own in_O = true := by decide +kernel
theorem in_fc : (cb_n in_O).all (cb_fc in_O) = true := by decide +kernel
theorem in_full (L : Nat) (xs : Nat → Int32) : ov_full (cb_a in_O (in_S L xs)) := cb_full (fun _ _ _ _ _ _ _ h => nomatch h) in_own in_fc
theorem in_e (L : Nat) (xs : Nat → Int32) : (cb_a in_O (in_S L xs)).1 = in_K := by
  funext r i j
  rw [cb_lk]
  rfl
theorem in_zu : ∀ r, r ∈ rl_ua.map (fun x => x.1) → cb_zc in_O r 0 = true := by decide +kernel
theorem in_u {r : Nat} (h : r ∈ rl_ua.map (fun x => x.1)) (j : Nat) : in_K r 0 j = 0 := in_z (in_zu r h) j
theorem in_za : ∀ x, x ∈ rl_da → x.1 ≠ 31 → ∀ i, i < x.2.1 → cb_zc in_O x.1 i = true := by decide +kernel
theorem in_a {r I J : Nat} (h : (r, I, J) ∈ rl_da) (hr : r ≠ 31) {i : Nat} (hi : i < I) (j : Nat) : in_K r i j = 0 := in_z (in_za (r, I, J) h hr i hi) j
theorem in_zs : ∀ x, x ∈ rl_ds → ¬ (x.1 = 1 ∧ x.2.2 = 10) → ¬ (x.1 = 7 ∧ x.2.2 = 7) → ∀ i, i < x.2.1 → in_K x.1 i x.2.2 = 0 := by decide +kernel
theorem in_s {r I j : Nat} (h : (r, I, j) ∈ rl_ds) (h1 : ¬ (r = 1 ∧ j = 10)) (h2 : ¬ (r = 7 ∧ j = 7)) {i : Nat} (hi : i < I) : in_K r i j = 0 := in_zs (r, I, j) h h1 h2 i hi
theorem in_us : ∀ j, j ∈ rl_us → j ≠ 17 → in_K 14 0 j = 0 := by decide +kernel
theorem in_7 : ∀ p, p < 12 → in_K 7 p 7 = nI 15 := by decide +kernel
theorem in_31 : ∀ s, s < 9 → in_K 31 0 s = nI 1 := by decide +kernel
theorem in_sun : in_K 1 0 10 = -1 ∧ in_K 14 0 17 = -1 := by decide +kernel
theorem in_n0 : nI 0 = 0 := by decide
theorem in_w : rl_w 0 0 0 0 0 in_K in_K := by
  have z0 := in_n0.symm
  refine ⟨?_, ?_, ?_, ?_, ?_, ?_, ?_, ?_, ?_, ?_, ?_, ?_, ?_, ?_, ?_, ?_, ?_, ?_, ?_, ?_, ?_, ?_, ?_, ?_, ?_, ?_⟩
  · exact ⟨by omega, (in_s (r := 1) (I := 1) (j := 2) (by decide) (by decide) (by decide) (by decide)).trans z0, (in_us 2 (by decide) (by decide)).trans z0⟩
  · exact (in_s (r := 1) (I := 1) (j := 8) (by decide) (by decide) (by decide) (by decide)).trans (in_us 1 (by decide) (by decide)).symm
  · exact ⟨by omega, (in_s (r := 1) (I := 1) (j := 9) (by decide) (by decide) (by decide) (by decide)).trans z0, (in_us 16 (by decide) (by decide)).trans z0⟩
  · exact ⟨in_sun.1.trans in_sun.2.symm, .inl ⟨in_sun.2, rfl⟩⟩
  · exact ⟨by omega, (in_s (r := 1) (I := 1) (j := 7) (by decide) (by decide) (by decide) (by decide)).trans z0, (in_us 18 (by decide) (by decide)).trans z0⟩
  · exact fun k _ => (in_a (r := 21) (I := 1) (J := 20) (by decide) (by decide) (by decide) k).trans (in_u (by decide) k).symm
  · exact fun f _ => ⟨(in_a (r := 20) (I := 1) (J := 10) (by decide) (by decide) (by decide) f).trans (in_u (by decide) f).symm, .inl (in_u (by decide) f)⟩
  · exact fun t ht => ⟨(in_s (r := 6) (I := 4) (j := 0) (by decide) (by decide) (by decide) ht).trans (in_u (by decide) t).symm, (in_s (r := 6) (I := 4) (j := 1) (by decide) (by decide) (by decide) ht).trans (in_u (by decide) t).symm, fun h => absurd h (by omega)⟩
  · exact fun t ht => ⟨(in_s (r := 6) (I := 4) (j := 2) (by decide) (by decide) (by decide) ht).trans (in_u (by decide) t).symm, (in_s (r := 6) (I := 4) (j := 3) (by decide) (by decide) (by decide) ht).trans (in_u (by decide) t).symm, (in_s (r := 6) (I := 4) (j := 4) (by decide) (by decide) (by decide) ht).trans (in_u (by decide) t).symm⟩
  · exact fun t ht x _ => ⟨(in_a (r := 34) (I := 4) (J := 3) (by decide) (by decide) ht x).trans (in_u (by decide) _).symm, .inl ⟨0, by omega, (in_u (by decide) _).trans z0⟩⟩
  · exact fun t ht => ⟨(in_s (r := 6) (I := 4) (j := 7) (by decide) (by decide) (by decide) ht).trans (in_u (by decide) t).symm, (in_s (r := 6) (I := 4) (j := 8) (by decide) (by decide) (by decide) ht).trans (in_u (by decide) t).symm, ⟨0, by omega, (in_u (by decide) t).trans z0⟩, fun _ => in_u (by decide) t, fun h => absurd (in_s (r := 6) (I := 4) (j := 8) (by decide) (by decide) (by decide) ht) h⟩
  · exact fun t ht x _ h => absurd ((in_u (r := 62) (by decide) (3 * t + x)).symm.trans h) (by decide)
  · exact fun t ht => ⟨0, 0, by omega, by omega, (in_s (r := 8) (I := 4) (j := 4) (by decide) (by decide) (by decide) ht).trans z0, (in_u (by decide) t).trans z0, (in_u (by decide) t).trans z0, fun j hj => absurd hj (by omega)⟩
  · exact fun p hp f _ => ⟨(in_a (r := 35) (I := 12) (J := 10) (by decide) (by decide) hp f).trans (in_u (by decide) _).symm, .inl (in_u (by decide) _)⟩
  · exact fun p hp f _ => ⟨(in_a (r := 36) (I := 12) (J := 10) (by decide) (by decide) hp f).trans (in_u (by decide) _).symm, (in_a (r := 37) (I := 12) (J := 10) (by decide) (by decide) hp f).trans (in_u (by decide) _).symm, (in_a (r := 38) (I := 12) (J := 10) (by decide) (by decide) hp f).trans (in_u (by decide) _).symm, (in_a (r := 39) (I := 12) (J := 10) (by decide) (by decide) hp f).trans (in_u (by decide) _).symm⟩
  · exact fun p hp x _ => (in_a (r := 40) (I := 12) (J := 3) (by decide) (by decide) hp x).trans (in_u (by decide) _).symm
  · exact fun p hp => (in_s (r := 7) (I := 12) (j := 6) (by decide) (by decide) (by decide) hp).trans (in_u (by decide) p).symm
  · exact fun p hp => ⟨15, by omega, in_7 p hp, fun h => absurd h (by omega), fun _ => rfl⟩
  · exact ⟨by omega, (in_s (r := 4) (I := 1) (j := 5) (by decide) (by decide) (by decide) (by decide)).trans z0, (in_us 22 (by decide) (by decide)).trans z0⟩
  · exact fun i _ => ⟨(in_a (r := 22) (I := 1) (J := 99) (by decide) (by decide) (by decide) i).trans (in_u (by decide) i).symm, (in_a (r := 23) (I := 1) (J := 99) (by decide) (by decide) (by decide) i).trans (in_u (by decide) i).symm, (in_a (r := 24) (I := 1) (J := 99) (by decide) (by decide) (by decide) i).trans (in_u (by decide) i).symm, (in_a (r := 25) (I := 1) (J := 99) (by decide) (by decide) (by decide) i).trans (in_u (by decide) i).symm, (in_a (r := 26) (I := 1) (J := 99) (by decide) (by decide) (by decide) i).trans (in_u (by decide) i).symm⟩
  · exact fun i hi => absurd hi (by omega)
  · exact fun k _ => ⟨(in_a (r := 29) (I := 1) (J := 108) (by decide) (by decide) (by decide) k).trans (in_u (by decide) k).symm, 0, by omega, (in_u (by decide) k).trans z0⟩
  · exact fun s hs => ⟨0, 1, by omega, by omega, by omega, (in_a (r := 30) (I := 1) (J := 9) (by decide) (by decide) (by decide) s).trans z0, (in_u (by decide) s).trans z0, in_31 s hs, (in_u (by decide) s).trans z0⟩
  · exact ⟨by omega, (in_s (r := 5) (I := 1) (j := 4) (by decide) (by decide) (by decide) (by decide)).trans z0, (in_us 55 (by decide) (by decide)).trans z0⟩
  · exact fun i _ => ⟨(in_a (r := 32) (I := 1) (J := 9) (by decide) (by decide) (by decide) i).trans (in_u (by decide) i).symm, fun h => absurd h (by omega)⟩
  · exact fun t _ => ⟨0, by omega, (in_a (r := 33) (I := 1) (J := 4) (by decide) (by decide) (by decide) t).trans z0, fun k _ => (in_u (by decide) _).trans (by simp)⟩
theorem in_zo : cb_zc in_O 45 0 = true ∧ cb_zc in_O 84 0 = true ∧ in_K 9 0 1 = 0 ∧ in_K 14 0 34 = 0 ∧ in_K 9 0 3 = in_K 14 0 41 ∧ in_K 9 0 4 = in_K 14 0 42 ∧ (∀ j, j < 4 → in_K 2 0 j ≠ 0) ∧ (∀ j, j < 12 → in_K 3 0 j ≠ 0) ∧ (∀ k, k < 45 → in_K 83 0 k = nI (rl_wds.getD k 0)) ∧ in_K 0 0 1 = 0 ∧ in_K 14 0 61 = 0 := by decide +kernel
theorem in_nk : (cb_n in_O).all (fun x => !(decide (rl_sh x.1 ≤ x.2) && (decide (x.2 < 2 * rl_sh x.1) && decide (x.1 < 45)))) = true := by decide +kernel
theorem in_rl (L : Nat) (xs : Nat → Int32) : rl_S (cb_a in_O (in_S L xs)) := by
  obtain ⟨o1, o2, o3, o4, o5, o6, o7, o8, o9, o10, o11⟩ := in_zo
  refine ⟨0, 0, 0, 0, 0, ?_, ?_, ?_⟩
  · rw [in_e]
    exact in_w
  · unfold rl_o
    rw [in_e]
    exact ⟨⟨0, by omega, o3.trans in_n0.symm, o4.trans in_n0.symm⟩, fun j _ => ⟨(in_z o1 j).trans (in_z o2 j).symm, 0, by omega, (in_z o2 j).trans in_n0.symm⟩, ⟨o5, o6⟩, o7, o8, o9⟩
  · unfold rl_i
    rw [in_e, cb_ln]
    refine .inl ⟨o10, o11, fun r i hk hr hm => ?_⟩
    have hm : (r, i) ∈ cb_n in_O := hm
    have h := List.all_eq_true.mp in_nk _ hm
    obtain ⟨h1, h2⟩ := hk
    have e : (!(decide (rl_sh r ≤ i) && (decide (i < 2 * rl_sh r) && decide (r < 45)))) = true := h
    rw [decide_eq_true h1, decide_eq_true h2, decide_eq_true hr] at e
    cases e
