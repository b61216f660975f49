/-! ===== TEXT: the signs ===== -/
def tx_so (v : Nat) : Nat := if v = 32 ∨ v = 10 then 0 else if (97 ≤ v ∧ v ≤ 122) ∨ (65 ≤ v ∧ v ≤ 90) then 1 else if 48 ≤ v ∧ v ≤ 57 then 2 else 3
theorem tx_so3 (v : Nat) : tx_so v ≤ 3 := by
  unfold tx_so
  split
  · omega
  · split
    · omega
    · split <;> omega
theorem tx_so2 {v : Nat} (h : tx_so v = 2) : 48 ≤ v ∧ v ≤ 57 := by
  unfold tx_so at h
  split at h
  · omega
  · split at h
    · omega
    · split at h
      · assumption
      · omega
theorem tx_so1 {v : Nat} (h : tx_so v = 1) : v ≠ 32 := by
  unfold tx_so at h
  split at h
  · omega
  · rename_i n; omega
theorem tx_z {v k : Nat} (hv : v < 256) (hk : k < 256) : ((nI v = nI k) ↔ v = k) ∧ ((nI v ≤ nI k) ↔ v ≤ k) ∧ ((nI k ≤ nI v) ↔ k ≤ v) := ⟨nI_eq (by omega) (by omega), nI_leI (by omega) (by omega), nI_leI (by omega) (by omega)⟩
theorem tx_L {v : Nat} (hv : v < 256) : ((97 ≤ nI v ∧ nI v ≤ 122) ∨ (65 ≤ nI v ∧ nI v ≤ 90)) ↔ ((97 ≤ v ∧ v ≤ 122) ∨ (65 ≤ v ∧ v ≤ 90)) := by
  have h1 : (97 : Int32) ≤ nI v ↔ 97 ≤ v := (tx_z (k := 97) hv (by decide)).2.2
  have h2 : nI v ≤ (122 : Int32) ↔ v ≤ 122 := (tx_z (k := 122) hv (by decide)).2.1
  have h3 : (65 : Int32) ≤ nI v ↔ 65 ≤ v := (tx_z (k := 65) hv (by decide)).2.2
  have h4 : nI v ≤ (90 : Int32) ↔ v ≤ 90 := (tx_z (k := 90) hv (by decide)).2.1
  rw [h1, h2, h3, h4]
theorem tx_D {v : Nat} (hv : v < 256) : (48 ≤ nI v ∧ nI v ≤ 57) ↔ (48 ≤ v ∧ v ≤ 57) := by
  have h1 : (48 : Int32) ≤ nI v ↔ 48 ≤ v := (tx_z (k := 48) hv (by decide)).2.2
  have h2 : nI v ≤ (57 : Int32) ↔ v ≤ 57 := (tx_z (k := 57) hv (by decide)).2.1
  rw [h1, h2]
theorem tx_sort {v : Nat} (hv : v < 256) : ov_sort (nI v) = nI (tx_so v) := by
  have h1 : (nI v = (32 : Int32)) ↔ v = 32 := (tx_z (k := 32) hv (by decide)).1
  have h2 : (nI v = (10 : Int32)) ↔ v = 10 := (tx_z (k := 10) hv (by decide)).1
  have hS : (nI v = (32 : Int32) ∨ nI v = 10) ↔ (v = 32 ∨ v = 10) := by rw [h1, h2]
  unfold ov_sort tx_so
  by_cases q1 : v = 32 ∨ v = 10
  · rw [if_pos q1, if_pos (hS.2 q1)]; rfl
  · rw [if_neg q1, if_neg (fun y => q1 (hS.1 y))]
    by_cases q2 : (97 ≤ v ∧ v ≤ 122) ∨ (65 ≤ v ∧ v ≤ 90)
    · rw [if_pos q2, if_pos ((tx_L hv).2 q2)]; rfl
    · rw [if_neg q2, if_neg (fun y => q2 ((tx_L hv).1 y))]
      by_cases q3 : 48 ≤ v ∧ v ≤ 57
      · rw [if_pos q3, if_pos ((tx_D hv).2 q3)]; rfl
      · rw [if_neg q3, if_neg (fun y => q3 ((tx_D hv).1 y))]; rfl
/-! where a run of one sort ends -/
def tx_r (f : Nat → Nat) (q : Nat) : Nat → Nat → Nat
  | 0, j => j
  | n + 1, j => if tx_so (f j) = q then tx_r f q n (j + 1) else j
def tx_e (f : Nat → Nat) (L q j : Nat) : Nat := tx_r f q (L - j) j
theorem tx_eo {f : Nat → Nat} {L q j : Nat} (h : L ≤ j) : tx_e f L q j = j := by
  unfold tx_e
  rw [Nat.sub_eq_zero_of_le h]
  rfl
theorem tx_ey {f : Nat → Nat} {L q j : Nat} (h : j < L) (hs : tx_so (f j) = q) : tx_e f L q j = tx_e f L q (j + 1) := by
  unfold tx_e
  obtain ⟨n, hn⟩ : ∃ n, L - j = n + 1 := ⟨L - j - 1, by omega⟩
  rw [hn, show L - (j + 1) = n by omega]
  show (if tx_so (f j) = q then _ else _) = _
  rw [if_pos hs]
theorem tx_en {f : Nat → Nat} {L q j : Nat} (hs : ¬ tx_so (f j) = q) : tx_e f L q j = j := by
  unfold tx_e
  cases L - j with
  | zero => rfl
  | succ n =>
    show (if tx_so (f j) = q then _ else _) = _
    rw [if_neg hs]
theorem tx_r_ok (f : Nat → Nat) (q : Nat) : ∀ n j, j ≤ tx_r f q n j ∧ tx_r f q n j ≤ j + n ∧ (∀ i, j ≤ i → i < tx_r f q n j → tx_so (f i) = q) ∧ (tx_r f q n j = j + n ∨ ¬ tx_so (f (tx_r f q n j)) = q)
  | 0, j => ⟨Nat.le_refl _, Nat.le_refl _, fun i h1 h2 => absurd (show i < j from h2) (by omega), .inl rfl⟩
  | n + 1, j => by
    by_cases hs : tx_so (f j) = q
    · have e : tx_r f q (n + 1) j = tx_r f q n (j + 1) := if_pos hs
      rw [e]
      obtain ⟨h1, h2, h3, h4⟩ := tx_r_ok f q n (j + 1)
      refine ⟨by omega, by omega, fun i hi hk => ?_, ?_⟩
      · by_cases e2 : i = j
        · rw [e2]; exact hs
        · exact h3 i (by omega) hk
      · rcases h4 with h4 | h4
        · exact .inl (by omega)
        · exact .inr h4
    · have e : tx_r f q (n + 1) j = j := if_neg hs
      rw [e]
      exact ⟨Nat.le_refl _, by omega, fun i h1 h2 => absurd h2 (by omega), .inr hs⟩
theorem tx_e_ok {f : Nat → Nat} {L q j : Nat} (hj : j ≤ L) : j ≤ tx_e f L q j ∧ tx_e f L q j ≤ L ∧ (∀ i, j ≤ i → i < tx_e f L q j → tx_so (f i) = q) ∧ (tx_e f L q j = L ∨ ¬ tx_so (f (tx_e f L q j)) = q) := by
  obtain ⟨h1, h2, h3, h4⟩ := tx_r_ok f q (L - j) j
  refine ⟨h1, ?_, h3, ?_⟩
  · show tx_r f q (L - j) j ≤ L; omega
  · rcases h4 with h4 | h4
    · exact .inl (by show tx_r f q (L - j) j = L; omega)
    · exact .inr h4
/-! the words -/
def tx_ln (w : Nat) : Nat := [4, 3, 3, 3, 4, 4, 2, 3, 3, 5].getD w 0
def tx_st (w : Nat) : Nat := [1, 6, 10, 14, 18, 23, 28, 31, 35, 39, 45].getD w 0
def tx_wt (w i : Nat) : Nat := rl_wds.getD (tx_st w + i) 0
theorem tx_w1 : ∀ w, w < 10 → 2 ≤ tx_ln w ∧ tx_ln w ≤ 5 ∧ tx_st (w + 1) = tx_st w + tx_ln w + 1 ∧ tx_st w + tx_ln w < 45 ∧ tx_wt w (tx_ln w) = 32 := by decide
theorem tx_w2 : ∀ w, w < 10 → ∀ i, i < 5 → (i < tx_ln w → tx_wt w i < 256 ∧ ¬ tx_wt w i = 32 ∧ ov_wd (5 * w + i) = nI (tx_wt w i)) ∧ (tx_ln w ≤ i → ov_wd (5 * w + i) = 32) := by decide +kernel
def tx_m (f : Nat → Nat) (p e w : Nat) : Prop := e = p + tx_ln w ∧ ∀ i, i < tx_ln w → f (p + i) = tx_wt w i
noncomputable def tx_q (f : Nat → Nat) (p e : Nat) : Nat → Nat → Nat
  | 0, _ => 13
  | n + 1, w => @ite _ (tx_m f p e w) (Classical.propDecidable _) w (tx_q f p e n (w + 1))
theorem tx_q_y {f : Nat → Nat} {p e n w : Nat} (h : tx_m f p e w) : tx_q f p e (n + 1) w = w := by
  unfold tx_q
  exact if_pos h
theorem tx_q_n {f : Nat → Nat} {p e n w : Nat} (h : ¬ tx_m f p e w) : tx_q f p e (n + 1) w = tx_q f p e n (w + 1) := by
  show (@ite _ (tx_m f p e w) (Classical.propDecidable _) w (tx_q f p e n (w + 1))) = _
  exact if_neg h
theorem tx_q_c {f : Nat → Nat} {p e : Nat} : ∀ n w, n + w = 10 → tx_q f p e n w = 13 ∨ tx_q f p e n w < 10
  | 0, w, _ => .inl rfl
  | n + 1, w, h => by
    by_cases q : tx_m f p e w
    · rw [tx_q_y q]; exact .inr (by omega)
    · rw [tx_q_n q]; exact tx_q_c n (w + 1) (by omega)
theorem tx_q_l {f : Nat → Nat} {p e : Nat} (h : p + 5 < e) : ∀ n w, n + w = 10 → tx_q f p e n w = 13
  | 0, w, _ => rfl
  | n + 1, w, hn => by
    have : ¬ tx_m f p e w := fun q => by
      have := (tx_w1 w (by omega)).2.1
      have := q.1
      omega
    rw [tx_q_n this]
    exact tx_q_l h n (w + 1) (by omega)
/-! the value of the digits -/
def tx_v (f : Nat → Nat) (p : Nat) : Nat → Nat
  | 0 => 0
  | n + 1 => 10 * tx_v f p n + f (p + n) - 48
theorem tx_v_b {f : Nat → Nat} {p : Nat} : ∀ n, (∀ i, i < n → 48 ≤ f (p + i) ∧ f (p + i) ≤ 57) → tx_v f p n < 10 ^ n
  | 0, _ => Nat.one_pos
  | n + 1, h => by
    have h1 := tx_v_b n (fun i hi => h i (by omega))
    have h2 := h n (by omega)
    show 10 * tx_v f p n + f (p + n) - 48 < 10 ^ (n + 1)
    rw [Nat.pow_succ]
    omega
/-! the tokens -/
def tx_n (f : Nat → Nat) (L j : Nat) : Nat :=
  if L ≤ tx_e f L 0 j then tx_e f L 0 j else if tx_so (f (tx_e f L 0 j)) = 3 then tx_e f L 0 j + 1 else tx_e f L (tx_so (f (tx_e f L 0 j))) (tx_e f L 0 j)
def tx_P (f : Nat → Nat) (L : Nat) : Nat → Nat
  | 0 => 0
  | k + 1 => tx_n f L (tx_P f L k)
def tx_A (f : Nat → Nat) (L k : Nat) : Nat := tx_e f L 0 (tx_P f L k)
noncomputable def tx_C (f : Nat → Nat) (L k : Nat) : Nat :=
  if L ≤ tx_A f L k then 12 else if tx_so (f (tx_A f L k)) = 1 then tx_q f (tx_A f L k) (tx_P f L (k + 1)) 10 0 else if tx_so (f (tx_A f L k)) = 2 then (if tx_P f L (k + 1) - tx_A f L k ≤ 4 then 10 else 13) else if f (tx_A f L k) = 59 then 11 else 13
def tx_V (f : Nat → Nat) (L k : Nat) : Nat := tx_v f (tx_A f L k) (min 4 (tx_P f L (k + 1) - tx_A f L k))
theorem tx_n_ok {f : Nat → Nat} {L j : Nat} (hj : j ≤ L) : tx_e f L 0 j ≤ tx_n f L j ∧ tx_n f L j ≤ L ∧ (tx_e f L 0 j < L → tx_e f L 0 j + 1 ≤ tx_n f L j) := by
  have h0 := tx_e_ok (f := f) (q := 0) hj
  unfold tx_n
  by_cases q1 : L ≤ tx_e f L 0 j
  · rw [if_pos q1]; omega
  · rw [if_neg q1]
    by_cases q2 : tx_so (f (tx_e f L 0 j)) = 3
    · rw [if_pos q2]; omega
    · rw [if_neg q2]
      have h1 := tx_e_ok (f := f) (L := L) (q := tx_so (f (tx_e f L 0 j))) (j := tx_e f L 0 j) (by omega)
      have h2 := tx_ey (f := f) (L := L) (q := tx_so (f (tx_e f L 0 j))) (j := tx_e f L 0 j) (by omega) rfl
      have h3 := tx_e_ok (f := f) (L := L) (q := tx_so (f (tx_e f L 0 j))) (j := tx_e f L 0 j + 1) (by omega)
      omega
theorem tx_P_le {f : Nat → Nat} {L : Nat} : ∀ k, tx_P f L k ≤ L
  | 0 => Nat.zero_le _
  | k + 1 => (tx_n_ok (tx_P_le k)).2.1
theorem tx_A_ok {f : Nat → Nat} {L : Nat} (k : Nat) : tx_P f L k ≤ tx_A f L k ∧ tx_A f L k ≤ L ∧ tx_A f L k ≤ tx_P f L (k + 1) ∧ (tx_A f L k < L → tx_A f L k + 1 ≤ tx_P f L (k + 1)) := by
  have h0 := tx_e_ok (f := f) (q := 0) (tx_P_le (f := f) (L := L) k)
  have h1 := tx_n_ok (f := f) (tx_P_le (f := f) (L := L) k)
  exact ⟨h0.1, h0.2.1, h1.1, h1.2.2⟩
/-- what the tokens are -/
theorem tx_end {f : Nat → Nat} {L k : Nat} (h : ¬ tx_A f L k < L) : tx_C f L k = 12 ∧ tx_A f L k = L ∧ tx_P f L (k + 1) = L := by
  have h0 := tx_A_ok (f := f) (L := L) k
  have e : tx_A f L k = L := by omega
  refine ⟨?_, e, ?_⟩
  · unfold tx_C; exact if_pos (by omega)
  · show tx_n f L (tx_P f L k) = L
    unfold tx_n
    have e' : tx_e f L 0 (tx_P f L k) = L := e
    rw [e', if_pos (Nat.le_refl _)]
theorem tx_lt {f : Nat → Nat} {L k : Nat} (h : tx_A f L k < L) : ¬ tx_so (f (tx_A f L k)) = 0 := by
  have h0 := tx_e_ok (f := f) (q := 0) (tx_P_le (f := f) (L := L) k)
  rcases h0.2.2.2 with e | e
  · exact absurd (show tx_A f L k = L from e) (by omega)
  · exact e
theorem tx_sgn {f : Nat → Nat} {L k : Nat} (h : tx_A f L k < L) (h3 : tx_so (f (tx_A f L k)) = 3) : tx_P f L (k + 1) = tx_A f L k + 1 ∧ tx_C f L k = if f (tx_A f L k) = 59 then 11 else 13 := by
  constructor
  · show tx_n f L (tx_P f L k) = _
    unfold tx_n
    rw [if_neg (show ¬ L ≤ tx_e f L 0 (tx_P f L k) from Nat.not_le.2 h), if_pos (show tx_so (f (tx_e f L 0 (tx_P f L k))) = 3 from h3)]
    rfl
  · unfold tx_C
    rw [if_neg (show ¬ L ≤ tx_A f L k by omega), h3, if_neg (by decide), if_neg (by decide)]
theorem tx_run {f : Nat → Nat} {L k : Nat} (h : tx_A f L k < L) (h3 : ¬ tx_so (f (tx_A f L k)) = 3) : tx_P f L (k + 1) = tx_e f L (tx_so (f (tx_A f L k))) (tx_A f L k) := by
  show tx_n f L (tx_P f L k) = _
  unfold tx_n
  rw [if_neg (show ¬ L ≤ tx_e f L 0 (tx_P f L k) from Nat.not_le.2 h), if_neg (show ¬ tx_so (f (tx_e f L 0 (tx_P f L k))) = 3 from h3)]
  rfl
theorem tx_wrd {f : Nat → Nat} {L k : Nat} (h : tx_A f L k < L) (h1 : tx_so (f (tx_A f L k)) = 1) : tx_C f L k = tx_q f (tx_A f L k) (tx_P f L (k + 1)) 10 0 := by
  unfold tx_C
  rw [if_neg (show ¬ L ≤ tx_A f L k by omega), if_pos h1]
theorem tx_num {f : Nat → Nat} {L k : Nat} (h : tx_A f L k < L) (h1 : tx_so (f (tx_A f L k)) = 2) : tx_C f L k = if tx_P f L (k + 1) - tx_A f L k ≤ 4 then 10 else 13 := by
  unfold tx_C
  rw [if_neg (show ¬ L ≤ tx_A f L k by omega), h1, if_neg (by decide), if_pos rfl]
theorem tx_C13 {f : Nat → Nat} {L : Nat} (k : Nat) : tx_C f L k ≤ 13 := by
  unfold tx_C
  split
  · omega
  · split
    · rcases tx_q_c (f := f) (p := tx_A f L k) (e := tx_P f L (k + 1)) 10 0 rfl with h | h <;> omega
    · split
      · split <;> omega
      · split <;> omega
theorem tx_C10 {f : Nat → Nat} {L k : Nat} (h : tx_C f L k = 10) : tx_A f L k < L ∧ tx_so (f (tx_A f L k)) = 2 ∧ tx_P f L (k + 1) - tx_A f L k ≤ 4 := by
  by_cases q : tx_A f L k < L
  · refine ⟨q, ?_⟩
    have h3 := tx_so3 (f (tx_A f L k))
    have h0 := tx_lt q
    have : tx_so (f (tx_A f L k)) = 1 ∨ tx_so (f (tx_A f L k)) = 2 ∨ tx_so (f (tx_A f L k)) = 3 := by omega
    rcases this with e | e | e
    · rw [tx_wrd q e] at h
      rcases tx_q_c (f := f) (p := tx_A f L k) (e := tx_P f L (k + 1)) 10 0 rfl with h' | h' <;> omega
    · refine ⟨e, ?_⟩
      rw [tx_num q e] at h
      split at h
      · assumption
      · cases h
    · rw [(tx_sgn q e).2] at h
      split at h <;> cases h
  · rw [(tx_end q).1] at h
    cases h
theorem tx_V_b {f : Nat → Nat} {L k : Nat} (h : tx_C f L k = 10) : tx_V f L k ≤ 9999 := by
  obtain ⟨h1, h2, h3⟩ := tx_C10 h
  have hr := tx_run h1 (by rw [h2]; decide)
  have ho := tx_e_ok (f := f) (L := L) (q := tx_so (f (tx_A f L k))) (j := tx_A f L k) (by omega)
  rw [← hr] at ho
  have hv := tx_v_b (f := f) (p := tx_A f L k) (min 4 (tx_P f L (k + 1) - tx_A f L k)) (fun i hi => tx_so2 ((ho.2.2.1 (tx_A f L k + i) (by omega) (by omega)).trans h2))
  have : (10 : Nat) ^ (min 4 (tx_P f L (k + 1) - tx_A f L k)) ≤ 10 ^ 4 := Nat.pow_le_pow_right (by decide) (by omega)
  show tx_v f (tx_A f L k) (min 4 (tx_P f L (k + 1) - tx_A f L k)) ≤ 9999
  omega
