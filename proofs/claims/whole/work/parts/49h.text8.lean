/-! ===== TEXT: the reference reads a token, whole ===== -/
def xtk (c v : Nat) (t x : Int32) : Prop := (c < 10 → t = 2 ∧ x = nI c) ∧ (c = 10 → t = 3 ∧ x = nI v) ∧ (c = 11 → t = 4) ∧ (c = 12 → t = 0) ∧ (c = 13 → t = 1)
theorem xtk_r {c v : Nat} {t x : Int32} (h : (c < 10 ∧ t = 2 ∧ x = nI c) ∨ (c = 10 ∧ t = 3 ∧ x = nI v) ∨ (c = 11 ∧ t = 4) ∨ (c = 12 ∧ t = 0) ∨ (c = 13 ∧ t = 1)) : xtk c v t x := by
  rcases h with ⟨h1, h2⟩ | ⟨h1, h2⟩ | ⟨h1, h2⟩ | ⟨h1, h2⟩ | ⟨h1, h2⟩
  · exact ⟨fun _ => h2, fun z => absurd z (by omega), fun z => absurd z (by omega), fun z => absurd z (by omega), fun z => absurd z (by omega)⟩
  · exact ⟨fun z => absurd z (by omega), fun _ => h2, fun z => absurd z (by omega), fun z => absurd z (by omega), fun z => absurd z (by omega)⟩
  · exact ⟨fun z => absurd z (by omega), fun z => absurd z (by omega), fun _ => h2, fun z => absurd z (by omega), fun z => absurd z (by omega)⟩
  · exact ⟨fun z => absurd z (by omega), fun z => absurd z (by omega), fun z => absurd z (by omega), fun _ => h2, fun z => absurd z (by omega)⟩
  · exact ⟨fun z => absurd z (by omega), fun z => absurd z (by omega), fun z => absurd z (by omega), fun z => absurd z (by omega), fun _ => h2⟩
/-- token k is read -/
def xk (f : Nat → Nat) (L k : Nat) (S S' : ov_S) : Prop := xr S S' ∧ S'.1 14 0 35 = nI (tx_P f L (k + 1)) ∧ S'.1 14 0 36 = nI (tx_A f L k) ∧ xtk (tx_C f L k) (tx_V f L k) (S'.1 14 0 37) (S'.1 14 0 38)
theorem m_rd {f : Nat → Nat} {L d j : Nat} {S : ov_S} {Q : ov_Q} {w : Int32} (hd : 2 ≤ d) (hM : xM f L S) (hL : L ≤ 400) (hj : j ≤ 400) (e : S.1 14 0 35 = nI j) (ew : ov_raw S (nI j) = w)
  (h : (w = 32 → ov_V true true d 0 0 mq_Mod_reads 26 [some (.inr (.inr (true, 14, 0))), none] [] S Q) ∧ (¬ w = 32 → (¬ w = 10 → (¬ w = -1 → (¬ ((97 ≤ w ∧ w ≤ 122) ∨ (65 ≤ w ∧ w ≤ 90)) → (¬ (48 ≤ w ∧ w ≤ 57) → (¬ w = 59 → Q none (ov_w (ov_w (ov_w S 14 0 36 (nI j)) 14 0 37 1) 14 0 35 (nI (j + 1)))) ∧ (w = 59 → Q none (ov_w (ov_w (ov_w (ov_w S 14 0 36 (nI j)) 14 0 37 1) 14 0 35 (nI (j + 1))) 14 0 37 4))) ∧ ((48 ≤ w ∧ w ≤ 57) → ov_V true true d 0 0 mq_Mod_reads 166 [some (.inr (.inr (true, 14, 0))), none] [] (ov_w (ov_w (ov_w (ov_w S 14 0 36 (nI j)) 14 0 37 1) 14 0 35 (nI (j + 1))) 14 0 38 (w - 48)) Q)) ∧ (((97 ≤ w ∧ w ≤ 122) ∨ (65 ≤ w ∧ w ≤ 90)) → ov_V true true d 0 0 mq_Mod_reads 90 [some (.inr (.inr (true, 14, 0))), none] [] (ov_w (ov_w (ov_w S 14 0 36 (nI j)) 14 0 37 1) 14 0 35 (nI (j + 1))) Q)) ∧ (w = -1 → Q none (ov_w (ov_w (ov_w S 14 0 36 (nI j)) 14 0 37 1) 14 0 37 0))) ∧ (w = 10 → ov_V true true d 0 0 mq_Mod_reads 26 [some (.inr (.inr (true, 14, 0))), none] [] S Q))) : ov_V true true d 0 0 mq_Mod_reads 0 [some (.inr (.inr (true, 14, 0))), none] [] S Q := by
  have hib := xM_i hM hL hj
  have e' : ov_g S 14 0 35 = nI j := e
  have key : ∀ x : Int32, x = nI j → (((x < ov_g S 14 0 34 → ov_ib x 400) ∧ ((ov_raw S x = 32 → ov_V true true d 0 0 mq_Mod_reads 26 [some (.inr (.inr (true, 14, 0))), none] [] S Q) ∧ (¬ ov_raw S x = 32 → (x < ov_g S 14 0 34 → ov_ib x 400) ∧ ((¬ ov_raw S x = 10 → (x < ov_g S 14 0 34 → ov_ib x 400) ∧ ((¬ ov_raw S x = -1 → (¬ ((97 ≤ ov_raw S x ∧ ov_raw S x ≤ 122) ∨ (65 ≤ ov_raw S x ∧ ov_raw S x ≤ 90)) → (¬ (48 ≤ ov_raw S x ∧ ov_raw S x ≤ 57) → (¬ ov_raw S x = 59 → Q none (ov_w (ov_w (ov_w S 14 0 36 x) 14 0 37 1) 14 0 35 (x + 1))) ∧ (ov_raw S x = 59 → Q none (ov_w (ov_w (ov_w (ov_w S 14 0 36 x) 14 0 37 1) 14 0 35 (x + 1)) 14 0 37 4))) ∧ ((48 ≤ ov_raw S x ∧ ov_raw S x ≤ 57) → ov_V true true d 0 0 mq_Mod_reads 166 [some (.inr (.inr (true, 14, 0))), none] [] (ov_w (ov_w (ov_w (ov_w S 14 0 36 x) 14 0 37 1) 14 0 35 (x + 1)) 14 0 38 (ov_raw S x - 48)) Q)) ∧ (((97 ≤ ov_raw S x ∧ ov_raw S x ≤ 122) ∨ (65 ≤ ov_raw S x ∧ ov_raw S x ≤ 90)) → ov_V true true d 0 0 mq_Mod_reads 90 [some (.inr (.inr (true, 14, 0))), none] [] (ov_w (ov_w (ov_w S 14 0 36 x) 14 0 37 1) 14 0 35 (x + 1)) Q)) ∧ (ov_raw S x = -1 → Q none (ov_w (ov_w (ov_w S 14 0 36 x) 14 0 37 1) 14 0 37 0)))) ∧ (ov_raw S x = 10 → ov_V true true d 0 0 mq_Mod_reads 26 [some (.inr (.inr (true, 14, 0))), none] [] S Q)))))) := by
    intro x hx
    subst hx
    rw [ew, nI_1]
    exact ⟨hib, h.1, fun n => ⟨hib, fun n2 => ⟨hib, (h.2 n).1 n2⟩, (h.2 n).2⟩⟩
  exact r_Mod_reads_0 hd (key _ e')
theorem x_so0 {v : Nat} (hv : v < 256) : (tx_so v = 0 ↔ nI v = 32 ∨ nI v = 10) := by
  have h1 : (nI v = (32 : Int32)) ↔ v = 32 := (tx_z (k := 32) hv (by decide)).1
  have h2 : (nI v = (10 : Int32)) ↔ v = 10 := (tx_z (k := 10) hv (by decide)).1
  rw [h1, h2]
  unfold tx_so
  constructor
  · intro h
    split at h
    · assumption
    · split at h
      · omega
      · split at h <;> omega
  · intro h
    exact if_pos h
theorem x_so1 {v : Nat} (hv : v < 256) (h0 : ¬ tx_so v = 0) : (tx_so v = 1 ↔ ((97 ≤ nI v ∧ nI v ≤ 122) ∨ (65 ≤ nI v ∧ nI v ≤ 90))) := by
  rw [tx_L hv]
  unfold tx_so at h0 ⊢
  constructor
  · intro h
    split at h
    · omega
    · split at h
      · assumption
      · split at h <;> omega
  · intro h
    have n0 : ¬ (v = 32 ∨ v = 10) := by omega
    rw [if_neg n0, if_pos h]
theorem x_so2 {v : Nat} (hv : v < 256) : (tx_so v = 2 ↔ (48 ≤ nI v ∧ nI v ≤ 57)) := by
  rw [tx_D hv]
  constructor
  · exact tx_so2
  · intro h
    unfold tx_so
    rw [if_neg (by omega), if_neg (by omega), if_pos h]
theorem x_so1' {v : Nat} (hv : v < 256) : (tx_so v = 1 ↔ ((97 ≤ nI v ∧ nI v ≤ 122) ∨ (65 ≤ nI v ∧ nI v ≤ 90))) := by
  by_cases h0 : tx_so v = 0
  · constructor
    · intro h; omega
    · intro h
      rw [tx_L hv] at h
      unfold tx_so
      rw [if_neg (by omega), if_pos h]
  · exact x_so1 hv h0
/-- letters -/
theorem x_90 {f : Nat → Nat} {L d p E : Nat} {S0 : ov_S} {Q : ov_Q} (hd : 2 ≤ d) (hM0 : xM f L S0) (hf : ∀ j, f j < 256) (hL : L ≤ 400) (hp : p ≤ L) (h : ∀ S', xr S0 S' → S'.1 14 0 35 = nI E → S'.1 14 0 36 = nI p → S'.1 14 0 37 = 1 → p ≤ E → ov_V true true ((d - 1)) 0 0 mq_Mod_wordOf 0 [some (.inr (.inr (true, 14, 0))), some (.inl (nI p)), some (.inl (nI E)), none, none, none] [] S' (fun r S1 => ov_V true true d 0 0 mq_Mod_reads 131 [some (.inr (.inr (true, 14, 0))), none] (r.toList ++ [.inr (.inr (true, 14, 0))]) S1 Q)) : ∀ n j S, j + n = L → p ≤ j → tx_e f L 1 j = E → xr S0 S → S.1 14 0 35 = nI j → S.1 14 0 36 = nI p → S.1 14 0 37 = 1 → ov_V true true d 0 0 mq_Mod_reads 90 [some (.inr (.inr (true, 14, 0))), none] [] S Q := by
  intro n
  induction n with
  | zero =>
    intro j S hj hpj hE hr e35 e36 e37
    have hM := xM_r hM0 hr
    rw [tx_eo (by omega)] at hE
    subst hE
    refine r_Mod_reads_90 hd ?_
    rw [show ov_g S 14 0 35 = nI j from e35, xM_o hM (by omega) (by omega), show ov_g S 14 0 36 = nI p from e36]
    exact ⟨xM_i hM hL (by omega), fun _ => h S hr e35 e36 e37 hpj, fun y => absurd y (by decide)⟩
  | succ n ih =>
    intro j S hj hpj hE hr e35 e36 e37
    have hM := xM_r hM0 hr
    refine r_Mod_reads_90 hd ?_
    rw [show ov_g S 14 0 35 = nI j from e35, xM_w hM hL (by omega), show ov_g S 14 0 36 = nI p from e36, ← x_so1' (hf j), nI_1]
    refine ⟨xM_i hM hL (by omega), fun n1 => ?_, fun y1 => ?_⟩
    · rw [tx_en n1] at hE
      subst hE
      exact h S hr e35 e36 e37 hpj
    · rw [tx_ey (by omega) y1] at hE
      exact ih (j + 1) _ (by omega) (by omega) hE (xr_w hr rfl) rfl e36 e37
/-- digits -/
theorem x_166 {f : Nat → Nat} {L d p E : Nat} {S0 : ov_S} {Q : ov_Q} (hd : 2 ≤ d) (hM0 : xM f L S0) (hf : ∀ j, f j < 256) (hL : L ≤ 400) (hE' : E ≤ L) (hdg : ∀ i, p ≤ i → i < E → tx_so (f i) = 2) (h : ∀ S' t v, xr S0 S' → S'.1 14 0 35 = nI E → S'.1 14 0 36 = nI p → S'.1 14 0 37 = t → S'.1 14 0 38 = nI v → (E - p ≤ 4 → t = 3 ∧ v = tx_v f p (E - p)) → (¬ E - p ≤ 4 → t = 1) → Q none S') : ∀ n j v S, j + n = L → p ≤ j → j ≤ E → tx_e f L 2 j = E → xr S0 S → S.1 14 0 35 = nI j → S.1 14 0 36 = nI p → S.1 14 0 37 = 1 → S.1 14 0 38 = nI v → v ≤ 99999 → (j - p ≤ 4 → v = tx_v f p (j - p)) → ov_V true true d 0 0 mq_Mod_reads 166 [some (.inr (.inr (true, 14, 0))), none] [] S Q := by
  have fin : ∀ v S, xr S0 S → S.1 14 0 35 = nI E → S.1 14 0 36 = nI p → S.1 14 0 37 = 1 → S.1 14 0 38 = nI v → p ≤ E → (E - p ≤ 4 → v = tx_v f p (E - p)) → ((5 ≤ nI E - nI p → Q none S) ∧ (¬ 5 ≤ nI E - nI p → Q none (ov_w S 14 0 37 3))) := by
    intro v S hr e35 e36 e37 e38 hpE hv
    rw [pk_sub hpE]
    refine ⟨fun y => ?_, fun y => ?_⟩
    · have := (nI_leI (a := 5) (by decide) (by omega)).1 y
      exact h S 1 v hr e35 e36 e37 e38 (fun z => absurd z (by omega)) (fun _ => rfl)
    · have : E - p < 5 := Nat.lt_of_not_le (fun z => y (nI_le (a := 5) z (by omega)))
      exact h _ 3 v (xr_w hr rfl) e35 e36 rfl e38 (fun z => ⟨rfl, hv z⟩) (fun z => absurd (by omega) z)
  intro n
  induction n with
  | zero =>
    intro j v S hj hpj hjE hE hr e35 e36 e37 e38 hv1 hv2
    have hM := xM_r hM0 hr
    rw [tx_eo (by omega)] at hE
    subst hE
    refine r_Mod_reads_166 hd ?_
    rw [show ov_g S 14 0 35 = nI j from e35, xM_o hM (by omega) (by omega), show ov_g S 14 0 36 = nI p from e36]
    exact ⟨xM_i hM hL (by omega), fun _ => fin v S hr e35 e36 e37 e38 hpj hv2, fun y => absurd y (by decide)⟩
  | succ n ih =>
    intro j v S hj hpj hjE hE hr e35 e36 e37 e38 hv1 hv2
    have hM := xM_r hM0 hr
    refine r_Mod_reads_166 hd ?_
    rw [show ov_g S 14 0 35 = nI j from e35, xM_w hM hL (by omega), show ov_g S 14 0 36 = nI p from e36, ← x_so2 (hf j), show ov_g S 14 0 38 = nI v from e38]
    refine ⟨xM_i hM hL (by omega), fun n1 => ?_, fun y1 => ?_⟩
    · rw [tx_en n1] at hE
      subst hE
      exact fin v S hr e35 e36 e37 e38 hpj hv2
    · have hdj := tx_so2 y1
      rw [tx_ey (by omega) y1] at hE
      have hjE' : j + 1 ≤ E := by
        have := (tx_e_ok (f := f) (L := L) (q := 2) (j := j + 1) (by omega)).1
        omega
      have hb : j - p ≤ 4 → v < 10 ^ (j - p) := fun z => by
        rw [hv2 z]
        exact tx_v_b (j - p) (fun i hi => tx_so2 (hdg (p + i) (by omega) (by omega)))
      have step : ∀ v', v' ≤ 99999 → (j + 1 - p ≤ 4 → v' = tx_v f p (j + 1 - p)) → ov_V true true d 0 0 mq_Mod_reads 218 [some (.inr (.inr (true, 14, 0))), none] [.inl (nI v'), .inr (.inr (true, 14, 0))] S Q := by
        intro v' h1 h2
        refine r_Mod_reads_218 ?_
        show ov_V true true d 0 0 mq_Mod_reads 166 [some (.inr (.inr (true, 14, 0))), none] [] (ov_w (ov_w S 14 0 38 (nI v')) 14 0 35 (ov_g S 14 0 35 + 1)) Q
        rw [show ov_g S 14 0 35 = nI j from e35, nI_1]
        exact ih (j + 1) v' _ (by omega) (by omega) hjE' hE (xr_w (xr_w hr rfl) rfl) rfl e36 e37 rfl h1 h2
      refine ⟨fun y => step v hv1 (fun z => ?_), fun y => ⟨xM_i hM hL (by omega), ?_⟩⟩
      · have h10 := (nI_leI (a := 10000) (by decide) (by omega)).1 y
        have := hb (by omega)
        have : (10 : Nat) ^ (j - p) ≤ 10 ^ 4 := Nat.pow_le_pow_right (by decide) (by omega)
        omega
      · have hv' : v < 10000 := Nat.lt_of_not_le (fun z => y (nI_le (a := 10000) z (by omega)))
        have ev : ((10 * nI v) + nI (f j)) - 48 = nI (10 * v + f j - 48) := by
          rw [zz_10]
          exact pk_sub (b := 48) (by omega)
        rw [ev]
        refine step _ (by omega) (fun z => ?_)
        rw [show j + 1 - p = (j - p) + 1 by omega, hv2 (by omega)]
        show _ = 10 * tx_v f p (j - p) + f (p + (j - p)) - 48
        rw [show p + (j - p) = j by omega]
theorem m_reads {f : Nat → Nat} {L d k : Nat} {S0 : ov_S} {Q : ov_Q} (hd : 2 ≤ d) (hM0 : xM f L S0) (hf : ∀ j, f j < 256) (hL : L ≤ 400) (h : ∀ S', xk f L k S0 S' → Q none S') : ∀ n j S, j + n = L → tx_P f L k ≤ j → tx_e f L 0 j = tx_A f L k → xr S0 S → S.1 14 0 35 = nI j → ov_V true true d 0 0 mq_Mod_reads 0 [some (.inr (.inr (true, 14, 0))), none] [] S Q := by
  have hk := tx_A_ok (f := f) (L := L) k
  have hP1 := tx_P_le (f := f) (L := L) (k + 1)
  intro n
  induction n with
  | zero =>
    intro j S hj hPj he hr e35
    have hM := xM_r hM0 hr
    rw [tx_eo (by omega)] at he
    obtain ⟨c1, c2, c3⟩ := tx_end (f := f) (L := L) (k := k) (by omega)
    refine m_rd hd hM hL (by omega) e35 (xM_o hM (by omega) (by omega)) ⟨fun y => absurd y (by decide), fun _ => ⟨fun _ => ⟨fun n => absurd rfl n, fun _ => h _ ⟨xr_w (xr_w (xr_w hr rfl) rfl) rfl, ?_, ?_, ?_⟩⟩, fun y => absurd y (by decide)⟩⟩
    · show S.1 14 0 35 = _
      rw [e35, c3]; congr 1
    · show nI j = _
      rw [he]
    · exact xtk_r (.inr (.inr (.inr (.inl ⟨c1, rfl⟩))))
  | succ n ih =>
    intro j S hj hPj he hr e35
    have hM := xM_r hM0 hr
    have hfj := hf j
    refine m_rd hd hM hL (by omega) e35 (xM_w hM hL (by omega)) ?_
    have skip : tx_so (f j) = 0 → ov_V true true d 0 0 mq_Mod_reads 26 [some (.inr (.inr (true, 14, 0))), none] [] S Q := by
      intro y
      rw [tx_ey (by omega) y] at he
      refine r_Mod_reads_26 ?_
      rw [show ov_g S 14 0 35 = nI j from e35, nI_1]
      exact ih (j + 1) _ (by omega) (by omega) he (xr_w hr rfl) rfl
    refine ⟨fun y => skip ((x_so0 hfj).2 (.inl y)), fun n32 => ⟨fun n10 => ?_, fun y => skip ((x_so0 hfj).2 (.inr y))⟩⟩
    have h0 : ¬ tx_so (f j) = 0 := fun y => ((x_so0 hfj).1 y).elim n32 n10
    rw [tx_en h0] at he
    subst he
    have hA : tx_A f L k < L := by omega
    have h3 := tx_so3 (f (tx_A f L k))
    refine ⟨fun _ => ?_, fun y => absurd y ?_⟩
    · rw [← x_so1' hfj, ← x_so2 hfj]
      refine ⟨fun n1 => ⟨fun n2 => ?_, fun y2 => ?_⟩, fun y1 => ?_⟩
      · obtain ⟨s1, s2⟩ := tx_sgn hA (show tx_so (f (tx_A f L k)) = 3 by omega)
        refine ⟨fun n9 => h _ ⟨xr_w (xr_w (xr_w hr rfl) rfl) rfl, by rw [s1]; rfl, rfl, xtk_r ?_⟩, fun y9 => h _ ⟨xr_w (xr_w (xr_w (xr_w hr rfl) rfl) rfl) rfl, by rw [s1]; rfl, rfl, xtk_r ?_⟩⟩
        · rw [s2, if_neg (fun e => n9 (by rw [e]; rfl))]
          exact .inr (.inr (.inr (.inr ⟨rfl, rfl⟩)))
        · rw [s2, if_pos (zz_inj (b := 59) (by omega) (by decide) y9)]
          exact .inr (.inr (.inl ⟨rfl, rfl⟩))
      · have s1 := tx_num hA y2
        have s2 := tx_run hA (by rw [y2]; decide)
        rw [y2] at s2
        have ho := tx_e_ok (f := f) (L := L) (q := 2) (j := tx_A f L k) (by omega)
        rw [← s2] at ho
        have hdg := tx_so2 y2
        have e48 : (nI (f (tx_A f L k)) - 48 : Int32) = nI (tx_v f (tx_A f L k) 1) := by
          rw [show tx_v f (tx_A f L k) 1 = 10 * 0 + f (tx_A f L k) - 48 from rfl, Nat.mul_zero, Nat.zero_add]
          exact pk_sub (b := 48) hdg.1
        rw [e48]
        have hv1 : tx_v f (tx_A f L k) 1 ≤ 9 := by
          show 10 * 0 + f (tx_A f L k) - 48 ≤ 9
          omega
        refine x_166 (p := tx_A f L k) (E := tx_P f L (k + 1)) hd hM0 hf hL hP1 ho.2.2.1 (fun S' t v hr' e1 e2 e3 e4 z1 z2 => h S' ⟨hr', e1, e2, ?_⟩) n (tx_A f L k + 1) (tx_v f (tx_A f L k) 1) _ (by omega) (by omega) (hk.2.2.2 hA) ?_ (xr_w (xr_w (xr_w (xr_w hr rfl) rfl) rfl) rfl) rfl rfl rfl rfl (by omega) (fun _ => by rw [show tx_A f L k + 1 - tx_A f L k = 1 by omega])
        · rw [e3, e4]
          by_cases q : tx_P f L (k + 1) - tx_A f L k ≤ 4
          · rw [if_pos q] at s1
            obtain ⟨q1, q2⟩ := z1 q
            refine xtk_r (.inr (.inl ⟨s1, q1, ?_⟩))
            rw [q2]
            unfold tx_V
            rw [show min 4 (tx_P f L (k + 1) - tx_A f L k) = tx_P f L (k + 1) - tx_A f L k by omega]
          · rw [if_neg q] at s1
            exact xtk_r (.inr (.inr (.inr (.inr ⟨s1, z2 q⟩))))
        · rw [← tx_ey hA y2]; exact s2.symm
      · have s1 := tx_wrd hA y1
        have s2 := tx_run hA (by rw [y1]; decide)
        rw [y1] at s2
        refine x_90 (p := tx_A f L k) (E := tx_P f L (k + 1)) hd hM0 hf hL (by omega) (fun S' hr' e1 e2 e3 _ => ?_) n (tx_A f L k + 1) _ (by omega) (by omega) (by rw [← tx_ey hA y1]; exact s2.symm) (xr_w (xr_w (xr_w hr rfl) rfl) rfl) rfl rfl rfl
        refine r_Mod_wordOf_0 (x_wo (xM_r hM0 hr') hf hL hk.2.2.1 hP1 10 0 rfl ?_)
        rw [← s1]
        rcases tx_q_c (f := f) (p := tx_A f L k) (e := tx_P f L (k + 1)) 10 0 rfl with hq | hq
        · rw [← s1] at hq
          rw [if_pos hq]
          exact r_Mod_reads_131 ⟨fun _ => h _ ⟨xr_w hr' rfl, e1, e2, xtk_r (.inr (.inr (.inr (.inr ⟨hq, e3⟩))))⟩, fun n => absurd rfl n⟩
        · rw [← s1] at hq
          rw [if_neg (by omega)]
          refine r_Mod_reads_131 ⟨fun y => absurd (show nI (tx_C f L k) = -1 from y) ?_, fun _ => h _ ⟨xr_w (xr_w hr' rfl) rfl, e1, e2, xtk_r (.inl ⟨hq, rfl, rfl⟩)⟩⟩
          intro q
          have := nI_toInt (n := tx_C f L k) (by omega)
          rw [q] at this
          have e1 : (-1 : Int32).toInt = -1 := rfl
          omega
    · have := nI_toInt (n := f (tx_A f L k)) (by omega)
      rw [y] at this
      have e1 : (-1 : Int32).toInt = -1 := rfl
      omega
/-- the next token -/
theorem m_next {f : Nat → Nat} {L d k : Nat} {S : ov_S} {Q : ov_Q} (hd : 2 ≤ d) (hM : xM f L S) (hf : ∀ j, f j < 256) (hL : L ≤ 400) (e : S.1 14 0 35 = nI (tx_P f L k)) (h : ∀ S', xk f L k S S' → Q none S') : ov_V true true d 0 0 mq_Mod_reads 0 [some (.inr (.inr (true, 14, 0))), none] [] S Q :=
  m_reads hd hM hf hL h (L - tx_P f L k) (tx_P f L k) S (by have := tx_P_le (f := f) (L := L) k; omega) (Nat.le_refl _) rfl xr_r e
