/-! ===== TEXT: the reference reads a token ===== -/
def xr_k (r j : Nat) : Bool := cond (Nat.beq r 14) (!(List.elem j [35, 36, 37, 38])) true
def xr (S S' : ov_S) : Prop := S'.2.2.1 = S.2.2.1 ∧ ∀ r i j, xr_k r j = true → S'.1 r i j = S.1 r i j
theorem xr_r {S : ov_S} : xr S S := ⟨rfl, fun _ _ _ _ => rfl⟩
theorem xr_t {S S1 S2 : ov_S} (h1 : xr S S1) (h2 : xr S1 S2) : xr S S2 := ⟨h2.1.trans h1.1, fun r i j h => (h2.2 r i j h).trans (h1.2 r i j h)⟩
theorem xr_w {S S' : ov_S} {r i j : Nat} {v : Int32} (h : xr S S') (hk : xr_k r j = false) : xr S (ov_w S' r i j v) := by
  refine xr_t h ⟨rfl, fun r' i' j' h' => rl_wn ?_⟩
  rintro ⟨rfl, rfl, rfl⟩
  rw [hk] at h'
  cases h'
def xM (f : Nat → Nat) (L : Nat) (S : ov_S) : Prop := S.1 14 0 34 = nI L ∧ (∀ j, j < L → S.1 84 0 j = nI (f j)) ∧ ∀ k, k < 45 → S.1 83 0 k = nI (rl_wds.getD k 0)
theorem xM_r {f : Nat → Nat} {L : Nat} {S S' : ov_S} (h : xM f L S) (hc : xr S S') : xM f L S' := ⟨(hc.2 14 0 34 rfl).trans h.1, fun j hj => (hc.2 84 0 j rfl).trans (h.2.1 j hj), fun k hk => (hc.2 83 0 k rfl).trans (h.2.2 k hk)⟩
theorem xM_w {f : Nat → Nat} {L k : Nat} {S : ov_S} (h : xM f L S) (hL : L ≤ 400) (hk : k < L) : ov_raw S (nI k) = nI (f k) := by
  unfold ov_raw
  rw [show ov_g S 14 0 34 = nI L from h.1, if_pos (nI_lt hk (by omega)), zz_ix (by omega)]
  exact h.2.1 k hk
theorem xM_o {f : Nat → Nat} {L k : Nat} {S : ov_S} (h : xM f L S) (hk : L ≤ k) (hk2 : k ≤ 400) : ov_raw S (nI k) = -1 := by
  unfold ov_raw
  rw [show ov_g S 14 0 34 = nI L from h.1, if_neg (nI_nlt hk (by omega))]
theorem xM_i {f : Nat → Nat} {L j : Nat} {S : ov_S} (h : xM f L S) (hL : L ≤ 400) (hj : j ≤ 400) : (nI j < ov_g S 14 0 34 → ov_ib (nI j) 400) := by
  rw [show ov_g S 14 0 34 = nI L from h.1]
  intro y
  have := (nI_ltI (by omega) (by omega)).1 y
  exact zz_ib (by omega) (by decide)
/-! the words -/
theorem x_94 {f : Nat → Nat} {L d w : Nat} {S : ov_S} {Q : ov_Q} {p e : Int32} (hM : xM f L S) (hw : w < 10) (h : ov_V true true d 0 0 mq_Mod_wordOf 5 [some (.inr (.inr (true, 14, 0))), some (.inl p), some (.inl e), some (.inl (nI (w + 1))), some (.inl (nI (tx_st (w + 1)))), none] [] S Q) : ∀ m i, i + m = tx_ln w → ov_V true true d 0 0 mq_Mod_wordOf 94 [some (.inr (.inr (true, 14, 0))), some (.inl p), some (.inl e), some (.inl (nI w)), some (.inl (nI (tx_st w + i))), none] [] S Q := by
  obtain ⟨w1, w2, w3, w4, w5⟩ := tx_w1 w hw
  intro m
  induction m with
  | zero =>
    intro i hi
    refine r_Mod_wordOf_94 ?_
    rw [zz_ix (by omega), show ov_g S 83 0 (tx_st w + i) = nI (tx_wt w i) from hM.2.2 _ (by omega), show i = tx_ln w from hi, w5, nI_1, nI_1, ← w3]
    exact ⟨zz_ib (by omega) (by decide), fun _ => h, fun n => absurd rfl n⟩
  | succ m ih =>
    intro i hi
    obtain ⟨g1, g2, _⟩ := (tx_w2 w hw i (by omega)).1 (by omega)
    refine r_Mod_wordOf_94 ?_
    rw [zz_ix (by omega), show ov_g S 83 0 (tx_st w + i) = nI (tx_wt w i) from hM.2.2 _ (by omega), nI_1, nI_1]
    exact ⟨zz_ib (by omega) (by decide), fun y => absurd (zz_inj (b := 32) (by omega) (by decide) y) g2, fun _ => ih (i + 1) (by omega)⟩
theorem x_69 {f : Nat → Nat} {L d w p e i : Nat} {S : ov_S} {Q : ov_Q} (hM : xM f L S) (hw : w < 10) (hp : p ≤ 400) (he : e ≤ 400) (hi : i ≤ tx_ln w) (h1 : i = tx_ln w → ∀ i', i' < tx_ln w → f (p + i') = tx_wt w i') (h2 : i < tx_ln w → ¬ tx_m f p e w) (hy : tx_m f p e w → Q (some (.inl (nI w))) S) (hn : ¬ tx_m f p e w → ov_V true true d 0 0 mq_Mod_wordOf 5 [some (.inr (.inr (true, 14, 0))), some (.inl (nI p)), some (.inl (nI e)), some (.inl (nI (w + 1))), some (.inl (nI (tx_st (w + 1)))), none] [] S Q) : ov_V true true d 0 0 mq_Mod_wordOf 69 [some (.inr (.inr (true, 14, 0))), some (.inl (nI p)), some (.inl (nI e)), some (.inl (nI w)), some (.inl (nI (tx_st w))), some (.inl (nI i))] [] S Q := by
  obtain ⟨w1, w2, w3, w4, w5⟩ := tx_w1 w hw
  refine r_Mod_wordOf_69 ?_
  rw [nI_add, nI_add, zz_ix (by omega), show ov_g S 83 0 (tx_st w + i) = nI (tx_wt w i) from hM.2.2 _ (by omega)]
  refine ⟨zz_ib (by omega) (by decide), fun n => ?_, fun y => ⟨fun n => ?_, fun y2 => ?_⟩⟩
  · have hlt : i < tx_ln w := by
      have : i ≠ tx_ln w := fun q => n (by rw [q, w5]; rfl)
      omega
    exact x_94 hM hw (hn (h2 hlt)) (tx_ln w) 0 (by omega)
  · refine x_94 hM hw (hn (fun q => ?_)) (tx_ln w) 0 (by omega)
    by_cases hlt : i < tx_ln w
    · exact h2 hlt q
    · exact n (by rw [show i = tx_ln w by omega, ← q.1])
  · have ei : i = tx_ln w := by
      by_cases hlt : i < tx_ln w
      · obtain ⟨g1, g2, _⟩ := (tx_w2 w hw i (by omega)).1 hlt
        exact absurd (zz_inj (b := 32) (by omega) (by decide) y) g2
      · omega
    exact hy ⟨by rw [← ei]; exact (zz_inj (by omega) (by omega) y2).symm, h1 ei⟩
theorem x_15 {f : Nat → Nat} {L d w p e : Nat} {S : ov_S} {Q : ov_Q} (hM : xM f L S) (hf : ∀ j, f j < 256) (hL : L ≤ 400) (hw : w < 10) (hp : p ≤ e) (he : e ≤ L) (hy : tx_m f p e w → Q (some (.inl (nI w))) S) (hn : ¬ tx_m f p e w → ov_V true true d 0 0 mq_Mod_wordOf 5 [some (.inr (.inr (true, 14, 0))), some (.inl (nI p)), some (.inl (nI e)), some (.inl (nI (w + 1))), some (.inl (nI (tx_st (w + 1)))), none] [] S Q) : ∀ m i, i + m = tx_ln w → (∀ i', i' < i → f (p + i') = tx_wt w i') → ov_V true true d 0 0 mq_Mod_wordOf 15 [some (.inr (.inr (true, 14, 0))), some (.inl (nI p)), some (.inl (nI e)), some (.inl (nI w)), some (.inl (nI (tx_st w))), some (.inl (nI i))] [] S Q := by
  obtain ⟨w1, w2, w3, w4, w5⟩ := tx_w1 w hw
  intro m
  induction m with
  | zero =>
    intro i hi hg
    have ei : i = tx_ln w := hi
    refine r_Mod_wordOf_15 ?_
    rw [nI_add, nI_add, zz_ix (by omega), show ov_g S 83 0 (tx_st w + i) = nI (tx_wt w i) from hM.2.2 _ (by omega)]
    refine ⟨zz_ib (by omega) (by decide), fun _ => x_69 hM hw (by omega) (by omega) (by omega) (fun _ i' h' => hg i' (by omega)) (fun q => absurd q (by omega)) hy hn, fun n => absurd (by rw [ei, w5]; rfl) n⟩
  | succ m ih =>
    intro i hi hg
    obtain ⟨g1, g2, _⟩ := (tx_w2 w hw i (by omega)).1 (by omega)
    refine r_Mod_wordOf_15 ?_
    rw [nI_add, nI_add, zz_ix (by omega), show ov_g S 83 0 (tx_st w + i) = nI (tx_wt w i) from hM.2.2 _ (by omega), nI_1]
    refine ⟨zz_ib (by omega) (by decide), fun y => absurd (zz_inj (b := 32) (by omega) (by decide) y) g2, fun _ => ⟨fun y => ?_, fun y => ?_⟩⟩
    · have hle := (nI_leI (by omega) (by omega)).1 y
      exact x_69 hM hw (by omega) (by omega) (by omega) (fun q => absurd q (by omega)) (fun _ q => by have := q.1; omega) hy hn
    · have hlt : p + i < e := Nat.lt_of_not_le (fun z => y (nI_le z (by omega)))
      have hfi := hf (p + i)
      rw [zz_ix (by omega), show ov_g S 84 0 (p + i) = nI (f (p + i)) from hM.2.1 _ (by omega)]
      refine ⟨zz_ib (by omega) (by decide), zz_ib (by omega) (by decide), fun n => ?_, fun y3 => ?_⟩
      · exact x_69 hM hw (by omega) (by omega) (by omega) (fun q => absurd q (by omega)) (fun _ q => n (by rw [q.2 i (by omega)])) hy hn
      · refine ih (i + 1) (by omega) (fun i' h' => ?_)
        by_cases q : i' = i
        · rw [q]; exact (zz_inj (by omega) (by omega) y3).symm
        · exact hg i' (by omega)
theorem x_wo {f : Nat → Nat} {L d p e : Nat} {S : ov_S} {Q : ov_Q} (hM : xM f L S) (hf : ∀ j, f j < 256) (hL : L ≤ 400) (hp : p ≤ e) (he : e ≤ L) : ∀ n w, n + w = 10 → Q (some (.inl (if tx_q f p e n w = 13 then -1 else nI (tx_q f p e n w)))) S → ov_V true true d 0 0 mq_Mod_wordOf 5 [some (.inr (.inr (true, 14, 0))), some (.inl (nI p)), some (.inl (nI e)), some (.inl (nI w)), some (.inl (nI (tx_st w))), none] [] S Q
  | 0, w, hw, h => by
    have ew : w = 10 := by omega
    subst ew
    exact r_Mod_wordOf_5 ⟨fun _ => h, fun n => absurd (nI_le (a := 45) (b := 45) (by omega) (by decide)) n⟩
  | n + 1, w, hw, h => by
    obtain ⟨w1, w2, w3, w4, w5⟩ := tx_w1 w (by omega)
    refine r_Mod_wordOf_5 ⟨fun y => absurd y (nI_ge (b := 45) (by omega) (by decide)), fun _ => x_15 hM hf hL (by omega) hp he (fun m => ?_) (fun m => ?_) (tx_ln w) 0 (by omega) (fun i' z => absurd z (by omega))⟩
    · rw [tx_q_y m, if_neg (by omega)] at h
      exact h
    · rw [tx_q_n m] at h
      exact x_wo hM hf hL hp he n (w + 1) (by omega) h
