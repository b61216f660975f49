/-! ===== TEXT: the reference reads a STEP ===== -/
theorem xr_xc {S S' : ov_S} (h : xr S S') : xc S S' := by
  refine ⟨h.1, fun r i j hk => h.2 r i j ?_⟩
  unfold xr_k
  cases hb : Nat.beq r 14 with
  | false => rfl
  | true =>
    have e := Nat.eq_of_beq_eq_true hb
    subst e
    have h' : (!(List.elem j [0, 35, 36, 37, 38, 39, 40, 41, 42])) = true := hk
    show (!(List.elem j [35, 36, 37, 38])) = true
    simp at h' ⊢
    omega
theorem xc_85 (m : Nat) : xc_k 85 0 (480 + m) = false := by
  show Nat.ble (480 + m + 1) 480 = false
  cases h : Nat.ble (480 + m + 1) 480 with
  | false => rfl
  | true => exact absurd (Nat.le_of_ble_eq_true h) (by omega)
/-- and the class's reader stays -/
def xq (S S' : ov_S) : Prop := xc S S' ∧ (∀ j, S'.1 9 0 j = S.1 9 0 j) ∧ S'.1 14 0 41 = S.1 14 0 41 ∧ S'.1 14 0 42 = S.1 14 0 42
theorem xq_t {S S1 S2 : ov_S} (h1 : xq S S1) (h2 : xq S1 S2) : xq S S2 := ⟨xc_t h1.1 h2.1, fun j => (h2.2.1 j).trans (h1.2.1 j), h2.2.2.1.trans h1.2.2.1, h2.2.2.2.trans h1.2.2.2⟩
theorem xq_w {S S' : ov_S} {r i j : Nat} {v : Int32} (h : xq S S') (hk : xc_k r i j = false) (h9 : (Nat.beq r 9 || (Nat.beq r 14 && (Nat.beq j 41 || Nat.beq j 42))) = false) : xq S (ov_w S' r i j v) := by
  refine ⟨xc_w h.1 hk, fun j' => (rl_wn ?_).trans (h.2.1 j'), (rl_wn ?_).trans h.2.2.1, (rl_wn ?_).trans h.2.2.2⟩
  · rintro ⟨e, _, _⟩
    rw [← e] at h9
    cases h9
  · rintro ⟨e, _, e3⟩
    rw [← e, ← e3] at h9
    cases h9
  · rintro ⟨e, _, e3⟩
    rw [← e, ← e3] at h9
    cases h9
theorem xr_xq {S S' : ov_S} (h : xr S S') : xq S S' := ⟨xr_xc h, fun j => h.2 9 0 j rfl, h.2 14 0 41 rfl, h.2 14 0 42 rfl⟩
theorem x_ne1 {v : Nat} (h : v < 2 ^ 31) : ¬ nI v = -1 := by
  intro q
  have h1 := nI_toInt (n := v) h
  rw [q] at h1
  have e1 : (-1 : Int32).toInt = -1 := rfl
  omega
theorem xtk_t {c v : Nat} {t x : Int32} (h : xtk c v t x) (hc : c ≤ 13) : (t = 3 ↔ c = 10) ∧ (t = 2 ↔ c < 10) ∧ (t = 4 ↔ c = 11) ∧ (t = 0 ↔ c = 12) := by
  obtain ⟨h1, h2, h3, h4, h5⟩ := h
  have hcs : c < 10 ∨ c = 10 ∨ c = 11 ∨ c = 12 ∨ c = 13 := by omega
  rcases hcs with e | e | e | e | e
  · rw [(h1 e).1]
    exact ⟨⟨fun q => absurd q (by decide), fun q => absurd q (by omega)⟩, ⟨fun _ => e, fun _ => rfl⟩, ⟨fun q => absurd q (by decide), fun q => absurd q (by omega)⟩, ⟨fun q => absurd q (by decide), fun q => absurd q (by omega)⟩⟩
  · rw [(h2 e).1]
    exact ⟨⟨fun _ => e, fun _ => rfl⟩, ⟨fun q => absurd q (by decide), fun q => absurd q (by omega)⟩, ⟨fun q => absurd q (by decide), fun q => absurd q (by omega)⟩, ⟨fun q => absurd q (by decide), fun q => absurd q (by omega)⟩⟩
  · rw [h3 e]
    exact ⟨⟨fun q => absurd q (by decide), fun q => absurd q (by omega)⟩, ⟨fun q => absurd q (by decide), fun q => absurd q (by omega)⟩, ⟨fun _ => e, fun _ => rfl⟩, ⟨fun q => absurd q (by decide), fun q => absurd q (by omega)⟩⟩
  · rw [h4 e]
    exact ⟨⟨fun q => absurd q (by decide), fun q => absurd q (by omega)⟩, ⟨fun q => absurd q (by decide), fun q => absurd q (by omega)⟩, ⟨fun q => absurd q (by decide), fun q => absurd q (by omega)⟩, ⟨fun _ => e, fun _ => rfl⟩⟩
  · rw [h5 e]
    exact ⟨⟨fun q => absurd q (by decide), fun q => absurd q (by omega)⟩, ⟨fun q => absurd q (by decide), fun q => absurd q (by omega)⟩, ⟨fun q => absurd q (by decide), fun q => absurd q (by omega)⟩, ⟨fun q => absurd q (by decide), fun q => absurd q (by omega)⟩⟩
def mzS (c : Nat) (f : Nat → Nat) (L i : Nat) (S : ov_S) : Prop := ∃ a b, xsp c (tx_C f L) (tx_V f L) (xN c (tx_C f L) (tx_V f L) i) = .inr (a, b, xN c (tx_C f L) (tx_V f L) (i + 1)) ∧ S.1 85 0 (480 + 4 * i) = nI (tx_C f L (xN c (tx_C f L) (tx_V f L) i)) ∧ S.1 85 0 (480 + (4 * i + 1)) = nI a ∧ S.1 85 0 (480 + (4 * i + 2)) = nI b
/-- the reference at token k, n steps kept -/
def mzP (c : Nat) (f : Nat → Nat) (L : Nat) (S0 : ov_S) (k n : Nat) (S : ov_S) : Prop := xq S0 S ∧ xM f L S ∧ S.1 14 0 35 = nI (tx_P f L (k + 1)) ∧ S.1 14 0 36 = nI (tx_A f L k) ∧ xtk (tx_C f L k) (tx_V f L k) (S.1 14 0 37) (S.1 14 0 38) ∧ S.1 14 0 2 = nI c ∧ ∀ i, i < n → mzS c f L i S
def mzF (f : Nat → Nat) (L : Nat) (S0 : ov_S) (kd idx : Nat) (S : ov_S) : Prop := xq S0 S ∧ S.1 14 0 39 = nI kd ∧ S.1 14 0 40 = nI (tx_A f L idx)
theorem mzP_n {c : Nat} {f : Nat → Nat} {L : Nat} {S0 : ov_S} {k n : Nat} {S S' : ov_S} (h : mzP c f L S0 k n S) (hk : xk f L (k + 1) S S') : mzP c f L S0 (k + 1) n S' := by
  obtain ⟨h1, h2, h3, h4, h5, h6, h7⟩ := h
  obtain ⟨k1, k2, k3, k4⟩ := hk
  refine ⟨xq_t h1 (xr_xq k1), xM_r h2 k1, k2, k3, k4, (k1.2 14 0 2 rfl).trans h6, fun i hi => ?_⟩
  obtain ⟨a, b, q1, q2, q3, q4⟩ := h7 i hi
  exact ⟨a, b, q1, (k1.2 85 0 _ rfl).trans q2, (k1.2 85 0 _ rfl).trans q3, (k1.2 85 0 _ rfl).trans q4⟩
theorem mzP_w {c : Nat} {f : Nat → Nat} {L : Nat} {S0 : ov_S} {k n x : Nat} {v : Int32} {S : ov_S} (h : mzP c f L S0 k n S) : mzP c f L S0 k n (ov_w S 85 0 (480 + (4 * n + x)) v) := by
  obtain ⟨h1, h2, h3, h4, h5, h6, h7⟩ := h
  refine ⟨xq_w h1 (xc_85 _) rfl, h2, h3, h4, h5, h6, fun i hi => ?_⟩
  obtain ⟨a, b, q1, q2, q3, q4⟩ := h7 i hi
  refine ⟨a, b, q1, ?_, ?_, ?_⟩
  · rw [rl_wr, if_neg (by omega)]; exact q2
  · rw [rl_wr, if_neg (by omega)]; exact q3
  · rw [rl_wr, if_neg (by omega)]; exact q4
theorem m_errs {c : Nat} {f : Nat → Nat} {L : Nat} {S0 : ov_S} {k n kd d : Nat} {S : ov_S} {Q : ov_Q} (hP : mzP c f L S0 k n S) (h : ∀ S', mzF f L S0 kd k S' → Q (some (.inl (-1))) S') : ov_V true true d 0 0 mq_Mod_errs 0 [some (.inr (.inr (true, 14, 0))), some (.inl (nI kd))] [] S Q :=
  r_Mod_errs_0 (h _ ⟨xq_w (xq_w hP.1 rfl rfl) rfl rfl, rfl, hP.2.2.2.1⟩)
theorem m_num {c : Nat} {f : Nat → Nat} {L : Nat} {S0 : ov_S} {k n lo hi d : Nat} {S : ov_S} {Q : ov_Q} (hd : 3 ≤ d) (hf : ∀ j, f j < 256) (hL : L ≤ 400) (hP : mzP c f L S0 k n S) (hl : lo ≤ 100) (hh : hi ≤ 100) (h1 : tx_C f L k = 10 → lo ≤ tx_V f L k ∧ tx_V f L k ≤ hi → ∀ S', xr S S' → mzP c f L S0 (k + 1) n S' → Q (some (.inl (nI (tx_V f L k)))) S') (h2 : ∀ kd S', (tx_C f L k = 10 ∧ ¬ (lo ≤ tx_V f L k ∧ tx_V f L k ≤ hi) ∧ kd = 2) ∨ (¬ tx_C f L k = 10 ∧ kd = 1) → mzF f L S0 kd k S' → Q (some (.inl (-1))) S') : ov_V true true d 0 0 mq_Mod_readNumber 0 [some (.inr (.inr (true, 14, 0))), some (.inl (nI lo)), some (.inl (nI hi)), none] [] S Q := by
  have hx := xtk_t hP.2.2.2.2.1 (tx_C13 k)
  refine r_Mod_readNumber_0 (by omega) ⟨fun y => ?_, fun m => ?_⟩
  · have y10 := hx.1.1 y
    have hv := tx_V_b y10
    rw [show ov_g S 14 0 38 = nI (tx_V f L k) from (hP.2.2.2.2.1.2.1 y10).2]
    have hq : (nI lo ≤ nI (tx_V f L k) ∧ nI (tx_V f L k) ≤ nI hi) ↔ (lo ≤ tx_V f L k ∧ tx_V f L k ≤ hi) := by rw [nI_leI (by omega) (by omega), nI_leI (by omega) (by omega)]
    exact ⟨fun z => m_next (by omega) hP.2.1 hf hL hP.2.2.1 (fun S' hk => r_Mod_readNumber_42 (h1 y10 (hq.1 z) S' hk.1 (mzP_n hP hk))), fun z => m_errs (kd := 2) hP (fun S' hF => r_Mod_readNumber_32 (h2 2 S' (.inl ⟨y10, fun q => z (hq.2 q), rfl⟩) hF))⟩
  · exact m_errs (kd := 1) hP (fun S' hF => r_Mod_readNumber_13 (h2 1 S' (.inr ⟨fun q => m (hx.1.2 q), rfl⟩) hF))
theorem m_thing {c : Nat} {f : Nat → Nat} {L : Nat} {S0 : ov_S} {k n d : Nat} {S : ov_S} {Q : ov_Q} (hd : 3 ≤ d) (hf : ∀ j, f j < 256) (hL : L ≤ 400) (hP : mzP c f L S0 k n S) (h1 : 7 ≤ tx_C f L k ∧ tx_C f L k ≤ 9 → ∀ S', xr S S' → mzP c f L S0 (k + 1) n S' → Q (some (.inl (nI (tx_C f L k - 7)))) S') (h2 : ¬ (7 ≤ tx_C f L k ∧ tx_C f L k ≤ 9) → ∀ S', mzF f L S0 1 k S' → Q (some (.inl (-1))) S') : ov_V true true d 0 0 mq_Mod_readThing 0 [some (.inr (.inr (true, 14, 0))), none] [] S Q := by
  have hx := xtk_t hP.2.2.2.2.1 (tx_C13 k)
  have bad : ¬ (7 ≤ tx_C f L k ∧ tx_C f L k ≤ 9) → ov_V true true d 0 0 mq_Mod_readThing 17 [some (.inr (.inr (true, 14, 0))), none] [] S Q := fun z => r_Mod_readThing_17 (by omega) (m_errs (kd := 1) hP (fun S' hF => r_Mod_readThing_22 (h2 z S' hF)))
  refine r_Mod_readThing_0 (by omega) ⟨fun m => bad (fun q => m (hx.2.1.2 (by omega))), fun y => ?_⟩
  have y10 := hx.2.1.1 y
  rw [show ov_g S 14 0 38 = nI (tx_C f L k) from (hP.2.2.2.2.1.1 y10).2]
  refine ⟨fun z => ?_, fun z => bad (fun q => z (nI_le (a := 7) q.1 (by omega)))⟩
  have z7 := (nI_leI (a := 7) (by decide) (by omega)).1 z
  rw [show (nI (tx_C f L k) - 7 : Int32) = nI (tx_C f L k - 7) from pk_sub (b := 7) z7]
  exact m_next (by omega) hP.2.1 hf hL hP.2.2.1 (fun S' hk => r_Mod_readThing_35 (h1 ⟨z7, by omega⟩ S' hk.1 (mzP_n hP hk)))
theorem m_to {c : Nat} {f : Nat → Nat} {L : Nat} {S0 : ov_S} {k n d : Nat} {S : ov_S} {Q : ov_Q} (hd : 4 ≤ d) (hc : 1 ≤ c) (hc4 : c ≤ 4) (hf : ∀ j, f j < 256) (hL : L ≤ 400) (hP : mzP c f L S0 k n S) (h1 : 6 ≤ tx_C f L k ∧ tx_C f L k ≤ 6 → tx_C f L (k + 1) = 10 → 0 ≤ tx_V f L (k + 1) ∧ tx_V f L (k + 1) ≤ c - 1 → ∀ S', xr S S' → mzP c f L S0 (k + 1 + 1) n S' → Q (some (.inl (nI (tx_V f L (k + 1))))) S') (h2 : ¬ (6 ≤ tx_C f L k ∧ tx_C f L k ≤ 6) → ∀ S', mzF f L S0 1 k S' → Q (some (.inl (-1))) S') (h3 : 6 ≤ tx_C f L k ∧ tx_C f L k ≤ 6 → ∀ kd S', (tx_C f L (k + 1) = 10 ∧ ¬ (0 ≤ tx_V f L (k + 1) ∧ tx_V f L (k + 1) ≤ c - 1) ∧ kd = 2) ∨ (¬ tx_C f L (k + 1) = 10 ∧ kd = 1) → mzF f L S0 kd (k + 1) S' → Q (some (.inl (-1))) S') : ov_V true true d 0 0 mq_Mod_readTo 0 [some (.inr (.inr (true, 14, 0)))] [] S Q := by
  have hx := xtk_t hP.2.2.2.2.1 (tx_C13 k)
  have bad : ¬ (6 ≤ tx_C f L k ∧ tx_C f L k ≤ 6) → ov_V true true d 0 0 mq_Mod_readTo 17 [some (.inr (.inr (true, 14, 0)))] [] S Q := fun z => r_Mod_readTo_17 (by omega) (m_errs (kd := 1) hP (fun S' hF => r_Mod_readTo_22 (h2 z S' hF)))
  refine r_Mod_readTo_0 (by omega) ⟨fun m => bad (fun q => m (hx.2.1.2 (by omega))), fun y => ?_⟩
  have y10 := hx.2.1.1 y
  rw [show ov_g S 14 0 38 = nI (tx_C f L k) from (hP.2.2.2.2.1.1 y10).2]
  refine ⟨fun z => ?_, fun z => bad (fun q => z (by rw [show tx_C f L k = 6 by omega]; rfl))⟩
  have z6 := zz_inj (b := 6) (by omega) (by decide) z
  refine m_next (by omega) hP.2.1 hf hL hP.2.2.1 (fun S' hk => r_Mod_readTo_27 (by omega) ?_)
  have hP' := mzP_n hP hk
  rw [show ov_g S' 14 0 2 = nI c from hP'.2.2.2.2.2.1, show (nI c - 1 : Int32) = nI (c - 1) from pk_sub (b := 1) hc]
  exact m_num (lo := 0) (by omega) hf hL hP' (by decide) (by omega) (fun q1 q2 S2 hr hP2 => r_Mod_readTo_38 (h1 (by omega) q1 q2 S2 (xr_t hk.1 hr) hP2)) (fun kd S2 q hF => r_Mod_readTo_38 (h3 (by omega) kd S2 q hF))
/-! the STEP: from behind -/
theorem m_146 {n b d : Nat} {S : ov_S} {Q : ov_Q} (hn : n < 30) (hb : b ≤ 9999) (e : S.1 85 0 (480 + (4 * n + 2)) = nI b) (h : Q (some (.inl 0)) S) : ov_V true true d 0 0 mq_Mod_readStep 146 [some (.inr (.inr (true, 14, 0))), none, some (.inl (nI (480 + 4 * n))), none] [] S Q := by
  refine r_Mod_readStep_146 ?_
  rw [show (nI (480 + 4 * n) + 2 : Int32) = nI (480 + (4 * n + 2)) from nI_add _ 2, zz_ix (by omega), show ov_g S 85 0 (480 + (4 * n + 2)) = nI b from e]
  exact ⟨zz_ib (by omega) (by decide), fun _ => h, fun y => absurd y (x_ne1 (by omega))⟩
theorem m_146e {n d : Nat} {S : ov_S} {Q : ov_Q} (hn : n < 30) (e : S.1 85 0 (480 + (4 * n + 2)) = -1) (h : Q (some (.inl (-1))) S) : ov_V true true d 0 0 mq_Mod_readStep 146 [some (.inr (.inr (true, 14, 0))), none, some (.inl (nI (480 + 4 * n))), none] [] S Q := by
  refine r_Mod_readStep_146 ?_
  rw [show (nI (480 + 4 * n) + 2 : Int32) = nI (480 + (4 * n + 2)) from nI_add _ 2, zz_ix (by omega), show ov_g S 85 0 (480 + (4 * n + 2)) = -1 from e]
  exact ⟨zz_ib (by omega) (by decide), fun m => absurd rfl m, fun _ => h⟩
theorem mzF_w {f : Nat → Nat} {L : Nat} {S0 : ov_S} {kd idx m : Nat} {v : Int32} {S : ov_S} (h : mzF f L S0 kd idx S) : mzF f L S0 kd idx (ov_w S 85 0 (480 + m) v) := ⟨xq_w h.1 (xc_85 _) rfl, h.2.1, h.2.2⟩
