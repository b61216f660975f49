/-! ===== TALK: the two searches ===== -/
def tA (s : Nat) : Nat := s / 27 % 27
def tB (s : Nat) : Nat := s % 27
def tK (s : Nat) : Nat := s / 729
def tN (k a b : Nat) : Nat := 729 * k + 27 * a + b
theorem tN_ok {k a b : Nat} (ha : a < 27) (hb : b < 27) : tK (tN k a b) = k ∧ tA (tN k a b) = a ∧ tB (tN k a b) = b := by
  unfold tK tA tB tN
  omega
theorem t_sp {s : Nat} (hs : s < 46656) : tK s < 64 ∧ tA s < 27 ∧ tB s < 27 ∧ s = tN (tK s) (tA s) (tB s) := by
  unfold tK tA tB tN
  omega
def tS (s : Nat) : Prop := (tK s).testBit (pm (tA s) 2) = true ∨ (tK s).testBit (3 + pm (tB s) 2) = true
def tE (s s' : Nat) : Prop := (∃ x m, x < 3 ∧ m < 3 ∧ m ≠ pm (tA s) x ∧ s' = tN (tK s) (pv (tA s) x m) (tB s)) ∨ (∃ x m, x < 3 ∧ m < 3 ∧ m ≠ pm (tB s) x ∧ s' = tN (tK s) (tA s) (pv (tB s) x m)) ∨ (tS s ∧ (s' = tN (tK s ||| 2 ^ pm (tA s) 1) (tA s) (tB s) ∨ s' = tN (tK s ||| 2 ^ (3 + pm (tB s) 1)) (tA s) (tB s)))
/-- within so many acts -/
def tR (s0 : Nat) : Nat → Nat → Prop
  | 0, s => s = s0
  | n + 1, s => tR s0 n s ∨ ∃ s', tR s0 n s' ∧ tE s' s
def tp (a b : Nat) : Nat := 27 * pm a 2 + 9 * pm a 1 + 3 * pm b 2 + pm b 1
def tP (s : Nat) : Nat := tp (tA s) (tB s)
def cE (p K p' K' : Nat) : Prop := (K' = K ∧ ∃ m, m < 3 ∧ (p' = p % 27 + 27 * m ∨ p' = p / 27 * 27 + p % 9 + 9 * m ∨ p' = p / 9 * 9 + p % 3 + 3 * m ∨ p' = p / 3 * 3 + m)) ∨ (p' = p ∧ ∃ s h, (s = p / 27 % 3 ∨ s = 3 + p / 3 % 3) ∧ (h = p / 9 % 3 ∨ h = 3 + p % 3) ∧ K.testBit s = true ∧ K.testBit h = false ∧ K' = K + 2 ^ h)
def cR (p0 K0 : Nat) : Nat → Nat → Nat → Prop
  | 0, p, K => p = p0 ∧ K = K0
  | n + 1, p, K => ∃ p' K', cR p0 K0 n p' K' ∧ cE p' K' p K
theorem t_pv : ∀ p : Nat, p < 27 → ∀ x : Nat, x < 3 → ∀ m : Nat, m < 3 → ∀ y : Nat, y < 3 → pm (pv p x m) y = if y = x then m else pm p y := by decide +kernel
theorem t_or : ∀ K : Nat, K < 64 → ∀ h : Nat, h < 6 → (K ||| 2 ^ h) < 64 ∧ (K.testBit h = true → (K ||| 2 ^ h) = K) ∧ (K.testBit h = false → (K ||| 2 ^ h) = K + 2 ^ h) := by decide +kernel
theorem cE_r {p K : Nat} (hp : p < 81) : cE p K p K := .inl ⟨rfl, p % 3, by omega, .inr (.inr (.inr (by omega)))⟩
theorem cR_up {p0 K0 : Nat} {n p K : Nat} (hp : p < 81) (h : cR p0 K0 n p K) : cR p0 K0 (n + 1) p K := ⟨p, K, h, cE_r hp⟩
theorem tp_lt {a b : Nat} (ha : a < 27) (hb : b < 27) : tp a b < 81 ∧ tp a b / 27 % 3 = pm a 2 ∧ tp a b / 9 % 3 = pm a 1 ∧ tp a b / 3 % 3 = pm b 2 ∧ tp a b % 3 = pm b 1 := by
  have h1 := (pm_ok a ha 1 (by decide)).2
  have h2 := (pm_ok a ha 2 (by decide)).2
  have h3 := (pm_ok b hb 1 (by decide)).2
  have h4 := (pm_ok b hb 2 (by decide)).2
  unfold tp
  omega
theorem t_lt {s s' : Nat} (hs : s < 46656) (h : tE s s') : s' < 46656 := by
  obtain ⟨k1, k2, k3, _⟩ := t_sp hs
  rcases h with ⟨x, m, hx, hm, _, e⟩ | ⟨x, m, hx, hm, _, e⟩ | ⟨_, e | e⟩
  · have := (pv_ok (tA s) k2 x hx m hm).2
    rw [e]; unfold tN; omega
  · have := (pv_ok (tB s) k3 x hx m hm).2
    rw [e]; unfold tN; omega
  · have := (t_or (tK s) k1 (pm (tA s) 1) (by have := (pm_ok (tA s) k2 1 (by decide)).2; omega)).1
    rw [e]; unfold tN; omega
  · have := (t_or (tK s) k1 (3 + pm (tB s) 1) (by have := (pm_ok (tB s) k3 1 (by decide)).2; omega)).1
    rw [e]; unfold tN; omega
/-- an act of the reference's is one of the class's -/
theorem t_pr {s s' : Nat} (hs : s < 46656) (h : tE s s') : cE (tP s) (tK s) (tP s') (tK s') := by
  obtain ⟨k1, k2, k3, k4⟩ := t_sp hs
  obtain ⟨p0, p1, p2, p3, p4⟩ := tp_lt k2 k3
  rcases h with ⟨x, m, hx, hm, _, e⟩ | ⟨x, m, hx, hm, _, e⟩ | ⟨hS, hor⟩
  · have hv := (pv_ok (tA s) k2 x hx m hm).2
    obtain ⟨q1, q2, q3⟩ := tN_ok (k := tK s) hv k3
    have ep : tP s' = tp (pv (tA s) x m) (tB s) := by unfold tP; rw [e, q2, q3]
    have m1 := t_pv (tA s) k2 x hx m hm 1 (by decide)
    have m2 := t_pv (tA s) k2 x hx m hm 2 (by decide)
    have h1 := (pm_ok (tA s) k2 1 (by decide)).2
    have h2 := (pm_ok (tA s) k2 2 (by decide)).2
    have h3 := (pm_ok (tB s) k3 1 (by decide)).2
    have h4 := (pm_ok (tB s) k3 2 (by decide)).2
    rw [e, q1, ← e, ep]
    have hc : x = 0 ∨ x = 1 ∨ x = 2 := by omega
    unfold tP tp
    rw [m1, m2]
    rcases hc with c | c | c <;> subst c
    · rw [if_neg (by decide), if_neg (by decide)]
      exact .inl ⟨rfl, pm (tB s) 1, h3, .inr (.inr (.inr (by omega)))⟩
    · rw [if_pos rfl, if_neg (by decide)]
      exact .inl ⟨rfl, m, hm, .inr (.inl (by omega))⟩
    · rw [if_pos rfl, if_neg (by decide)]
      exact .inl ⟨rfl, m, hm, .inl (by omega)⟩
  · have hv := (pv_ok (tB s) k3 x hx m hm).2
    obtain ⟨q1, q2, q3⟩ := tN_ok (k := tK s) k2 hv
    have ep : tP s' = tp (tA s) (pv (tB s) x m) := by unfold tP; rw [e, q2, q3]
    have m1 := t_pv (tB s) k3 x hx m hm 1 (by decide)
    have m2 := t_pv (tB s) k3 x hx m hm 2 (by decide)
    have h1 := (pm_ok (tA s) k2 1 (by decide)).2
    have h2 := (pm_ok (tA s) k2 2 (by decide)).2
    have h3 := (pm_ok (tB s) k3 1 (by decide)).2
    have h4 := (pm_ok (tB s) k3 2 (by decide)).2
    rw [e, q1, ← e, ep]
    have hc : x = 0 ∨ x = 1 ∨ x = 2 := by omega
    unfold tP tp
    rw [m1, m2]
    rcases hc with c | c | c <;> subst c
    · rw [if_neg (by decide), if_neg (by decide)]
      exact .inl ⟨rfl, pm (tB s) 1, h3, .inr (.inr (.inr (by omega)))⟩
    · rw [if_pos rfl, if_neg (by decide)]
      exact .inl ⟨rfl, m, hm, .inr (.inr (.inr (by omega)))⟩
    · rw [if_pos rfl, if_neg (by decide)]
      exact .inl ⟨rfl, m, hm, .inr (.inr (.inl (by omega)))⟩
  · have say : ∀ h, h < 6 → (h = tP s / 9 % 3 ∨ h = 3 + tP s % 3) → s' = tN (tK s ||| 2 ^ h) (tA s) (tB s) → cE (tP s) (tK s) (tP s') (tK s') := by
      intro h hh hd e
      obtain ⟨q1, q2, q3⟩ := tN_ok (k := tK s ||| 2 ^ h) k2 k3
      have ep : tP s' = tP s := by unfold tP; rw [e, q2, q3]
      have ek : tK s' = tK s ||| 2 ^ h := by rw [e, q1]
      rw [ep, ek]
      obtain ⟨o1, o2, o3⟩ := t_or (tK s) k1 h hh
      cases z : (tK s).testBit h
      · rw [o3 z]
        rcases hS with y | y
        · exact .inr ⟨rfl, pm (tA s) 2, h, .inl p1.symm, hd, y, z, rfl⟩
        · exact .inr ⟨rfl, 3 + pm (tB s) 2, h, .inr (by rw [show tP s / 3 % 3 = pm (tB s) 2 from p3]), hd, y, z, rfl⟩
      · rw [o2 z]
        exact cE_r p0
    have h1 := (pm_ok (tA s) k2 1 (by decide)).2
    have h3 := (pm_ok (tB s) k3 1 (by decide)).2
    rcases hor with e | e
    · exact say _ (by omega) (.inl p2.symm) e
    · exact say _ (by omega) (.inr (by rw [show tP s % 3 = pm (tB s) 1 from p4])) e
theorem tR_lt {s0 : Nat} (h0 : s0 < 46656) : ∀ n s, tR s0 n s → s < 46656
  | 0, s, h => by rw [show s = s0 from h]; exact h0
  | n + 1, s, h => by
    rcases h with h | ⟨s', h, e⟩
    · exact tR_lt h0 n s h
    · exact t_lt (tR_lt h0 n s' h) e
theorem tR_c {s0 : Nat} (h0 : s0 < 46656) : ∀ n s, tR s0 n s → cR (tP s0) (tK s0) n (tP s) (tK s)
  | 0, s, h => by
    rw [show s = s0 from h]
    exact ⟨rfl, rfl⟩
  | n + 1, s, h => by
    rcases h with h | ⟨s', h, e⟩
    · obtain ⟨k1, k2, k3, _⟩ := t_sp (tR_lt h0 n s h)
      exact cR_up (tp_lt k2 k3).1 (tR_c h0 n s h)
    · exact ⟨_, _, tR_c h0 n s' h, t_pr (tR_lt h0 n s' h) e⟩
/-- and the other way round -/
theorem t_lf {s p' K' : Nat} (hs : s < 46656) (h : cE (tP s) (tK s) p' K') : ∃ s', (s' = s ∨ tE s s') ∧ tP s' = p' ∧ tK s' = K' := by
  obtain ⟨k1, k2, k3, k4⟩ := t_sp hs
  obtain ⟨p0, p1, p2, p3, p4⟩ := tp_lt k2 k3
  have h1 := (pm_ok (tA s) k2 1 (by decide)).2
  have h2 := (pm_ok (tA s) k2 2 (by decide)).2
  have h3 := (pm_ok (tB s) k3 1 (by decide)).2
  have h4 := (pm_ok (tB s) k3 2 (by decide)).2
  have eP : tP s = 27 * pm (tA s) 2 + 9 * pm (tA s) 1 + 3 * pm (tB s) 2 + pm (tB s) 1 := rfl
  have mvA : ∀ x m, x < 3 → m < 3 → ∃ s', (s' = s ∨ tE s s') ∧ tP s' = 27 * (if 2 = x then m else pm (tA s) 2) + 9 * (if 1 = x then m else pm (tA s) 1) + 3 * pm (tB s) 2 + pm (tB s) 1 ∧ tK s' = tK s := by
    intro x m hx hm
    by_cases e : m = pm (tA s) x
    · refine ⟨s, .inl rfl, ?_, rfl⟩
      rw [eP]
      by_cases e2 : 2 = x
      · rw [if_pos e2, if_neg (by omega), e, ← e2]
      · rw [if_neg e2]
        by_cases e1 : 1 = x
        · rw [if_pos e1, e, ← e1]
        · rw [if_neg e1]
    · have hv := (pv_ok (tA s) k2 x hx m hm).2
      obtain ⟨q1, q2, q3⟩ := tN_ok (k := tK s) hv k3
      refine ⟨_, .inr (.inl ⟨x, m, hx, hm, e, rfl⟩), ?_, q1⟩
      unfold tP tp
      rw [q2, q3, t_pv (tA s) k2 x hx m hm 1 (by decide), t_pv (tA s) k2 x hx m hm 2 (by decide)]
  have mvB : ∀ x m, x < 3 → m < 3 → ∃ s', (s' = s ∨ tE s s') ∧ tP s' = 27 * pm (tA s) 2 + 9 * pm (tA s) 1 + 3 * (if 2 = x then m else pm (tB s) 2) + (if 1 = x then m else pm (tB s) 1) ∧ tK s' = tK s := by
    intro x m hx hm
    by_cases e : m = pm (tB s) x
    · refine ⟨s, .inl rfl, ?_, rfl⟩
      rw [eP]
      by_cases e2 : 2 = x
      · rw [if_pos e2, if_neg (by omega), e, ← e2]
      · rw [if_neg e2]
        by_cases e1 : 1 = x
        · rw [if_pos e1, e, ← e1]
        · rw [if_neg e1]
    · have hv := (pv_ok (tB s) k3 x hx m hm).2
      obtain ⟨q1, q2, q3⟩ := tN_ok (k := tK s) k2 hv
      refine ⟨_, .inr (.inr (.inl ⟨x, m, hx, hm, e, rfl⟩)), ?_, q1⟩
      unfold tP tp
      rw [q2, q3, t_pv (tB s) k3 x hx m hm 1 (by decide), t_pv (tB s) k3 x hx m hm 2 (by decide)]
  rcases h with ⟨rfl, m, hm, e | e | e | e⟩ | ⟨rfl, sy, hr, hsy, hhr, b1, b2, rfl⟩
  · obtain ⟨s', a1, a2, a3⟩ := mvA 2 m (by decide) hm
    refine ⟨s', a1, ?_, a3⟩
    rw [a2, e, eP, if_pos rfl, if_neg (by decide)]
    omega
  · obtain ⟨s', a1, a2, a3⟩ := mvA 1 m (by decide) hm
    refine ⟨s', a1, ?_, a3⟩
    rw [a2, e, eP, if_neg (by decide), if_pos rfl]
    omega
  · obtain ⟨s', a1, a2, a3⟩ := mvB 2 m (by decide) hm
    refine ⟨s', a1, ?_, a3⟩
    rw [a2, e, eP, if_pos rfl, if_neg (by decide)]
    omega
  · obtain ⟨s', a1, a2, a3⟩ := mvB 1 m (by decide) hm
    refine ⟨s', a1, ?_, a3⟩
    rw [a2, e, eP, if_neg (by decide), if_pos rfl]
    omega
  · have hS : tS s := by
      rcases hsy with e | e
      · rw [e, show tP s / 27 % 3 = pm (tA s) 2 from p1] at b1
        exact .inl b1
      · rw [e, show tP s / 3 % 3 = pm (tB s) 2 from p3] at b1
        exact .inr b1
    rcases hhr with e | e
    · rw [show tP s / 9 % 3 = pm (tA s) 1 from p2] at e
      obtain ⟨q1, q2, q3⟩ := tN_ok (k := tK s ||| 2 ^ pm (tA s) 1) k2 k3
      refine ⟨_, .inr (.inr (.inr ⟨hS, .inl rfl⟩)), ?_, ?_⟩
      · unfold tP; rw [q2, q3]
      · rw [q1, e]
        rw [e] at b2
        exact (t_or (tK s) k1 _ (by omega)).2.2 b2
    · rw [show tP s % 3 = pm (tB s) 1 from p4] at e
      obtain ⟨q1, q2, q3⟩ := tN_ok (k := tK s ||| 2 ^ (3 + pm (tB s) 1)) k2 k3
      refine ⟨_, .inr (.inr (.inr ⟨hS, .inr rfl⟩)), ?_, ?_⟩
      · unfold tP; rw [q2, q3]
      · rw [q1, e]
        rw [e] at b2
        exact (t_or (tK s) k1 _ (by omega)).2.2 b2
theorem cR_t {s0 : Nat} (h0 : s0 < 46656) : ∀ n p K, cR (tP s0) (tK s0) n p K → ∃ s, tR s0 n s ∧ tP s = p ∧ tK s = K
  | 0, p, K, h => ⟨s0, rfl, h.1.symm, h.2.symm⟩
  | n + 1, p, K, h => by
    obtain ⟨p', K', h1, h2⟩ := h
    obtain ⟨s, a1, a2, a3⟩ := cR_t h0 n p' K' h1
    rw [← a2, ← a3] at h2
    obtain ⟨s', b1, b2, b3⟩ := t_lf (tR_lt h0 n s a1) h2
    refine ⟨s', ?_, b2, b3⟩
    rcases b1 with e | e
    · rw [e]; exact .inl a1
    · exact .inr ⟨s, a1, e⟩
theorem cR_lt {p0 K0 : Nat} (h0 : p0 < 81) (k0 : K0 < 64) : ∀ n p K, cR p0 K0 n p K → p < 81 ∧ K < 64
  | 0, p, K, h => by rw [h.1, h.2]; exact ⟨h0, k0⟩
  | n + 1, p, K, h => by
    obtain ⟨p', K', h1, h2⟩ := h
    obtain ⟨a1, a2⟩ := cR_lt h0 k0 n p' K' h1
    rcases h2 with ⟨rfl, m, hm, e | e | e | e⟩ | ⟨rfl, sy, hr, _, hh, _, b2, rfl⟩
    · exact ⟨by omega, a2⟩
    · exact ⟨by omega, a2⟩
    · exact ⟨by omega, a2⟩
    · exact ⟨by omega, a2⟩
    · have hr6 : hr < 6 := by omega
      have := t_or K' a2 hr hr6
      rw [← this.2.2 b2]
      exact ⟨a1, this.1⟩
/-- all six come to know -/
theorem c_all {p0 K0 : Nat} (h0 : p0 < 81) (k0 : K0 < 64) (hK : 0 < K0) : ∃ p, cR p0 K0 13 p 63 := by
  -- somebody who knows gets a mouth
  have hex : ∀ K : Nat, K < 64 → K = 0 ∨ ∃ k : Nat, k < 6 ∧ K.testBit k = true := by decide +kernel
  obtain ⟨k, hk, hkb⟩ := (hex K0 k0).elim (fun e => absurd e (by omega)) (fun e => e)
  have st : ∃ p, cR p0 K0 1 p K0 ∧ p < 81 ∧ (K0.testBit (p / 27 % 3) = true ∨ K0.testBit (3 + p / 3 % 3) = true) := by
    rcases Nat.lt_or_ge k 3 with hk3 | hk3
    · refine ⟨p0 % 27 + 27 * k, ⟨p0, K0, ⟨rfl, rfl⟩, .inl ⟨rfl, k, hk3, .inl rfl⟩⟩, by omega, .inl ?_⟩
      rw [show (p0 % 27 + 27 * k) / 27 % 3 = k by omega]
      exact hkb
    · refine ⟨p0 / 9 * 9 + p0 % 3 + 3 * (k - 3), ⟨p0, K0, ⟨rfl, rfl⟩, .inl ⟨rfl, k - 3, by omega, .inr (.inr (.inl rfl))⟩⟩, by omega, .inr ?_⟩
      rw [show 3 + (p0 / 9 * 9 + p0 % 3 + 3 * (k - 3)) / 3 % 3 = k by omega]
      exact hkb
  -- one more gets to know
  have step : ∀ n p K h, h < 6 → cR p0 K0 n p K → p < 81 → K < 64 → (K.testBit (p / 27 % 3) = true ∨ K.testBit (3 + p / 3 % 3) = true) → ∃ p', cR p0 K0 (n + 2) p' (K ||| 2 ^ h) ∧ p' < 81 ∧ ((K ||| 2 ^ h).testBit (p' / 27 % 3) = true ∨ (K ||| 2 ^ h).testBit (3 + p' / 3 % 3) = true) := by
    intro n p K h hh hR hp hK64 hm
    have or1 : ∀ j, K.testBit j = true → (K ||| 2 ^ h).testBit j = true := fun j q => by rw [Nat.testBit_or, q]; rfl
    obtain ⟨o1, o2, o3⟩ := t_or K hK64 h hh
    -- the ear to h
    have ear : ∃ p', cR p0 K0 (n + 1) p' K ∧ p' < 81 ∧ p' / 27 % 3 = p / 27 % 3 ∧ p' / 3 % 3 = p / 3 % 3 ∧ (h = p' / 9 % 3 ∨ h = 3 + p' % 3) := by
      rcases Nat.lt_or_ge h 3 with h3 | h3
      · exact ⟨p / 27 * 27 + p % 9 + 9 * h, ⟨p, K, hR, .inl ⟨rfl, h, h3, .inr (.inl rfl)⟩⟩, by omega, by omega, by omega, .inl (by omega)⟩
      · exact ⟨p / 3 * 3 + (h - 3), ⟨p, K, hR, .inl ⟨rfl, h - 3, by omega, .inr (.inr (.inr rfl))⟩⟩, by omega, by omega, by omega, .inr (by omega)⟩
    obtain ⟨p', r1, r2, r3, r4, r5⟩ := ear
    refine ⟨p', ?_, r2, ?_⟩
    · cases z : K.testBit h
      · rw [o3 z]
        rcases hm with y | y
        · exact ⟨p', K, r1, .inr ⟨rfl, p' / 27 % 3, h, .inl rfl, r5, by rw [r3]; exact y, z, rfl⟩⟩
        · exact ⟨p', K, r1, .inr ⟨rfl, 3 + p' / 3 % 3, h, .inr rfl, r5, by rw [r4]; exact y, z, rfl⟩⟩
      · rw [o2 z]
        exact cR_up r2 r1
    · rw [r3, r4]
      exact hm.imp (or1 _) (or1 _)
  obtain ⟨p1, a1, a2, a3⟩ := st
  have h63 : ∀ K : Nat, K < 64 → (K ||| 2 ^ 0 ||| 2 ^ 1 ||| 2 ^ 2 ||| 2 ^ 3 ||| 2 ^ 4 ||| 2 ^ 5) = 63 := by decide +kernel
  have lt : ∀ K : Nat, K < 64 → ∀ h, h < 6 → (K ||| 2 ^ h) < 64 := fun K hK h hh => (t_or K hK h hh).1
  have l0 := lt K0 k0 0 (by decide)
  have l1 := lt _ l0 1 (by decide)
  have l2 := lt _ l1 2 (by decide)
  have l3 := lt _ l2 3 (by decide)
  have l4 := lt _ l3 4 (by decide)
  obtain ⟨p2, b1, b2, b3⟩ := step 1 p1 K0 0 (by decide) a1 a2 k0 a3
  obtain ⟨p3, c1, c2, c3⟩ := step 3 p2 _ 1 (by decide) b1 b2 l0 b3
  obtain ⟨p4, d1, d2, d3⟩ := step 5 p3 _ 2 (by decide) c1 c2 l1 c3
  obtain ⟨p5, e1, e2, e3⟩ := step 7 p4 _ 3 (by decide) d1 d2 l2 d3
  obtain ⟨p6, f1, f2, f3⟩ := step 9 p5 _ 4 (by decide) e1 e2 l3 e3
  obtain ⟨p7, g1, g2, g3⟩ := step 11 p6 _ 5 (by decide) f1 f2 l4 f3
  rw [h63 K0 k0] at g1
  exact ⟨p7, g1⟩
/-- the fewest acts -/
def tMin (s0 n : Nat) : Prop := (∃ s, tR s0 n s ∧ tK s = 63) ∧ ∀ m, m < n → ∀ s, tR s0 m s → tK s ≠ 63
def cMin (p0 K0 n : Nat) : Prop := (∃ p, cR p0 K0 n p 63) ∧ ∀ m, m < n → ∀ p, ¬ cR p0 K0 m p 63
theorem t_same {s0 n n' : Nat} (h0 : s0 < 46656) (h : tMin s0 n) (h' : cMin (tP s0) (tK s0) n') : n = n' := by
  obtain ⟨⟨s, a1, a2⟩, a3⟩ := h
  obtain ⟨⟨p, b1⟩, b2⟩ := h'
  have c1 := tR_c h0 n s a1
  rw [a2] at c1
  obtain ⟨s', d1, d2, d3⟩ := cR_t h0 n' p 63 b1
  rcases Nat.lt_trichotomy n n' with z | z | z
  · exact absurd c1 (b2 n z _)
  · exact z
  · exact absurd d3 (a3 n' z s' d1)
