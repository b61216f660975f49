/-! ===== FELT ===== -/
def fw (S : ov_S) (s : Nat) : Nat := ov_ix (S.1 92 0 s)
def ft (S : ov_S) (s : Nat) : Nat := ov_ix (S.1 93 0 s) + 1
theorem f_ok {c mm lb nz wc : Nat} {S : ov_S} (hw : rl_w c mm lb nz wc S.1 S.1) {s : Nat} (hs : s < 9) : S.1 92 0 s = nI (fw S s) ∧ S.1 30 0 s = nI (fw S s) ∧ fw S s ≤ 99 ∧ S.1 93 0 s + 1 = nI (ft S s) ∧ S.1 31 0 s = nI (ft S s) ∧ 1 ≤ ft S s ∧ ft S s ≤ 9 ∧ S.1 93 0 s = nI (ft S s - 1) := by
  obtain ⟨w, t, h1, h2, h3, e1, e2, e3, e4⟩ := hw.2.2.2.2.2.2.2.2.2.2.2.2.2.2.2.2.2.2.2.2.2.2.1 s hs
  have hw' : fw S s = w := by unfold fw; rw [e2]; exact zz_ix (by omega)
  have ht' : ft S s = t := by unfold ft; rw [e4, zz_ix (by omega)]; omega
  rw [hw', ht']
  refine ⟨e2, e1, h1, ?_, e3, h2, h3, e4⟩
  rw [e4, nI_1, show t - 1 + 1 = t by omega]
/-- at least as worthy -/
def fr (S : ov_S) (a b : Nat) : Prop := fw S b * ft S a ≤ fw S a * ft S b
def fl (S : ov_S) (a b : Nat) : Prop := ¬ fr S b a ∨ (fr S a b ∧ a < b)
theorem fr_t {S : ov_S} {a b c : Nat} (h : fr S a b) (k : fr S b c) : fr S a c := by
  unfold fr at h k ⊢
  have hb : 0 < ft S b := Nat.succ_pos _
  have h1 : fw S c * ft S b * ft S a ≤ fw S b * ft S c * ft S a := Nat.mul_le_mul_right _ k
  have h2 : fw S b * ft S a * ft S c ≤ fw S a * ft S b * ft S c := Nat.mul_le_mul_right _ h
  have e1 : fw S c * ft S b * ft S a = fw S c * ft S a * ft S b := Nat.mul_right_comm _ _ _
  have e2 : fw S b * ft S c * ft S a = fw S b * ft S a * ft S c := Nat.mul_right_comm _ _ _
  have e3 : fw S a * ft S b * ft S c = fw S a * ft S c * ft S b := Nat.mul_right_comm _ _ _
  rw [e1, e2] at h1
  rw [e3] at h2
  exact Nat.le_of_mul_le_mul_right (Nat.le_trans h1 h2) hb
theorem fr_total (S : ov_S) (a b : Nat) : fr S a b ∨ fr S b a := Nat.le_total _ _
theorem fl_r {S : ov_S} {a b : Nat} (h : fl S a b) : fr S a b := by
  rcases h with h | h
  · rcases fr_total S a b with q | q
    · exact q
    · exact absurd q h
  · exact h.1
theorem fl_t {S : ov_S} {a b c : Nat} (h : fl S a b) (k : fl S b c) : fl S a c := by
  have h1 := fl_r h
  have k1 := fl_r k
  by_cases q : fr S c a
  · have q1 : fr S b a := fr_t k1 q
    have q2 : fr S c b := fr_t q h1
    rcases h with h | h
    · exact absurd q1 h
    · rcases k with k | k
      · exact absurd q2 k
      · exact .inr ⟨fr_t h1 k1, by omega⟩
  · exact .inl q
theorem fl_as {S : ov_S} {a b : Nat} (h : fl S a b) (k : fl S b a) : False := by
  have h1 := fl_r h
  have k1 := fl_r k
  rcases h with h | h
  · exact h k1
  · rcases k with k | k
    · exact k h1
    · omega
/-- the worthiest but some -/
noncomputable def fbs (S : ov_S) (D : Nat) : Nat → Nat
  | 0 => 0
  | s + 1 => @ite _ (D.testBit s = false ∧ (¬ fr S (fbs S D s) s ∨ D.testBit (fbs S D s) = true)) (Classical.propDecidable _) s (fbs S D s)
theorem fbs_y {S : ov_S} {D s : Nat} (h : D.testBit s = false ∧ (¬ fr S (fbs S D s) s ∨ D.testBit (fbs S D s) = true)) : fbs S D (s + 1) = s := if_pos h
theorem fbs_n {S : ov_S} {D s : Nat} (h : ¬ (D.testBit s = false ∧ (¬ fr S (fbs S D s) s ∨ D.testBit (fbs S D s) = true))) : fbs S D (s + 1) = fbs S D s := if_neg h
theorem fbs_ok {S : ov_S} {D : Nat} : ∀ j, ((∃ s, s < j ∧ D.testBit s = false) → fbs S D j < j ∧ D.testBit (fbs S D j) = false ∧ ∀ s, s < j → D.testBit s = false → s ≠ fbs S D j → fl S (fbs S D j) s) ∧ ((∀ s, s < j → D.testBit s = true) → fbs S D j = 0)
  | 0 => ⟨fun ⟨s, h, _⟩ => absurd h (by omega), fun _ => rfl⟩
  | j + 1 => by
    obtain ⟨h1, h2⟩ := fbs_ok (S := S) (D := D) j
    by_cases hD : D.testBit j = false
    · refine ⟨fun _ => ?_, fun q => by have := q j (by omega); rw [hD] at this; cases this⟩
      by_cases hex : ∃ s, s < j ∧ D.testBit s = false
      · obtain ⟨a1, a2, a3⟩ := h1 hex
        by_cases hr : fr S (fbs S D j) j
        · rw [fbs_n (fun q => q.2.elim (fun z => z hr) (fun z => by rw [a2] at z; cases z))]
          refine ⟨by omega, a2, fun s hs hsD hne => ?_⟩
          by_cases e : s = j
          · rw [e]; exact .inr ⟨hr, a1⟩
          · exact a3 s (by omega) hsD hne
        · rw [fbs_y ⟨hD, .inl hr⟩]
          refine ⟨by omega, hD, fun s hs hsD hne => ?_⟩
          have hj : fl S j (fbs S D j) := .inl hr
          by_cases e : s = fbs S D j
          · rw [e]; exact hj
          · exact fl_t hj (a3 s (by omega) hsD e)
      · have hall : ∀ s, s < j → D.testBit s = true := fun s hs => by
          cases z : D.testBit s
          · exact absurd ⟨s, hs, z⟩ hex
          · rfl
        have e0 := h2 hall
        by_cases hc : D.testBit j = false ∧ (¬ fr S (fbs S D j) j ∨ D.testBit (fbs S D j) = true)
        · rw [fbs_y hc]
          refine ⟨by omega, hD, fun s hs hsD hne => ?_⟩
          have := hall s (by omega)
          rw [hsD] at this
          cases this
        · rw [fbs_n hc, e0]
          have hj0 : j = 0 := by
            rcases Nat.eq_zero_or_pos j with z | z
            · exact z
            · have := hall 0 z
              exact absurd ⟨hD, .inr (by rw [e0]; exact this)⟩ hc
          subst hj0
          refine ⟨by omega, hD, fun s hs hsD hne => absurd (by omega) hne⟩
    · have hn : fbs S D (j + 1) = fbs S D j := fbs_n (fun q => hD q.1)
      rw [hn]
      refine ⟨fun ⟨s, hs, hsD⟩ => ?_, fun q => h2 (fun s hs => q s (by omega))⟩
      have hsj : s ≠ j := fun e => hD (by rw [← e]; exact hsD)
      obtain ⟨a1, a2, a3⟩ := h1 ⟨s, by omega, hsD⟩
      refine ⟨by omega, a2, fun s' hs' hsD' hne => ?_⟩
      have : s' ≠ j := fun e => hD (by rw [← e]; exact hsD')
      exact a3 s' (by omega) hsD' hne
noncomputable def fD (S : ov_S) : Nat → Nat
  | 0 => 0
  | i + 1 => fD S i ||| 2 ^ fbs S (fD S i) 9
/-- the spots in the order of worth -/
noncomputable def fs (S : ov_S) (i : Nat) : Nat := fbs S (fD S i) 9
theorem lpj_or {a t : Nat} (h : a.testBit t = false) : ∀ j, t < j → lpj (a ||| 2 ^ t) j = lpj a j + 1
  | 0, ht => absurd ht (by omega)
  | j + 1, ht => by
    show lpj (a ||| 2 ^ t) j + (if (a ||| 2 ^ t).testBit j then 1 else 0) = lpj a j + (if a.testBit j then 1 else 0) + 1
    have hb : (a ||| 2 ^ t).testBit j = (a.testBit j || decide (t = j)) := by rw [Nat.testBit_or, Nat.testBit_two_pow]
    by_cases e : t = j
    · subst e
      have hlow : ∀ k, k ≤ t → lpj (a ||| 2 ^ t) k = lpj a k := by
        intro k
        induction k with
        | zero => intro _; rfl
        | succ k ih =>
          intro hk
          show lpj (a ||| 2 ^ t) k + (if (a ||| 2 ^ t).testBit k then 1 else 0) = lpj a k + (if a.testBit k then 1 else 0)
          have : (a ||| 2 ^ t).testBit k = a.testBit k := by
            rw [Nat.testBit_or, Nat.testBit_two_pow, decide_eq_false (by omega), Bool.or_false]
          rw [ih (by omega), this]
      rw [hb, h, hlow t (Nat.le_refl _)]
      simp
    · rw [hb, decide_eq_false e, Bool.or_false, lpj_or h j (by omega)]
      omega
theorem lpj_all {a : Nat} : ∀ j, lpj a j < j → ∃ s, s < j ∧ a.testBit s = false
  | 0, h => absurd h (by omega)
  | j + 1, h => by
    have h : lpj a j + (if a.testBit j then 1 else 0) < j + 1 := h
    cases z : a.testBit j
    · exact ⟨j, by omega, z⟩
    · rw [z] at h
      have h' : lpj a j < j := by
        have e : (if true = true then 1 else 0) = 1 := rfl
        omega
      obtain ⟨s, h1, h2⟩ := lpj_all j h'
      exact ⟨s, by omega, h2⟩
theorem fD_ok (S : ov_S) : ∀ i, i ≤ 9 → lpj (fD S i) 9 = i ∧ fD S i < 512 ∧ (i < 9 → fs S i < 9 ∧ (fD S i).testBit (fs S i) = false ∧ ∀ s, s < 9 → (fD S i).testBit s = false → s ≠ fs S i → fl S (fs S i) s) ∧ ∀ s, (fD S i).testBit s = true ↔ ∃ i', i' < i ∧ fs S i' = s
  | 0, _ => by
    refine ⟨show lpj 0 9 = 0 from by decide, by show 0 < 512; decide, fun _ => ?_, fun s => ?_⟩
    · exact (fbs_ok 9).1 ⟨0, by decide, Nat.zero_testBit 0⟩
    · show (0 : Nat).testBit s = true ↔ _
      rw [Nat.zero_testBit]
      exact ⟨fun q => (by cases q), fun ⟨i', q, _⟩ => absurd q (by omega)⟩
  | i + 1, hi => by
    obtain ⟨h1, h2, h3, h4⟩ := fD_ok S i (by omega)
    obtain ⟨k1, k2, k3⟩ := h3 (by omega)
    have eD : fD S (i + 1) = fD S i ||| 2 ^ fs S i := rfl
    have hl : lpj (fD S (i + 1)) 9 = i + 1 := by rw [eD, lpj_or k2 9 k1, h1]
    refine ⟨hl, ?_, fun hi9 => ?_, fun s => ?_⟩
    · rw [eD]; exact Nat.or_lt_two_pow (n := 9) h2 (Nat.pow_lt_pow_of_lt (by decide) k1)
    · exact (fbs_ok 9).1 (lpj_all 9 (by rw [hl]; omega))
    · rw [eD, Nat.testBit_or, Bool.or_eq_true, Nat.testBit_two_pow, decide_eq_true_iff, h4 s]
      constructor
      · rintro (⟨i', q1, q2⟩ | q)
        · exact ⟨i', by omega, q2⟩
        · exact ⟨i, by omega, q⟩
      · rintro ⟨i', q1, q2⟩
        by_cases e : i' = i
        · subst e; exact .inr q2
        · exact .inl ⟨i', by omega, q2⟩
theorem fs_ok (S : ov_S) : (∀ i, i < 9 → fs S i < 9) ∧ (∀ i j, i < j → j < 9 → fl S (fs S i) (fs S j) ∧ fs S i ≠ fs S j) ∧ ∀ s, s < 9 → ∃ i, i < 9 ∧ fs S i = s := by
  refine ⟨fun i hi => ((fD_ok S i (by omega)).2.2.1 hi).1, fun i j hij hj => ?_, fun s hs => ?_⟩
  · have hi := (fD_ok S i (by omega)).2.2.1 (by omega)
    have hj2 := (fD_ok S j (by omega)).2.2.1 hj
    have hDj := (fD_ok S j (by omega)).2.2.2
    have hDi := (fD_ok S i (by omega)).2.2.2
    have hne : fs S j ≠ fs S i := fun e => by
      have := (hDj (fs S j)).2 ⟨i, hij, e.symm⟩
      rw [hj2.2.1] at this
      cases this
    refine ⟨hi.2.2 (fs S j) hj2.1 ?_ hne, fun e => hne e.symm⟩
    cases z : (fD S i).testBit (fs S j)
    · rfl
    · obtain ⟨i', q1, q2⟩ := (hDi _).1 z
      have := (hDj (fs S j)).2 ⟨i', by omega, q2⟩
      rw [hj2.2.1] at this
      cases this
  · have h9 := fD_ok S 9 (Nat.le_refl _)
    cases z : (fD S 9).testBit s
    · have key : ∀ j, s < j → lpj (fD S 9) j < j := by
        have le : ∀ j, lpj (fD S 9) j ≤ j := by
          intro j
          induction j with
          | zero => exact Nat.le_refl _
          | succ j ih =>
            show lpj (fD S 9) j + (if (fD S 9).testBit j then 1 else 0) ≤ j + 1
            split <;> omega
        intro j
        induction j with
        | zero => intro h; exact absurd h (by omega)
        | succ j ih =>
          intro h
          show lpj (fD S 9) j + (if (fD S 9).testBit j then 1 else 0) < j + 1
          by_cases e : s = j
          · subst e
            rw [z]
            have := le s
            have e0 : (if false = true then 1 else 0) = 0 := rfl
            omega
          · have := ih (by omega)
            split <;> omega
      have := key 9 hs
      rw [h9.1] at this
      exact absurd this (by omega)
    · exact (h9.2.2.2 s).1 z
/-! times and sums -/
noncomputable def fW (S : ov_S) (i : Nat) : Nat := fw S (fs S i)
noncomputable def fT (S : ov_S) (i : Nat) : Nat := ft S (fs S i)
noncomputable def fgo (S : ov_S) : Nat → Nat
  | 0 => 0
  | i + 1 => fgo S i + fT S i
noncomputable def fti (S : ov_S) (set : Nat) : Nat → Nat
  | 0 => 0
  | i + 1 => if set.testBit (fs S i) = true then fti S set i + fT S i else fti S set i
noncomputable def fcs (S : ov_S) (set : Nat) : Nat → Nat
  | 0 => 0
  | i + 1 => if set.testBit (fs S i) = true then fcs S set i + fW S i * (fti S set i + fT S i) else fcs S set i
theorem f_co : ∀ set : Nat, set < 512 → ((511 : Int32) &&& (nI set ^^^ (-1))) = nI (511 - set) ∧ ∀ k : Nat, k < 9 → (511 - set).testBit k = !set.testBit k := by decide +kernel
noncomputable def fc (S : ov_S) (set i : Nat) : Nat := fcs S set i + fcs S (511 - set) i
theorem f_bd {c mm lb nz wc : Nat} {S : ov_S} (hw : rl_w c mm lb nz wc S.1 S.1) {i : Nat} (hi : i < 9) : fW S i ≤ 99 ∧ 1 ≤ fT S i ∧ fT S i ≤ 9 := by
  have h := f_ok hw ((fs_ok S).1 i hi)
  exact ⟨h.2.2.1, h.2.2.2.2.2.1, h.2.2.2.2.2.2.1⟩
theorem fgo_le {c mm lb nz wc : Nat} {S : ov_S} (hw : rl_w c mm lb nz wc S.1 S.1) : ∀ i, i ≤ 9 → fgo S i ≤ 9 * i
  | 0, _ => Nat.le_refl _
  | i + 1, h => by
    have := fgo_le hw i (by omega)
    have := (f_bd hw (i := i) (by omega)).2.2
    show fgo S i + fT S i ≤ 9 * (i + 1)
    omega
theorem fti_co {S : ov_S} {set : Nat} (hs : set < 512) : ∀ i, i ≤ 9 → fti S set i + fti S (511 - set) i = fgo S i
  | 0, _ => rfl
  | i + 1, h => by
    have ih := fti_co (S := S) hs i (by omega)
    have hc := (f_co set hs).2 (fs S i) ((fs_ok S).1 i (by omega))
    show (if set.testBit (fs S i) = true then fti S set i + fT S i else fti S set i) + (if (511 - set).testBit (fs S i) = true then fti S (511 - set) i + fT S i else fti S (511 - set) i) = fgo S i + fT S i
    cases z : set.testBit (fs S i)
    · rw [z] at hc
      rw [if_neg (by decide), if_pos (show _ = true from hc)]
      omega
    · rw [z] at hc
      rw [if_pos rfl, if_neg (by rw [hc]; decide)]
      omega
theorem fc_s {S : ov_S} {set i : Nat} (hs : set < 512) (hi : i < 9) : fc S set (i + 1) = fc S set i + fW S i * (if set.testBit (fs S i) = true then fti S set i + fT S i else (fgo S i - fti S set i) + fT S i) := by
  have hco := fti_co (S := S) hs i (by omega)
  have hc := (f_co set hs).2 (fs S i) ((fs_ok S).1 i hi)
  show (if set.testBit (fs S i) = true then fcs S set i + fW S i * (fti S set i + fT S i) else fcs S set i) + (if (511 - set).testBit (fs S i) = true then fcs S (511 - set) i + fW S i * (fti S (511 - set) i + fT S i) else fcs S (511 - set) i) = fcs S set i + fcs S (511 - set) i + _
  cases z : set.testBit (fs S i)
  · rw [z] at hc
    rw [if_neg (by decide), if_pos (show _ = true from hc), if_neg (by decide), show fgo S i - fti S set i = fti S (511 - set) i by omega]
    omega
  · rw [z] at hc
    rw [if_pos rfl, if_neg (by rw [hc]; decide), if_pos rfl]
    omega
theorem f_cong {S : ov_S} {set set' : Nat} (hs : set < 512) (hs' : set' < 512) : ∀ i, i ≤ 9 → (∀ j, j < i → set.testBit (fs S j) = set'.testBit (fs S j)) → fti S set i = fti S set' i ∧ fc S set i = fc S set' i
  | 0, _, _ => ⟨rfl, rfl⟩
  | i + 1, h, hj => by
    obtain ⟨h1, h2⟩ := f_cong hs hs' i (by omega) (fun j hj2 => hj j (by omega))
    have e := hj i (by omega)
    refine ⟨?_, ?_⟩
    · show (if set.testBit (fs S i) = true then fti S set i + fT S i else fti S set i) = (if set'.testBit (fs S i) = true then fti S set' i + fT S i else fti S set' i)
      rw [e, h1]
    · rw [fc_s hs (by omega), fc_s hs' (by omega), e, h1, h2]
def fFAR : Nat := 268435456
/-! by how long the first has felt -/
noncomputable def fA (S : ov_S) (g : Nat → Nat) (i l : Nat) : Nat := if g l = 268435456 then 268435456 else g l + fW S i * (fgo S i - l + fT S i)
noncomputable def fB (S : ov_S) (g : Nat → Nat) (i l : Nat) : Nat := if fT S i ≤ l ∧ ¬ g (l - fT S i) = 268435456 then g (l - fT S i) + fW S i * l else 268435456
noncomputable def fdp (S : ov_S) : Nat → Nat → Nat
  | 0, l => if l = 0 then 0 else 268435456
  | i + 1, l => min (fA S (fdp S i) i l) (fB S (fdp S i) i l)
theorem f_mul {a b : Nat} (ha : a ≤ 99) (hb : b ≤ 90) : a * b ≤ 8910 := Nat.mul_le_mul (m₂ := 90) ha hb
theorem fdp_1 {c mm lb nz wc : Nat} {S : ov_S} (hw : rl_w c mm lb nz wc S.1 S.1) : ∀ i, i ≤ 9 → ∀ l, fdp S i l = 268435456 ∨ (l ≤ fgo S i ∧ fdp S i l ≤ 9000 * i ∧ ∃ set, set < 512 ∧ (∀ k, set.testBit k = true → (fD S i).testBit k = true) ∧ fti S set i = l ∧ fc S set i = fdp S i l)
  | 0, _, l => by
    by_cases e : l = 0
    · subst e
      exact .inr ⟨Nat.le_refl _, Nat.le_refl _, 0, by decide, fun k hk => (by rw [Nat.zero_testBit] at hk; cases hk), rfl, rfl⟩
    · exact .inl (if_neg e)
  | i + 1, hi, l => by
    have ih := fdp_1 hw i (by omega)
    obtain ⟨b1, b2, b3⟩ := f_bd hw (i := i) (by omega)
    have hgo := fgo_le hw i (by omega)
    have hD := (fD_ok S i (by omega)).2.2.1 (by omega)
    have hDi := (fD_ok S i (by omega)).2.2.2
    have hD1 := (fD_ok S (i + 1) hi).2.2.2
    have eg : fgo S (i + 1) = fgo S i + fT S i := rfl
    have e : fdp S (i + 1) l = min (fA S (fdp S i) i l) (fB S (fdp S i) i l) := rfl
    have up : ∀ k, (fD S i).testBit k = true → (fD S (i + 1)).testBit k = true := fun k hk => by
      obtain ⟨i', q1, q2⟩ := (hDi k).1 hk
      exact (hD1 k).2 ⟨i', by omega, q2⟩
    have caseA : fA S (fdp S i) i l = 268435456 ∨ (l ≤ fgo S (i + 1) ∧ fA S (fdp S i) i l ≤ 9000 * (i + 1) ∧ ∃ set, set < 512 ∧ (∀ k, set.testBit k = true → (fD S (i + 1)).testBit k = true) ∧ fti S set (i + 1) = l ∧ fc S set (i + 1) = fA S (fdp S i) i l) := by
      rcases ih l with q | ⟨q1, q2, set, q3, q4, q5, q6⟩
      · exact .inl (by unfold fA; rw [if_pos q])
      · right
        have hne : ¬ fdp S i l = 268435456 := by omega
        have ha : fA S (fdp S i) i l = fdp S i l + fW S i * (fgo S i - l + fT S i) := by unfold fA; rw [if_neg hne]
        have hm := f_mul (b := fgo S i - l + fT S i) b1 (by omega)
        have hnb : set.testBit (fs S i) = false := by
          cases z : set.testBit (fs S i)
          · rfl
          · have := q4 _ z
            rw [hD.2.1] at this
            cases this
        refine ⟨by omega, by rw [ha]; omega, set, q3, fun k hk => up k (q4 k hk), ?_, ?_⟩
        · show (if set.testBit (fs S i) = true then fti S set i + fT S i else fti S set i) = l
          rw [hnb, if_neg (by decide)]; exact q5
        · rw [fc_s q3 (by omega), hnb, if_neg (by decide), q5, q6, ha]
    have caseB : fB S (fdp S i) i l = 268435456 ∨ (l ≤ fgo S (i + 1) ∧ fB S (fdp S i) i l ≤ 9000 * (i + 1) ∧ ∃ set, set < 512 ∧ (∀ k, set.testBit k = true → (fD S (i + 1)).testBit k = true) ∧ fti S set (i + 1) = l ∧ fc S set (i + 1) = fB S (fdp S i) i l) := by
      by_cases hc : fT S i ≤ l ∧ ¬ fdp S i (l - fT S i) = 268435456
      · right
        rcases ih (l - fT S i) with q | ⟨q1, q2, set, q3, q4, q5, q6⟩
        · exact absurd q hc.2
        · have hb : fB S (fdp S i) i l = fdp S i (l - fT S i) + fW S i * l := by unfold fB; rw [if_pos hc]
          have hm := f_mul (b := l) b1 (by omega)
          have hs' : (set ||| 2 ^ fs S i) < 512 := Nat.or_lt_two_pow (n := 9) q3 (Nat.pow_lt_pow_of_lt (by decide) hD.1)
          have hbit : (set ||| 2 ^ fs S i).testBit (fs S i) = true := by rw [Nat.testBit_or, Nat.testBit_two_pow_self, Bool.or_true]
          have hcg := f_cong (S := S) hs' q3 i (by omega) (fun j hj => by
            have hne := ((fs_ok S).2.1 j i hj (by omega)).2
            rw [Nat.testBit_or, Nat.testBit_two_pow_of_ne (fun z => hne z.symm), Bool.or_false])
          refine ⟨by omega, by rw [hb]; omega, set ||| 2 ^ fs S i, hs', fun k hk => ?_, ?_, ?_⟩
          · rw [Nat.testBit_or, Bool.or_eq_true] at hk
            rcases hk with hk | hk
            · exact up k (q4 k hk)
            · rw [Nat.testBit_two_pow, decide_eq_true_iff] at hk
              exact (hD1 k).2 ⟨i, by omega, hk⟩
          · show (if (set ||| 2 ^ fs S i).testBit (fs S i) = true then fti S (set ||| 2 ^ fs S i) i + fT S i else _) = l
            rw [if_pos hbit, hcg.1, q5]
            omega
          · rw [fc_s hs' (by omega), if_pos hbit, hcg.1, hcg.2, q5, q6, hb, show l - fT S i + fT S i = l by omega]
      · exact .inl (by unfold fB; rw [if_neg hc])
    rw [e]
    rcases Nat.le_total (fA S (fdp S i) i l) (fB S (fdp S i) i l) with q | q
    · rw [Nat.min_eq_left q]; exact caseA
    · rw [Nat.min_eq_right q]; exact caseB
theorem fdp_2 {c mm lb nz wc : Nat} {S : ov_S} (hw : rl_w c mm lb nz wc S.1 S.1) {set : Nat} (hs : set < 512) : ∀ i, i ≤ 9 → fdp S i (fti S set i) ≤ fc S set i ∧ fc S set i ≤ 9000 * i ∧ fti S set i ≤ fgo S i
  | 0, _ => ⟨Nat.le_refl _, Nat.le_refl _, Nat.le_refl _⟩
  | i + 1, hi => by
    obtain ⟨h1, h2, h3⟩ := fdp_2 hw hs i (by omega)
    obtain ⟨b1, b2, b3⟩ := f_bd hw (i := i) (by omega)
    have hgo := fgo_le hw i (by omega)
    have eg : fgo S (i + 1) = fgo S i + fT S i := rfl
    have hne : ¬ fdp S i (fti S set i) = 268435456 := by omega
    rw [fc_s hs (by omega)]
    have et : fti S set (i + 1) = if set.testBit (fs S i) = true then fti S set i + fT S i else fti S set i := rfl
    cases z : set.testBit (fs S i)
    · rw [z] at et
      rw [if_neg (by decide)] at et ⊢
      have hm := f_mul (b := fgo S i - fti S set i + fT S i) b1 (by omega)
      refine ⟨?_, by omega, by omega⟩
      rw [et]
      refine Nat.le_trans (Nat.min_le_left _ _) ?_
      unfold fA
      rw [if_neg hne]
      omega
    · rw [z] at et
      rw [if_pos rfl] at et ⊢
      have hm := f_mul (b := fti S set i + fT S i) b1 (by omega)
      refine ⟨?_, by omega, by omega⟩
      rw [et]
      refine Nat.le_trans (Nat.min_le_right _ _) ?_
      unfold fB
      rw [if_pos ⟨by omega, by rw [Nat.add_sub_cancel]; exact hne⟩, Nat.add_sub_cancel]
      omega
/-! the class -/
theorem f_worth {d c mm lb nz wc : Nat} {S S' : ov_S} {Q : ov_Q} {D : Nat} (hd : 1 ≤ d) (hw : rl_w c mm lb nz wc S.1 S.1) (s1 : sc S S') (hD : D < 512) (h : Q (some (.inl (nI (fbs S D 9)))) S') : ov_V true true d 0 0 mq_Feelers_worthiestBut 0 [some (.inr (.inr (true, 12, 0))), some (.inl (nI D)), some (.inr (.inr (true, 30, 0))), some (.inr (.inr (true, 31, 0))), none, none, none] [] S' Q := by
  have hb9 : ∀ s, s ≤ 9 → 1 ≤ s → fbs S D s < s := by
    intro s
    induction s with
    | zero => intro _ h; exact absurd h (by omega)
    | succ s ih =>
      intro h1 _
      by_cases hc : D.testBit s = false ∧ (¬ fr S (fbs S D s) s ∨ D.testBit (fbs S D s) = true)
      · rw [fbs_y hc]; omega
      · rw [fbs_n hc]
        rcases Nat.eq_zero_or_pos s with e | e
        · rw [e]; exact Nat.zero_lt_one
        · have := ih (by omega) e
          omega
  have loop : ∀ (j s : Nat), s + j = 9 → 1 ≤ s → ov_V true true d 0 0 mq_Feelers_worthiestBut 6 [none, some (.inl (nI D)), some (.inr (.inr (true, 30, 0))), some (.inr (.inr (true, 31, 0))), some (.inl (nI (fbs S D s))), some (.inl (nI s)), none] [] S' Q := by
    intro j
    induction j with
    | zero =>
      intro s hs h1
      have e : s = 9 := by omega
      subst e
      exact r_Feelers_worthiestBut_6 ⟨fun _ => h, fun q => absurd (by decide) q⟩
    | succ j ih =>
      intro s hs h1
      have hs9 : s < 9 := by omega
      have hb := hb9 s (by omega) h1
      have ih := ih (s + 1) (by omega) (by omega)
      obtain ⟨_, p1, p2, _, p3, p4, p5, _⟩ := f_ok hw hs9
      obtain ⟨_, q1, q2, _, q3, q4, q5, _⟩ := f_ok hw (s := fbs S D s) (by omega)
      have e30 : ∀ k, ov_g S' 30 0 k = S.1 30 0 k := fun k => s1.2 30 0 k rfl
      have e31 : ∀ k, ov_g S' 31 0 k = S.1 31 0 k := fun k => s1.2 31 0 k rfl
      have ibs : ov_ib (nI s) 9 := zz_ib hs9 (by decide)
      have ibb : ov_ib (nI (fbs S D s)) 9 := zz_ib (by omega) (by decide)
      have bs := zz_bit (b := D) (t := s) (by omega) (by omega)
      have bb := zz_bit (b := D) (t := fbs S D s) (by omega) (by omega)
      have m1 : fw S s * ft S (fbs S D s) ≤ 8910 := f_mul p2 (by omega)
      have m2 : fw S (fbs S D s) * ft S s ≤ 8910 := f_mul q2 (by omega)
      have keep : fbs S D (s + 1) = fbs S D s → ov_V true true d 0 0 mq_Feelers_worthiestBut 68 [none, some (.inl (nI D)), some (.inr (.inr (true, 30, 0))), some (.inr (.inr (true, 31, 0))), some (.inl (nI (fbs S D s))), some (.inl (nI s)), none] [] S' Q := by
        intro e
        refine r_Feelers_worthiestBut_68 ?_
        rw [nI_1, ← e]
        exact ih
      have take : fbs S D (s + 1) = s → ov_V true true d 0 0 mq_Feelers_worthiestBut 64 [none, some (.inl (nI D)), some (.inr (.inr (true, 30, 0))), some (.inr (.inr (true, 31, 0))), none, some (.inl (nI s)), none] [] S' Q := by
        intro e
        refine r_Feelers_worthiestBut_64 (r_Feelers_worthiestBut_68 ?_)
        rw [e] at ih
        rw [nI_1]
        exact ih
      refine r_Feelers_worthiestBut_6 ?_
      rw [zz_ix (n := s) (by omega), zz_ix (n := fbs S D s) (by omega), e30, e30, e31, e31, p1, p3, q1, q3, pk_mul, pk_mul]
      refine ⟨fun q => absurd q (nI_ge (b := 9) hs9 (by decide)), fun _ => ⟨ibs, ibb, ibb, ibs, fun q => ?_, fun q => ?_⟩⟩
      · have hr : fr S (fbs S D s) s := (nI_leI (by omega) (by omega)).1 q
        refine r_Feelers_worthiestBut_39 (by omega) ⟨fun y => keep (fbs_n (fun z => by have := bs.1 y; rw [z.1] at this; cases this)), fun n => ⟨fun n2 => keep (fbs_n (fun z => z.2.elim (fun w => w hr) (fun w => n2 (bb.2 w)))), fun y2 => take (fbs_y ⟨?_, .inr (bb.1 y2)⟩)⟩⟩
        cases z : D.testBit s
        · rfl
        · exact absurd (bs.2 z) n
      · have hr : ¬ fr S (fbs S D s) s := fun z => q (nI_le z (by omega))
        refine r_Feelers_worthiestBut_39_2 (by omega) ⟨fun y => keep (fbs_n (fun z => by have := bs.1 y; rw [z.1] at this; cases this)), fun n => take (fbs_y ⟨?_, .inl hr⟩)⟩
        cases z : D.testBit s
        · rfl
        · exact absurd (bs.2 z) n
  have h0 : fbs S D 1 = 0 := by
    by_cases hc : D.testBit 0 = false ∧ (¬ fr S (fbs S D 0) 0 ∨ D.testBit (fbs S D 0) = true)
    · exact fbs_y hc
    · rw [fbs_n hc]; rfl
  have l1 := loop 8 1 (by omega) (by omega)
  rw [h0] at l1
  exact r_Feelers_worthiestBut_0 l1
def fE (S S' : ov_S) (g : Nat → Nat) : Prop := sc S S' ∧ ∀ l, l < 82 → S'.1 54 0 l = nI (g l)
theorem f_deal {d c mm lb nz wc i : Nat} {S S' : ov_S} {Q : ov_Q} (hd : 1 ≤ d) (hw : rl_w c mm lb nz wc S.1 S.1) (hi : i < 9) (hE : fE S S' (fdp S i)) (h : ∀ S2, fE S S2 (fdp S (i + 1)) → Q none S2) : ov_V true true d 0 0 mq_Feelers_dealOut 0 [some (.inr (.inr (true, 12, 0))), some (.inl (nI (fW S i))), some (.inl (nI (fT S i))), some (.inl (nI (fgo S i))), none, none, none] [] S' Q := by
  obtain ⟨b1, b2, b3⟩ := f_bd hw hi
  have hgo := fgo_le hw i (by omega)
  have hgo1 := fgo_le hw (i + 1) (by omega)
  have eg : fgo S (i + 1) = fgo S i + fT S i := rfl
  have hdp := fdp_1 hw i (by omega)
  have hle : ∀ l, fdp S i l ≤ 268435456 := fun l => by rcases hdp l with q | q <;> omega
  have hAle : ∀ l, l ≤ 81 → fA S (fdp S i) i l ≤ 268435456 := fun l hl => by
    unfold fA
    by_cases e : fdp S i l = 268435456
    · rw [if_pos e]; exact Nat.le_refl _
    · rw [if_neg e]
      have hm := f_mul (b := fgo S i - l + fT S i) b1 (by omega)
      rcases hdp l with q | q
      · exact absurd q e
      · omega
  -- g: how many are left to be looked at
  have loop : ∀ (g : Nat), g ≤ fgo S i + 1 → ∀ S', (∀ l, l < 82 → S'.1 54 0 l = nI (if l < g then fdp S i l else if g + fT S i ≤ l then fdp S (i + 1) l else fA S (fdp S i) i l)) → sc S S' → ∀ v : Int32, (0 < g → v = nI (g - 1)) → (g = 0 → v = -1) → ov_V true true d 0 0 mq_Feelers_dealOut 8 [some (.inr (.inr (true, 12, 0))), some (.inl (nI (fW S i))), some (.inl (nI (fT S i))), some (.inl (nI (fgo S i))), some (.inl v), none, none] [] S' Q := by
    intro g
    induction g with
    | zero =>
      intro _ S' f54 s1 v _ hv
      rw [hv rfl]
      refine r_Feelers_dealOut_8 ⟨fun _ => h S' ⟨s1, fun l hl => ?_⟩, fun q => absurd (by decide) q⟩
      rw [f54 l hl, if_neg (by omega)]
      by_cases e : 0 + fT S i ≤ l
      · rw [if_pos e]
      · rw [if_neg e]
        congr 1
        have hB : fB S (fdp S i) i l = 268435456 := by unfold fB; rw [if_neg (fun z => e (by omega))]
        have := hAle l (by omega)
        show _ = min (fA S (fdp S i) i l) (fB S (fdp S i) i l)
        rw [hB]
        omega
    | succ g ih =>
      intro hg S' f54 s1 v hv _
      rw [hv (by omega), Nat.add_sub_cancel]
      have hg81 : g ≤ 81 := by omega
      have eg54 : ov_g S' 54 0 g = nI (fdp S i g) := by rw [show ov_g S' 54 0 g = _ from f54 g (by omega), if_pos (by omega)]
      have ibg : ov_ib (nI g) 82 := zz_ib (by omega) (by decide)
      have hlg := hle g
      -- on to the next
      have nx : ∀ S2, sc S S2 → (∀ l, l < 82 → S2.1 54 0 l = nI (if l < g then fdp S i l else if g + fT S i ≤ l then fdp S (i + 1) l else fA S (fdp S i) i l)) → ov_V true true d 0 0 mq_Feelers_dealOut 100 [some (.inr (.inr (true, 12, 0))), some (.inl (nI (fW S i))), some (.inl (nI (fT S i))), some (.inl (nI (fgo S i))), some (.inl (nI g)), none, none] [] S2 Q := by
        intro S2 s2 f2
        refine r_Feelers_dealOut_100 (ih (by omega) S2 f2 s2 _ (fun hg0 => ?_) (fun hg0 => ?_))
        · obtain ⟨g', rfl⟩ : ∃ g', g = g' + 1 := ⟨g - 1, by omega⟩
          exact pk_m1 g'
        · rw [hg0]; rfl
      refine r_Feelers_dealOut_8 ?_
      rw [zz_ix (n := g) (by omega), eg54]
      refine ⟨fun q => absurd q (nI_pos (by omega)), fun _ => ⟨ibg, fun n => ?_, fun y => ?_⟩⟩
      · -- something stands there
        have hne : ¬ fdp S i g = 268435456 := fun z => n (by rw [z]; rfl)
        obtain ⟨k1, k2, _⟩ := (hdp g).elim (fun z => absurd z hne) (fun z => z)
        have hm1 := f_mul (b := fgo S i - g + fT S i) b1 (by omega)
        have hm2 := f_mul (b := g + fT S i) b1 (by omega)
        have eA : fA S (fdp S i) i g = fdp S i g + fW S i * (fgo S i - g + fT S i) := by unfold fA; rw [if_neg hne]
        have hin : 0 ≤ nI (g + fT S i) ∧ nI (g + fT S i) ≤ 81 := (zz_le (b := 81) rfl).2 ⟨_, by omega, rfl⟩
        have hAl := hAle (g + fT S i) (by omega)
        rw [pk_sub (show g ≤ fgo S i by omega), nI_add, pk_mul, nI_add, ← eA]
        refine r_Feelers_dealOut_51 (by omega) ?_
        rw [zz_ix (n := g) (by omega), nI_add, zz_ix (n := g + fT S i) (by omega), pk_mul, nI_add]
        have e54 : ov_g (ov_w S' 54 0 g (nI (fA S (fdp S i) i g))) 54 0 (g + fT S i) = nI (fA S (fdp S i) i (g + fT S i)) := by
          show (ov_w S' 54 0 g (nI (fA S (fdp S i) i g))).1 54 0 (g + fT S i) = _
          rw [rl_wr, if_neg (by omega), f54 _ (by omega), if_neg (by omega), if_neg (by omega)]
        have eB : fB S (fdp S i) i (g + fT S i) = fdp S i g + fW S i * (g + fT S i) := by
          unfold fB
          rw [if_pos ⟨by omega, by rw [Nat.add_sub_cancel]; exact hne⟩, Nat.add_sub_cancel]
        rw [e54, ← eB, w_min (a := fA S (fdp S i) i (g + fT S i)) (b := fB S (fdp S i) i (g + fT S i)) (by omega) (by omega)]
        refine ⟨ibg, fun q => absurd q n, fun _ => ⟨fun q => absurd hin q, fun _ => ⟨zz_ib (by omega) (by decide), zz_ib (by omega) (by decide), nx _ (sc_w (sc_w s1 rfl) rfl) (fun l hl => ?_)⟩⟩⟩
        rw [rl_wr]
        by_cases e1 : l = g + fT S i
        · rw [if_pos e1, if_neg (by omega), if_pos (by omega), e1]
          rfl
        · rw [if_neg e1, rl_wr]
          by_cases e2 : l = g
          · rw [if_pos e2, if_neg (by omega), if_neg (by omega), e2]
          · rw [if_neg e2, f54 l hl]
            congr 1
            by_cases e3 : l < g
            · rw [if_pos (by omega), if_pos e3]
            · rw [if_neg (by omega), if_neg e3]
              by_cases e4 : g + 1 + fT S i ≤ l
              · rw [if_pos e4, if_pos (by omega)]
              · rw [if_neg e4, if_neg (by omega)]
      · -- nothing stands there
        have he : fdp S i g = 268435456 := zz_inj (b := 268435456) (by omega) (by decide) y
        refine r_Feelers_dealOut_51_2 (by omega) ?_
        rw [zz_ix (n := g) (by omega)]
        refine ⟨ibg, fun _ => nx _ (sc_w s1 rfl) (fun l hl => ?_), fun q => absurd y q⟩
        rw [rl_wr]
        by_cases e2 : l = g
        · rw [if_pos e2, if_neg (by omega), if_neg (by omega), e2]
          unfold fA
          rw [if_pos he]
          rfl
        · rw [if_neg e2, f54 l hl]
          congr 1
          by_cases e3 : l < g
          · rw [if_pos (by omega), if_pos e3]
          · rw [if_neg (by omega), if_neg e3]
            by_cases e4 : g + 1 + fT S i ≤ l
            · rw [if_pos e4, if_pos (by omega)]
            · rw [if_neg e4]
              by_cases e5 : g + fT S i ≤ l
              · have el : l = g + fT S i := by omega
                rw [if_pos e5]
                have hB : fB S (fdp S i) i l = 268435456 := by
                  unfold fB
                  rw [if_neg (fun z => z.2 (by rw [el, Nat.add_sub_cancel]; exact he))]
                have := hAle l (by omega)
                show _ = min (fA S (fdp S i) i l) (fB S (fdp S i) i l)
                rw [hB]
                omega
              · rw [if_neg e5]
  have e81 : (if (81 : Int32) < nI (fgo S i) then 81 else nI (fgo S i)) = nI (fgo S i) := if_neg (fun q => absurd ((nI_ltI (a := 81) (by decide) (by omega)).1 q) (by omega))
  refine r_Feelers_dealOut_0 (by omega) ?_
  rw [e81]
  refine loop (fgo S i + 1) (Nat.le_refl _) S' (fun l hl => ?_) hE.1 _ (fun _ => by rw [Nat.add_sub_cancel]) (fun z => absurd z (by omega))
  rw [hE.2 l hl]
  congr 1
  by_cases e1 : l < fgo S i + 1
  · rw [if_pos e1]
  · rw [if_neg e1]
    have he : fdp S i l = 268435456 := (hdp l).elim (fun z => z) (fun z => absurd z.1 (by omega))
    have hA : fA S (fdp S i) i l = 268435456 := by unfold fA; rw [if_pos he]
    by_cases e2 : fgo S i + 1 + fT S i ≤ l
    · rw [if_pos e2, he]
      have hB : fB S (fdp S i) i l = 268435456 := by
        unfold fB
        rw [if_neg (fun z => z.2 ((hdp (l - fT S i)).elim (fun z => z) (fun z => absurd z.1 (by omega))))]
      show _ = min (fA S (fdp S i) i l) (fB S (fdp S i) i l)
      rw [hA, hB]
      rfl
    · rw [if_neg e2, hA, he]
theorem f_fill {d : Nat} {S0 : ov_S} {Q : ov_Q} (h : ∀ S', sc S0 S' → (∀ k, k < 82 → S'.1 54 0 k = nI 268435456) → Q none S') : ∀ (j i : Nat), i + j = 82 → ∀ S, sc S0 S → (∀ k, k < i → S.1 54 0 k = nI 268435456) → ov_V true true d 0 0 mq_Arrays_fillI 5 [some (.inr (.inr (true, 54, 0))), some (.inl 268435456), some (.inl (nI i)), some (.inl (nI 82))] [] S Q := by
  intro j
  induction j with
  | zero =>
    intro i hi S a1 a2
    have e : i = 82 := by omega
    subst e
    exact rx54_Arrays_fillI_5 ⟨fun _ => h S a1 a2, fun q => absurd (by decide) q⟩
  | succ j ih =>
    intro i hi S a1 a2
    refine rx54_Arrays_fillI_5 ⟨fun q => absurd q (nI_ge (by omega) (by decide)), fun _ => ⟨zz_ib (by omega) (by decide), ?_⟩⟩
    rw [nI_1, zz_ix (n := i) (by omega)]
    refine ih (i + 1) (by omega) _ (sc_w a1 rfl) (fun s hs => ?_)
    rw [rl_wr]
    by_cases e : s = i
    · rw [if_pos e]; rfl
    · rw [if_neg e]; exact a2 s (by omega)
/-- the least sum -/
def fAns (S : ov_S) (v : Nat) : Prop := v < 1000000 ∧ (∀ set, set < 512 → v ≤ fc S set 9) ∧ ∃ set, set < 512 ∧ v = fc S set 9
theorem f_E {d c mm lb nz wc : Nat} {S : ov_S} {Q : ov_Q} (hd : 4 ≤ d) (hw : rl_w c mm lb nz wc S.1 S.1) (h : ∀ S' v, sc S S' → fAns S v → Q (some (.inl (nI v))) S') : ov_V true true d 0 0 mq_Eye_felt 0 [some (.inr (.inr (true, 0, 0)))] [] S Q := by
  have h9 := fgo_le hw 9 (by omega)
  have fin : ∀ S', fE S S' (fdp S 9) → ∀ (j l v : Nat), l + j = 82 → v ≤ 268435456 → (∀ l', l' < l → v ≤ fdp S 9 l') → (v = 268435456 ∨ ∃ l', l' < 82 ∧ v = fdp S 9 l') → ov_V true true ((d - 1)) 0 0 mq_Feelers_leastSum 84 [some (.inr (.inr (true, 12, 0))), none, none, none, none, some (.inl (nI v)), some (.inl (nI l))] [] S' (fun r S1 => ov_V true true d 0 0 mq_Eye_felt 27 [none] (r.toList ++ []) S1 Q) := by
    intro S' hE j
    induction j with
    | zero =>
      intro l v hl hv hI hX
      have e : l = 82 := by omega
      subst e
      refine r_Feelers_leastSum_84 (by omega) ⟨fun _ => r_Eye_felt_27 (h S' v hE.1 ?_), fun q => absurd (by decide) q⟩
      have low : ∀ set, set < 512 → v ≤ fc S set 9 := fun set hs => by
        obtain ⟨a1, a2, a3⟩ := fdp_2 hw hs 9 (Nat.le_refl _)
        exact Nat.le_trans (hI _ (by omega)) a1
      have a0 := low 0 (by decide)
      have b0 := (fdp_2 hw (set := 0) (by decide) 9 (Nat.le_refl _)).2.1
      refine ⟨by omega, low, ?_⟩
      rcases hX with z | ⟨l', hl', z⟩
      · omega
      · rcases fdp_1 hw 9 (Nat.le_refl _) l' with q | ⟨_, _, set, q1, _, _, q2⟩
        · omega
        · exact ⟨set, q1, z.trans q2.symm⟩
    | succ j ih =>
      intro l v hl hv hI hX
      have hdl : fdp S 9 l ≤ 268435456 := by rcases fdp_1 hw 9 (Nat.le_refl _) l with q | q <;> omega
      refine r_Feelers_leastSum_84 (by omega) ?_
      rw [zz_ix (n := l) (by omega), show ov_g S' 54 0 l = _ from hE.2 l (by omega), w_min (a := v) (b := fdp S 9 l) (by omega) (by omega), nI_1]
      refine ⟨fun q => absurd q (show ¬ nI 81 < nI l from nI_nlt (by omega) (by decide)), fun _ => ⟨zz_ib (by omega) (by decide), ih (l + 1) _ (by omega) (by omega) (fun l' hl' => ?_) ?_⟩⟩
      · by_cases e : l' = l
        · rw [e]; exact Nat.min_le_right _ _
        · exact Nat.le_trans (Nat.min_le_left _ _) (hI l' (by omega))
      · rcases Nat.le_total v (fdp S 9 l) with q | q
        · rw [Nat.min_eq_left q]; exact hX
        · rw [Nat.min_eq_right q]; exact .inr ⟨l, by omega, rfl⟩
  have loop : ∀ (j i : Nat), i + j = 9 → ∀ S', fE S S' (fdp S i) → ov_V true true ((d - 1)) 0 0 mq_Feelers_leastSum 24 [some (.inr (.inr (true, 12, 0))), some (.inr (.inr (true, 30, 0))), some (.inr (.inr (true, 31, 0))), some (.inl (nI (fgo S i))), some (.inl (nI (fD S i))), some (.inl (nI i)), none] [] S' (fun r S1 => ov_V true true d 0 0 mq_Eye_felt 27 [none] (r.toList ++ []) S1 Q) := by
    intro j
    induction j with
    | zero =>
      intro i hi S' hE
      have e : i = 9 := by omega
      subst e
      exact r_Feelers_leastSum_24 (by omega) ⟨fun _ => fin S' hE 82 0 268435456 (by omega) (Nat.le_refl _) (fun l' hl' => absurd hl' (by omega)) (.inl rfl), fun q => absurd (by decide) q⟩
    | succ j ih =>
      intro i hi S' hE
      have hi9 : i < 9 := by omega
      have hD := fD_ok S i (by omega)
      have hs9 := (fs_ok S).1 i hi9
      obtain ⟨_, p1, _, _, p3, _, _, _⟩ := f_ok hw hs9
      refine r_Feelers_leastSum_24 (by omega) ⟨fun q => absurd q (nI_ge (b := 9) hi9 (by decide)), fun _ => f_worth (by omega) hw hE.1 hD.2.1 (r_Feelers_leastSum_39 (by omega) ?_)⟩
      have e30 : ov_g S' 30 0 (fs S i) = nI (fW S i) := (hE.1.2 30 0 _ rfl).trans p1
      have e31 : ov_g S' 31 0 (fs S i) = nI (fT S i) := (hE.1.2 31 0 _ rfl).trans p3
      rw [show fbs S (fD S i) 9 = fs S i from rfl, zz_ix (n := fs S i) (by omega), e30, e31]
      refine ⟨zz_ib hs9 (by decide), zz_ib hs9 (by decide), f_deal (by omega) hw hi9 hE (fun S2 hE2 => r_Feelers_leastSum_54 (by omega) ?_)⟩
      rw [zz_ix (n := fs S i) (by omega), show ov_g S2 31 0 (fs S i) = nI (fT S i) from (hE2.1.2 31 0 _ rfl).trans p3, nI_add, zz_wbo (by omega), nI_1]
      exact ⟨zz_ib hs9 (by decide), ih (i + 1) (by omega) S2 hE2⟩
  refine r_Eye_felt_0 (by omega) (r_Feelers_leastSum_0 (by omega) (rx54_Arrays_fillI_0 (f_fill (fun S1 s1 f1 => r_Feelers_leastSum_9 (loop 9 0 (by omega) _ ⟨sc_w s1 rfl, fun l hl => ?_⟩)) 82 0 (by omega) S sc_r (fun k hk => absurd hk (by omega)))))
  show (ov_w S1 54 0 0 0).1 54 0 l = nI (if l = 0 then 0 else 268435456)
  rw [rl_wr]
  by_cases e : l = 0
  · rw [if_pos e, if_pos e]; rfl
  · rw [if_neg e, if_neg e]; exact f1 l hl
/-! the reference -/
def fN (S S' : ov_S) (n : Nat) (tau : Nat → Nat) : Prop := sc S S' ∧ (∀ i, i < n → S'.1 94 0 i = nI (tau i) ∧ tau i < n) ∧ (∀ i j, i < j → j < n → fl S (tau i) (tau j)) ∧ ∀ s, s < n → ∃ i, i < n ∧ tau i = s
theorem f_ins {d c mm lb nz wc s : Nat} {S S' : ov_S} {Q : ov_Q} {tau : Nat → Nat} (hw : rl_w c mm lb nz wc S.1 S.1) (hs : s < 9) (hN : fN S S' s tau) (h : ∀ S2 tau2, fN S S2 (s + 1) tau2 → ov_V true true d 0 0 mq_Mod_felt 7 [some (.inr (.inr (true, 14, 0))), some (.inl (nI (s + 1))), none, none] [] S2 Q) : ov_V true true d 0 0 mq_Mod_felt 15 [some (.inr (.inr (true, 14, 0))), some (.inl (nI s)), some (.inl (nI s)), none] [] S' Q := by
  obtain ⟨n1, n2, n3, n4⟩ := hN
  obtain ⟨ps1, _, ps2, ps3, _, ps4, ps5, _⟩ := f_ok hw hs
  -- k: the place looked at
  have put : ∀ k, k ≤ s → ∀ S2, sc S S2 → (∀ j, j < k → S2.1 94 0 j = nI (tau j)) → (∀ j, k < j → j ≤ s → S2.1 94 0 j = nI (tau (j - 1))) → (∀ j, k ≤ j → j < s → fl S s (tau j)) → (∀ j, j < k → fl S (tau j) s) → ov_V true true d 0 0 mq_Mod_felt 87 [some (.inr (.inr (true, 14, 0))), some (.inl (nI s)), some (.inl (nI k)), none] [] S2 Q := by
    intro k hk S2 s2 a1 a2 a3 a4
    refine r_Mod_felt_87 ?_
    rw [zz_ix (n := k) (by omega), nI_1]
    refine ⟨zz_ib (by omega) (by decide), h _ (fun j => if j < k then tau j else if j = k then s else tau (j - 1)) ⟨sc_w s2 rfl, fun j hj => ⟨?_, ?_⟩, fun i j hij hj => ?_, fun v hv => ?_⟩⟩
    · show (ov_w S2 94 0 k (nI s)).1 94 0 j = nI (if j < k then tau j else if j = k then s else tau (j - 1))
      rw [rl_wr]
      by_cases e : j = k
      · rw [if_pos e, if_neg (by omega), if_pos e]
      · rw [if_neg e]
        by_cases e2 : j < k
        · rw [if_pos e2]; exact a1 j e2
        · rw [if_neg e2, if_neg e]; exact a2 j (by omega) (by omega)
    · show (if j < k then tau j else if j = k then s else tau (j - 1)) < s + 1
      by_cases e2 : j < k
      · rw [if_pos e2]
        have := (n2 j (by omega)).2
        omega
      · rw [if_neg e2]
        by_cases e : j = k
        · rw [if_pos e]; omega
        · rw [if_neg e]
          have := (n2 (j - 1) (by omega)).2
          omega
    · show fl S (if i < k then tau i else if i = k then s else tau (i - 1)) (if j < k then tau j else if j = k then s else tau (j - 1))
      by_cases i1 : i < k
      · rw [if_pos i1]
        by_cases j1 : j < k
        · rw [if_pos j1]; exact n3 i j hij (by omega)
        · rw [if_neg j1]
          by_cases j2 : j = k
          · rw [if_pos j2]; exact a4 i i1
          · rw [if_neg j2]; exact n3 i (j - 1) (by omega) (by omega)
      · rw [if_neg i1, if_neg (show ¬ j < k by omega), if_neg (show ¬ j = k by omega)]
        by_cases i2 : i = k
        · rw [if_pos i2]; exact a3 (j - 1) (by omega) (by omega)
        · rw [if_neg i2]; exact n3 (i - 1) (j - 1) (by omega) (by omega)
    · by_cases e : v = s
      · exact ⟨k, by omega, by show (if k < k then tau k else if k = k then s else tau (k - 1)) = v; rw [if_neg (by omega), if_pos rfl, e]⟩
      · obtain ⟨i, hi, ei⟩ := n4 v (by omega)
        by_cases i1 : i < k
        · exact ⟨i, by omega, by show (if i < k then tau i else _) = v; rw [if_pos i1, ei]⟩
        · exact ⟨i + 1, by omega, by show (if i + 1 < k then tau (i + 1) else if i + 1 = k then s else tau (i + 1 - 1)) = v; rw [if_neg (by omega), if_neg (by omega), Nat.add_sub_cancel, ei]⟩
  have loop : ∀ k, k ≤ s → ∀ S2, sc S S2 → (∀ j, j < k → S2.1 94 0 j = nI (tau j)) → (∀ j, k < j → j ≤ s → S2.1 94 0 j = nI (tau (j - 1))) → (∀ j, k ≤ j → j < s → fl S s (tau j)) → ov_V true true d 0 0 mq_Mod_felt 15 [some (.inr (.inr (true, 14, 0))), some (.inl (nI s)), some (.inl (nI k)), none] [] S2 Q := by
    intro k
    induction k with
    | zero =>
      intro hk S2 s2 a1 a2 a3
      exact r_Mod_felt_15 ⟨fun _ => put 0 hk S2 s2 a1 a2 a3 (fun j hj => absurd hj (by omega)), fun q => absurd (by decide) q⟩
    | succ k ih =>
      intro hk S2 s2 a1 a2 a3
      have ht := (n2 k (by omega)).2
      obtain ⟨pt1, _, pt2, pt3, _, pt4, pt5, _⟩ := f_ok hw (s := tau k) (by omega)
      have e94 : ov_g S2 94 0 k = nI (tau k) := a1 k (by omega)
      have ibk : ov_ib (nI k) 9 := zz_ib (by omega) (by decide)
      have ibt : ov_ib (nI (tau k)) 9 := zz_ib (by omega) (by decide)
      have ibs : ov_ib (nI s) 9 := zz_ib hs (by decide)
      have m1 : fw S s * ft S (tau k) ≤ 8910 := f_mul ps2 (by omega)
      have m2 : fw S (tau k) * ft S s ≤ 8910 := f_mul pt2 (by omega)
      refine r_Mod_felt_15 ⟨fun q => absurd q (nI_nle (by omega) (by omega)), fun _ => ?_⟩
      rw [nI_pred, zz_ix (n := s) (by omega), zz_ix (n := k) (by omega), e94, zz_ix (n := tau k) (by omega), show ov_g S2 92 0 s = nI (fw S s) from (s2.2 92 0 _ rfl).trans ps1, show ov_g S2 92 0 (tau k) = nI (fw S (tau k)) from (s2.2 92 0 _ rfl).trans pt1, show ov_g S2 93 0 (tau k) + 1 = nI (ft S (tau k)) from by rw [show ov_g S2 93 0 (tau k) = _ from s2.2 93 0 _ rfl]; exact pt3, show ov_g S2 93 0 s + 1 = nI (ft S s) from by rw [show ov_g S2 93 0 s = _ from s2.2 93 0 _ rfl]; exact ps3, pk_mul, pk_mul, zz_ix (n := k + 1) (by omega)]
      refine ⟨ibs, ibk, ibt, ibk, ibt, ibs, fun q => ?_, fun q => ⟨ibk, zz_ib (by omega) (by decide), ?_⟩⟩
      · have hr : fr S (tau k) s := (nI_leI (by omega) (by omega)).1 q
        have hl : fl S (tau k) s := .inr ⟨hr, ht⟩
        refine put (k + 1) hk S2 s2 a1 a2 a3 (fun j hj => ?_)
        by_cases e : j = k
        · rw [e]; exact hl
        · exact fl_t (n3 j k (by omega) (by omega)) hl
      · have hr : ¬ fr S (tau k) s := fun z => q (nI_le z (by omega))
        refine ih (by omega) _ (sc_w s2 rfl) (fun j hj => ?_) (fun j hj hj2 => ?_) (fun j hj hj2 => ?_)
        · rw [rl_wr, if_neg (by omega)]; exact a1 j (by omega)
        · rw [rl_wr]
          by_cases e : j = k + 1
          · rw [if_pos e, e, Nat.add_sub_cancel]
          · rw [if_neg e]; exact a2 j (by omega) hj2
        · by_cases e : j = k
          · rw [e]; exact .inl hr
          · exact a3 j (by omega) hj2
  exact loop s (Nat.le_refl _) S' n1 (fun j hj => (n2 j hj).1) (fun j hj hj2 => absurd hj (by omega)) (fun j hj hj2 => absurd hj (by omega))
theorem f_same {S S' : ov_S} {tau : Nat → Nat} (hN : fN S S' 9 tau) : ∀ i, i < 9 → tau i = fs S i := by
  obtain ⟨_, n2, n3, n4⟩ := hN
  obtain ⟨k1, k2, k3⟩ := fs_ok S
  intro i
  induction i using Nat.strongRecOn with
  | ind i ih =>
    intro hi
    obtain ⟨p, hp, ep⟩ := n4 (fs S i) (k1 i hi)
    obtain ⟨q, hq, eq⟩ := k3 (tau i) (n2 i hi).2
    have hpi : i ≤ p := by
      apply Classical.byContradiction
      intro hn
      have := ih p (by omega) (by omega)
      exact (k2 p i (by omega) hi).2 (this.symm.trans ep)
    have hqi : i ≤ q := by
      apply Classical.byContradiction
      intro hn
      have e1 := ih q (by omega) (by omega)
      have l1 := n3 q i (by omega) hi
      rw [e1, eq] at l1
      exact fl_as l1 l1
    by_cases e1 : p = i
    · rw [e1] at ep; exact ep
    · by_cases e2 : q = i
      · rw [e2] at eq; exact eq.symm
      · have l1 := n3 i p (by omega) hp
        have l2 := (k2 i q (by omega) hq).1
        rw [ep] at l1
        rw [eq] at l2
        exact absurd (fl_as l1 l2) (fun z => z)
theorem f_by {d c mm lb nz wc set : Nat} {S S' : ov_S} {Q : ov_Q} (hw : rl_w c mm lb nz wc S.1 S.1) (s1 : sc S S') (f94 : ∀ i, i < 9 → S'.1 94 0 i = nI (fs S i)) (hset : set < 512) (h : Q (some (.inl (nI (fcs S set 9)))) S') : ov_V true true d 0 0 mq_Mod_feltBy 0 [some (.inr (.inr (true, 14, 0))), some (.inl (nI set)), none, none, none, none] [] S' Q := by
  have loop : ∀ (j i : Nat), i + j = 9 → ov_V true true d 0 0 mq_Mod_feltBy 7 [some (.inr (.inr (true, 14, 0))), some (.inl (nI set)), some (.inl (nI (fcs S set i))), some (.inl (nI (fti S set i))), some (.inl (nI i)), none] [] S' Q := by
    intro j
    induction j with
    | zero =>
      intro i hi
      have e : i = 9 := by omega
      subst e
      exact r_Mod_feltBy_7 ⟨fun _ => h, fun q => absurd (by decide) q⟩
    | succ j ih =>
      intro i hi
      have hi9 : i < 9 := by omega
      have ih := ih (i + 1) (by omega)
      have hs9 := (fs_ok S).1 i hi9
      obtain ⟨p1, _, p2, p3, _, p4, p5, p6⟩ := f_ok hw hs9
      have e94 : ov_g S' 94 0 i = nI (fs S i) := f94 i hi9
      have e92 : ov_g S' 92 0 (fs S i) = nI (fW S i) := (s1.2 92 0 _ rfl).trans p1
      have e93 : ov_g S' 93 0 (fs S i) = nI (fT S i - 1) := (s1.2 93 0 _ rfl).trans p6
      have hT1 : 1 ≤ fT S i := p4
      have ec : fcs S set (i + 1) = if set.testBit (fs S i) = true then fcs S set i + fW S i * (fti S set i + fT S i) else fcs S set i := rfl
      have et : fti S set (i + 1) = if set.testBit (fs S i) = true then fti S set i + fT S i else fti S set i := rfl
      refine r_Mod_feltBy_7 ?_
      rw [zz_ix (n := i) (by omega), e94, zz_ix (n := fs S i) (by omega), zz_bitN (by omega) (by omega), e92, e93, nI_add, nI_1, show fti S set i + (fT S i - 1) + 1 = fti S set i + fT S i by omega, pk_mul, nI_add]
      have tb : nI (set / 2 ^ fs S i % 2) = 0 ↔ set.testBit (fs S i) = false := by
        rw [Nat.testBit_eq_decide_div_mod_eq]
        have h2 : set / 2 ^ fs S i % 2 < 2 := Nat.mod_lt _ (by decide)
        generalize set / 2 ^ fs S i % 2 = y at h2
        have : y = 0 ∨ y = 1 := by omega
        rcases this with e | e <;> subst e <;> decide
      refine ⟨fun q => absurd q (nI_ge (b := 9) hi9 (by decide)), fun _ => ⟨zz_ib hi9 (by decide), fun n => ⟨zz_ib hs9 (by decide), zz_ib hs9 (by decide), r_Mod_feltBy_59 ?_⟩, fun y => r_Mod_feltBy_59 ?_⟩⟩
      · have hb : set.testBit (fs S i) = true := by
          cases z : set.testBit (fs S i)
          · exact absurd (tb.2 z) n
          · rfl
        rw [ec, et, if_pos hb, if_pos hb] at ih
        rw [nI_1]
        exact ih
      · have hb : ¬ set.testBit (fs S i) = true := by rw [tb.1 y]; decide
        rw [ec, et, if_neg hb, if_neg hb] at ih
        rw [nI_1]
        exact ih
  exact r_Mod_feltBy_0 (loop 9 0 (by omega))
theorem f_M {d c mm lb nz wc : Nat} {S S0 : ov_S} {Q : ov_Q} (hd : 2 ≤ d) (hw : rl_w c mm lb nz wc S.1 S.1) (hs0 : sc S S0) (h : ∀ S' v, sc S S' → fAns S v → Q (some (.inl (nI v))) S') : ov_V true true d 0 0 mq_Mod_felt 0 [some (.inr (.inr (true, 14, 0))), none, none, none] [] S0 Q := by
  have sets : ∀ S', sc S S' → (∀ i, i < 9 → S'.1 94 0 i = nI (fs S i)) → ∀ (j set v : Nat), set + j = 512 → v ≤ 1000000 → (∀ s', s' < set → v ≤ fc S s' 9) → (v = 1000000 ∨ ∃ s', s' < 512 ∧ v = fc S s' 9) → ov_V true true d 0 0 mq_Mod_felt 106 [some (.inr (.inr (true, 14, 0))), some (.inl (nI v)), some (.inl (nI set)), none] [] S' Q := by
    intro S' s1 f94 j
    induction j with
    | zero =>
      intro set v hset hv hI hX
      have e : set = 512 := by omega
      subst e
      refine r_Mod_felt_106 (by omega) ⟨fun _ => h S' v s1 ?_, fun q => absurd (by decide) q⟩
      have a0 := hI 0 (by decide)
      have b0 := (fdp_2 hw (set := 0) (by decide) 9 (Nat.le_refl _)).2.1
      exact ⟨by omega, hI, hX.elim (fun z => absurd z (by omega)) (fun z => z)⟩
    | succ j ih =>
      intro set v hset hv hI hX
      have hs512 : set < 512 := by omega
      have hb := (fdp_2 hw hs512 9 (Nat.le_refl _)).2.1
      refine r_Mod_felt_106 (by omega) ⟨fun q => absurd q (nI_ge (b := 512) hs512 (by decide)), fun _ => f_by hw s1 f94 hs512 (r_Mod_felt_118 (by omega) ?_)⟩
      rw [(f_co set hs512).1]
      refine f_by hw s1 f94 (by omega) (r_Mod_felt_129 ?_)
      rw [nI_add]
      have ec : fcs S set 9 + fcs S (511 - set) 9 = fc S set 9 := rfl
      rw [ec]
      refine ⟨fun q => r_Mod_felt_141 ?_, fun q => r_Mod_felt_141 ?_⟩
      · have hle := (nI_leI (by omega) (by omega)).1 q
        rw [nI_1]
        refine ih (set + 1) v (by omega) hv (fun s' hs' => ?_) hX
        by_cases e : s' = set
        · rw [e]; exact hle
        · exact hI s' (by omega)
      · have hlt : fc S set 9 < v := Nat.lt_of_not_le (fun z => q (nI_le z (by omega)))
        rw [nI_1]
        refine ih (set + 1) _ (by omega) (by omega) (fun s' hs' => ?_) (.inr ⟨set, hs512, rfl⟩)
        by_cases e : s' = set
        · rw [e]; exact Nat.le_refl _
        · have := hI s' (by omega)
          omega
  have loop : ∀ (j s : Nat), s + j = 9 → ∀ S' tau, fN S S' s tau → ov_V true true d 0 0 mq_Mod_felt 7 [some (.inr (.inr (true, 14, 0))), some (.inl (nI s)), none, none] [] S' Q := by
    intro j
    induction j with
    | zero =>
      intro s hs S' tau hN
      have e : s = 9 := by omega
      subst e
      have hsm := f_same hN
      exact r_Mod_felt_7 ⟨fun _ => sets S' hN.1 (fun i hi => by rw [← hsm i hi]; exact (hN.2.1 i hi).1) 512 0 1000000 (by omega) (Nat.le_refl _) (fun s' hs' => absurd hs' (by omega)) (.inl rfl), fun q => absurd (by decide) q⟩
    | succ j ih =>
      intro s hs S' tau hN
      exact r_Mod_felt_7 ⟨fun q => absurd q (nI_ge (b := 9) (by omega) (by decide)), fun _ => f_ins hw (by omega) hN (fun S2 tau2 hN2 => ih (s + 1) (by omega) S2 tau2 hN2)⟩
  exact r_Mod_felt_0 (loop 9 0 (by omega) _ (fun _ => 0) ⟨sc_w hs0 rfl, fun i hi => absurd hi (by omega), fun i j _ hj => absurd hj (by omega), fun s hs => absurd hs (by omega)⟩)
theorem s_felt {d : Nat} {S : ov_S} (hd : 5 ≤ d) (h : rl_S S) : rl_2 d mq_Eye_felt mq_Mod_felt [some (.inr (.inr (true, 0, 0)))] [some (.inr (.inr (true, 14, 0))), none, none, none] S := by
  unfold rl_2
  obtain ⟨c, m, lb, nz, wc, hw, ho, hi⟩ := id h
  refine f_E (by omega) hw (fun S1 v s1 hv => f_M (by omega) hw s1 (fun S2 v' s2 hv' => sc_ans h s2 ?_))
  obtain ⟨a1, a2, s, hs, ea⟩ := hv
  obtain ⟨b1, b2, s', hs', eb⟩ := hv'
  have t1 := a2 s' hs'
  have t2 := b2 s hs
  have : v' = v := by omega
  rw [this]
