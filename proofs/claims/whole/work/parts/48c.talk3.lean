/-! ===== TALK: the reference ===== -/
/-- how many are found -/
def bG (F : Nat → Nat) : Nat → Nat := fun s => if F s < 1000000 then 1 else 0
theorem bG_le {F : Nat → Nat} : ∀ N, er_mu (bG F) N ≤ N
  | 0 => Nat.le_refl _
  | N + 1 => by
    have h := bG_le (F := F) N
    show er_mu (bG F) N + (if F N < 1000000 then 1 else 0) ≤ N + 1
    split <;> omega
theorem bG_lt {F : Nat → Nat} {k : Nat} (hk : ¬ F k < 1000000) : ∀ N, k < N → er_mu (bG F) N < N
  | 0, h => absurd h (by omega)
  | N + 1, h => by
    show er_mu (bG F) N + (if F N < 1000000 then 1 else 0) < N + 1
    by_cases e : k = N
    · rw [← e, if_neg hk]
      have := bG_le (F := F) k
      omega
    · have := bG_lt hk N (by omega)
      split <;> omega
theorem bG_up {F : Nat → Nat} {k v : Nat} (hk : ¬ F k < 1000000) (hv : v < 1000000) : ∀ N, (N ≤ k → er_mu (bG (er_up F k v)) N = er_mu (bG F) N) ∧ (k < N → er_mu (bG (er_up F k v)) N = er_mu (bG F) N + 1)
  | 0 => ⟨fun _ => rfl, fun h => absurd h (by omega)⟩
  | N + 1 => by
    obtain ⟨h1, h2⟩ := bG_up hk hv N
    have e1 : er_mu (bG (er_up F k v)) (N + 1) = er_mu (bG (er_up F k v)) N + (if (if N = k then v else F N) < 1000000 then 1 else 0) := rfl
    have e2 : er_mu (bG F) (N + 1) = er_mu (bG F) N + (if F N < 1000000 then 1 else 0) := rfl
    rw [e1, e2]
    refine ⟨fun h => ?_, fun h => ?_⟩
    · rw [h1 (by omega), if_neg (show ¬ N = k by omega)]
    · by_cases e : N = k
      · rw [if_pos e, if_pos hv, h1 (by omega), e, if_neg hk]
      · rw [if_neg e, h2 (by omega)]
        omega
/-- the search, before the one at k goes on: found ones in a row q of h, the highest number v -/
def bI (s0 : Nat) (F q : Nat → Nat) (h v : Nat) : Prop := (∀ i, i < h → q i < 46656 ∧ F (q i) ≤ v ∧ F (q i) ≤ i ∧ tR s0 (F (q i)) (q i)) ∧ (∀ i j, i < j → j < h → F (q i) ≤ F (q j)) ∧ (∀ s, s < 46656 → (F s < 1000000 ↔ ∃ i, i < h ∧ q i = s)) ∧ h = er_mu (bG F) 46656 ∧ (∀ s, s < 46656 → F s ≤ 1000000) ∧ v < 1000000
def bX (F q : Nat → Nat) (h : Nat) (F' q' : Nat → Nat) (h' : Nat) : Prop := h ≤ h' ∧ (∀ i, i < h → q' i = q i) ∧ ∀ s, F s < 1000000 → F' s = F s
theorem bX_r {F q : Nat → Nat} {h : Nat} : bX F q h F q h := ⟨Nat.le_refl _, fun _ _ => rfl, fun _ _ => rfl⟩
theorem bX_t {F q F1 q1 F2 q2 : Nat → Nat} {h h1 h2 : Nat} (a : bX F q h F1 q1 h1) (b : bX F1 q1 h1 F2 q2 h2) : bX F q h F2 q2 h2 := ⟨Nat.le_trans a.1 b.1, fun i hi => (b.2.1 i (by have := a.1; omega)).trans (a.2.1 i hi), fun s hs => (b.2.2 s (by rw [a.2.2 s hs]; exact hs)).trans (a.2.2 s hs)⟩
def bJ (S0 S : ov_S) (F q : Nat → Nat) (h : Nat) : Prop := sc S0 S ∧ (∀ s, s < 46656 → S.1 88 0 s = nI (F s)) ∧ (∀ i, i < h → S.1 89 0 i = nI (q i)) ∧ S.1 14 0 49 = nI h
/-- one state is looked at -/
theorem b_talks {d s0 k to v : Nat} {S0 S : ov_S} {Q : ov_Q} {F q : Nat → Nat} {h : Nat} (hJ : bJ S0 S F q h) (hI : bI s0 F q h v) (hk : k < h) (hv : v = F (q k) + 1) (hto : to < 46656) (hE : tE (q k) to)
    (hQ : ∀ S' F' q' h', bJ S0 S' F' q' h' → bI s0 F' q' h' v → bX F q h F' q' h' → F' to ≤ v → Q none S') : ov_V true true d 0 0 mq_Mod_talks 0 [some (.inr (.inr (true, 14, 0))), some (.inl (nI to)), some (.inl (nI v))] [] S Q := by
  obtain ⟨j1, j2, j3, j4⟩ := id hJ
  obtain ⟨i1, i2, i3, i4, i5, i6⟩ := id hI
  have hF6 := i5 to hto
  have ib : ov_ib (nI to) 46656 := zz_ib hto (by decide)
  refine r_Mod_talks_0 ?_
  rw [zz_ix (n := to) (by omega), show ov_g S 88 0 to = nI (F to) from j2 to hto]
  refine ⟨ib, fun y => ⟨ib, ?_⟩, fun n => ?_⟩
  · have hge : 1000000 ≤ F to := (nI_leI (a := 1000000) (by decide) (by omega)).1 y
    have hnf : ¬ F to < 1000000 := by omega
    have hh : h < 46656 := by rw [i4]; exact bG_lt hnf 46656 hto
    have e49 : ov_g (ov_w S 88 0 to (nI v)) 14 0 49 = nI h := j4
    rw [e49, zz_ix (n := h) (by omega)]
    have e49' : ov_g (ov_w (ov_w S 88 0 to (nI v)) 89 0 h (nI to)) 14 0 49 = nI h := j4
    rw [e49', nI_1]
    have hnot : ∀ i, i < h → q i ≠ to := fun i hi e => hnf ((i3 to hto).2 ⟨i, hi, e⟩)
    have hFq : ∀ i, i < h → er_up F to v (q i) = F (q i) := fun i hi => if_neg (hnot i hi)
    have hlow : ∀ i, i < h + 1 → ∀ P : Nat → Prop, (i < h → P (q i)) → (i = h → P to) → P (er_up q h to i) := by
      intro i hi P p1 p2
      show P (if i = h then to else q i)
      by_cases e : i = h
      · rw [if_pos e]; exact p2 e
      · rw [if_neg e]; exact p1 (by omega)
    have hvto : er_up F to v to = v := if_pos rfl
    refine ⟨zz_ib hh (by decide), hQ _ (er_up F to v) (er_up q h to) (h + 1) ⟨sc_w (sc_w (sc_w j1 rfl) rfl) rfl, fun s hs => ?_, fun i hi => ?_, rl_ww _ _ _ _ _⟩ ⟨fun i hi => ?_, fun i j hij hj => ?_, fun s hs => ?_, ?_, fun s hs => ?_, i6⟩ ⟨by omega, fun i hi => if_neg (by omega), fun s hs => if_neg (fun e => hnf (by rw [← e]; exact hs))⟩ (by rw [hvto]; exact Nat.le_refl _)⟩
    · show (ov_w S 88 0 to (nI v)).1 88 0 s = nI (if s = to then v else F s)
      rw [rl_wr]
      by_cases e : s = to
      · rw [if_pos e, if_pos e]
      · rw [if_neg e, if_neg e]; exact j2 s hs
    · show (ov_w (ov_w S 88 0 to (nI v)) 89 0 h (nI to)).1 89 0 i = nI (if i = h then to else q i)
      rw [rl_wr]
      by_cases e : i = h
      · rw [if_pos e, if_pos e]
      · rw [if_neg e, if_neg e]; exact j3 i (by omega)
    · show er_up q h to i < 46656 ∧ er_up F to v (er_up q h to i) ≤ v ∧ er_up F to v (er_up q h to i) ≤ i ∧ tR s0 (er_up F to v (er_up q h to i)) (er_up q h to i)
      refine hlow i hi (fun x => x < 46656 ∧ er_up F to v x ≤ v ∧ er_up F to v x ≤ i ∧ tR s0 (er_up F to v x) x) (fun hih => ?_) (fun e => ?_)
      · rw [hFq i hih]; exact i1 i hih
      · rw [hvto]
        have := (i1 k hk).2.2.1
        refine ⟨hto, Nat.le_refl _, by omega, ?_⟩
        rw [hv]
        exact .inr ⟨q k, (i1 k hk).2.2.2, hE⟩
    · have hi : i < h := by omega
      have e1 : er_up q h to i = q i := if_neg (by omega)
      rw [e1, hFq i hi]
      refine hlow j hj (fun x => F (q i) ≤ er_up F to v x) (fun hjh => ?_) (fun e => ?_)
      · rw [hFq j hjh]; exact i2 i j hij hjh
      · rw [hvto]; exact (i1 i hi).2.1
    · show (if s = to then v else F s) < 1000000 ↔ _
      by_cases e : s = to
      · rw [if_pos e]
        exact ⟨fun _ => ⟨h, by omega, by rw [e]; exact if_pos rfl⟩, fun _ => i6⟩
      · rw [if_neg e, i3 s hs]
        constructor
        · rintro ⟨i, a, b⟩
          exact ⟨i, by omega, by rw [← b]; exact if_neg (by omega)⟩
        · rintro ⟨i, a, b⟩
          have b : (if i = h then to else q i) = s := b
          by_cases e2 : i = h
          · rw [if_pos e2] at b; exact absurd b.symm e
          · rw [if_neg e2] at b; exact ⟨i, by omega, b⟩
    · rw [(bG_up hnf i6 46656).2 hto, ← i4]
    · show (if s = to then v else F s) ≤ 1000000
      by_cases e : s = to
      · rw [if_pos e]; omega
      · rw [if_neg e]; exact i5 s hs
  · have hlt : F to < 1000000 := Nat.lt_of_not_le (fun z => n (nI_le z (by omega)))
    obtain ⟨i, hi, e⟩ := (i3 to hto).1 hlt
    have := (i1 i hi).2.1
    rw [e] at this
    exact hQ S F q h hJ hI bX_r this
def bP (F : Nat → Nat) (s v n : Nat) : Prop := ∀ x m, x < 3 → m < 3 → 3 * x + m < n → (m ≠ pm (tA s) x → F (tN (tK s) (pv (tA s) x m) (tB s)) ≤ v) ∧ (m ≠ pm (tB s) x → F (tN (tK s) (tA s) (pv (tB s) x m)) ≤ v)
theorem bP_x {F F' : Nat → Nat} {q q' : Nat → Nat} {h h' s v n : Nat} (hv : v < 1000000) (hX : bX F q h F' q' h') (hP : bP F s v n) : bP F' s v n := by
  intro x m hx hm hl
  obtain ⟨a, b⟩ := hP x m hx hm hl
  refine ⟨fun e => ?_, fun e => ?_⟩
  · have := a e
    rw [hX.2.2 _ (by omega)]; exact this
  · have := b e
    rw [hX.2.2 _ (by omega)]; exact this
theorem t_8 : ∀ j : Nat, j < 3 → (8 : Int32) <<< (nI j &&& 31) = nI (2 ^ (3 + j)) := by decide +kernel
/-- all that goes on from the one at k -/
theorem b_from {d s0 k v s : Nat} {S0 S : ov_S} {Q : ov_Q} {F q : Nat → Nat} {h : Nat} (hd : 2 ≤ d) (hJ : bJ S0 S F q h) (hI : bI s0 F q h v) (hk : k < h) (hs : s = q k) (hv : v = F s + 1)
    (hQ : ∀ S' F' q' h', bJ S0 S' F' q' h' → bI s0 F' q' h' v → bX F q h F' q' h' → (∀ s', tE s s' → F' s' ≤ v) → Q none S') : ov_V true true d 0 0 mq_Mod_talkFrom 0 [some (.inr (.inr (true, 14, 0))), some (.inl (nI s)), none, none, none, none, none, none, none] [] S Q := by
  obtain ⟨i1, _, _, _, i5, i6⟩ := id hI
  have hs46 : s < 46656 := by rw [hs]; exact (i1 k hk).1
  obtain ⟨k1, k2, k3, k4⟩ := t_sp hs46
  have hFs := i5 s hs46
  have eK : (nI s / 729 : Int32) = nI (tK s) := pk_div (d := 729) (by omega) (by decide) (by decide)
  have eD : (nI s / 27 : Int32) = nI (s / 27) := pk_div (d := 27) (by omega) (by decide) (by decide)
  have eA : (nI (s / 27) - nI (s / 27) / 27 * 27 : Int32) = nI (tA s) := pk_rem (d := 27) (by omega) (by decide) (by decide)
  have eB : (nI s - nI s / 27 * 27 : Int32) = nI (tB s) := pk_rem (d := 27) (by omega) (by decide) (by decide)
  have eN : ∀ x a b : Nat, (729 * nI x + 27 * nI a + nI b : Int32) = nI (tN x a b) := by
    intro x a b
    show nI 729 * nI x + nI 27 * nI a + nI b = _
    rw [pk_mul, pk_mul, nI_add, nI_add]
    rfl
  -- one more state, keeping what is known
  have one : ∀ (S1 : ov_S) (F1 q1 : Nat → Nat) (h1 to : Nat) (Q1 : ov_Q) (d1 : Nat), bJ S0 S1 F1 q1 h1 → bI s0 F1 q1 h1 v → bX F q h F1 q1 h1 → tE s to → (∀ S' F' q' h', bJ S0 S' F' q' h' → bI s0 F' q' h' v → bX F q h F' q' h' → bX F1 q1 h1 F' q' h' → F' to ≤ v → Q1 none S') → ov_V true true d1 0 0 mq_Mod_talks 0 [some (.inr (.inr (true, 14, 0))), some (.inl (nI to)), some (.inl (nI v))] [] S1 Q1 := by
    intro S1 F1 q1 h1 to Q1 d1 a1 a2 a3 a4 a5
    have eq1 : q1 k = s := (a3.2.1 k hk).trans hs.symm
    have eF1 : F1 s = F s := a3.2.2 s (by omega)
    refine b_talks (k := k) a1 a2 (by have := a3.1; omega) (by rw [eq1, eF1]; exact hv) (t_lt hs46 a4) (by rw [eq1]; exact a4) (fun S' F' q' h' b1 b2 b3 b4 => a5 S' F' q' h' b1 b2 (bX_t a3 b3) b3 b4)
  -- hand-overs
  have hands : ∀ (x m : Nat), x < 3 → m < 3 → ∀ (S1 : ov_S) (F1 q1 : Nat → Nat) (h1 : Nat), bJ S0 S1 F1 q1 h1 → bI s0 F1 q1 h1 v → bX F q h F1 q1 h1 → bP F1 s v (3 * x + m) → (∀ S2 F2 q2 h2, bJ S0 S2 F2 q2 h2 → bI s0 F2 q2 h2 v → bX F q h F2 q2 h2 → bP F2 s v (3 * x + m + 1) → ov_V true true d 0 0 mq_Mod_talkFrom 42 [some (.inr (.inr (true, 14, 0))), none, some (.inl (nI (tK s))), some (.inl (nI (tA s))), some (.inl (nI (tB s))), some (.inl (nI v)), some (.inl (nI x)), some (.inl (nI (m + 1))), none] [] S2 Q) → ov_V true true d 0 0 mq_Mod_talkFrom 42 [some (.inr (.inr (true, 14, 0))), none, some (.inl (nI (tK s))), some (.inl (nI (tA s))), some (.inl (nI (tB s))), some (.inl (nI v)), some (.inl (nI x)), some (.inl (nI m)), none] [] S1 Q := by
    intro x m hx hm S1 F1 q1 h1 a1 a2 a3 a4 nx
    have pA := pm_ok (tA s) k2 x hx
    have pB := pm_ok (tB s) k3 x hx
    have vA := pv_ok (tA s) k2 x hx m hm
    have vB := pv_ok (tB s) k3 x hx m hm
    -- behind the one THREE
    have snd : ∀ S2 F2 q2 h2, bJ S0 S2 F2 q2 h2 → bI s0 F2 q2 h2 v → bX F q h F2 q2 h2 → bP F2 s v (3 * x + m) → (m ≠ pm (tA s) x → F2 (tN (tK s) (pv (tA s) x m) (tB s)) ≤ v) → ov_V true true d 0 0 mq_Mod_talkFrom 82 [some (.inr (.inr (true, 14, 0))), none, some (.inl (nI (tK s))), some (.inl (nI (tA s))), some (.inl (nI (tB s))), some (.inl (nI v)), some (.inl (nI x)), some (.inl (nI m)), none] [] S2 Q := by
      intro S2 F2 q2 h2 b1 b2 b3 b4 b5
      have fin : ∀ S3 F3 q3 h3, bJ S0 S3 F3 q3 h3 → bI s0 F3 q3 h3 v → bX F q h F3 q3 h3 → bX F2 q2 h2 F3 q3 h3 → (m ≠ pm (tB s) x → F3 (tN (tK s) (tA s) (pv (tB s) x m)) ≤ v) → ov_V true true d 0 0 mq_Mod_talkFrom 117 [some (.inr (.inr (true, 14, 0))), none, some (.inl (nI (tK s))), some (.inl (nI (tA s))), some (.inl (nI (tB s))), some (.inl (nI v)), some (.inl (nI x)), some (.inl (nI m)), none] [] S3 Q := by
        intro S3 F3 q3 h3 c1 c2 c3 c4 c5
        refine r_Mod_talkFrom_117 ?_
        rw [nI_1]
        refine nx S3 F3 q3 h3 c1 c2 c3 (fun x' m' hx' hm' hl => ?_)
        by_cases e : 3 * x' + m' < 3 * x + m
        · exact bP_x i6 c4 b4 x' m' hx' hm' e
        · have ex : x' = x := by omega
          have em : m' = m := by omega
          subst ex; subst em
          refine ⟨fun z => ?_, c5⟩
          have := b5 z
          rw [c4.2.2 _ (by omega)]; exact this
      refine r_Mod_talkFrom_82 (by omega) ?_
      rw [pB.1, vB.1, eN]
      refine ⟨fun y => fin S2 F2 q2 h2 b1 b2 b3 bX_r (fun z => absurd (zz_inj (by omega) (by omega) y) z), fun n => one S2 F2 q2 h2 _ _ _ b1 b2 b3 (.inr (.inl ⟨x, m, hx, hm, fun z => n (by rw [z]), rfl⟩)) (fun S3 F3 q3 h3 c1 c2 c3 c4 c5 => fin S3 F3 q3 h3 c1 c2 c3 c4 (fun _ => c5))⟩
    refine r_Mod_talkFrom_42 (by omega) ⟨fun z => absurd z (nI_ge (b := 3) hm (by decide)), fun _ => ?_⟩
    rw [pA.1, vA.1, eN]
    exact ⟨fun y => snd S1 F1 q1 h1 a1 a2 a3 a4 (fun z => absurd (zz_inj (by omega) (by omega) y) z), fun n => one S1 F1 q1 h1 _ _ _ a1 a2 a3 (.inl ⟨x, m, hx, hm, fun z => n (by rw [z]), rfl⟩) (fun S2 F2 q2 h2 b1 b2 b3 b4 b5 => snd S2 F2 q2 h2 b1 b2 b3 (bP_x i6 b4 a4) (fun _ => b5))⟩
  have rows : ∀ (x : Nat), x < 3 → ∀ (S1 : ov_S) (F1 q1 : Nat → Nat) (h1 : Nat), bJ S0 S1 F1 q1 h1 → bI s0 F1 q1 h1 v → bX F q h F1 q1 h1 → bP F1 s v (3 * x) → (∀ S2 F2 q2 h2, bJ S0 S2 F2 q2 h2 → bI s0 F2 q2 h2 v → bX F q h F2 q2 h2 → bP F2 s v (3 * (x + 1)) → ov_V true true d 0 0 mq_Mod_talkFrom 33 [some (.inr (.inr (true, 14, 0))), none, some (.inl (nI (tK s))), some (.inl (nI (tA s))), some (.inl (nI (tB s))), some (.inl (nI v)), some (.inl (nI (x + 1))), none, none] [] S2 Q) → ov_V true true d 0 0 mq_Mod_talkFrom 33 [some (.inr (.inr (true, 14, 0))), none, some (.inl (nI (tK s))), some (.inl (nI (tA s))), some (.inl (nI (tB s))), some (.inl (nI v)), some (.inl (nI x)), none, none] [] S1 Q := by
    intro x hx S1 F1 q1 h1 a1 a2 a3 a4 nx
    refine r_Mod_talkFrom_33 (by omega) ⟨fun z => absurd z (nI_ge (b := 3) hx (by decide)), fun _ => hands x 0 hx (by decide) S1 F1 q1 h1 a1 a2 a3 a4 (fun S2 F2 q2 h2 b1 b2 b3 b4 => hands x 1 hx (by decide) S2 F2 q2 h2 b1 b2 b3 b4 (fun S3 F3 q3 h3 c1 c2 c3 c4 => hands x 2 hx (by decide) S3 F3 q3 h3 c1 c2 c3 c4 (fun S4 F4 q4 h4 d1 d2 d3 d4 => r_Mod_talkFrom_42 (by omega) ⟨fun _ => ?_, fun z => absurd (by decide) z⟩)))⟩
    rw [nI_1]
    exact nx S4 F4 q4 h4 d1 d2 d3 d4
  refine r_Mod_talkFrom_0 ?_
  rw [zz_ix (n := s) (by omega), show ov_g S 88 0 s = nI (F s) from hJ.2.1 s hs46, nI_1, ← hv, eB, eK, eD, eA]
  refine ⟨zz_ib hs46 (by decide), rows 0 (by decide) S F q h hJ hI bX_r (fun x m _ _ hl => absurd hl (by omega)) (fun S1 F1 q1 h1 a1 a2 a3 a4 => rows 1 (by decide) S1 F1 q1 h1 a1 a2 a3 a4 (fun S2 F2 q2 h2 b1 b2 b3 b4 => rows 2 (by decide) S2 F2 q2 h2 b1 b2 b3 b4 (fun S3 F3 q3 h3 c1 c2 c3 c4 => r_Mod_talkFrom_33 (by omega) ⟨fun _ => ?_, fun z => absurd (by decide) z⟩)))⟩
  have pA1 : ov_mem (nI (tA s)) 1 = nI (pm (tA s) 1) := (pm_ok (tA s) k2 1 (by decide)).1
  have pA2 : ov_mem (nI (tA s)) 2 = nI (pm (tA s) 2) := (pm_ok (tA s) k2 2 (by decide)).1
  have pB1 : ov_mem (nI (tB s)) 1 = nI (pm (tB s) 1) := (pm_ok (tB s) k3 1 (by decide)).1
  have pB2 : ov_mem (nI (tB s)) 2 = nI (pm (tB s) 2) := (pm_ok (tB s) k3 2 (by decide)).1
  have lA1 := (pm_ok (tA s) k2 1 (by decide)).2
  have lA2 := (pm_ok (tA s) k2 2 (by decide)).2
  have lB1 := (pm_ok (tB s) k3 1 (by decide)).2
  have lB2 := (pm_ok (tB s) k3 2 (by decide)).2
  have a3' : (3 + nI (pm (tB s) 2) : Int32) = nI (3 + pm (tB s) 2) := nI_add 3 _
  rw [pA1, pA2, pB1, pB2, a3', zz_bitN (by omega) (by omega), zz_bitN (by omega) (by omega), zz_shl (by omega), t_8 _ lB1]
  have tb : ∀ j, nI (tK s / 2 ^ j % 2) = 1 ↔ (tK s).testBit j = true := by
    intro j
    rw [Nat.testBit_eq_decide_div_mod_eq]
    have h2 : tK s / 2 ^ j % 2 < 2 := Nat.mod_lt _ (by decide)
    generalize tK s / 2 ^ j % 2 = y at h2
    have : y = 0 ∨ y = 1 := by omega
    rcases this with e | e <;> subst e <;> decide
  -- what was found of hand-overs
  have fh : ∀ (F' q' : Nat → Nat) (h' : Nat), bX F3 q3 h3 F' q' h' → ∀ s', ((∃ x m, x < 3 ∧ m < 3 ∧ m ≠ pm (tA s) x ∧ s' = tN (tK s) (pv (tA s) x m) (tB s)) ∨ (∃ x m, x < 3 ∧ m < 3 ∧ m ≠ pm (tB s) x ∧ s' = tN (tK s) (tA s) (pv (tB s) x m))) → F' s' ≤ v := by
    intro F' q' h' hX s' hs'
    have c4' := bP_x i6 hX c4
    rcases hs' with ⟨x, m, hx, hm, hn, e⟩ | ⟨x, m, hx, hm, hn, e⟩
    · rw [e]; exact (c4' x m hx hm (by omega)).1 hn
    · rw [e]; exact (c4' x m hx hm (by omega)).2 hn
  have say : tS s → ov_V true true d 0 0 mq_Mod_talkFrom 187 [some (.inr (.inr (true, 14, 0))), none, some (.inl (nI (tK s))), some (.inl (nI (tA s))), some (.inl (nI (tB s))), some (.inl (nI v)), some (.inl (nI (2 ^ pm (tA s) 1))), some (.inl (nI (2 ^ (3 + pm (tB s) 1)))), none] [.inl 1] S3 Q := by
    intro hS
    refine r_Mod_talkFrom_187_2 (by omega) ?_
    rw [zz_or, eN]
    refine one S3 F3 q3 h3 _ _ _ c1 c2 c3 (.inr (.inr ⟨hS, .inl rfl⟩)) (fun S4 F4 q4 h4 d1 d2 d3 d4 d5 => r_Mod_talkFrom_212 (by omega) ?_)
    rw [zz_or, eN]
    refine one S4 F4 q4 h4 _ _ _ d1 d2 d3 (.inr (.inr ⟨hS, .inr rfl⟩)) (fun S5 F5 q5 h5 f1 f2 f3 f4 f5 => r_Mod_talkFrom_229 (hQ S5 F5 q5 h5 f1 f2 f3 (fun s' hs' => ?_)))
    rcases hs' with z | z | ⟨_, z | z⟩
    · exact fh F5 q5 h5 (bX_t d4 f4) s' (.inl z)
    · exact fh F5 q5 h5 (bX_t d4 f4) s' (.inr z)
    · rw [z, f4.2.2 _ (by omega)]; exact d5
    · rw [z]; exact f5
  refine ⟨fun y => r_Mod_talkFrom_182 (say (.inl ((tb _).1 y))), fun n => ⟨fun n2 => r_Mod_talkFrom_187 (hQ S3 F3 q3 h3 c1 c2 c3 (fun s' hs' => ?_)), fun y => r_Mod_talkFrom_182 (say (.inr ((tb _).1 y)))⟩⟩
  rcases hs' with z | z | ⟨hS, _⟩
  · exact fh F3 q3 h3 bX_r s' (.inl z)
  · exact fh F3 q3 h3 bX_r s' (.inr z)
  · exact hS.elim (fun w => absurd ((tb _).2 w) n) (fun w => absurd ((tb _).2 w) n2)
theorem b_loop {d s0 : Nat} {S0 : ov_S} {Q : ov_Q} (hd : 3 ≤ d) (h0 : s0 < 46656) (hg : ∃ n s, tR s0 n s ∧ tK s = 63) (hQ : ∀ S' n, sc S0 S' → n < 1000000 → tMin s0 n → Q (some (.inl (nI n))) S') : ∀ (j k : Nat), k + j = 46656 → ∀ S F q h v, bJ S0 S F q h → bI s0 F q h v → 0 < h → q 0 = s0 → (k < h → v ≤ F (q k) + 1) → (∀ i, i < k → i < h ∧ tK (q i) ≠ 63 ∧ ∀ s', tE (q i) s' → F s' ≤ F (q i) + 1) → ov_V true true d 0 0 mq_Mod_talk 115 [some (.inr (.inr (true, 14, 0))), none, none, none, none, some (.inl (nI k))] [] S Q := by
  intro j
  -- the row isn't at its end
  have more : ∀ (k : Nat) (F q : Nat → Nat) (h v : Nat), bI s0 F q h v → 0 < h → q 0 = s0 → (∀ i, i < k → i < h ∧ tK (q i) ≠ 63 ∧ ∀ s', tE (q i) s' → F s' ≤ F (q i) + 1) → k < h := by
    intro k F q h v hI hh hq hP
    apply Classical.byContradiction
    intro hn
    obtain ⟨i1, _, i3, i4, _, i6⟩ := hI
    obtain ⟨n, s, g1, g2⟩ := hg
    have all : ∀ n s, tR s0 n s → ∃ i, i < h ∧ q i = s := by
      intro n
      induction n with
      | zero => intro s e; exact ⟨0, hh, by rw [show s = s0 from e]; exact hq⟩
      | succ n ih =>
        rintro s (z | ⟨s', z1, z2⟩)
        · exact ih s z
        · obtain ⟨i, hi, e⟩ := ih s' z1
          have := (hP i (by omega)).2.2 s (by rw [e]; exact z2)
          have h2 := (i1 i hi).2.1
          exact (i3 s (t_lt (tR_lt h0 n s' z1) z2)).1 (by
            have h3 := (i1 i hi).2.2.1
            have h4 : h ≤ 46656 := by rw [i4]; exact bG_le 46656
            omega)
    obtain ⟨i, hi, e⟩ := all n s g1
    exact (hP i (by omega)).2.1 (by rw [e]; exact g2)
  induction j with
  | zero =>
    intro k hk S F q h v hJ hI hh hq hv hP
    have h1 := more k F q h v hI hh hq hP
    have h2 : h ≤ 46656 := by rw [hI.2.2.2.1]; exact bG_le 46656
    exact absurd h1 (by omega)
  | succ j ih =>
    intro k hk S F q h v hJ hI hh hq hv hP
    have hkh := more k F q h v hI hh hq hP
    obtain ⟨i1, i2, i3, i4, i5, i6⟩ := id hI
    obtain ⟨a1, a2, a3, a4⟩ := i1 k hkh
    have e89 : ov_g S 89 0 k = nI (q k) := hJ.2.2.1 k hkh
    have eK : (nI (q k) / 729 : Int32) = nI (tK (q k)) := pk_div (d := 729) (by omega) (by decide) (by decide)
    have hK64 := (t_sp a1).1
    have ibk : ov_ib (nI k) 46656 := zz_ib (by omega) (by decide)
    refine r_Mod_talk_115 (by omega) ?_
    rw [zz_ix (n := k) (by omega), e89, eK, zz_ix (n := q k) (by omega), show ov_g S 88 0 (q k) = nI (F (q k)) from hJ.2.1 _ a1]
    refine ⟨ibk, fun y => ⟨ibk, zz_ib a1 (by decide), hQ S (F (q k)) hJ.1 (by omega) ⟨⟨q k, a4, zz_inj (b := 63) (by omega) (by decide) y⟩, fun m hm s hs hs63 => ?_⟩⟩, fun n => ⟨ibk, ?_⟩⟩
    · -- nothing was overlooked
      have low : ∀ n s, n < F (q k) → tR s0 n s → ∃ i, i < k ∧ q i = s ∧ F s ≤ n := by
        intro n
        induction n with
        | zero =>
          intro s hn e
          have e : s = s0 := e
          have hF0 : F s0 ≤ 0 := by rw [← hq]; exact (i1 0 hh).2.2.1
          have hk0 : 0 < k := by
            apply Classical.byContradiction
            intro z
            have : k = 0 := by omega
            rw [this, hq] at hn
            omega
          exact ⟨0, hk0, by rw [e]; exact hq, by rw [e]; exact hF0⟩
        | succ n ih2 =>
          rintro s hn (z | ⟨s', z1, z2⟩)
          · obtain ⟨i, b1, b2, b3⟩ := ih2 s (by omega) z
            exact ⟨i, b1, b2, by omega⟩
          · obtain ⟨i, b1, b2, b3⟩ := ih2 s' (by omega) z1
            have hF := (hP i b1).2.2 s (by rw [b2]; exact z2)
            rw [b2] at hF
            obtain ⟨i', c1, c2⟩ := (i3 s (t_lt (tR_lt h0 n s' z1) z2)).1 (by omega)
            refine ⟨i', ?_, c2, by omega⟩
            apply Classical.byContradiction
            intro hn2
            rcases Nat.lt_or_ge k i' with w | w
            · have := i2 k i' w c1
              rw [c2] at this
              omega
            · have : i' = k := by omega
              rw [this] at c2
              rw [c2] at hn
              omega
      obtain ⟨i, b1, b2, _⟩ := low m s hm hs
      exact (hP i b1).2.1 (by rw [b2]; exact hs63)
    · have n63 : tK (q k) ≠ 63 := fun e => n (by rw [e]; rfl)
      have hI' : bI s0 F q h (F (q k) + 1) := ⟨fun i hi => ⟨(i1 i hi).1, Nat.le_trans (i1 i hi).2.1 (hv hkh), (i1 i hi).2.2⟩, i2, i3, i4, i5, by omega⟩
      refine b_from (k := k) (v := F (q k) + 1) (by omega) hJ hI' hkh rfl rfl (fun S' F' q' h' b1 b2 b3 b4 => r_Mod_talk_142 ?_)
      rw [nI_1]
      have eqi : ∀ i, i < h → q' i = q i := b3.2.1
      have eFi : ∀ i, i < h → F' (q i) = F (q i) := fun i hi => b3.2.2 _ (by have := (i1 i hi).2.1; omega)
      refine ih (k + 1) (by omega) S' F' q' h' (F (q k) + 1) b1 b2 (by have := b3.1; omega) (by rw [eqi 0 hh]; exact hq) (fun hk1 => ?_) (fun i hi => ?_)
      · have := b2.2.1 k (k + 1) (by omega) hk1
        rw [eqi k hkh, eFi k hkh] at this
        omega
      · by_cases e : i = k
        · subst e
          refine ⟨by have := b3.1; omega, by rw [eqi i hkh]; exact n63, fun s' hs' => ?_⟩
          rw [eqi i hkh] at hs' ⊢
          rw [eFi i hkh]
          exact b4 s' hs'
        · obtain ⟨c1, c2, c3⟩ := hP i (by omega)
          refine ⟨by have := b3.1; omega, by rw [eqi i c1]; exact c2, fun s' hs' => ?_⟩
          rw [eqi i c1] at hs' ⊢
          have hF := c3 s' hs'
          have hlt : F s' < 1000000 := by
            have := (i1 i c1).2.1
            have := (i1 i c1).2.2.1
            have h4 : h ≤ 46656 := by rw [i4]; exact bG_le 46656
            omega
          rw [b3.2.2 s' hlt, eFi i c1]
          exact hF
theorem b_fill {d : Nat} {S0 : ov_S} {Q : ov_Q} {v1 v2 v4 : Int32} (h : ∀ S', sc S0 S' → (∀ s, s < 46656 → S'.1 88 0 s = nI 1000000) → ov_V true true d 0 0 mq_Mod_talk 63 [some (.inr (.inr (true, 14, 0))), some (.inl v1), some (.inl v2), none, some (.inl v4), some (.inl (nI 46656))] [] S' Q) (hd : 1 ≤ d) : ∀ (j i : Nat), i + j = 46656 → ∀ S, sc S0 S → (∀ s, s < i → S.1 88 0 s = nI 1000000) → ov_V true true d 0 0 mq_Mod_talk 63 [some (.inr (.inr (true, 14, 0))), some (.inl v1), some (.inl v2), none, some (.inl v4), some (.inl (nI i))] [] S Q := by
  intro j
  induction j with
  | zero =>
    intro i hi S a1 a2
    have e : i = 46656 := by omega
    subst e
    exact h S a1 a2
  | succ j ih =>
    intro i hi S a1 a2
    refine r_Mod_talk_63 hd ⟨fun q => absurd q (nI_ge (b := 46656) (by omega) (by decide)), fun _ => ⟨zz_ib (by omega) (by decide), ?_⟩⟩
    rw [nI_1, zz_ix (n := i) (by omega)]
    refine ih (i + 1) (by omega) _ (sc_w a1 rfl) (fun s hs => ?_)
    rw [rl_wr]
    by_cases e : s = i
    · rw [if_pos e]; rfl
    · rw [if_neg e]; exact a2 s (by omega)
theorem bG_0 : ∀ N, er_mu (bG (fun _ => 1000000)) N = 0
  | 0 => rfl
  | N + 1 => by
    show er_mu (bG (fun _ => 1000000)) N + (if 1000000 < 1000000 then 1 else 0) = 0
    rw [bG_0 N, if_neg (by decide)]
theorem t_k8 : ∀ a : Nat, a < 8 → ∀ b : Nat, b < 8 → (nI a ||| (nI b <<< ((3 : Int32) &&& 31))) = nI (a + 8 * b) ∧ (nI a + (nI b <<< ((3 : Int32) &&& 31))) = nI (a + 8 * b) := by decide +kernel
theorem b_M {d c mm lb nz wc t u f : Nat} {S S0 : ov_S} {Q : ov_Q} (hd : 5 ≤ d) (hw : rl_w c mm lb nz wc S.1 S.1) (hs0 : sc S S0) (ht : t < 4) (hu : u < 4) (hf : f < 10) (h0 : qk S t f + 8 * qk S u f = 0 → ∀ S', sc S S' → Q (some (.inl (-1))) S') (h : 0 < qk S t f + 8 * qk S u f → ∀ S' n, sc S S' → n < 1000000 → tMin (tN (qk S t f + 8 * qk S u f) (qp S t) (qp S u)) n → Q (some (.inl (nI n))) S') : ov_V true true ((d - 1)) 0 0 mq_Mod_knowersOf 0 [some (.inr (.inr (true, 14, 0))), some (.inl (nI t)), some (.inl (nI f)), none, none] [] S0 (fun r S1 => ov_V true true d 0 0 mq_Mod_talk 42 [some (.inr (.inr (true, 14, 0))), some (.inl (nI t)), some (.inl (nI u)), some (.inl (nI f)), none, none] (r.toList ++ []) S1 Q) := by
  have ka := qk_lt S t f
  have kb := qk_lt S u f
  have pa := (qp_lt hw ht).1
  have pb := (qp_lt hw hu).1
  refine qk_M ht hf (r_Mod_talk_42 (by omega) (qk_M hu hf (r_Mod_talk_48 ?_)))
  rw [qk_sc hs0, qk_sc hs0, (t_k8 _ ka _ kb).1]
  refine ⟨fun n => ?_, fun y => h0 ((zz_n0 (by omega)).1 y) S0 hs0⟩
  have hK : 0 < qk S t f + 8 * qk S u f := by
    apply Classical.byContradiction
    intro z
    exact n (by rw [show qk S t f + 8 * qk S u f = 0 by omega]; rfl)
  have h := h hK
  generalize hKK : qk S t f + 8 * qk S u f = K at h hK
  refine b_fill (S0 := S) (fun S1 s1 f88 => r_Mod_talk_63 (by omega) ⟨fun _ => ?_, fun q => absurd (by decide) q⟩) (by omega) 46656 0 (by omega) S0 hs0 (fun s hs => absurd hs (by omega))
  have s1' : sc S (ov_w S1 14 0 49 0) := sc_w s1 rfl
  refine qs_M (by omega) (sc_W hw s1') ht (r_Mod_talk_98 (by omega) (qs_M (by omega) (sc_W hw s1') hu (r_Mod_talk_103 (by omega) ?_)))
  have eN : (729 * nI K + 27 * nI (qp S t) + nI (qp S u) : Int32) = nI (tN K (qp S t) (qp S u)) := by
    show nI 729 * nI K + nI 27 * nI _ + nI _ = _
    rw [pk_mul, pk_mul, nI_add, nI_add]
    rfl
  rw [qp_sc s1', qp_sc s1', eN]
  have hs46 : tN K (qp S t) (qp S u) < 46656 := by unfold tN; omega
  generalize hst : tN K (qp S t) (qp S u) = st at h hs46
  have eK : tK st = K := by rw [← hst]; exact (tN_ok pa pb).1
  have ib : ov_ib (nI st) 46656 := zz_ib hs46 (by decide)
  have hg : ∃ n s, tR st n s ∧ tK s = 63 := by
    obtain ⟨k1, k2, k3, _⟩ := t_sp hs46
    obtain ⟨p, hp⟩ := c_all (tp_lt k2 k3).1 k1 (by rw [eK]; exact hK)
    obtain ⟨s, a1, _, a3⟩ := cR_t hs46 13 p 63 hp
    exact ⟨13, s, a1, a3⟩
  refine r_Mod_talks_0 ?_
  have e88 : ov_g (ov_w S1 14 0 49 0) 88 0 st = nI 1000000 := f88 st hs46
  have e49 : ov_g (ov_w (ov_w S1 14 0 49 0) 88 0 st 0) 14 0 49 = nI 0 := rl_ww S1 14 0 49 0
  rw [zz_ix (n := st) (by omega), e88, e49]
  have e49' : ov_g (ov_w (ov_w (ov_w S1 14 0 49 0) 88 0 st 0) 89 0 (ov_ix (nI 0)) (nI st)) 14 0 49 = nI 0 := rl_ww S1 14 0 49 0
  rw [e49', zz_ix (n := 0) (by decide), nI_1]
  refine ⟨ib, fun _ => ⟨ib, zz_ib (by decide) (by decide), r_Mod_talk_112 (b_loop (s0 := st) (S0 := S) (by omega) hs46 hg (fun S' n a1 a2 a3 => h S' n a1 a2 a3) 46656 0 (by omega) _ (er_up (fun _ => 1000000) st 0) (fun _ => st) 1 0 ⟨sc_w (sc_w (sc_w s1' rfl) rfl) rfl, fun s hs => ?_, fun i hi => ?_, rl_ww _ _ _ _ _⟩ ⟨fun i hi => ?_, fun i j hij hj => absurd hj (by omega), fun s hs => ?_, ?_, fun s hs => ?_, by decide⟩ (by decide) rfl (fun _ => Nat.zero_le _) (fun i hi => absurd hi (by omega)))⟩, fun q => absurd (by decide) q⟩
  · show (ov_w (ov_w S1 14 0 49 0) 88 0 st 0).1 88 0 s = nI (if s = st then 0 else 1000000)
    rw [rl_wr]
    by_cases e : s = st
    · rw [if_pos e, if_pos e]; rfl
    · rw [if_neg e, if_neg e]; exact f88 s hs
  · have : i = 0 := by omega
    subst this
    exact rl_ww (ov_w (ov_w S1 14 0 49 0) 88 0 st 0) 89 0 0 (nI st)
  · have e0 : er_up (fun _ => 1000000) st 0 st = 0 := if_pos rfl
    show st < 46656 ∧ er_up (fun _ => 1000000) st 0 st ≤ 0 ∧ er_up (fun _ => 1000000) st 0 st ≤ i ∧ tR st (er_up (fun _ => 1000000) st 0 st) st
    rw [e0]
    exact ⟨hs46, Nat.le_refl _, Nat.zero_le _, rfl⟩
  · show (if s = st then 0 else 1000000) < 1000000 ↔ ∃ i, i < 1 ∧ st = s
    by_cases e : s = st
    · rw [if_pos e]; exact ⟨fun _ => ⟨0, by decide, e.symm⟩, fun _ => by decide⟩
    · rw [if_neg e]; exact ⟨fun z => absurd z (by decide), fun ⟨_, _, z⟩ => absurd z.symm e⟩
  · rw [(bG_up (F := fun _ => 1000000) (k := st) (v := 0) (by decide) (by decide) 46656).2 hs46, bG_0]
  · show (if s = st then 0 else 1000000) ≤ 1000000
    split <;> omega
theorem s_talk {d : Nat} {S : ov_S} {v1 v2 v3 : Int32} (hd : 7 ≤ d) (h : rl_S S) : rl_2 d mq_Eye_talk mq_Mod_talk [some (.inr (.inr (true, 0, 0))), some (.inl v1), some (.inl v2), some (.inl v3), none, none, none] [some (.inr (.inr (true, 14, 0))), some (.inl v1), some (.inl v2), some (.inl v3), none, none] S := by
  unfold rl_2
  obtain ⟨c, m, lb, nz, wc, hw, ho, hi⟩ := id h
  have hc := hw.1.1
  have hfe : ∀ v : Int32, (0 ≤ v ∧ v ≤ 9) ↔ (0 ≤ v ∧ v < 10) := fun v => by
    rw [zz_le (b := 9) rfl, zz_lt (b := 10) rfl]
    exact ⟨fun ⟨k, hk, e⟩ => ⟨k, by omega, e⟩, fun ⟨k, hk, e⟩ => ⟨k, by omega, e⟩⟩
  have hT : ∀ v : Int32, ((0 ≤ v ∧ v ≤ ov_g S 1 0 2 - 1) ∧ v < 4) ↔ (0 ≤ v ∧ v < ov_g (ov_w S 14 0 0 0) 14 0 2) := fun v => (w_three hc hw.1.2.1).trans (m_three (S := ov_w S 14 0 0 0) hc hw.1.2.2).symm
  have fl3 : ∀ v : Int32, ((0 ≤ v ∧ v ≤ ov_g S 1 0 2 - 1) ∧ v < 4) → ov_g S 2 0 (ov_ix v) ≠ 0 := fun v q => by
    obtain ⟨t, ht, rfl⟩ := (w_three hc hw.1.2.1).1 q
    rw [zz_ix (by omega)]
    exact ho.2.2.2.1 t (by omega)
  have no : ¬ (((0 ≤ v1 ∧ v1 ≤ ov_g S 1 0 2 - 1) ∧ v1 < 4) ∧ ((0 ≤ v2 ∧ v2 ≤ ov_g S 1 0 2 - 1) ∧ v2 < 4) ∧ (¬ v1 = v2) ∧ (0 ≤ v3 ∧ v3 ≤ 9)) → ov_V true true d 0 0 mq_Mod_talk 0 [some (.inr (.inr (true, 14, 0))), some (.inl v1), some (.inl v2), some (.inl v3), none, none] [] S (fun r' S2 => rl_e (some (.inl (-1))) r' S2) := by
    intro n
    exact r_Mod_talk_0 (by omega) ⟨fun _ => rl_same h rfl, fun q1 => ⟨fun _ => rl_same h rfl, fun q2 => ⟨fun _ => rl_same h rfl, fun q3 => ⟨fun q4 => absurd ⟨(hT _).2 q1, (hT _).2 q2, q3, (hfe _).2 q4⟩ n, fun _ => rl_same h rfl⟩⟩⟩⟩
  refine r_Eye_talk_0 (by omega) ⟨fun q1 => ⟨fl3 _ q1, fun q2 => ⟨fl3 _ q2, fun e => no (fun q => q.2.2.1 e), fun n12 => ⟨fun q3 => ?_, fun n => no (fun q => n q.2.2.2)⟩⟩, fun n => ⟨fun _ => no (fun q => n q.2.1), fun _ => no (fun q => n q.2.1)⟩⟩, fun n => ⟨fun q2 => ⟨fl3 _ q2, fun _ => no (fun q => n q.1), fun _ => no (fun q => n q.1)⟩, fun _ => ⟨fun _ => no (fun q => n q.1), fun _ => no (fun q => n q.1)⟩⟩⟩
  have q1' := (hT _).1 q1
  have q2' := (hT _).1 q2
  have q3' := (hfe _).1 q3
  obtain ⟨t, ht, rfl⟩ := (w_three hc hw.1.2.1).1 q1
  obtain ⟨u, hu, rfl⟩ := (w_three hc hw.1.2.1).1 q2
  obtain ⟨f, hf, rfl⟩ := (zz_le (b := 9) rfl).1 q3
  have hf : f < 10 := by omega
  have ka := qk_lt S t f
  have kb := qk_lt S u f
  obtain ⟨pa, pa0, pa1, pa2⟩ := qp_lt hw (t := t) (by omega)
  obtain ⟨pb, pb0, pb1, pb2⟩ := qp_lt hw (t := u) (by omega)
  have ea1 : ov_stp S t 1 = nI (qs S t 1) := (qs_ok hw (t := t) (by omega) (x := 1) (by decide)).2.1
  have ea2 : ov_stp S t 2 = nI (qs S t 2) := (qs_ok hw (t := t) (by omega) (x := 2) (by decide)).2.1
  have eb1 : ov_stp S u 1 = nI (qs S u 1) := (qs_ok hw (t := u) (by omega) (x := 1) (by decide)).2.1
  have eb2 : ov_stp S u 2 = nI (qs S u 2) := (qs_ok hw (t := u) (by omega) (x := 2) (by decide)).2.1
  generalize hst : tN (qk S t f + 8 * qk S u f) (qp S t) (qp S u) = st
  have hs46 : st < 46656 := by rw [← hst]; unfold tN; omega
  obtain ⟨z1, z2, z3⟩ := tN_ok (k := qk S t f + 8 * qk S u f) pa pb
  rw [hst] at z1 z2 z3
  have ePs : (9 * (3 * nI (qs S t 2) + nI (qs S t 1)) + (3 * nI (qs S u 2) + nI (qs S u 1)) : Int32) = nI (tP st) := by
    rw [zz_3, zz_3]
    show nI 9 * nI _ + nI _ = _
    rw [pk_mul, nI_add]
    congr 1
    unfold tP tp
    rw [z2, z3, pa1, pa2, pb1, pb2]
    omega
  have M : ∀ (S1 : ov_S) (x : Int32), sc S S1 → (qk S t f + 8 * qk S u f = 0 → x = -1) → (∀ n, tMin st n → 0 < qk S t f + 8 * qk S u f → x = nI n) → ov_V true true d 0 0 mq_Mod_talk 0 [some (.inr (.inr (true, 14, 0))), some (.inl (nI t)), some (.inl (nI u)), some (.inl (nI f)), none, none] [] S1 (fun r' S2 => rl_e (some (.inl x)) r' S2) := by
    intro S1 x s1 hx0 hx
    have e2 : ov_g (ov_w S1 14 0 0 0) 14 0 2 = ov_g (ov_w S 14 0 0 0) 14 0 2 := s1.2 14 0 2 rfl
    refine r_Mod_talk_0 (by omega) ?_
    rw [e2]
    refine ⟨fun n => absurd q1' n, fun _ => ⟨fun n => absurd q2' n, fun _ => ⟨fun q => absurd q n12, fun _ => ⟨fun _ => b_M (by omega) hw (sc_w s1 rfl) (by omega) (by omega) hf (fun e S' s' => sc_ans h s' (hx0 e).symm) (fun e S' n s' _ hm => sc_ans h s' (hx n (by rw [← hst]; exact hm) e).symm), fun n => absurd q3' n⟩⟩⟩⟩
  refine qk_E (by omega) hw ho.2.2.2.2.1 ht hf (r_Eye_talk_56 (by omega) (qk_E (by omega) hw ho.2.2.2.2.1 hu hf (r_Eye_talk_65 (by omega) ?_)))
  rw [zz_ix (n := t) (by omega), zz_ix (n := u) (by omega), Nat.mul_zero, Nat.zero_add, Nat.zero_add, ea1, ea2, eb1, eb2, ePs, (t_k8 _ ka _ kb).2]
  obtain ⟨k1, k2, k3, _⟩ := t_sp hs46
  refine l_E (by omega) (tp_lt k2 k3).1 (by omega) (fun e => r_Eye_talk_93 (M S _ sc_r (fun _ => rfl) (fun n _ hp => absurd e (by omega)))) (fun S1 n s1 hn hm => r_Eye_talk_93 (M S1 _ s1 (fun e => ?_) (fun n' hn' _ => ?_)))
  · obtain ⟨⟨p, hp⟩, _⟩ := hm
    -- nobody knows: nobody ever does
    have nob : ∀ n p K, cR (tP st) (qk S t f + 8 * qk S u f) n p K → K = 0 := by
      intro n
      induction n with
      | zero => rintro p K ⟨_, e2⟩; rw [e2]; exact e
      | succ n ih =>
        rintro p K ⟨p', K', a1, a2⟩
        have := ih p' K' a1
        rcases a2 with ⟨b1, _⟩ | ⟨_, sy, hr, _, _, b1, _⟩
        · rw [b1]; exact this
        · rw [this, Nat.zero_testBit] at b1
          cases b1
    exact absurd (nob n p 63 hp) (by decide)
  · rw [← z1] at hm
    rw [t_same hs46 hn' hm]
