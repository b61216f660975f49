/-! ===== WAY ===== -/
def yD (S : ov_S) (k m x : Nat) : Nat := ov_ix (S.1 90 0 (9 * k + 3 * m + x))
theorem yD_ok {c mm lb nz wc : Nat} {S : ov_S} (hw : rl_w c mm lb nz wc S.1 S.1) {k m x : Nat} (hk : k < 12) (hm : m < 3) (hx : x < 3) : S.1 90 0 (9 * k + 3 * m + x) = nI (yD S k m x) ∧ S.1 29 0 (9 * k + 3 * m + x) = nI (yD S k m x) ∧ yD S k m x ≤ 9 := by
  obtain ⟨e, v, hv, ev⟩ := hw.2.2.2.2.2.2.2.2.2.2.2.2.2.2.2.2.2.2.2.2.2.1 (9 * k + 3 * m + x) (by omega)
  have : yD S k m x = v := by unfold yD; rw [ev]; exact zz_ix (by omega)
  rw [this]
  exact ⟨ev, e.trans ev, hv⟩
def yn (f : Nat → Nat) : Nat := min (f 0) (min (f 1) (f 2))
/-- the first of the least -/
def ya (f : Nat → Nat) : Nat := if f 1 < f 0 then (if f 2 < f 1 then 2 else 1) else (if f 2 < f 0 then 2 else 0)
theorem ya_ok (f : Nat → Nat) : ya f < 3 ∧ f (ya f) = yn f ∧ ∀ m, m < 3 → yn f ≤ f m ∧ (f m = yn f → ya f ≤ m) := by
  have key : ya f < 3 ∧ f (ya f) = yn f ∧ (yn f ≤ f 0 ∧ (f 0 = yn f → ya f ≤ 0)) ∧ (yn f ≤ f 1 ∧ (f 1 = yn f → ya f ≤ 1)) ∧ (yn f ≤ f 2 ∧ (f 2 = yn f → ya f ≤ 2)) := by
    unfold ya yn
    by_cases h1 : f 1 < f 0
    · rw [if_pos h1]
      by_cases h2 : f 2 < f 1
      · rw [if_pos h2]; omega
      · rw [if_neg h2]; omega
    · rw [if_neg h1]
      by_cases h2 : f 2 < f 0
      · rw [if_pos h2]; omega
      · rw [if_neg h2]; omega
  obtain ⟨h1, h2, h3, h4, h5⟩ := key
  refine ⟨h1, h2, fun m hm => ?_⟩
  have : m = 0 ∨ m = 1 ∨ m = 2 := by omega
  rcases this with e | e | e <;> subst e
  · exact h3
  · exact h4
  · exact h5
def yg (T : Nat) (t : Nat → Nat) (b m : Nat) : Nat := t m + (if m = b then 0 else T)
/-- of a THING: what is to come from a place on, j places before the last -/
def yt (S : ov_S) (n T x : Nat) : Nat → Nat → Nat
  | 0, m => yD S (n - 1) m x
  | j + 1, m => yD S (n - 1 - (j + 1)) m x + yn (yg T (yt S n T x j) m)
/-- who has it at a place -/
def yh (S : ov_S) (n T x : Nat) : Nat → Nat
  | 0 => ya (yt S n T x (n - 1))
  | k + 1 => ya (yg T (yt S n T x (n - 1 - (k + 1))) (yh S n T x k))
theorem yh_lt {S : ov_S} {n T x : Nat} : ∀ k, yh S n T x k < 3
  | 0 => (ya_ok _).1
  | k + 1 => (ya_ok _).1
theorem yt_le {c mm lb nz wc : Nat} {S : ov_S} (hw : rl_w c mm lb nz wc S.1 S.1) {n T x : Nat} (hn : n ≤ 12) (h1 : 1 ≤ n) (hT : T ≤ 9) (hx : x < 3) : ∀ j m, j < n → m < 3 → yt S n T x j m ≤ 18 * (j + 1)
  | 0, m, hj, hm => by
    have := (yD_ok hw (k := n - 1) (by omega) hm hx).2.2
    show yD S (n - 1) m x ≤ 18 * 1
    omega
  | j + 1, m, hj, hm => by
    have h0 := (yD_ok hw (k := n - 1 - (j + 1)) (by omega) hm hx).2.2
    have h1 := yt_le hw hn h1 hT hx j m (by omega) hm
    have h2 := ((ya_ok (yg T (yt S n T x j) m)).2.2 m hm).1
    have h3 : yg T (yt S n T x j) m m = yt S n T x j m := by unfold yg; rw [if_pos rfl, Nat.add_zero]
    show yD S (n - 1 - (j + 1)) m x + yn (yg T (yt S n T x j) m) ≤ 18 * (j + 1 + 1)
    omega
/-! the class -/
theorem yc_cost {d p m b T : Nat} {S' : ov_S} {Q : ov_Q} {t : Nat → Nat} (hd : 1 ≤ d) (hp : p < 12) (hm : m < 3) (hb : b < 3) (e : S'.1 53 0 (3 * p + m) = nI (t m)) (h : Q (some (.inl (nI (yg T t b m)))) S') : ov_V true true d 0 0 mq_Way_costFrom 0 [some (.inr (.inr (true, 11, 0))), some (.inl (nI p)), some (.inl (nI m)), some (.inl (nI b)), some (.inl (nI T)), none, none] [] S' Q := by
  have e3 : (nI p * 3 + nI m : Int32) = nI (3 * p + m) := by
    show nI p * nI 3 + nI m = _
    rw [pk_mul, nI_add, Nat.mul_comm]
  have hin : 0 ≤ nI (3 * p + m) ∧ nI (3 * p + m) ≤ 35 := (zz_le (b := 35) rfl).2 ⟨_, by omega, rfl⟩
  refine r_Way_costFrom_0 hd ?_
  rw [e3, zz_ix (n := 3 * p + m) (by omega), show ov_g S' 53 0 (3 * p + m) = nI (t m) from e]
  refine ⟨fun n => absurd hin n, fun _ => ⟨zz_ib (by omega) (by decide), r_Way_costFrom_29_2 ⟨fun n => ?_, fun y => ?_⟩⟩⟩
  · rw [nI_add]
    unfold yg at h
    rw [if_neg (fun z => n (by rw [z]))] at h
    exact h
  · have : m = b := zz_inj (by omega) (by omega) y
    unfold yg at h
    rw [if_pos this, Nat.add_zero] at h
    rw [Int32.add_zero]
    exact h
theorem yc_any {d p m b T : Nat} {S' : ov_S} {Q : ov_Q} (hd : 1 ≤ d) (hp : p ≤ 12) (hm : m < 3) (h : ∀ r : Int32, Q (some (.inl r)) S') : ov_V true true d 0 0 mq_Way_costFrom 0 [some (.inr (.inr (true, 11, 0))), some (.inl (nI p)), some (.inl (nI m)), some (.inl (nI b)), some (.inl (nI T)), none, none] [] S' Q := by
  have e3 : (nI p * 3 + nI m : Int32) = nI (3 * p + m) := by
    show nI p * nI 3 + nI m = _
    rw [pk_mul, nI_add, Nat.mul_comm]
  refine r_Way_costFrom_0 hd ?_
  rw [e3]
  refine ⟨fun n => r_Way_costFrom_29 ⟨fun _ => h _, fun _ => h _⟩, fun q => ⟨?_, r_Way_costFrom_29_2 ⟨fun _ => h _, fun _ => h _⟩⟩⟩
  have : 3 * p + m ≤ 35 := (nI_leI (b := 35) (by omega) (by decide)).1 q.2
  exact zz_ib (by omega) (by decide)
theorem yc_cheap {d p b T : Nat} {S' : ov_S} {Q : ov_Q} {t : Nat → Nat} (hd : 2 ≤ d) (hp : p < 12) (hb : b < 3) (hT : T ≤ 9) (ht : ∀ m, m < 3 → t m ≤ 1000) (e : ∀ m, m < 3 → S'.1 53 0 (3 * p + m) = nI (t m)) (h : Q (some (.inl (nI (ya (yg T t b))))) S') : ov_V true true d 0 0 mq_Way_cheapest 0 [some (.inr (.inr (true, 11, 0))), some (.inl (nI p)), some (.inl (nI b)), some (.inl (nI T)), none, none] [] S' Q := by
  have hg : ∀ m, m < 3 → yg T t b m < 2 ^ 31 := fun m hm => by
    have := ht m hm
    unfold yg
    split <;> omega
  have fin : ∀ k, k = ya (yg T t b) → ov_V true true d 0 0 mq_Way_cheapest 6 [some (.inr (.inr (true, 11, 0))), some (.inl (nI p)), some (.inl (nI b)), some (.inl (nI T)), some (.inl (nI k)), some (.inl (nI 3))] [] S' Q := by
    rintro k rfl
    exact r_Way_cheapest_6 (by omega) ⟨fun _ => h, fun q => absurd (by decide) q⟩
  have step : ∀ k m, k < 3 → m < 3 → (yg T t b k ≤ yg T t b m → ov_V true true d 0 0 mq_Way_cheapest 6 [some (.inr (.inr (true, 11, 0))), some (.inl (nI p)), some (.inl (nI b)), some (.inl (nI T)), some (.inl (nI k)), some (.inl (nI (m + 1)))] [] S' Q) → (yg T t b m < yg T t b k → ov_V true true d 0 0 mq_Way_cheapest 6 [some (.inr (.inr (true, 11, 0))), some (.inl (nI p)), some (.inl (nI b)), some (.inl (nI T)), some (.inl (nI m)), some (.inl (nI (m + 1)))] [] S' Q) → ov_V true true d 0 0 mq_Way_cheapest 6 [some (.inr (.inr (true, 11, 0))), some (.inl (nI p)), some (.inl (nI b)), some (.inl (nI T)), some (.inl (nI k)), some (.inl (nI m))] [] S' Q := by
    intro k m hk hm h1 h2
    refine r_Way_cheapest_6 (by omega) ⟨fun q => absurd q (nI_ge (b := 3) hm (by decide)), fun _ => yc_cost (by omega) hp hm hb (e m hm) (r_Way_cheapest_21 (by omega) (yc_cost (by omega) hp hk hb (e k hk) (r_Way_cheapest_30 ⟨fun q => r_Way_cheapest_37 ?_, fun q => r_Way_cheapest_37 ?_⟩)))⟩
    · rw [nI_1]
      exact h1 ((nI_leI (hg k hk) (hg m hm)).1 q)
    · rw [nI_1]
      exact h2 (Nat.lt_of_not_le (fun z => q (nI_le z (hg m hm))))
  refine r_Way_cheapest_0 (step 0 1 (by decide) (by decide) (fun a => step 0 2 (by decide) (by decide) (fun a2 => fin 0 ?_) (fun a2 => fin 2 ?_)) (fun a => step 1 2 (by decide) (by decide) (fun a2 => fin 1 ?_) (fun a2 => fin 2 ?_)))
  · unfold ya; rw [if_neg (by omega), if_neg (by omega)]
  · unfold ya; rw [if_neg (by omega), if_pos a2]
  · unfold ya; rw [if_pos a, if_neg (by omega)]
  · unfold ya; rw [if_pos a, if_pos a2]
theorem yc_cheapA {d p b T : Nat} {S' : ov_S} {Q : ov_Q} (hd : 2 ≤ d) (hp : p ≤ 12) (h : ∀ r : Int32, Q (some (.inl r)) S') : ov_V true true d 0 0 mq_Way_cheapest 0 [some (.inr (.inr (true, 11, 0))), some (.inl (nI p)), some (.inl (nI b)), some (.inl (nI T)), none, none] [] S' Q := by
  have fin : ∀ k, ov_V true true d 0 0 mq_Way_cheapest 6 [some (.inr (.inr (true, 11, 0))), some (.inl (nI p)), some (.inl (nI b)), some (.inl (nI T)), some (.inl (nI k)), some (.inl (nI 3))] [] S' Q := fun k => r_Way_cheapest_6 (by omega) ⟨fun _ => h _, fun q => absurd (by decide) q⟩
  have step : ∀ k m, k < 3 → m < 3 → (∀ k', k' < 3 → ov_V true true d 0 0 mq_Way_cheapest 6 [some (.inr (.inr (true, 11, 0))), some (.inl (nI p)), some (.inl (nI b)), some (.inl (nI T)), some (.inl (nI k')), some (.inl (nI (m + 1)))] [] S' Q) → ov_V true true d 0 0 mq_Way_cheapest 6 [some (.inr (.inr (true, 11, 0))), some (.inl (nI p)), some (.inl (nI b)), some (.inl (nI T)), some (.inl (nI k)), some (.inl (nI m))] [] S' Q := by
    intro k m hk hm h1
    refine r_Way_cheapest_6 (by omega) ⟨fun q => absurd q (nI_ge (b := 3) hm (by decide)), fun _ => yc_any (by omega) hp hm (fun r1 => r_Way_cheapest_21 (by omega) (yc_any (by omega) hp hk (fun r2 => r_Way_cheapest_30 ⟨fun q => r_Way_cheapest_37 ?_, fun q => r_Way_cheapest_37 ?_⟩)))⟩
    · rw [nI_1]; exact h1 k hk
    · rw [nI_1]; exact h1 m hm
  exact r_Way_cheapest_0 (step 0 1 (by decide) (by decide) (fun k1 hk1 => step k1 2 hk1 (by decide) (fun k2 _ => fin k2)))
/-- the class's rows while a THING is weighed from the last place down to k -/
def yW (S S1 S' : ov_S) (n T x k : Nat) : Prop := sc S S' ∧ (∀ k', k ≤ k' → k' < n → ∀ m, m < 3 → S'.1 53 0 (3 * k' + m) = nI (yt S n T x (n - 1 - k') m)) ∧ S'.1 52 = S1.1 52 ∧ S'.1 11 = S1.1 11
theorem yc_weigh {d c mm lb nz wc n T x k : Nat} {S S1 S' : ov_S} {Q : ov_Q} {fl : Int32} (hd : 3 ≤ d) (hw : rl_w c mm lb nz wc S.1 S.1) (hn : n ≤ 12) (h1 : 1 ≤ n) (hT : T ≤ 9) (hx : x < 3) (hk : k < n) (hfl : (fl = 1 ∧ k = n - 1) ∨ (fl = 0 ∧ k + 1 < n)) (hI : yW S S1 S' n T x (k + 1)) (h : ∀ S2, yW S S1 S2 n T x k → Q none S2) : ov_V true true d 0 0 mq_Way_weigh 0 [some (.inr (.inr (true, 11, 0))), some (.inr (.inr (true, 29, 0))), some (.inl (nI x)), some (.inl (nI k)), some (.inl fl), some (.inl (nI T)), none, none, none] [] S' Q := by
  have loop : ∀ (j m : Nat), m + j = 3 → ∀ S', yW S S1 S' n T x (k + 1) → (∀ m', m' < m → S'.1 53 0 (3 * k + m') = nI (yt S n T x (n - 1 - k) m')) → ov_V true true d 0 0 mq_Way_weigh 3 [some (.inr (.inr (true, 11, 0))), some (.inr (.inr (true, 29, 0))), some (.inl (nI x)), some (.inl (nI k)), some (.inl fl), some (.inl (nI T)), some (.inl (nI m)), none, none] [] S' Q := by
    intro j
    induction j with
    | zero =>
      intro m hm S' a1 a2
      have e : m = 3 := by omega
      subst e
      refine r_Way_weigh_3 (by omega) ⟨fun _ => h S' ⟨a1.1, fun k' hk1 hk2 m' hm' => ?_, a1.2.2⟩, fun q => absurd (by decide) q⟩
      by_cases ek : k' = k
      · rw [ek]; exact a2 m' hm'
      · exact a1.2.1 k' (by omega) hk2 m' hm'
    | succ j ih =>
      intro m hm S' a1 a2
      have hm3 : m < 3 := by omega
      obtain ⟨_, e29, hD⟩ := yD_ok hw (k := k) (m := m) (x := x) (by omega) hm3 hx
      have e9 : ((nI k * 3 + nI m) * 3 + nI x : Int32) = nI (9 * k + 3 * m + x) := zz_dE k m x
      have e3 : (nI k * 3 + nI m : Int32) = nI (3 * k + m) := by
        show nI k * nI 3 + nI m = _
        rw [pk_mul, nI_add, Nat.mul_comm]
      have e29' : ov_g S' 29 0 (9 * k + 3 * m + x) = nI (yD S k m x) := (a1.1.2 29 0 _ rfl).trans e29
      have put : ∀ rest : Nat, yD S k m x + rest = yt S n T x (n - 1 - k) m → ov_V true true d 0 0 mq_Way_weigh 44 [some (.inr (.inr (true, 11, 0))), some (.inr (.inr (true, 29, 0))), some (.inl (nI x)), some (.inl (nI k)), some (.inl fl), some (.inl (nI T)), some (.inl (nI m)), none, none] [.inl (nI rest)] S' Q := by
        intro rest hrest
        refine r_Way_weigh_44 (by omega) ?_
        rw [e9, e3, zz_ix (n := 9 * k + 3 * m + x) (by omega), zz_ix (n := 3 * k + m) (by omega), e29', nI_add, hrest, nI_1]
        refine ⟨zz_ib (by omega) (by decide), zz_ib (by omega) (by decide), ih (m + 1) (by omega) _ ⟨sc_w a1.1 rfl, fun k' hk1 hk2 m' hm' => ?_, ?_, ?_⟩ (fun m' hm' => ?_)⟩
        · rw [rl_wr, if_neg (by omega)]
          exact a1.2.1 k' hk1 hk2 m' hm'
        · rw [← a1.2.2.1]; funext i' j'; exact rl_wn (by omega)
        · rw [← a1.2.2.2]; funext i' j'; exact rl_wn (by omega)
        · rw [rl_wr]
          by_cases e : m' = m
          · rw [if_pos (by omega), e]
          · rw [if_neg (by omega)]; exact a2 m' (by omega)
      refine r_Way_weigh_3 (by omega) ⟨fun q => absurd q (nI_ge (b := 3) hm3 (by decide)), fun _ => ?_⟩
      rw [nI_1]
      rcases hfl with ⟨rfl, hkl⟩ | ⟨rfl, hkl⟩
      · refine yc_cheapA (by omega) (by omega) (fun r => r_Way_weigh_20 (by omega) ⟨fun q => absurd q (by decide), fun _ => put 0 ?_⟩)
        rw [show n - 1 - k = 0 by omega, hkl]
        rfl
      · have hj : n - 1 - k = (n - 1 - (k + 1)) + 1 := by omega
        have e53 : ∀ m', m' < 3 → S'.1 53 0 (3 * (k + 1) + m') = nI (yt S n T x (n - 1 - (k + 1)) m') := fun m' hm' => a1.2.1 (k + 1) (Nat.le_refl _) hkl m' hm'
        have ht : ∀ m', m' < 3 → yt S n T x (n - 1 - (k + 1)) m' ≤ 1000 := fun m' hm' => by
          have := yt_le hw hn h1 hT hx (n - 1 - (k + 1)) m' (by omega) hm'
          omega
        have hya := ya_ok (yg T (yt S n T x (n - 1 - (k + 1))) m)
        refine yc_cheap (by omega) (by omega) hm3 hT ht e53 (r_Way_weigh_20 (by omega) ⟨fun _ => ?_, fun q => absurd rfl q⟩)
        rw [nI_1]
        refine yc_cost (by omega) (by omega) hya.1 hm3 (e53 _ hya.1) (put _ ?_)
        rw [hya.2.1, hj]
        show _ = yD S (n - 1 - ((n - 1 - (k + 1)) + 1)) m x + yn (yg T (yt S n T x (n - 1 - (k + 1))) m)
        rw [show n - 1 - ((n - 1 - (k + 1)) + 1) = k by omega]
  exact r_Way_weigh_0 (loop 3 0 (by omega) S' hI (fun m' hm' => absurd hm' (by omega)))
def yH (S : ov_S) (n T k : Nat) : Nat → Nat
  | 0 => 0
  | x + 1 => 3 * yH S n T k x + yh S n T x k
def yC (S : ov_S) (n T : Nat) : Nat → Nat
  | 0 => 0
  | x + 1 => yC S n T x + yn (yt S n T x (n - 1))
theorem yH_le {S : ov_S} {n T k : Nat} : ∀ x, x ≤ 3 → yH S n T k x < 27
  | 0, _ => (show 0 < 27 by decide)
  | 1, _ => by
    have := yh_lt (S := S) (n := n) (T := T) (x := 0) k
    show 3 * 0 + yh S n T 0 k < 27
    omega
  | 2, _ => by
    have h0 := yh_lt (S := S) (n := n) (T := T) (x := 0) k
    have h1 := yh_lt (S := S) (n := n) (T := T) (x := 1) k
    show 3 * (3 * 0 + yh S n T 0 k) + yh S n T 1 k < 27
    omega
  | 3, _ => by
    have h0 := yh_lt (S := S) (n := n) (T := T) (x := 0) k
    have h1 := yh_lt (S := S) (n := n) (T := T) (x := 1) k
    have h2 := yh_lt (S := S) (n := n) (T := T) (x := 2) k
    show 3 * (3 * (3 * 0 + yh S n T 0 k) + yh S n T 1 k) + yh S n T 2 k < 27
    omega
  | n + 4, h => absurd h (by omega)
/-- the class's rows after some THINGS -/
def yF (S S' : ov_S) (n T x : Nat) : Prop := sc S S' ∧ (∀ k, k < n → S'.1 52 0 k = nI (yH S n T k x)) ∧ S'.1 11 0 1 = nI (yC S n T x)
theorem yc_walk {d c mm lb nz wc n T x : Nat} {S S1 S' : ov_S} {Q : ov_Q} (hd : 3 ≤ d) (hw : rl_w c mm lb nz wc S.1 S.1) (hn : n ≤ 12) (h1 : 1 ≤ n) (hT : T ≤ 9) (hx : x < 3) (hF : yF S S1 n T x) (hI : yW S S1 S' n T x 0) (h : ∀ S2, sc S S2 → (∀ k, k < n → S2.1 52 0 k = nI (yH S n T k (x + 1))) → Q (some (.inl (nI (yn (yt S n T x (n - 1)))))) S2) : ov_V true true d 0 0 mq_Way_walk 0 [some (.inr (.inr (true, 11, 0))), some (.inl (nI (n - 1))), some (.inl (nI T)), none, none, none] [] S' Q := by
  have e53 : ∀ k, k < n → ∀ m, m < 3 → S'.1 53 0 (3 * k + m) = nI (yt S n T x (n - 1 - k) m) := fun k hk m hm => hI.2.1 k (Nat.zero_le _) hk m hm
  have ht : ∀ j, j < n → ∀ m', m' < 3 → yt S n T x j m' ≤ 1000 := fun j hj m' hm' => by
    have := yt_le hw hn h1 hT hx j m' hj hm'
    omega
  have hg0 : yg 0 (yt S n T x (n - 1)) 0 = yt S n T x (n - 1) := by
    funext m
    unfold yg
    split <;> omega
  have hya := ya_ok (yt S n T x (n - 1))
  have loop : ∀ (j k : Nat), k + j = n → ∀ S2 hd', (k < n → k = 0 → hd' = yh S n T x 0) → (k < n → 0 < k → hd' = yh S n T x (k - 1)) → sc S S2 → (∀ k' m, S2.1 53 0 (3 * k' + m) = S'.1 53 0 (3 * k' + m)) → (∀ k', k' < n → S2.1 52 0 k' = nI (if k' < k then yH S n T k' (x + 1) else yH S n T k' x)) → ov_V true true d 0 0 mq_Way_walk 21 [some (.inr (.inr (true, 11, 0))), some (.inl (nI (n - 1))), some (.inl (nI T)), some (.inl (nI hd')), some (.inl (nI (yn (yt S n T x (n - 1))))), some (.inl (nI k))] [] S2 Q := by
    intro j
    induction j with
    | zero =>
      intro k hk S2 hd' _ _ s2 _ f52
      refine r_Way_walk_21 (by omega) ⟨fun _ => h S2 s2 (fun k' hk' => ?_), fun q => absurd (nI_lt (by omega) (by omega)) q⟩
      rw [f52 k' hk', if_pos (by omega)]
    | succ j ih =>
      intro k hk S2 hd' hz hs s2 f53 f52
      have hkn : k < n := by omega
      have hb := yh_lt (S := S) (n := n) (T := T) (x := x) k
      have go : ov_V true true d 0 0 mq_Way_walk 41 [some (.inr (.inr (true, 11, 0))), some (.inl (nI (n - 1))), some (.inl (nI T)), some (.inl (nI (yh S n T x k))), some (.inl (nI (yn (yt S n T x (n - 1))))), some (.inl (nI k))] [] S2 Q := by
        refine r_Way_walk_41 ?_
        have e52 : ov_g S2 52 0 k = nI (yH S n T k x) := by rw [show ov_g S2 52 0 k = _ from f52 k hkn, if_neg (by omega)]
        have e3 : (3 * nI (yH S n T k x) + nI (yh S n T x k) : Int32) = nI (yH S n T k (x + 1)) := zz_3 _ _
        rw [zz_ix (n := k) (by omega), e52, e3, nI_1]
        refine ⟨zz_ib (by omega) (by decide), zz_ib (by omega) (by decide), ih (k + 1) (by omega) _ (yh S n T x k) (fun _ z => absurd z (by omega)) (fun _ _ => by rw [Nat.add_sub_cancel]) (sc_w s2 rfl) f53 (fun k' hk' => ?_)⟩
        rw [rl_wr]
        by_cases e : k' = k
        · rw [if_pos e, if_pos (by omega), e]
        · rw [if_neg e, f52 k' hk']
          by_cases e2 : k' < k
          · rw [if_pos e2, if_pos (by omega)]
          · rw [if_neg e2, if_neg (by omega)]
      refine r_Way_walk_21 (by omega) ⟨fun q => absurd q (nI_nlt (by omega) (by omega)), fun _ => ⟨fun q => ?_, fun q => ?_⟩⟩
      · have hk0 : k = 0 := by
          rcases Nat.eq_zero_or_pos k with e | e
          · exact e
          · exact absurd q (nI_nle e (by omega))
        have := hz hkn hk0
        rw [this]
        rw [hk0] at go ⊢
        exact go
      · have hk0 : 0 < k := by
          rcases Nat.eq_zero_or_pos k with e | e
          · rw [e] at q; exact absurd (by decide) q
          · exact e
        obtain ⟨k0, rfl⟩ : ∃ k0, k = k0 + 1 := ⟨k - 1, by omega⟩
        have := hs hkn hk0
        rw [Nat.add_sub_cancel] at this
        rw [this]
        refine yc_cheap (by omega) (by omega) (yh_lt _) hT (ht (n - 1 - (k0 + 1)) (by omega)) (fun m hm => (f53 (k0 + 1) m).trans (e53 (k0 + 1) hkn m hm)) (r_Way_walk_40 go)
  refine r_Way_walk_0 (by omega) (yc_cheap (p := 0) (b := 0) (T := 0) (t := yt S n T x (n - 1)) (by omega) (by decide) (by decide) (by decide) (ht (n - 1) (by omega)) (fun m hm => e53 0 (by omega) m hm) (r_Way_walk_7 (by omega) ?_))
  rw [hg0]
  refine yc_cost (p := 0) (T := 0) (t := yt S n T x (n - 1)) (by omega) (by decide) hya.1 hya.1 (e53 0 (by omega) _ hya.1) (r_Way_walk_16 ?_)
  have eg : yg 0 (yt S n T x (n - 1)) (ya (yt S n T x (n - 1))) (ya (yt S n T x (n - 1))) = yn (yt S n T x (n - 1)) := by
    unfold yg
    rw [if_pos rfl, Nat.add_zero]
    exact hya.2.1
  rw [eg]
  refine loop n 0 (by omega) S' _ (fun _ _ => rfl) (fun _ z => absurd z (by omega)) hI.1 (fun _ _ => rfl) (fun k' hk' => ?_)
  rw [if_neg (by omega), hI.2.2.1]
  exact hF.2.1 k' hk'
theorem yc_fill {d : Nat} {S0 : ov_S} {Q : ov_Q} (h : ∀ S', sc S0 S' → (∀ k, k < 12 → S'.1 52 0 k = nI 0) → S'.1 11 0 1 = nI 0 → Q none S') : ∀ (j i : Nat), i + j = 12 → ∀ S, sc S0 S → (∀ k, k < i → S.1 52 0 k = nI 0) → S.1 11 0 1 = nI 0 → ov_V true true d 0 0 mq_Arrays_fillI 5 [some (.inr (.inr (true, 52, 0))), some (.inl 0), some (.inl (nI i)), some (.inl (nI 12))] [] S Q := by
  intro j
  induction j with
  | zero =>
    intro i hi S a1 a2 a3
    have e : i = 12 := by omega
    subst e
    exact rx52_Arrays_fillI_5 ⟨fun _ => h S a1 a2 a3, fun q => absurd (by decide) q⟩
  | succ j ih =>
    intro i hi S a1 a2 a3
    refine rx52_Arrays_fillI_5 ⟨fun q => absurd q (nI_ge (by omega) (by decide)), fun _ => ⟨zz_ib (by omega) (by decide), ?_⟩⟩
    rw [nI_1, zz_ix (n := i) (by omega)]
    refine ih (i + 1) (by omega) _ (sc_w a1 rfl) (fun s hs => ?_) a3
    rw [rl_wr]
    by_cases e : s = i
    · rw [if_pos e]; rfl
    · rw [if_neg e]; exact a2 s (by omega)
theorem yc_E {d c mm lb nz wc n T : Nat} {S : ov_S} {Q : ov_Q} (hd : 4 ≤ d) (hw : rl_w c mm lb nz wc S.1 S.1) (hn : n ≤ 12) (h1 : 1 ≤ n) (hT : T ≤ 9) (h : ∀ S', yF S S' n T 3 → Q none S') : ov_V true true d 0 0 mq_Way_find 0 [some (.inr (.inr (true, 11, 0))), some (.inr (.inr (true, 29, 0))), some (.inl (nI n)), some (.inl (nI T)), none, none, none] [] S Q := by
  have e12 : (if (12 : Int32) < nI n then 12 else nI n) = nI n := if_neg (fun q => absurd ((nI_ltI (a := 12) (by decide) (by omega)).1 q) (by omega))
  have en : (nI n - 1 : Int32) = nI (n - 1) := pk_sub (b := 1) h1
  have loop : ∀ (j x : Nat), x + j = 3 → ∀ S', yF S S' n T x → ov_V true true d 0 0 mq_Way_find 26 [some (.inr (.inr (true, 11, 0))), some (.inr (.inr (true, 29, 0))), none, some (.inl (nI T)), some (.inl (nI (n - 1))), some (.inl (nI x)), none] [] S' Q := by
    intro j
    induction j with
    | zero =>
      intro x hx S' hF
      have e : x = 3 := by omega
      subst e
      exact r_Way_find_26 ⟨fun _ => h S' hF, fun q => absurd (by decide) q⟩
    | succ j ih =>
      intro x hx S' hF
      have hx3 : x < 3 := by omega
      have inner : ∀ (i k : Nat), k + i = n → ∀ S2, yW S S' S2 n T x (n - i) → ∀ v : Int32, (i < n → v = nI (n - 1 - i)) → (i = n → v = -1) → k = n - i → ov_V true true d 0 0 mq_Way_find 36 [some (.inr (.inr (true, 11, 0))), some (.inr (.inr (true, 29, 0))), none, some (.inl (nI T)), some (.inl (nI (n - 1))), some (.inl (nI x)), some (.inl v)] [] S2 Q := by
        intro i k
        induction k generalizing i with
        | zero =>
          intro hk S2 hI v hv1 hv2 _
          have e : i = n := by omega
          rw [hv2 e]
          have hI0 : yW S S' S2 n T x 0 := by
            rw [show n - i = 0 by omega] at hI; exact hI
          have e11 : ov_g S2 11 0 1 = nI (yC S n T x) := by
            show S2.1 11 0 1 = _
            rw [hI0.2.2.2]; exact hF.2.2
          refine r_Way_find_36 (by omega) ⟨fun _ => yc_walk (by omega) hw hn h1 hT hx3 hF hI0 (fun S3 s3 f52 => r_Way_find_81 ?_), fun q => absurd (by decide) q⟩
          rw [e11, nI_add, nI_1]
          exact ih (x + 1) (by omega) _ ⟨sc_w s3 rfl, f52, rl_ww _ _ _ _ _⟩
        | succ k ihk =>
          intro hk S2 hI v hv1 hv2 _
          have hi : i < n := by omega
          rw [hv1 hi]
          have eI : n - i = (n - 1 - i) + 1 := by omega
          rw [eI] at hI
          have nx : ∀ S3, yW S S' S3 n T x (n - 1 - i) → ov_V true true d 0 0 mq_Way_find 63 [some (.inr (.inr (true, 11, 0))), some (.inr (.inr (true, 29, 0))), none, some (.inl (nI T)), some (.inl (nI (n - 1))), some (.inl (nI x)), some (.inl (nI (n - 1 - i)))] [] S3 Q := by
            intro S3 hI3
            refine r_Way_find_63 (ihk (i + 1) (by omega) S3 ?_ _ (fun hi2 => ?_) (fun hi2 => ?_) (by omega))
            · rw [show n - (i + 1) = n - 1 - i by omega]; exact hI3
            · rw [show n - 1 - i = (n - 1 - (i + 1)) + 1 by omega]; exact pk_m1 _
            · rw [show n - 1 - i = 0 by omega]; rfl
          refine r_Way_find_36 (by omega) ⟨fun q => absurd q (nI_pos (by omega)), fun _ => ⟨fun q => r_Way_find_59 (by omega) (yc_weigh (by omega) hw hn h1 hT hx3 (by omega) (.inr ⟨rfl, ?_⟩) hI (fun S3 hI3 => nx S3 hI3)), fun q => r_Way_find_59_2 (by omega) (yc_weigh (by omega) hw hn h1 hT hx3 (by omega) (.inl ⟨rfl, ?_⟩) hI (fun S3 hI3 => nx S3 hI3))⟩⟩
          · have : n - 1 - i ≠ n - 1 := fun z => q (by rw [z])
            omega
          · exact zz_inj (by omega) (by omega) q
      refine r_Way_find_26 ⟨fun q => absurd q (nI_ge (b := 3) hx3 (by decide)), fun _ => inner 0 n (by omega) S' ⟨hF.1, fun k' hk1 hk2 => absurd hk2 (by omega), rfl, rfl⟩ _ (fun _ => by rw [Nat.sub_zero]) (fun z => absurd z (by omega)) (by omega)⟩
  refine r_Way_find_0 (by omega) (rx52_Arrays_fillI_0 (yc_fill (fun S1 s1 f1 f2 => ?_) 12 0 (by omega) _ (sc_w sc_r rfl) (fun k hk => absurd hk (by omega)) (rl_ww _ _ _ _ _)))
  rw [e12, en]
  exact r_Way_find_23 (loop 3 0 (by omega) S1 ⟨s1, fun k hk => f1 k (by omega), f2⟩)
/-! the reference -/
def yl (a b : Nat) : Nat := (if pm a 0 = pm b 0 then 0 else 1) + (if pm a 1 = pm b 1 then 0 else 1) + (if pm a 2 = pm b 2 then 0 else 1)
theorem ym_tolls {d a b : Nat} {S : ov_S} {Q : ov_Q} (hd : 1 ≤ d) (ha : a < 27) (hb : b < 27) (h : Q (some (.inl (nI (yl a b)))) S) : ov_V true true d 0 0 mq_Mod_tolls 0 [some (.inr (.inr (true, 14, 0))), some (.inl (nI a)), some (.inl (nI b)), none, none] [] S Q := by
  have step : ∀ v x, x < 3 → ov_V true true d 0 0 mq_Mod_tolls 5 [some (.inr (.inr (true, 14, 0))), some (.inl (nI a)), some (.inl (nI b)), some (.inl (nI (v + (if pm a x = pm b x then 0 else 1)))), some (.inl (nI (x + 1)))] [] S Q → ov_V true true d 0 0 mq_Mod_tolls 5 [some (.inr (.inr (true, 14, 0))), some (.inl (nI a)), some (.inl (nI b)), some (.inl (nI v)), some (.inl (nI x))] [] S Q := by
    intro v x hx h1
    have p1 := pm_ok a ha x hx
    have p2 := pm_ok b hb x hx
    refine r_Mod_tolls_5 hd ?_
    rw [p1.1, p2.1]
    refine ⟨fun q => absurd q (nI_ge (b := 3) hx (by decide)), fun _ => ⟨fun y => r_Mod_tolls_32 ?_, fun n => r_Mod_tolls_32 ?_⟩⟩
    · rw [if_pos (zz_inj (by omega) (by omega) y)] at h1
      rw [nI_1]; exact h1
    · rw [if_neg (fun z => n (by rw [z]))] at h1
      rw [nI_1, nI_1]; exact h1
  refine r_Mod_tolls_0 (step 0 0 (by decide) (step _ 1 (by decide) (step _ 2 (by decide) (r_Mod_tolls_5 hd ⟨fun _ => ?_, fun q => absurd (by decide) q⟩))))
  rw [Nat.zero_add]
  exact h
def ydg (S : ov_S) (k a : Nat) : Nat := yD S k (pm a 0) 0 + yD S k (pm a 1) 1 + yD S k (pm a 2) 2
theorem ym_dang {d c mm lb nz wc k a : Nat} {S S' : ov_S} {Q : ov_Q} (hd : 1 ≤ d) (hw : rl_w c mm lb nz wc S.1 S.1) (s1 : sc S S') (hk : k < 12) (ha : a < 27) (h : Q (some (.inl (nI (ydg S k a)))) S') : ov_V true true d 0 0 mq_Mod_dangerAt 0 [some (.inr (.inr (true, 14, 0))), some (.inl (nI k)), some (.inl (nI a)), none, none] [] S' Q := by
  have step : ∀ v x, x < 3 → ov_V true true d 0 0 mq_Mod_dangerAt 5 [some (.inr (.inr (true, 14, 0))), some (.inl (nI k)), some (.inl (nI a)), some (.inl (nI (v + yD S k (pm a x) x))), some (.inl (nI (x + 1)))] [] S' Q → ov_V true true d 0 0 mq_Mod_dangerAt 5 [some (.inr (.inr (true, 14, 0))), some (.inl (nI k)), some (.inl (nI a)), some (.inl (nI v)), some (.inl (nI x))] [] S' Q := by
    intro v x hx h1
    have p1 := pm_ok a ha x hx
    obtain ⟨e90, _, _⟩ := yD_ok hw hk p1.2 hx
    refine r_Mod_dangerAt_5 hd ⟨fun q => absurd q (nI_ge (b := 3) hx (by decide)), fun _ => ?_⟩
    rw [p1.1, zz_9, zz_ix (n := 9 * k + 3 * pm a x + x) (by omega), show ov_g S' 90 0 (9 * k + 3 * pm a x + x) = nI (yD S k (pm a x) x) from (s1.2 90 0 _ rfl).trans e90, nI_add, nI_1]
    exact ⟨zz_ib (by omega) (by decide), h1⟩
  refine r_Mod_dangerAt_0 (step 0 0 (by decide) (step _ 1 (by decide) (step _ 2 (by decide) (r_Mod_dangerAt_5 hd ⟨fun _ => ?_, fun q => absurd (by decide) q⟩))))
  rw [Nat.zero_add]
  exact h
/-- all three THINGS together, from place k on -/
def yo (S : ov_S) (n T k a : Nat) : Nat := yt S n T 0 (n - 1 - k) (pm a 0) + yt S n T 1 (n - 1 - k) (pm a 1) + yt S n T 2 (n - 1 - k) (pm a 2)
/-- what going on to b costs -/
def yv (S : ov_S) (n T k a b : Nat) : Nat := yg T (yt S n T 0 (n - 1 - k)) (pm a 0) (pm b 0) + yg T (yt S n T 1 (n - 1 - k)) (pm a 1) (pm b 1) + yg T (yt S n T 2 (n - 1 - k)) (pm a 2) (pm b 2)
theorem yv_eq (S : ov_S) (n T k a b : Nat) : T * yl a b + yo S n T k b = yv S n T k a b := by
  unfold yl yo yv yg
  have e : ∀ x, (if pm a x = pm b x then 0 else 1) = (if pm b x = pm a x then 0 else 1) := by
    intro x
    by_cases q : pm a x = pm b x
    · rw [if_pos q, if_pos q.symm]
    · rw [if_neg q, if_neg (fun z => q z.symm)]
  rw [e 0, e 1, e 2]
  split <;> split <;> split <;> omega
/-- the best of 27, the first of them -/
def yb (g0 g1 g2 : Nat → Nat) : Nat := 9 * ya g0 + 3 * ya g1 + ya g2
theorem yb_ok (g0 g1 g2 : Nat → Nat) : yb g0 g1 g2 < 27 ∧ pm (yb g0 g1 g2) 0 = ya g0 ∧ pm (yb g0 g1 g2) 1 = ya g1 ∧ pm (yb g0 g1 g2) 2 = ya g2 ∧ (∀ b, b < 27 → yn g0 + yn g1 + yn g2 ≤ g0 (pm b 0) + g1 (pm b 1) + g2 (pm b 2)) ∧ ∀ b, b < yb g0 g1 g2 → yn g0 + yn g1 + yn g2 < g0 (pm b 0) + g1 (pm b 1) + g2 (pm b 2) := by
  have a0 := ya_ok g0
  have a1 := ya_ok g1
  have a2 := ya_ok g2
  have hp : ∀ b, b < 27 → pm b 0 = b / 9 ∧ pm b 1 = b / 3 % 3 ∧ pm b 2 = b % 3 := fun b _ => ⟨rfl, rfl, rfl⟩
  have hlt : yb g0 g1 g2 < 27 := by unfold yb; omega
  refine ⟨hlt, ?_, ?_, ?_, fun b hb => ?_, fun b hb => ?_⟩
  · show yb g0 g1 g2 / 9 = _
    unfold yb; omega
  · show yb g0 g1 g2 / 3 % 3 = _
    unfold yb; omega
  · show yb g0 g1 g2 % 3 = _
    unfold yb; omega
  · have h0 := (a0.2.2 (pm b 0) (pm_ok b hb 0 (by decide)).2).1
    have h1 := (a1.2.2 (pm b 1) (pm_ok b hb 1 (by decide)).2).1
    have h2 := (a2.2.2 (pm b 2) (pm_ok b hb 2 (by decide)).2).1
    omega
  · have hb27 : b < 27 := by omega
    have h0 := a0.2.2 (pm b 0) (pm_ok b hb27 0 (by decide)).2
    have h1 := a1.2.2 (pm b 1) (pm_ok b hb27 1 (by decide)).2
    have h2 := a2.2.2 (pm b 2) (pm_ok b hb27 2 (by decide)).2
    apply Classical.byContradiction
    intro hn
    have k0 := h0.2 (by omega)
    have k1 := h1.2 (by omega)
    have k2 := h2.2 (by omega)
    obtain ⟨q0, q1, q2⟩ := hp b hb27
    rw [q0] at k0
    rw [q1] at k1
    rw [q2] at k2
    unfold yb at hb
    omega
def yO (S S' : ov_S) (n T k : Nat) : Prop := sc S S' ∧ ∀ k', k ≤ k' → k' < n → ∀ a, a < 27 → S'.1 91 0 (27 * k' + a) = nI (yo S n T k' a)
theorem yg_le {T b m : Nat} {t : Nat → Nat} (hT : T ≤ 9) (ht : t m ≤ 216) : yg T t b m ≤ 225 := by
  unfold yg
  split <;> omega
def yq (S : ov_S) (n T k a : Nat) : Nat := yn (yg T (yt S n T 0 (n - 1 - k)) (pm a 0)) + yn (yg T (yt S n T 1 (n - 1 - k)) (pm a 1)) + yn (yg T (yt S n T 2 (n - 1 - k)) (pm a 2))
theorem ym_behind {d c mm lb nz wc n T k a : Nat} {S S' : ov_S} {Q : ov_Q} (hd : 2 ≤ d) (hw : rl_w c mm lb nz wc S.1 S.1) (hn : n ≤ 12) (h1 : 1 ≤ n) (hT : T ≤ 9) (hk : k + 1 < n) (ha : a < 27) (hO : ∀ b, b < 27 → S'.1 91 0 (27 * (k + 1) + b) = nI (yo S n T (k + 1) b)) (h : Q (some (.inl (nI (yq S n T (k + 1) a)))) S') : ov_V true true d 0 0 mq_Mod_behind 0 [some (.inr (.inr (true, 14, 0))), some (.inl (nI k)), some (.inl (nI a)), some (.inl (nI T)), none, none, none] [] S' Q := by
  have hyb := yb_ok (yg T (yt S n T 0 (n - 1 - (k + 1))) (pm a 0)) (yg T (yt S n T 1 (n - 1 - (k + 1))) (pm a 1)) (yg T (yt S n T 2 (n - 1 - (k + 1))) (pm a 2))
  have ht : ∀ x, x < 3 → ∀ m, m < 3 → yt S n T x (n - 1 - (k + 1)) m ≤ 216 := fun x hx m hm => by
    have := yt_le hw hn h1 hT hx (n - 1 - (k + 1)) m (by omega) hm
    omega
  have hv : ∀ b, b < 27 → yv S n T (k + 1) a b ≤ 675 := fun b hb => by
    have g0 := yg_le (T := T) (b := pm a 0) hT (ht 0 (by decide) (pm b 0) (pm_ok b hb 0 (by decide)).2)
    have g1 := yg_le (T := T) (b := pm a 1) hT (ht 1 (by decide) (pm b 1) (pm_ok b hb 1 (by decide)).2)
    have g2 := yg_le (T := T) (b := pm a 2) hT (ht 2 (by decide) (pm b 2) (pm_ok b hb 2 (by decide)).2)
    unfold yv
    omega
  have hstar : yv S n T (k + 1) a (yb (yg T (yt S n T 0 (n - 1 - (k + 1))) (pm a 0)) (yg T (yt S n T 1 (n - 1 - (k + 1))) (pm a 1)) (yg T (yt S n T 2 (n - 1 - (k + 1))) (pm a 2))) = yq S n T (k + 1) a := by
    unfold yv yq
    rw [hyb.2.1, hyb.2.2.1, hyb.2.2.2.1, (ya_ok (yg T (yt S n T 0 (n - 1 - (k + 1))) (pm a 0))).2.1, (ya_ok (yg T (yt S n T 1 (n - 1 - (k + 1))) (pm a 1))).2.1, (ya_ok (yg T (yt S n T 2 (n - 1 - (k + 1))) (pm a 2))).2.1]
  have loop : ∀ (j b L : Nat), b + j = 27 → L ≤ 1000000 → (∀ b', b' < b → L ≤ yv S n T (k + 1) a b') → (L = 1000000 ∨ ∃ b', b' < 27 ∧ L = yv S n T (k + 1) a b') → ov_V true true d 0 0 mq_Mod_behind 8 [some (.inr (.inr (true, 14, 0))), some (.inl (nI k)), some (.inl (nI a)), some (.inl (nI T)), some (.inl (nI L)), some (.inl (nI b)), none] [] S' Q := by
    intro j
    induction j with
    | zero =>
      intro b L hb hL hI hE
      have e : b = 27 := by omega
      subst e
      have : L = yq S n T (k + 1) a := by
        have h2 := hI _ hyb.1
        rw [hstar] at h2
        rcases hE with e | ⟨b', hb', e⟩
        · have := hv _ hyb.1
          rw [hstar] at this
          omega
        · have h3 : yq S n T (k + 1) a ≤ yv S n T (k + 1) a b' := hyb.2.2.2.2.1 b' hb'
          omega
      rw [this]
      exact r_Mod_behind_8 (by omega) ⟨fun _ => h, fun q => absurd (by decide) q⟩
    | succ j ih =>
      intro b L hb hL hI hE
      have hb27 : b < 27 := by omega
      have hvb := hv b hb27
      have e27 : (27 * (nI k + 1) + nI b : Int32) = nI (27 * (k + 1) + b) := by
        rw [nI_1]
        show nI 27 * nI (k + 1) + nI b = _
        rw [pk_mul, nI_add]
      have eT : (nI T * nI (yl a b) + nI (yo S n T (k + 1) b) : Int32) = nI (yv S n T (k + 1) a b) := by
        rw [pk_mul, nI_add, yv_eq]
      refine r_Mod_behind_8 (by omega) ⟨fun q => absurd q (nI_ge (b := 27) hb27 (by decide)), fun _ => ym_tolls (by omega) ha hb27 (r_Mod_behind_23 ?_)⟩
      rw [e27, zz_ix (n := 27 * (k + 1) + b) (by omega), show ov_g S' 91 0 (27 * (k + 1) + b) = nI (yo S n T (k + 1) b) from hO b hb27, eT]
      refine ⟨zz_ib (by omega) (by decide), fun q => r_Mod_behind_55 ?_, fun q => r_Mod_behind_55 ?_⟩
      · have hle : L ≤ yv S n T (k + 1) a b := (nI_leI (by omega) (by omega)).1 q
        rw [nI_1]
        refine ih (b + 1) L (by omega) hL (fun b' hb' => ?_) hE
        by_cases e : b' = b
        · rw [e]; exact hle
        · exact hI b' (by omega)
      · have hlt : yv S n T (k + 1) a b < L := Nat.lt_of_not_le (fun z => q (nI_le z (by omega)))
        rw [nI_1]
        refine ih (b + 1) _ (by omega) (by omega) (fun b' hb' => ?_) (.inr ⟨b, hb27, rfl⟩)
        by_cases e : b' = b
        · rw [e]; exact Nat.le_refl _
        · have := hI b' (by omega)
          omega
  exact r_Mod_behind_0 (loop 27 0 1000000 (by omega) (Nat.le_refl _) (fun b' hb' => absurd hb' (by omega)) (.inl rfl))
theorem yo_last (S : ov_S) {n T a : Nat} (h1 : 1 ≤ n) : ydg S (n - 1) a = yo S n T (n - 1) a := by
  unfold yo ydg
  rw [show n - 1 - (n - 1) = 0 by omega]
  rfl
theorem yo_next (S : ov_S) {n T k a : Nat} (hk : k + 1 < n) : ydg S k a + yq S n T (k + 1) a = yo S n T k a := by
  have e : n - 1 - k = (n - 1 - (k + 1)) + 1 := by omega
  have e2 : n - 1 - ((n - 1 - (k + 1)) + 1) = k := by omega
  unfold yo ydg yq
  rw [e]
  show _ = (yD S (n - 1 - ((n - 1 - (k + 1)) + 1)) (pm a 0) 0 + yn _) + (yD S (n - 1 - ((n - 1 - (k + 1)) + 1)) (pm a 1) 1 + yn _) + (yD S (n - 1 - ((n - 1 - (k + 1)) + 1)) (pm a 2) 2 + yn _)
  rw [e2]
  omega
/-- the holders at a place, as one number -/
def yz (S : ov_S) (n T k : Nat) : Nat := 9 * yh S n T 0 k + 3 * yh S n T 1 k + yh S n T 2 k
theorem yz_ok (S : ov_S) (n T k : Nat) : yz S n T k < 27 ∧ pm (yz S n T k) 0 = yh S n T 0 k ∧ pm (yz S n T k) 1 = yh S n T 1 k ∧ pm (yz S n T k) 2 = yh S n T 2 k := by
  have h0 := yh_lt (S := S) (n := n) (T := T) (x := 0) k
  have h1 := yh_lt (S := S) (n := n) (T := T) (x := 1) k
  have h2 := yh_lt (S := S) (n := n) (T := T) (x := 2) k
  refine ⟨by unfold yz; omega, ?_, ?_, ?_⟩
  · show yz S n T k / 9 = _
    unfold yz; omega
  · show yz S n T k / 3 % 3 = _
    unfold yz; omega
  · show yz S n T k % 3 = _
    unfold yz; omega
theorem ym_M {d c mm lb nz wc n T : Nat} {S S0 : ov_S} {Q : ov_Q} {v3 : Int32} (hd : 4 ≤ d) (hw : rl_w c mm lb nz wc S.1 S.1) (hn : n ≤ 12) (h1 : 1 ≤ n) (hT : T ≤ 9) (hs0 : sc S S0) (hv : v3 = 0 ∨ (¬ v3 = 0 ∧ ∃ k, k < n ∧ v3 - 10 = nI k)) (hA : ∀ S', sc S S' → v3 = 0 → Q (some (.inl (nI (yC S n T 3)))) S') (hB : ∀ S', sc S S' → ¬ v3 = 0 → ∀ k, k < n → v3 - 10 = nI k → Q (some (.inl (nI (yz S n T k)))) S') : ov_V true true d 0 0 mq_Mod_way 47 [some (.inr (.inr (true, 14, 0))), some (.inl (nI n)), some (.inl (nI T)), some (.inl v3), none, none, none, none] [] S0 Q := by
  have ht : ∀ j, j < n → ∀ x, x < 3 → ∀ m, m < 3 → yt S n T x j m ≤ 216 := fun j hj x hx m hm => by
    have := yt_le hw hn h1 hT hx j m hj hm
    omega
  have hol : ∀ k, k < n → ∀ a, a < 27 → yo S n T k a ≤ 648 := fun k hk a ha => by
    have g0 := ht (n - 1 - k) (by omega) 0 (by decide) (pm a 0) (pm_ok a ha 0 (by decide)).2
    have g1 := ht (n - 1 - k) (by omega) 1 (by decide) (pm a 1) (pm_ok a ha 1 (by decide)).2
    have g2 := ht (n - 1 - k) (by omega) 2 (by decide) (pm a 2) (pm_ok a ha 2 (by decide)).2
    unfold yo
    omega
  -- the way, from its beginning
  have walk : ∀ S', yO S S' n T 0 → ¬ v3 = 0 → ∀ kt, kt < n → v3 - 10 = nI kt → ∀ (j k : Nat), k + j = kt → ov_V true true d 0 0 mq_Mod_way 177 [some (.inr (.inr (true, 14, 0))), none, some (.inl (nI T)), some (.inl v3), some (.inl (nI (yz S n T k))), some (.inl (nI k)), none, none] [] S' Q := by
    intro S' hO n3 kt hkt ekt j
    induction j with
    | zero =>
      intro k hk
      have e : k = kt := by omega
      subst e
      refine r_Mod_way_177 (by omega) ?_
      rw [ekt]
      exact ⟨fun _ => hB S' hO.1 n3 k hkt ekt, fun q => absurd (nI_le (Nat.le_refl _) (by omega)) q⟩
    | succ j ih =>
      intro k hk
      have hk1 : k + 1 < n := by omega
      obtain ⟨z1, z2, z3, z4⟩ := yz_ok S n T k
      have hyb := yb_ok (yg T (yt S n T 0 (n - 1 - (k + 1))) (pm (yz S n T k) 0)) (yg T (yt S n T 1 (n - 1 - (k + 1))) (pm (yz S n T k) 1)) (yg T (yt S n T 2 (n - 1 - (k + 1))) (pm (yz S n T k) 2))
      have enx : yb (yg T (yt S n T 0 (n - 1 - (k + 1))) (pm (yz S n T k) 0)) (yg T (yt S n T 1 (n - 1 - (k + 1))) (pm (yz S n T k) 1)) (yg T (yt S n T 2 (n - 1 - (k + 1))) (pm (yz S n T k) 2)) = yz S n T (k + 1) := by
        rw [z2, z3, z4]
        rfl
      have hstar : yv S n T (k + 1) (yz S n T k) (yz S n T (k + 1)) = yq S n T (k + 1) (yz S n T k) := by
        rw [← enx]
        unfold yv yq
        rw [hyb.2.1, hyb.2.2.1, hyb.2.2.2.1, (ya_ok (yg T (yt S n T 0 (n - 1 - (k + 1))) (pm (yz S n T k) 0))).2.1, (ya_ok (yg T (yt S n T 1 (n - 1 - (k + 1))) (pm (yz S n T k) 1))).2.1, (ya_ok (yg T (yt S n T 2 (n - 1 - (k + 1))) (pm (yz S n T k) 2))).2.1]
      rw [enx] at hyb
      have hv2 : ∀ b, b < 27 → yv S n T (k + 1) (yz S n T k) b ≤ 675 := fun b hb => by
        have g0 := yg_le (T := T) (b := pm (yz S n T k) 0) hT (ht (n - 1 - (k + 1)) (by omega) 0 (by decide) (pm b 0) (pm_ok b hb 0 (by decide)).2)
        have g1 := yg_le (T := T) (b := pm (yz S n T k) 1) hT (ht (n - 1 - (k + 1)) (by omega) 1 (by decide) (pm b 1) (pm_ok b hb 1 (by decide)).2)
        have g2 := yg_le (T := T) (b := pm (yz S n T k) 2) hT (ht (n - 1 - (k + 1)) (by omega) 2 (by decide) (pm b 2) (pm_ok b hb 2 (by decide)).2)
        unfold yv
        omega
      have hq := hv2 _ hyb.1
      rw [hstar] at hq
      have find : ∀ (i b : Nat), b + i = yz S n T (k + 1) → ov_V true true d 0 0 mq_Mod_way 200 [some (.inr (.inr (true, 14, 0))), none, some (.inl (nI T)), some (.inl v3), some (.inl (nI (yz S n T k))), some (.inl (nI k)), some (.inl (nI (yq S n T (k + 1) (yz S n T k)))), some (.inl (nI b))] [] S' Q := by
        intro i
        induction i with
        | zero =>
          intro b hb
          have e : b = yz S n T (k + 1) := by omega
          subst e
          refine r_Mod_way_200 (by omega) (ym_tolls (by omega) z1 hyb.1 (r_Mod_way_209 ?_))
          have e27 : (27 * (nI k + 1) + nI (yz S n T (k + 1)) : Int32) = nI (27 * (k + 1) + yz S n T (k + 1)) := by
            rw [nI_1]
            show nI 27 * nI (k + 1) + nI _ = _
            rw [pk_mul, nI_add]
          have hz27 := hyb.1
          rw [e27, zz_ix (n := 27 * (k + 1) + yz S n T (k + 1)) (by omega), show ov_g S' 91 0 (27 * (k + 1) + yz S n T (k + 1)) = _ from hO.2 (k + 1) (Nat.zero_le _) hk1 _ hyb.1, pk_mul, nI_add, yv_eq, hstar, nI_1]
          exact ⟨zz_ib (by omega) (by decide), fun _ => ih (k + 1) (by omega), fun q => absurd rfl q⟩
        | succ i ih2 =>
          intro b hb
          have hbz : b < yz S n T (k + 1) := by omega
          have hb27 : b < 27 := by have := hyb.1; omega
          have hlt : yq S n T (k + 1) (yz S n T k) < yv S n T (k + 1) (yz S n T k) b := hyb.2.2.2.2.2 b hbz
          have hvb := hv2 b hb27
          refine r_Mod_way_200 (by omega) (ym_tolls (by omega) z1 hb27 (r_Mod_way_209 ?_))
          have e27 : (27 * (nI k + 1) + nI b : Int32) = nI (27 * (k + 1) + b) := by
            rw [nI_1]
            show nI 27 * nI (k + 1) + nI _ = _
            rw [pk_mul, nI_add]
          rw [e27, zz_ix (n := 27 * (k + 1) + b) (by omega), show ov_g S' 91 0 (27 * (k + 1) + b) = _ from hO.2 (k + 1) (Nat.zero_le _) hk1 _ hb27, pk_mul, nI_add, yv_eq, nI_1 b]
          refine ⟨zz_ib (by omega) (by decide), fun q => ?_, fun _ => ih2 (b + 1) (by omega)⟩
          have := zz_inj (by omega) (by omega) q
          omega
      refine r_Mod_way_177 (by omega) ?_
      rw [ekt]
      exact ⟨fun q => absurd q (nI_ge (by omega) (by omega)), fun _ => ym_behind (by omega) hw hn h1 hT hk1 z1 (fun b hb => hO.2 (k + 1) (Nat.zero_le _) hk1 b hb) (r_Mod_way_195 (find (yz S n T (k + 1)) 0 (by omega)))⟩
  -- the best beginning
  have start : ∀ S', yO S S' n T 0 → ∀ (j b a : Nat), b + j = 27 → a < 27 → (∀ b', b' < b → yo S n T 0 a ≤ yo S n T 0 b') → (∀ b', b' < a → yo S n T 0 a < yo S n T 0 b') → ov_V true true d 0 0 mq_Mod_way 128 [some (.inr (.inr (true, 14, 0))), none, some (.inl (nI T)), some (.inl v3), some (.inl (nI a)), some (.inl (nI b)), none, none] [] S' Q := by
    intro S' hO j
    have h91 : ∀ a, a < 27 → ov_g S' 91 0 a = nI (yo S n T 0 a) := fun a ha => by
      have := hO.2 0 (Nat.le_refl _) (by omega) a ha
      rw [Nat.mul_zero, Nat.zero_add] at this
      exact this
    induction j with
    | zero =>
      intro b a hb ha hI1 hI2
      have e : b = 27 := by omega
      subst e
      have hyb := yb_ok (yt S n T 0 (n - 1)) (yt S n T 1 (n - 1)) (yt S n T 2 (n - 1))
      have hs0 : yo S n T 0 (yb (yt S n T 0 (n - 1)) (yt S n T 1 (n - 1)) (yt S n T 2 (n - 1))) = yn (yt S n T 0 (n - 1)) + yn (yt S n T 1 (n - 1)) + yn (yt S n T 2 (n - 1)) := by
        unfold yo
        rw [Nat.sub_zero, hyb.2.1, hyb.2.2.1, hyb.2.2.2.1, (ya_ok (yt S n T 0 (n - 1))).2.1, (ya_ok (yt S n T 1 (n - 1))).2.1, (ya_ok (yt S n T 2 (n - 1))).2.1]
      have hlow : yn (yt S n T 0 (n - 1)) + yn (yt S n T 1 (n - 1)) + yn (yt S n T 2 (n - 1)) ≤ yo S n T 0 a := hyb.2.2.2.2.1 a ha
      have hup := hI1 _ hyb.1
      have ea : a = yz S n T 0 := by
        show a = yb (yt S n T 0 (n - 1)) (yt S n T 1 (n - 1)) (yt S n T 2 (n - 1))
        rcases Nat.lt_trichotomy a (yb (yt S n T 0 (n - 1)) (yt S n T 1 (n - 1)) (yt S n T 2 (n - 1))) with z | z | z
        · have : yn (yt S n T 0 (n - 1)) + yn (yt S n T 1 (n - 1)) + yn (yt S n T 2 (n - 1)) < yo S n T 0 a := hyb.2.2.2.2.2 a z
          omega
        · exact z
        · have := hI2 _ z
          omega
      have ev : yo S n T 0 a = yC S n T 3 := by
        show _ = ((0 + yn (yt S n T 0 (n - 1))) + yn (yt S n T 1 (n - 1))) + yn (yt S n T 2 (n - 1))
        omega
      refine r_Mod_way_128 ⟨fun _ => ⟨fun n3 => ?_, fun y3 => ?_⟩, fun q => absurd (by decide) q⟩
      · obtain ⟨kt, hkt, ekt⟩ := hv.elim (fun z => absurd z n3) (fun z => z.2)
        rw [ea]
        exact walk S' hO n3 kt hkt ekt kt 0 (by omega)
      · rw [zz_ix (n := a) (by omega), h91 a ha, ev]
        exact ⟨zz_ib (by omega) (by decide), hA S' hO.1 y3⟩
    | succ j ih =>
      intro b a hb ha hI1 hI2
      have hb27 : b < 27 := by omega
      have la := hol 0 (by omega) a ha
      have lbb := hol 0 (by omega) b hb27
      refine r_Mod_way_128 ?_
      rw [zz_ix (n := a) (by omega), zz_ix (n := b) (by omega), h91 a ha, h91 b hb27]
      refine ⟨fun q => absurd q (nI_ge (b := 27) hb27 (by decide)), fun _ => ⟨zz_ib (by omega) (by decide), zz_ib (by omega) (by decide), fun q => r_Mod_way_156 ?_, fun q => r_Mod_way_156 ?_⟩⟩
      · have hle := (nI_leI (by omega) (by omega)).1 q
        rw [nI_1]
        refine ih (b + 1) a (by omega) ha (fun b' hb' => ?_) hI2
        by_cases e : b' = b
        · rw [e]; exact hle
        · exact hI1 b' (by omega)
      · have hlt : yo S n T 0 b < yo S n T 0 a := Nat.lt_of_not_le (fun z => q (nI_le z (by omega)))
        rw [nI_1]
        refine ih (b + 1) b (by omega) hb27 (fun b' hb' => ?_) (fun b' hb' => ?_)
        · by_cases e : b' = b
          · rw [e]; exact Nat.le_refl _
          · have := hI1 b' (by omega)
            omega
        · have := hI1 b' hb'
          omega
  -- from the last place down
  have en1 : (nI n - 1 : Int32) = nI (n - 1) := pk_sub (b := 1) h1
  have table : ∀ (k i : Nat), k + i = n → ∀ S', yO S S' n T (n - i) → ∀ v : Int32, (i < n → v = nI (n - 1 - i)) → (i = n → v = -1) → ov_V true true d 0 0 mq_Mod_way 52 [some (.inr (.inr (true, 14, 0))), some (.inl (nI n)), some (.inl (nI T)), some (.inl v3), some (.inl v), none, none, none] [] S' Q := by
    intro k
    induction k with
    | zero =>
      intro i hi S' hO v hv1 hv2
      have e : i = n := by omega
      rw [hv2 e]
      rw [show n - i = 0 by omega] at hO
      refine r_Mod_way_52 ⟨fun _ => start S' hO 26 1 0 (by omega) (by decide) (fun b' hb' => ?_) (fun b' hb' => absurd hb' (by omega)), fun q => absurd (by decide) q⟩
      rw [show b' = 0 by omega]
      exact Nat.le_refl _
    | succ k ih =>
      intro i hi S' hO v hv1 hv2
      have hin : i < n := by omega
      rw [hv1 hin]
      have row : ∀ (j a : Nat), a + j = 27 → ∀ S2, yO S S2 n T (n - i) → (∀ a', a' < a → S2.1 91 0 (27 * (n - 1 - i) + a') = nI (yo S n T (n - 1 - i) a')) → ov_V true true d 0 0 mq_Mod_way 60 [some (.inr (.inr (true, 14, 0))), some (.inl (nI n)), some (.inl (nI T)), some (.inl v3), some (.inl (nI (n - 1 - i))), some (.inl (nI a)), none, none] [] S2 Q := by
        intro j
        induction j with
        | zero =>
          intro a ha S2 hO2 f2
          have e : a = 27 := by omega
          subst e
          refine r_Mod_way_60 (by omega) ⟨fun _ => ih (i + 1) (by omega) S2 ⟨hO2.1, fun k' hk1 hk2 a ha => ?_⟩ _ (fun hi2 => ?_) (fun hi2 => ?_), fun q => absurd (by decide) q⟩
          · by_cases e : k' = n - 1 - i
            · rw [e]; exact f2 a ha
            · exact hO2.2 k' (by omega) hk2 a ha
          · rw [show n - 1 - i = (n - 1 - (i + 1)) + 1 by omega]; exact pk_m1 _
          · rw [show n - 1 - i = 0 by omega]; rfl
        | succ j ih2 =>
          intro a ha S2 hO2 f2
          have ha27 : a < 27 := by omega
          have e27 : (27 * nI (n - 1 - i) + nI a : Int32) = nI (27 * (n - 1 - i) + a) := by
            show nI 27 * nI _ + nI _ = _
            rw [pk_mul, nI_add]
          have put : ∀ rest : Nat, ydg S (n - 1 - i) a + rest = yo S n T (n - 1 - i) a → ov_V true true d 0 0 mq_Mod_way 108 [some (.inr (.inr (true, 14, 0))), some (.inl (nI n)), some (.inl (nI T)), some (.inl v3), some (.inl (nI (n - 1 - i))), some (.inl (nI a)), none, none] [.inl (nI rest), .inl (nI (ydg S (n - 1 - i) a)), .inl (nI (27 * (n - 1 - i) + a)), .inr (.inr (true, 91, 0))] S2 Q := by
            intro rest hr
            refine r_Mod_way_108 ?_
            rw [nI_add, hr, zz_ix (n := 27 * (n - 1 - i) + a) (by omega), nI_1]
            refine ⟨zz_ib (by omega) (by decide), ih2 (a + 1) (by omega) _ ⟨sc_w hO2.1 rfl, fun k' hk1 hk2 a' ha' => ?_⟩ (fun a' ha' => ?_)⟩
            · rw [rl_wr, if_neg (by omega)]
              exact hO2.2 k' hk1 hk2 a' ha'
            · rw [rl_wr]
              by_cases e : a' = a
              · rw [if_pos (by omega), e]
              · rw [if_neg (by omega)]; exact f2 a' (by omega)
          refine r_Mod_way_60 (by omega) ⟨fun q => absurd q (nI_ge (b := 27) ha27 (by decide)), fun _ => ym_dang (by omega) hw hO2.1 (by omega) ha27 (r_Mod_way_87 (by omega) ?_)⟩
          rw [e27, en1]
          refine ⟨fun nl => ?_, fun yl => put 0 ?_⟩
          · have hk1 : (n - 1 - i) + 1 < n := by
              have : n - 1 - i ≠ n - 1 := fun z => nl (by rw [z])
              omega
            refine ym_behind (by omega) hw hn h1 hT hk1 ha27 (fun b hb => hO2.2 ((n - 1 - i) + 1) (by omega) hk1 b hb) (put _ (yo_next S hk1))
          · have : n - 1 - i = n - 1 := zz_inj (by omega) (by omega) yl
            rw [this]
            exact yo_last S h1
      exact r_Mod_way_52 ⟨fun q => absurd q (nI_pos (by omega)), fun _ => row 27 0 (by omega) S' hO (fun a' ha' => absurd ha' (by omega))⟩
  refine r_Mod_way_47 ?_
  rw [en1]
  exact table n 0 (by omega) S0 ⟨hs0, fun k' hk1 hk2 => absurd hk2 (by omega)⟩ _ (fun _ => by rw [Nat.sub_zero]) (fun z => absurd z (by omega))
theorem s_way {d : Nat} {S : ov_S} {v1 v2 v3 : Int32} (hd : 6 ≤ d) (h : rl_S S) : rl_2 d mq_Eye_way mq_Mod_way [some (.inr (.inr (true, 0, 0))), some (.inl v1), some (.inl v2), some (.inl v3)] [some (.inr (.inr (true, 14, 0))), some (.inl v1), some (.inl v2), some (.inl v3), none, none, none, none] S := by
  unfold rl_2
  obtain ⟨c, m, lb, nz, wc, hw, ho, hi⟩ := id h
  refine r_Eye_way_0 (by omega) ⟨fun n => r_Mod_way_0 (by omega) ⟨fun _ => rl_same h rfl, fun y => absurd y n⟩, fun q1 => ⟨fun q2 => ?_, fun n => r_Mod_way_0 (by omega) ⟨fun z => absurd q1 z, fun _ => ⟨fun _ => rl_same h rfl, fun y => absurd y n⟩⟩⟩⟩
  obtain ⟨n, hn1, hn, rfl⟩ := (zz_rng (a := 1) (b := 12) rfl rfl).1 q1
  obtain ⟨T, hT, rfl⟩ := (zz_le (b := 9) rfl).1 q2
  have e9 : (9 + nI n : Int32) = nI (9 + n) := nI_add 9 n
  have hin : ∀ v : Int32, (10 ≤ v ∧ v ≤ 9 + nI n) → ∃ i, i < n ∧ v - 10 = nI i := by
    intro v q
    rw [e9] at q
    obtain ⟨k, h1, h2, rfl⟩ := (zz_rng (a := 10) (b := 9 + n) rfl (nI_toInt (by omega))).1 q
    exact ⟨k - 10, by omega, pk_sub (b := 10) h1⟩
  have main : (v3 = 0 ∨ (¬ v3 = 0 ∧ (10 ≤ v3 ∧ v3 ≤ 9 + nI n))) → ov_V true true d 0 0 mq_Eye_way 41 [some (.inr (.inr (true, 0, 0))), some (.inl (nI n)), some (.inl (nI T)), some (.inl v3)] [] S (fun r S1 => ov_V true true d 0 0 mq_Mod_way 0 [some (.inr (.inr (true, 14, 0))), some (.inl (nI n)), some (.inl (nI T)), some (.inl v3), none, none, none, none] [] S1 (fun r' S2 => rl_e r r' S2)) := by
    intro hv
    have hv' : v3 = 0 ∨ (¬ v3 = 0 ∧ ∃ k, k < n ∧ v3 - 10 = nI k) := hv.elim .inl (fun z => .inr ⟨z.1, hin _ z.2⟩)
    refine r_Eye_way_41 (by omega) (yc_E (by omega) hw hn hn1 hT (fun S1 hF => ?_))
    have fin : ∀ x : Int32, (v3 = 0 → x = nI (yC S n T 3)) → (¬ v3 = 0 → ∀ k, k < n → v3 - 10 = nI k → x = nI (yz S n T k)) → ov_V true true d 0 0 mq_Mod_way 0 [some (.inr (.inr (true, 14, 0))), some (.inl (nI n)), some (.inl (nI T)), some (.inl v3), none, none, none, none] [] S1 (fun r' S2 => rl_e (some (.inl x)) r' S2) := by
      intro x hx1 hx2
      have go : ov_V true true d 0 0 mq_Mod_way 47 [some (.inr (.inr (true, 14, 0))), some (.inl (nI n)), some (.inl (nI T)), some (.inl v3), none, none, none, none] [] (ov_w S1 14 0 0 0) (fun r' S2 => rl_e (some (.inl x)) r' S2) := ym_M (by omega) hw hn hn1 hT (sc_w hF.1 rfl) hv' (fun S' s' y => sc_ans h s' (hx1 y).symm) (fun S' s' n3 k hk ek => sc_ans h s' (hx2 n3 k hk ek).symm)
      exact r_Mod_way_0 (by omega) ⟨fun z => absurd q1 z, fun _ => ⟨fun z => absurd q2 z, fun _ => ⟨fun _ => go, fun n3 => ⟨fun _ => go, fun n4 => absurd (hv.elim (fun z => absurd z n3) (fun z => z.2)) n4⟩⟩⟩⟩
    refine r_Eye_way_60 ⟨fun n3 => ?_, fun y3 => ?_⟩
    · obtain ⟨k, hk, ek⟩ := hv'.elim (fun z => absurd z n3) (fun z => z.2)
      rw [ek, zz_ix (n := k) (by omega), show ov_g S1 52 0 k = _ from hF.2.1 k hk]
      refine ⟨zz_ib (by omega) (by decide), fin _ (fun y => absurd y n3) (fun _ k' hk' ek' => ?_)⟩
      have : k' = k := zz_inj (by omega) (by omega) (ek'.symm.trans ek)
      rw [this]
      congr 1
      show 3 * (3 * (3 * 0 + yh S n T 0 k) + yh S n T 1 k) + yh S n T 2 k = 9 * yh S n T 0 k + 3 * yh S n T 1 k + yh S n T 2 k
      omega
    · rw [show ov_g S1 11 0 1 = _ from hF.2.2]
      exact fin _ (fun _ => rfl) (fun n3 => absurd y3 n3)
  refine ⟨fun y => main (.inl y), fun n3 => ⟨fun q => main (.inr ⟨n3, q⟩), fun n4 => r_Mod_way_0 (by omega) ⟨fun z => absurd q1 z, fun _ => ⟨fun z => absurd q2 z, fun _ => ⟨fun y => absurd y n3, fun _ => ⟨fun q => absurd q n4, fun _ => rl_same h rfl⟩⟩⟩⟩⟩⟩
