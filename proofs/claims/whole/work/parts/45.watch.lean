/-! ===== WATCHES ===== -/
def wM (l : Nat → Nat) : Nat := max (l 0) (max (l 1) (l 2))
def wm (l : Nat → Nat) : Nat := min (l 0) (min (l 1) (l 2))
def wsp (l : Nat → Nat) : Nat := wM l - wm l
/-- what the last k watches of a way give each member; w: the minutes, n: how many watches -/
def wlt (w : Nat → Nat) (n : Nat) : Nat → Nat → Nat → Nat
  | 0, _, _ => 0
  | k + 1, r, x => (if r / 3 ^ k = x then w (n - 1 - k) else 0) + wlt w n k (r % 3 ^ k) x
def wS (w : Nat → Nat) (n k : Nat) (l : Nat → Nat) (r : Nat) : Nat := wsp (fun x => l x + wlt w n k r x)
/-- no member ahead of a lesser one -/
def wcn : Nat → Nat → Nat → Prop
  | 0, _, _ => True
  | k + 1, u, r => r / 3 ^ k ≤ u ∧ wcn k (max u (r / 3 ^ k + 1)) (r % 3 ^ k)
def wup (l : Nat → Nat) (m v : Nat) : Nat → Nat := fun x => if x = m then l x + v else l x
theorem w_dm {k m r : Nat} (hr : r < 3 ^ k) : (m * 3 ^ k + r) / 3 ^ k = m ∧ (m * 3 ^ k + r) % 3 ^ k = r := by
  have hp : 0 < 3 ^ k := Nat.pow_pos (by decide)
  constructor
  · rw [Nat.add_comm, Nat.add_mul_div_right _ _ hp, Nat.div_eq_of_lt hr, Nat.zero_add]
  · rw [Nat.add_comm, Nat.add_mul_mod_self_right, Nat.mod_eq_of_lt hr]
theorem w_spl {k r : Nat} (hr : r < 3 ^ (k + 1)) : ∃ m r', m < 3 ∧ r' < 3 ^ k ∧ r = m * 3 ^ k + r' := by
  have hp : 0 < 3 ^ k := Nat.pow_pos (by decide)
  refine ⟨r / 3 ^ k, r % 3 ^ k, ?_, Nat.mod_lt _ hp, ?_⟩
  · rw [Nat.pow_succ] at hr
    exact (Nat.div_lt_iff_lt_mul hp).2 (by rw [Nat.mul_comm]; exact hr)
  · rw [Nat.mul_comm]; exact (Nat.div_add_mod r (3 ^ k)).symm
theorem wsp_c {l l' : Nat → Nat} (h0 : l 0 = l' 0) (h1 : l 1 = l' 1) (h2 : l 2 = l' 2) : wsp l = wsp l' := by
  unfold wsp wM wm
  rw [h0, h1, h2]
theorem wS_s {w : Nat → Nat} {n k m r : Nat} {l : Nat → Nat} (hr : r < 3 ^ k) : wS w n (k + 1) l (m * 3 ^ k + r) = wS w n k (wup l m (w (n - 1 - k))) r := by
  have key : ∀ x, l x + wlt w n (k + 1) (m * 3 ^ k + r) x = wup l m (w (n - 1 - k)) x + wlt w n k r x := by
    intro x
    show l x + ((if (m * 3 ^ k + r) / 3 ^ k = x then w (n - 1 - k) else 0) + wlt w n k ((m * 3 ^ k + r) % 3 ^ k) x) = (if x = m then l x + w (n - 1 - k) else l x) + wlt w n k r x
    rw [(w_dm hr).1, (w_dm hr).2]
    by_cases e : m = x
    · rw [if_pos e, if_pos e.symm]; omega
    · rw [if_neg e, if_neg (fun q => e q.symm)]; omega
  exact wsp_c (key 0) (key 1) (key 2)
theorem wcn_s {k m u r : Nat} (hr : r < 3 ^ k) : wcn (k + 1) u (m * 3 ^ k + r) ↔ (m ≤ u ∧ wcn k (max u (m + 1)) r) := by
  show ((m * 3 ^ k + r) / 3 ^ k ≤ u ∧ wcn k (max u ((m * 3 ^ k + r) / 3 ^ k + 1)) ((m * 3 ^ k + r) % 3 ^ k)) ↔ _
  rw [(w_dm hr).1, (w_dm hr).2]
/-- two members change their places -/
def wtr (p q x : Nat) : Nat := if x = p then q else if x = q then p else x
theorem wsp_t {l : Nat → Nat} {p q : Nat} (hp : p < 3) (hq : q < 3) : wsp (fun x => l (wtr p q x)) = wsp l := by
  unfold wsp wM wm wtr
  have h1 : p = 0 ∨ p = 1 ∨ p = 2 := by omega
  have h2 : q = 0 ∨ q = 1 ∨ q = 2 := by omega
  rcases h1 with e | e | e <;> rcases h2 with e' | e' | e' <;> subst e <;> subst e' <;> simp <;> omega
theorem wtr_lt {p q x : Nat} (hp : p < 3) (hq : q < 3) (hx : x < 3) : wtr p q x < 3 := by
  unfold wtr
  split
  · exact hq
  · split
    · exact hp
    · exact hx
theorem wtr_tr {p q x : Nat} : wtr p q (wtr p q x) = x := by
  unfold wtr
  by_cases h1 : x = p
  · rw [if_pos h1]
    by_cases h2 : q = p
    · rw [if_pos h2]; omega
    · rw [if_neg h2, if_pos rfl]; exact h1.symm
  · rw [if_neg h1]
    by_cases h2 : x = q
    · rw [if_pos h2, if_pos rfl]; exact h2.symm
    · rw [if_neg h2, if_neg h1, if_neg h2]
theorem wS_t {w : Nat → Nat} {n p q : Nat} (hp : p < 3) (hq : q < 3) : ∀ (k : Nat) (l : Nat → Nat) (r : Nat), r < 3 ^ k → ∃ r2, r2 < 3 ^ k ∧ wS w n k (fun x => l (wtr p q x)) r2 = wS w n k l r
  | 0, l, r, hr => ⟨0, by decide, by
      have : r = 0 := by have : 3 ^ 0 = 1 := rfl; omega
      subst this
      exact wsp_t (l := fun x => l x + 0) hp hq⟩
  | k + 1, l, r, hr => by
    obtain ⟨m, r', hm, hr', rfl⟩ := w_spl hr
    obtain ⟨r2, h1, h2⟩ := wS_t hp hq k (wup l m (w (n - 1 - k))) r' hr'
    have hm2 := wtr_lt hp hq hm
    refine ⟨wtr p q m * 3 ^ k + r2, ?_, ?_⟩
    · rw [Nat.pow_succ]
      have : wtr p q m * 3 ^ k ≤ 2 * 3 ^ k := Nat.mul_le_mul_right _ (by omega)
      omega
    · rw [wS_s h1, wS_s hr', ← h2]
      have key : ∀ x, wup (fun x => l (wtr p q x)) (wtr p q m) (w (n - 1 - k)) x = wup l m (w (n - 1 - k)) (wtr p q x) := by
        intro x
        unfold wup
        by_cases e : x = wtr p q m
        · rw [if_pos e, if_pos (by rw [e, wtr_tr])]
        · rw [if_neg e, if_neg (fun z => e (by rw [← z, wtr_tr]))]
      have : wup (fun x => l (wtr p q x)) (wtr p q m) (w (n - 1 - k)) = fun x => wup l m (w (n - 1 - k)) (wtr p q x) := funext key
      rw [this]
/-- each way has one like it that comes not later and where no member is ahead of a lesser one -/
theorem w_can {w : Nat → Nat} {n : Nat} : ∀ (k u : Nat) (l : Nat → Nat) (r : Nat), r < 3 ^ k → (∀ x, u ≤ x → x < 3 → l x = 0) → ∃ r2, r2 ≤ r ∧ wcn k u r2 ∧ wS w n k l r2 = wS w n k l r
  | 0, u, l, r, hr, h => ⟨r, Nat.le_refl _, trivial, rfl⟩
  | k + 1, u, l, r, hr, h => by
    obtain ⟨m, r', hm, hr', rfl⟩ := w_spl hr
    rcases Nat.lt_or_ge u m with hu | hu
    · -- m comes too early: u in its place
      obtain ⟨r2, h1, h2⟩ := wS_t (w := w) (n := n) (p := m) (q := u) hm (by omega) k (wup l m (w (n - 1 - k))) r' hr'
      have e1 : ∀ x, wup l u (w (n - 1 - k)) x = wup l m (w (n - 1 - k)) (wtr m u x) ∨ 3 ≤ x := by
        intro x
        rcases Nat.lt_or_ge x 3 with hx | hx
        · refine .inl ?_
          unfold wup wtr
          by_cases ex : x = m
          · rw [if_pos ex, if_neg (by omega), if_neg (by omega), h x (by omega) hx, h u (Nat.le_refl _) (by omega)]
          · rw [if_neg ex]
            by_cases eu : x = u
            · rw [if_pos eu, if_pos eu, if_pos rfl, eu, h u (Nat.le_refl _) (by omega), h m (by omega) hm]
            · rw [if_neg eu, if_neg eu, if_neg ex]
        · exact .inr hx
      have e2 : wS w n k (wup l u (w (n - 1 - k))) r2 = wS w n k (fun x => wup l m (w (n - 1 - k)) (wtr m u x)) r2 := by
        have g : ∀ x, x < 3 → wup l u (w (n - 1 - k)) x + wlt w n k r2 x = wup l m (w (n - 1 - k)) (wtr m u x) + wlt w n k r2 x := fun x hx => by
          rcases e1 x with e | e
          · rw [e]
          · omega
        exact wsp_c (g 0 (by decide)) (g 1 (by decide)) (g 2 (by decide))
      obtain ⟨r3, k1, k2, k3⟩ := w_can (w := w) (n := n) k (max u (u + 1)) (wup l u (w (n - 1 - k))) r2 h1 (by
        intro x hx hx3
        show (if x = u then _ else l x) = 0
        rw [if_neg (by omega)]
        exact h x (by omega) hx3)
      have hr3 : r3 < 3 ^ k := by omega
      refine ⟨u * 3 ^ k + r3, ?_, (wcn_s hr3).2 ⟨Nat.le_refl _, k2⟩, ?_⟩
      · have : (u + 1) * 3 ^ k ≤ m * 3 ^ k := Nat.mul_le_mul_right _ (by omega)
        rw [Nat.add_mul] at this
        omega
      · rw [wS_s hr3, wS_s hr', k3, e2, h2]
    · obtain ⟨r3, k1, k2, k3⟩ := w_can (w := w) (n := n) k (max u (m + 1)) (wup l m (w (n - 1 - k))) r' hr' (by
        intro x hx hx3
        show (if x = m then _ else l x) = 0
        rw [if_neg (by omega)]
        exact h x (by omega) hx3)
      have hr3 : r3 < 3 ^ k := by omega
      refine ⟨m * 3 ^ k + r3, by omega, (wcn_s hr3).2 ⟨hu, k2⟩, ?_⟩
      rw [wS_s hr3, wS_s hr', k3]
/-- the first of the best among those of a kind, below X -/
def wBI (f : Nat → Nat) (A : Nat → Prop) (X L B : Nat) : Prop := (L = 1000000 ∧ ∀ W, W < X → ¬ A W) ∨ (L = f B ∧ L < 1000000 ∧ A B ∧ B < X ∧ (∀ W, W < X → A W → L ≤ f W) ∧ ∀ W, W < B → A W → L < f W)
theorem wBI_none {f : Nat → Nat} {A : Nat → Prop} {X Y L B : Nat} (hXY : X ≤ Y) (h : wBI f A X L B) (hn : ∀ W, X ≤ W → W < Y → ¬ A W) : wBI f A Y L B := by
  rcases h with ⟨h1, h2⟩ | ⟨h1, h2, h3, h4, h5, h6⟩
  · exact .inl ⟨h1, fun W hW => (Nat.lt_or_ge W X).elim (fun q => h2 W q) (fun q => hn W q hW)⟩
  · exact .inr ⟨h1, h2, h3, by omega, fun W hW hA => (Nat.lt_or_ge W X).elim (fun q => h5 W q hA) (fun q => absurd hA (hn W q hW)), h6⟩
theorem wBI_keep {f : Nat → Nat} {A : Nat → Prop} {X L B : Nat} (h : wBI f A X L B) (hl : L ≤ f X) (hf : f X < 1000000) : wBI f A (X + 1) L B := by
  rcases h with ⟨h1, h2⟩ | ⟨h1, h2, h3, h4, h5, h6⟩
  · omega
  · refine .inr ⟨h1, h2, h3, by omega, fun W hW hA => ?_, h6⟩
    by_cases e : W = X
    · rw [e]; exact hl
    · exact h5 W (by omega) hA
theorem wBI_new {f : Nat → Nat} {A : Nat → Prop} {X L B : Nat} (h : wBI f A X L B) (hA : A X) (hl : f X < L) : wBI f A (X + 1) (f X) X := by
  rcases h with ⟨h1, h2⟩ | ⟨h1, h2, h3, h4, h5, h6⟩
  · refine .inr ⟨rfl, by omega, hA, by omega, fun W hW hA2 => ?_, fun W hW hA2 => absurd hA2 (h2 W hW)⟩
    by_cases e : W = X
    · rw [e]; exact Nat.le_refl _
    · exact absurd hA2 (h2 W (by omega))
  · refine .inr ⟨rfl, by omega, hA, by omega, fun W hW hA2 => ?_, fun W hW hA2 => ?_⟩
    · by_cases e : W = X
      · rw [e]; exact Nat.le_refl _
      · have := h5 W (by omega) hA2
        omega
    · have := h5 W hW hA2
      omega
/-! the minutes of the watches -/
def ww (S : ov_S) (i : Nat) : Nat := ov_ix (S.1 95 0 i)
theorem ww_ok {c mm lb nz wc : Nat} {S : ov_S} (hw : rl_w c mm lb nz wc S.1 S.1) {i : Nat} (hi : i < wc) : S.1 95 0 i = nI (ww S i) ∧ S.1 32 0 i = nI (ww S i) ∧ ww S i ≤ 99 := by
  have h24 := hw.2.2.2.2.2.2.2.2.2.2.2.2.2.2.2.2.2.2.2.2.2.2.2.1
  obtain ⟨e1, h⟩ := hw.2.2.2.2.2.2.2.2.2.2.2.2.2.2.2.2.2.2.2.2.2.2.2.2.1 i (by omega)
  obtain ⟨v, h1, h2, e⟩ := h hi
  have : ww S i = v := by unfold ww; rw [e]; exact zz_ix (by omega)
  rw [this]
  exact ⟨e, e1.trans e, h2⟩
theorem wlt_le {w : Nat → Nat} {n : Nat} (hw : ∀ i, i < n → w i ≤ 99) : ∀ (k r x : Nat), k ≤ n → wlt w n k r x ≤ 99 * k
  | 0, r, x, _ => Nat.le_refl _
  | k + 1, r, x, hk => by
    have h := wlt_le hw k (r % 3 ^ k) x (by omega)
    have h2 := hw (n - 1 - k) (by omega)
    show (if r / 3 ^ k = x then w (n - 1 - k) else 0) + wlt w n k (r % 3 ^ k) x ≤ 99 * (k + 1)
    split <;> omega
/-! the class -/
def wDI (S S' : ov_S) (n i P : Nat) (l : Nat → Nat) (L B : Nat) : Prop := sc S S' ∧ (∀ x, x < 3 → S'.1 57 0 x = nI (l x)) ∧ (∀ j, j < i → S'.1 56 0 j = nI (P / 3 ^ (i - 1 - j) % 3)) ∧ S'.1 13 0 1 = nI L ∧ (L = 1000000 ∨ ∀ j, j < n → S'.1 55 0 j = nI (B / 3 ^ (n - 1 - j) % 3))
theorem w_max {a b : Nat} (ha : a < 2 ^ 31) (hb : b < 2 ^ 31) : (if nI a < nI b then nI b else nI a) = nI (max a b) := by
  by_cases h : a < b
  · rw [if_pos (nI_lt h hb)]; congr 1; omega
  · rw [if_neg (fun q => h ((nI_ltI ha hb).1 q))]; congr 1; omega
theorem w_min {a b : Nat} (ha : a < 2 ^ 31) (hb : b < 2 ^ 31) : (if nI b < nI a then nI b else nI a) = nI (min a b) := by
  by_cases h : b < a
  · rw [if_pos (nI_lt h ha)]; congr 1; omega
  · rw [if_neg (fun q => h ((nI_ltI hb ha).1 q))]; congr 1; omega
theorem w_cmp {d n P : Nat} {S S' : ov_S} {Q : ov_Q} {l : Nat → Nat} {L B : Nat} {A : Nat → Prop} {f : Nat → Nat} (hd : 1 ≤ d) (hn : n ≤ 9) (hl : ∀ x, x < 3 → l x ≤ 10000) (hL : L ≤ 1000000) (hI : wDI S S' n n P l L B) (hf : f P = wsp l) (hA : A P) (hB : wBI f A P L B)
    (h : ∀ S2 L2 B2, L2 ≤ 1000000 → wDI S S2 n n P l L2 B2 → wBI f A (P + 1) L2 B2 → Q none S2) : ov_V true true d 0 0 mq_Deal_compare 0 [some (.inr (.inr (true, 13, 0))), none, none] [] S' Q := by
  obtain ⟨i1, i2, i3, i4, i5⟩ := id hI
  have l0 := hl 0 (by decide)
  have l1 := hl 1 (by decide)
  have l2 := hl 2 (by decide)
  have e0 : ov_g S' 57 0 0 = nI (l 0) := i2 0 (by decide)
  have e1 : ov_g S' 57 0 1 = nI (l 1) := i2 1 (by decide)
  have e2 : ov_g S' 57 0 2 = nI (l 2) := i2 2 (by decide)
  have eL : ov_g S' 13 0 1 = nI L := i4
  have hM : wM l = max (l 0) (max (l 1) (l 2)) := rfl
  have hm : wm l = min (l 0) (min (l 1) (l 2)) := rfl
  have hs : wsp l = wM l - wm l := rfl
  refine r_Deal_compare_0 hd ?_
  rw [show ov_ix 0 = 0 from rfl, show ov_ix 1 = 1 from rfl, show ov_ix 2 = 2 from rfl, e0, e1, e2, eL, w_max (a := l 1) (b := l 2) (by omega) (by omega), w_max (a := l 0) (by omega) (by omega), w_min (a := l 1) (b := l 2) (by omega) (by omega), w_min (a := l 0) (by omega) (by omega), ← hM, ← hm, pk_sub (by omega), ← hs]
  refine ⟨fun q => ?_, fun q => ?_⟩
  · have hle : L ≤ wsp l := (nI_leI (by omega) (by omega)).1 q
    exact h S' L B hL hI (wBI_keep hB (by rw [hf]; exact hle) (by omega))
  · have hlt : wsp l < L := Nat.lt_of_not_le (fun z => q (nI_le z (by omega)))
    have hB2 := wBI_new hB hA (by rw [hf]; exact hlt)
    rw [hf] at hB2
    refine h _ (wsp l) P (by omega) ⟨sc_wa (sc_w i1 rfl) (fun _ => rfl), i2, i3, ?_, .inr (fun j hj => ?_)⟩ hB2
    · exact rl_ww S' 13 0 1 _
    · show (va_cpy ((ov_w S' 13 0 1 (nI (wsp l))).1 56 0) ((ov_w S' 13 0 1 (nI (wsp l))).1 55 0) (ov_ix 0) (ov_ix 0) (ov_ix 9)) j = _
      rw [show ov_ix 0 = 0 from rfl, show ov_ix 9 = 9 from rfl, pk_cpy_in (by omega) (by omega), Nat.zero_add, Nat.sub_zero]
      exact i3 j hj
theorem w_deal {c mm lb nz n : Nat} {S : ov_S} {A : Nat → Prop} {f : Nat → Nat} (hw : rl_w c mm lb nz n S.1 S.1) (hf : ∀ W, f W < 1000000) : ∀ (k i : Nat), i + k = n → ∀ (d P u : Nat) (l : Nat → Nat) (L B : Nat) (S' : ov_S) (Q : ov_Q), k + 2 ≤ d → u ≤ 3 → (∀ x, x < 3 → l x ≤ 99 * i) → L ≤ 1000000 → wDI S S' n i P l L B → (∀ r, r < 3 ^ k → f (P * 3 ^ k + r) = wS (ww S) n k l r) → (∀ r, r < 3 ^ k → (A (P * 3 ^ k + r) ↔ wcn k u r)) → wBI f A (P * 3 ^ k) L B →
    (∀ S2 L2 B2, L2 ≤ 1000000 → wDI S S2 n i P l L2 B2 → wBI f A ((P + 1) * 3 ^ k) L2 B2 → Q none S2) → ov_V true true d 0 0 mq_Deal_deal 0 [some (.inr (.inr (true, 13, 0))), some (.inr (.inr (true, 32, 0))), some (.inl (nI n)), some (.inl (nI i)), some (.inl (nI u)), none] [] S' Q := by
  have hn9 := hw.2.2.2.2.2.2.2.2.2.2.2.2.2.2.2.2.2.2.2.2.2.2.2.1.1
  intro k
  induction k with
  | zero =>
    intro i hi d P u l L B S' Q hd hu hl hL hI hfe hAe hB h
    have e : i = n := by omega
    subst e
    have h30 : P * 3 ^ 0 = P := Nat.mul_one _
    have hB' : wBI f A P L B := by rw [← h30]; exact hB
    have hfP : f P = wsp l := by
      have := hfe 0 (by decide)
      rw [h30] at this
      exact this
    have hAP : A P := by
      have := (hAe 0 (by decide)).2 trivial
      rw [h30] at this
      exact this
    refine r_Deal_deal_0 ⟨fun _ => r_Deal_deal_11 (by omega) (w_cmp (by omega) (by omega) (fun x hx => by have := hl x hx; omega) hL hI hfP hAP hB' (fun S2 L2 B2 a0 a1 a2 => r_Deal_deal_15 (h S2 L2 B2 a0 a1 ?_))), fun q => absurd (nI_le (Nat.le_refl _) (by omega)) q⟩
    rw [show (P + 1) * 3 ^ 0 = P + 1 from Nat.mul_one _]
    exact a2
  | succ k ih =>
    intro i hi d P u l L B S' Q hd hu hl hL hI hfe hAe hB h
    have hin : i < n := by omega
    obtain ⟨w1, w2, w3⟩ := ww_ok hw hin
    have hp : 0 < 3 ^ k := Nat.pow_pos (by decide)
    have hps : 3 ^ (k + 1) = 3 * 3 ^ k := by rw [Nat.pow_succ, Nat.mul_comm]
    have hk1 : n - 1 - k = i := by omega
    have ibi : ov_ib (nI i) 9 := zz_ib (by omega) (by decide)
    have loop : ∀ (j m : Nat), m + j = 3 → ∀ (S' : ov_S) (L B : Nat), L ≤ 1000000 → wDI S S' n i P l L B → m ≤ u + 1 → wBI f A ((3 * P + m) * 3 ^ k) L B → ov_V true true d 0 0 mq_Deal_deal 19 [some (.inr (.inr (true, 13, 0))), some (.inr (.inr (true, 32, 0))), some (.inl (nI n)), some (.inl (nI i)), some (.inl (nI u)), some (.inl (nI m))] [] S' Q := by
      intro j
      induction j with
      | zero =>
        intro m hm S' L B hL hI hmu hB
        have e : m = 3 := by omega
        subst e
        refine r_Deal_deal_19 (by omega) ⟨fun _ => h S' L B hL hI ?_, fun q => absurd (by decide) q⟩
        rw [show (P + 1) * 3 ^ (k + 1) = (3 * P + 3) * 3 ^ k by rw [hps, ← Nat.mul_assoc, Nat.add_mul, Nat.one_mul, Nat.mul_comm P 3]]
        exact hB
      | succ j ihj =>
        intro m hm S' L B hL hI hmu hB
        have hm3 : m < 3 := by omega
        have ibm : ov_ib (nI m) 3 := zz_ib hm3 (by decide)
        refine r_Deal_deal_19 (by omega) ⟨fun q => absurd q (nI_ge (b := 3) hm3 (by decide)), fun _ => ⟨fun q => ?_, fun q => ?_⟩⟩
        · have hum : u < m := (nI_ltI (by omega) (by omega)).1 q
          have hmeq : m = u + 1 := by omega
          refine h S' L B hL hI ?_
          rw [show (P + 1) * 3 ^ (k + 1) = (3 * P + 3) * 3 ^ k by rw [hps, ← Nat.mul_assoc, Nat.add_mul, Nat.one_mul, Nat.mul_comm P 3]]
          refine wBI_none (Nat.mul_le_mul_right _ (by omega)) hB (fun W h1 h2 hA => ?_)
          have hge : P * 3 ^ (k + 1) ≤ W := by
            refine Nat.le_trans ?_ h1
            rw [hps, ← Nat.mul_assoc, Nat.mul_comm P 3]
            exact Nat.mul_le_mul_right _ (by omega)
          obtain ⟨r, rfl⟩ : ∃ r, W = P * 3 ^ (k + 1) + r := ⟨W - P * 3 ^ (k + 1), by omega⟩
          have hr : r < 3 ^ (k + 1) := by
            have : (3 * P + 3) * 3 ^ k = P * 3 ^ (k + 1) + 3 ^ (k + 1) := by rw [hps, ← Nat.mul_assoc, Nat.add_mul, Nat.mul_comm P 3]
            omega
          have hc := (hAe r hr).1 hA
          obtain ⟨m', r', hm', hr', rfl⟩ := w_spl hr
          have hle := ((wcn_s hr').1 hc).1
          have e3 : P * 3 ^ (k + 1) = 3 * P * 3 ^ k := by rw [hps, ← Nat.mul_assoc, Nat.mul_comm P 3]
          rw [e3] at h1
          have h3 : (3 * P + m) * 3 ^ k = 3 * P * 3 ^ k + m * 3 ^ k := Nat.add_mul _ _ _
          have h4 : (m' + 1) * 3 ^ k ≤ m * 3 ^ k := Nat.mul_le_mul_right _ (by omega)
          rw [Nat.add_mul, Nat.one_mul] at h4
          omega
        · have hmu2 : m ≤ u := Nat.le_of_not_lt (fun z => q (nI_lt z (by omega)))
          obtain ⟨i1, i2, i3, i4, i5⟩ := id hI
          rw [zz_ix (n := i) (by omega), zz_ix (n := m) (by omega)]
          have e57 : ov_g (ov_w S' 56 0 i (nI m)) 57 0 m = nI (l m) := i2 m hm3
          have e32 : ov_g (ov_w S' 56 0 i (nI m)) 32 0 i = nI (ww S i) := (i1.2 32 0 i rfl).trans w2
          rw [e57, e32, nI_add, nI_1 i, nI_1 m, w_max (by omega) (by omega)]
          refine ⟨ibi, ibm, ibi, ibm, ?_⟩
          have hd3 : P * 3 ^ (k + 1) = 3 * P * 3 ^ k := by rw [hps, ← Nat.mul_assoc, Nat.mul_comm P 3]
          refine ih (i + 1) (by omega) (d - 1) (3 * P + m) (max u (m + 1)) (wup l m (ww S i)) L B _ _ (by omega) (by omega) (fun x hx => ?_) hL ⟨sc_w (sc_w i1 rfl) rfl, fun x hx => ?_, fun j' hj' => ?_, i4, i5⟩ (fun r hr => ?_) (fun r hr => ?_) hB (fun S2 L2 B2 a0 a1 a2 => r_Deal_deal_71 ?_)
          · have := hl x hx
            unfold wup
            split <;> omega
          · show (ov_w (ov_w S' 56 0 i (nI m)) 57 0 m (nI (l m + ww S i))).1 57 0 x = nI (if x = m then l x + ww S i else l x)
            rw [rl_wr]
            by_cases e : x = m
            · rw [if_pos e, if_pos e, e]
            · rw [if_neg e, if_neg e]; exact i2 x hx
          · show (ov_w S' 56 0 i (nI m)).1 56 0 j' = nI ((3 * P + m) / 3 ^ (i + 1 - 1 - j') % 3)
            rw [rl_wr]
            by_cases e : j' = i
            · rw [if_pos e, e, show i + 1 - 1 - i = 0 by omega, Nat.pow_zero, Nat.div_one]
              congr 1
              omega
            · rw [if_neg e, i3 j' (by omega), show i + 1 - 1 - j' = (i - 1 - j') + 1 by omega, Nat.pow_succ, Nat.mul_comm (3 ^ (i - 1 - j')) 3, ← Nat.div_div_eq_div_mul, show (3 * P + m) / 3 = P by omega]
          · rw [← hk1, ← wS_s hr, ← hfe _ (show m * 3 ^ k + r < 3 ^ (k + 1) by
              rw [hps]
              have : m * 3 ^ k ≤ 2 * 3 ^ k := Nat.mul_le_mul_right _ (by omega)
              omega), hd3, Nat.add_mul, Nat.add_assoc]
          · have := hAe (m * 3 ^ k + r) (by
              rw [hps]
              have : m * 3 ^ k ≤ 2 * 3 ^ k := Nat.mul_le_mul_right _ (by omega)
              omega)
            rw [hd3, ← Nat.add_assoc, ← Nat.add_mul, wcn_s hr] at this
            rw [this]
            exact ⟨fun q => q.2, fun q => ⟨hmu2, q⟩⟩
          · obtain ⟨b1, b2, b3, b4, b5⟩ := id a1
            have f57 : ov_g S2 57 0 m = nI (l m + ww S i) := (b2 m hm3).trans (by unfold wup; rw [if_pos rfl])
            have f32 : ov_g S2 32 0 i = nI (ww S i) := (b1.2 32 0 i rfl).trans w2
            rw [zz_ix (n := i) (by omega), zz_ix (n := m) (by omega), f57, f32, pk_sub (by omega), Nat.add_sub_cancel, nI_1]
            refine ⟨ibm, ibi, ibm, ihj (m + 1) (by omega) _ L2 B2 a0 ⟨sc_w b1 rfl, fun x hx => ?_, fun j' hj' => ?_, b4, b5⟩ (by omega) ?_⟩
            · rw [rl_wr]
              by_cases e : x = m
              · rw [if_pos e, e]
              · rw [if_neg e, b2 x hx]; unfold wup; rw [if_neg e]
            · show S2.1 56 0 j' = _
              rw [b3 j' (by omega), show i + 1 - 1 - j' = (i - 1 - j') + 1 by omega, Nat.pow_succ, Nat.mul_comm (3 ^ (i - 1 - j')) 3, ← Nat.div_div_eq_div_mul, show (3 * P + m) / 3 = P by omega]
            · exact a2
    refine r_Deal_deal_0 ⟨fun q => absurd q (nI_ge hin (by omega)), fun _ => ⟨fun _ => loop 3 0 (by omega) S' L B hL hI (by omega) ?_, fun q => absurd (nI_lt (b := 9) (by omega) (by decide)) q⟩⟩
    rw [Nat.add_zero, Nat.mul_comm 3 P, Nat.mul_assoc, ← hps]
    exact hB
theorem w_fill {d : Nat} {S0 : ov_S} {Q : ov_Q} (h : ∀ S', sc S0 S' → (∀ x, x < 3 → S'.1 57 0 x = nI 0) → Q none S') : ∀ (j i : Nat), i + j = 3 → ∀ S, sc S0 S → (∀ x, x < i → S.1 57 0 x = nI 0) → ov_V true true d 0 0 mq_Arrays_fillI 5 [some (.inr (.inr (true, 57, 0))), some (.inl 0), some (.inl (nI i)), some (.inl (nI 3))] [] S Q := by
  intro j
  induction j with
  | zero =>
    intro i hi S a1 a2
    have e : i = 3 := by omega
    subst e
    exact rx57_Arrays_fillI_5 ⟨fun _ => h S a1 a2, fun q => absurd (by decide) q⟩
  | succ j ih =>
    intro i hi S a1 a2
    refine rx57_Arrays_fillI_5 ⟨fun q => absurd q (nI_ge (by omega) (by decide)), fun _ => ⟨zz_ib (by omega) (by decide), ?_⟩⟩
    rw [nI_1, zz_ix (n := i) (by omega)]
    refine ih (i + 1) (by omega) _ (sc_w a1 rfl) (fun s hs => ?_)
    rw [rl_wr]
    by_cases e : s = i
    · rw [if_pos e]; rfl
    · rw [if_neg e]; exact a2 s (by omega)
/-- a way's spread -/
def wf (S : ov_S) (n W : Nat) : Nat := wS (ww S) n n (fun _ => 0) W
theorem wf_lt {c mm lb nz n : Nat} {S : ov_S} (hw : rl_w c mm lb nz n S.1 S.1) (W : Nat) : wf S n W < 1000000 := by
  have hn9 := hw.2.2.2.2.2.2.2.2.2.2.2.2.2.2.2.2.2.2.2.2.2.2.2.1.1
  have h : ∀ x, wlt (ww S) n n W x ≤ 99 * n := fun x => wlt_le (fun i hi => (ww_ok hw hi).2.2) n W x (Nat.le_refl _)
  have h0 := h 0
  have h1 := h 1
  have h2 := h 2
  show max (0 + wlt (ww S) n n W 0) (max (0 + wlt (ww S) n n W 1) (0 + wlt (ww S) n n W 2)) - wm (fun x => 0 + wlt (ww S) n n W x) < 1000000
  omega
theorem w_E {d c mm lb nz n : Nat} {S : ov_S} {Q : ov_Q} (hd : 13 ≤ d) (hw : rl_w c mm lb nz n S.1 S.1) (h : ∀ S' L B, wDI S S' n 0 0 (fun _ => 0) L B → L ≤ 1000000 → wBI (wf S n) (wcn n 0) (3 ^ n) L B → Q none S') : ov_V true true d 0 0 mq_Deal_find 0 [some (.inr (.inr (true, 13, 0))), some (.inr (.inr (true, 32, 0))), some (.inl (nI n))] [] S Q := by
  have hn9 := hw.2.2.2.2.2.2.2.2.2.2.2.2.2.2.2.2.2.2.2.2.2.2.2.1.1
  refine r_Deal_find_0 (by omega) (rx57_Arrays_fillI_0 (w_fill (fun S1 s1 f1 => r_Deal_find_8 (by omega) ?_) 3 0 (by omega) S sc_r (fun x hx => absurd hx (by omega))))
  have e9 : (if (9 : Int32) < nI n then 9 else nI n) = nI n := if_neg (fun q => absurd ((nI_ltI (a := 9) (by decide) (by omega)).1 q) (by omega))
  rw [e9]
  refine w_deal hw (wf_lt hw) n 0 (by omega) (d - 1) 0 0 (fun _ => 0) 1000000 0 _ _ (by omega) (by omega) (fun _ _ => Nat.zero_le _) (Nat.le_refl _) ⟨sc_w s1 rfl, f1, fun j hj => absurd hj (by omega), rl_ww S1 13 0 1 _, .inl rfl⟩ (fun r hr => by rw [Nat.zero_mul, Nat.zero_add]; rfl) (fun r hr => by rw [Nat.zero_mul, Nat.zero_add]) (.inl ⟨rfl, fun W hW => absurd hW (by omega)⟩) (fun S2 L2 B2 a0 a1 a2 => r_Deal_find_27 (h S2 L2 B2 a1 a0 ?_))
  rw [Nat.zero_add, Nat.one_mul] at a2
  exact a2
/-! the reference -/
theorem w_sprd {c mm lb nz n : Nat} {S : ov_S} (hw : rl_w c mm lb nz n S.1 S.1) {d W : Nat} {S0 : ov_S} {Q : ov_Q} (hs0 : sc S S0) (hW : W < 3 ^ n) (h : ∀ S', sc S S' → Q (some (.inl (nI (wf S n W)))) S') : ov_V true true d 0 0 mq_Mod_spread 0 [some (.inr (.inr (true, 14, 0))), some (.inl (nI W)), none, none, none] [] S0 Q := by
  have g24 := hw.2.2.2.2.2.2.2.2.2.2.2.2.2.2.2.2.2.2.2.2.2.2.2.1
  have hn9 := g24.1
  have h39 : 3 ^ n ≤ 3 ^ 9 := Nat.pow_le_pow_right (by decide) hn9
  have h39' : (3 : Nat) ^ 9 = 19683 := rfl
  have fin : ∀ S' (l : Nat → Nat), sc S S' → (∀ x, x < 3 → S'.1 96 0 x = nI (l x) ∧ l x ≤ 1000) → wsp l = wf S n W → ∀ v2, ov_V true true d 0 0 mq_Mod_spread 29 [some (.inr (.inr (true, 14, 0))), none, some (.inl v2), some (.inl ((-1))), none] [] S' Q := by
    intro S' l s1 hl he v2
    have l0 := (hl 0 (by decide)).2
    have l1 := (hl 1 (by decide)).2
    have l2 := (hl 2 (by decide)).2
    have e0 : ov_g S' 96 0 0 = nI (l 0) := (hl 0 (by decide)).1
    have e1 : ov_g S' 96 0 1 = nI (l 1) := (hl 1 (by decide)).1
    have e2 : ov_g S' 96 0 2 = nI (l 2) := (hl 2 (by decide)).1
    have ans : ∀ M m : Nat, m ≤ M → wsp l = M - m → Q (some (.inl (nI M - nI m))) S' := by
      intro M m hmM e
      rw [pk_sub hmM, ← e, he]
      exact h S' s1
    have hM : wM l = max (l 0) (max (l 1) (l 2)) := rfl
    have hm : wm l = min (l 0) (min (l 1) (l 2)) := rfl
    have hs : wsp l = wM l - wm l := rfl
    have s149 : ∀ M m : Nat, M ≤ 1000 → m ≤ 1000 → M = wM l → m = min (l 0) (l 1) → ov_V true true d 0 0 mq_Mod_spread 149 [some (.inr (.inr (true, 14, 0))), none, none, none, some (.inl (nI m))] [.inl (nI M)] S' Q := by
      intro M m hM1 hm1 hMe hme
      refine r_Mod_spread_149 ?_
      rw [show ov_ix 2 = 2 from rfl, e2]
      refine ⟨fun q => ?_, fun q => ?_⟩
      · have := (nI_leI (by omega) (by omega)).1 q
        exact ans M m (by omega) (by omega)
      · have : l 2 < m := Nat.lt_of_not_le (fun z => q (nI_le z (by omega)))
        exact ans M (l 2) (by omega) (by omega)
    have s127 : ∀ M m : Nat, M ≤ 1000 → m ≤ 1000 → M = max (l 0) (l 1) → m = min (l 0) (l 1) → ov_V true true d 0 0 mq_Mod_spread 127 [some (.inr (.inr (true, 14, 0))), none, none, some (.inl (nI M)), none] [.inl (nI m)] S' Q := by
      intro M m hM1 hm1 hMe hme
      refine r_Mod_spread_127 ?_
      rw [show ov_ix 2 = 2 from rfl, e2]
      refine ⟨fun q => ?_, fun q => ?_⟩
      · have := (nI_leI (by omega) (by omega)).1 q
        exact s149 M m hM1 hm1 (by omega) hme
      · have : M < l 2 := Nat.lt_of_not_le (fun z => q (nI_le z (by omega)))
        exact s149 (l 2) m (by omega) hm1 (by omega) hme
    have s96 : ∀ M : Nat, M ≤ 1000 → M = max (l 0) (l 1) → ov_V true true d 0 0 mq_Mod_spread 96 [some (.inr (.inr (true, 14, 0))), none, none, none, none] [.inl (nI M)] S' Q := by
      intro M hM1 hMe
      refine r_Mod_spread_96 ?_
      rw [show ov_ix 0 = 0 from rfl, show ov_ix 1 = 1 from rfl, e0, e1]
      refine ⟨fun q => ?_, fun q => ?_⟩
      · have := (nI_leI (by omega) (by omega)).1 q
        exact s127 M (l 1) hM1 (by omega) hMe (by omega)
      · have : l 0 < l 1 := Nat.lt_of_not_le (fun z => q (nI_le z (by omega)))
        exact s127 M (l 0) hM1 (by omega) hMe (by omega)
    refine r_Mod_spread_29 ⟨fun _ => ?_, fun q => absurd (by decide) q⟩
    rw [show ov_ix 0 = 0 from rfl, show ov_ix 1 = 1 from rfl, e0, e1]
    refine ⟨fun q => ?_, fun q => ?_⟩
    · have := (nI_leI (by omega) (by omega)).1 q
      exact s96 (l 1) (by omega) (by omega)
    · have : l 1 < l 0 := Nat.lt_of_not_le (fun z => q (nI_le z (by omega)))
      exact s96 (l 0) (by omega) (by omega)
  have loop : ∀ (j i : Nat), i + j = n → ∀ S', sc S S' → (∀ x, x < 3 → S'.1 96 0 x = nI (wlt (ww S) n i (W % 3 ^ i) x)) → ∀ v : Int32, (i < n → v = nI (n - 1 - i)) → (i = n → v = -1) → ov_V true true d 0 0 mq_Mod_spread 29 [some (.inr (.inr (true, 14, 0))), none, some (.inl (nI (W / 3 ^ i))), some (.inl v), none] [] S' Q := by
    intro j
    induction j with
    | zero =>
      intro i hi S' s1 hl v hv1 hv2
      have e : i = n := by omega
      subst e
      rw [hv2 rfl]
      refine fin S' (fun x => 0 + wlt (ww S) i i (W % 3 ^ i) x) s1 (fun x hx => ⟨?_, ?_⟩) ?_ _
      · rw [Nat.zero_add]; exact hl x hx
      · have := wlt_le (fun k hk => (ww_ok hw hk).2.2) i (W % 3 ^ i) x (Nat.le_refl _)
        omega
      · rw [Nat.mod_eq_of_lt hW]
        rfl
    | succ j ih =>
      intro i hi S' s1 hl v hv1 hv2
      have hin : i < n := by omega
      have hp : 0 < 3 ^ i := Nat.pow_pos (by decide)
      have hdl : W / 3 ^ i ≤ W := Nat.div_le_self _ _
      have em : (nI (W / 3 ^ i) - nI (W / 3 ^ i) / 3 * 3 : Int32) = nI (W / 3 ^ i % 3) := pk_rem (d := 3) (by omega) (by decide) (by decide)
      have ed : (nI (W / 3 ^ i) / 3 : Int32) = nI (W / 3 ^ i / 3) := pk_div (d := 3) (by omega) (by decide) (by decide)
      have hm3 : W / 3 ^ i % 3 < 3 := Nat.mod_lt _ (by decide)
      have ib3 : ov_ib (nI (W / 3 ^ i % 3)) 3 := zz_ib hm3 (by decide)
      have hww := ww_ok hw (i := n - 1 - i) (by omega)
      rw [hv1 hin]
      refine r_Mod_spread_29 ⟨fun q => absurd q (nI_pos (by omega)), fun _ => ?_⟩
      have e95 : ov_g S' 95 0 (n - 1 - i) = nI (ww S (n - 1 - i)) := (s1.2 95 0 _ rfl).trans hww.1
      rw [em, ed, zz_ix (n := W / 3 ^ i % 3) (by omega), zz_ix (n := n - 1 - i) (by omega), e95, show ov_g S' 96 0 (W / 3 ^ i % 3) = _ from hl _ hm3, nI_add]
      refine ⟨ib3, zz_ib (by omega) (by decide), ib3, ?_⟩
      rw [Nat.div_div_eq_div_mul, ← Nat.pow_succ]
      refine ih (i + 1) (by omega) _ (sc_w s1 rfl) (fun x hx => ?_) _ (fun hi2 => ?_) (fun hi2 => ?_)
      · rw [rl_wr]
        show _ = nI ((if W % 3 ^ (i + 1) / 3 ^ i = x then ww S (n - 1 - i) else 0) + wlt (ww S) n i (W % 3 ^ (i + 1) % 3 ^ i) x)
        have q1 : W % 3 ^ (i + 1) / 3 ^ i = W / 3 ^ i % 3 := by
          rw [Nat.pow_succ, Nat.mod_mul_right_div_self]
        have q2 : W % 3 ^ (i + 1) % 3 ^ i = W % 3 ^ i := Nat.mod_mod_of_dvd _ (Nat.pow_dvd_pow 3 (by omega))
        rw [q1, q2]
        by_cases e : x = W / 3 ^ i % 3
        · rw [if_pos e, if_pos e.symm, e, Nat.add_comm]
        · rw [if_neg e, if_neg (fun z => e z.symm), Nat.zero_add]
          exact hl x hx
      · rw [show n - 1 - i = (n - 1 - (i + 1)) + 1 by omega]
        exact pk_m1 _
      · rw [show n - 1 - i = 0 by omega]
        rfl
  have zero : ∀ (j i : Nat), i + j = 3 → ∀ S', sc S S' → (∀ x, x < i → S'.1 96 0 x = nI 0) → ov_V true true d 0 0 mq_Mod_spread 2 [some (.inr (.inr (true, 14, 0))), some (.inl (nI W)), some (.inl (nI i)), none, none] [] S' Q := by
    intro j
    induction j with
    | zero =>
      intro i hi S' s1 hz
      have e : i = 3 := by omega
      subst e
      refine r_Mod_spread_2 ⟨fun _ => ?_, fun q => absurd (by decide) q⟩
      have e55 : ov_g S' 14 0 55 = nI n := (s1.2 14 0 55 rfl).trans g24.2.2
      rw [e55]
      have h0 := loop n 0 (by omega) S' s1 (fun x hx => hz x hx) (nI n - 1) (fun hn => by rw [show n - 1 - 0 = n - 1 by omega]; exact pk_sub (b := 1) (by omega)) (fun hn => by rw [← hn]; rfl)
      rw [Nat.pow_zero, Nat.div_one] at h0
      exact h0
    | succ j ih =>
      intro i hi S' s1 hz
      refine r_Mod_spread_2 ⟨fun q => absurd q (nI_ge (b := 3) (by omega) (by decide)), fun _ => ⟨zz_ib (by omega) (by decide), ?_⟩⟩
      rw [nI_1, zz_ix (n := i) (by omega)]
      refine ih (i + 1) (by omega) _ (sc_w s1 rfl) (fun x hx => ?_)
      rw [rl_wr]
      by_cases e : x = i
      · rw [if_pos e]; rfl
      · rw [if_neg e]; exact hz x (by omega)
  exact r_Mod_spread_0 (zero 3 0 (by omega) S0 hs0 (fun x hx => absurd hx (by omega)))
theorem w_who {d n W i : Nat} {S : ov_S} {Q : ov_Q} (hn : n ≤ 9) (e55 : S.1 14 0 55 = nI n) (hi : i < n) (hW : W < 20000) (h : Q (some (.inl (nI (W / 3 ^ (n - 1 - i) % 3)))) S) : ov_V true true d 0 0 mq_Mod_watcher 0 [some (.inr (.inr (true, 14, 0))), some (.inl (nI W)), some (.inl (nI i)), none, none] [] S Q := by
  have loop : ∀ (j k : Nat), k + j = n - 1 - i → ov_V true true d 0 0 mq_Mod_watcher 10 [none, none, some (.inl (nI i)), some (.inl (nI (W / 3 ^ k))), some (.inl (nI (n - 1 - k)))] [] S Q := by
    intro j
    induction j with
    | zero =>
      intro k hk
      have e : k = n - 1 - i := by omega
      subst e
      have hdl : W / 3 ^ (n - 1 - i) ≤ W := Nat.div_le_self _ _
      have em : (nI (W / 3 ^ (n - 1 - i)) - nI (W / 3 ^ (n - 1 - i)) / 3 * 3 : Int32) = nI (W / 3 ^ (n - 1 - i) % 3) := pk_rem (d := 3) (by omega) (by decide) (by decide)
      refine r_Mod_watcher_10 ⟨fun _ => ?_, fun q => absurd (nI_le (by omega) (by omega)) q⟩
      rw [em]
      exact h
    | succ j ih =>
      intro k hk
      have hdl : W / 3 ^ k ≤ W := Nat.div_le_self _ _
      have ed : (nI (W / 3 ^ k) / 3 : Int32) = nI (W / 3 ^ k / 3) := pk_div (d := 3) (by omega) (by decide) (by decide)
      refine r_Mod_watcher_10 ⟨fun q => absurd q (nI_ge (by omega) (by omega)), fun _ => ?_⟩
      rw [ed, Nat.div_div_eq_div_mul, ← Nat.pow_succ, show n - 1 - k = (n - 1 - (k + 1)) + 1 by omega, pk_m1]
      exact ih (k + 1) (by omega)
  refine r_Mod_watcher_0 ?_
  rw [show ov_g S 14 0 55 = nI n from e55, show (nI n - 1 : Int32) = nI (n - 1 - 0) from by rw [Nat.sub_zero]; exact pk_sub (b := 1) (by omega)]
  have h0 := loop (n - 1 - i) 0 (by omega)
  rw [Nat.pow_zero, Nat.div_one] at h0
  exact h0
theorem w_M {d c mm lb nz n : Nat} {S S0 : ov_S} {Q : ov_Q} {v1 : Int32} (hd : 2 ≤ d) (hw : rl_w c mm lb nz n S.1 S.1) (hs0 : sc S S0) (hv : v1 = 0 ∨ (¬ v1 = 0 ∧ ∃ i, i < n ∧ v1 - 10 = nI i)) (h : ∀ S' L B, sc S S' → wBI (wf S n) (fun _ => True) (3 ^ n) L B → L ≤ 1000000 → (v1 = 0 → Q (some (.inl (nI L))) S') ∧ (¬ v1 = 0 → ∀ i, i < n → v1 - 10 = nI i → Q (some (.inl (nI (B / 3 ^ (n - 1 - i) % 3)))) S')) : ov_V true true d 0 0 mq_Mod_watches 28 [some (.inr (.inr (true, 14, 0))), some (.inl v1), none, none, none, none, none] [] S0 Q := by
  have g24 := hw.2.2.2.2.2.2.2.2.2.2.2.2.2.2.2.2.2.2.2.2.2.2.2.1
  have hn9 := g24.1
  have h39 : 3 ^ n ≤ 3 ^ 9 := Nat.pow_le_pow_right (by decide) hn9
  have h39' : (3 : Nat) ^ 9 = 19683 := rfl
  have hp : 0 < 3 ^ n := Nat.pow_pos (by decide)
  have loop : ∀ (j W : Nat), W + j = 3 ^ n → ∀ S' L B, sc S S' → L ≤ 1000000 → B < 20000 → wBI (wf S n) (fun _ => True) W L B → ov_V true true d 0 0 mq_Mod_watches 60 [some (.inr (.inr (true, 14, 0))), some (.inl v1), some (.inl (nI (3 ^ n))), some (.inl (nI B)), some (.inl (nI L)), some (.inl (nI W)), none] [] S' Q := by
    intro j
    induction j with
    | zero =>
      intro W hW S' L B s1 hL hB hI
      have e : W = 3 ^ n := by omega
      subst e
      obtain ⟨q1, q2⟩ := h S' L B s1 hI hL
      refine r_Mod_watches_60 (by omega) ⟨fun _ => ⟨fun n1 => ?_, fun y => r_Mod_watches_115 (q1 y)⟩, fun q => absurd (nI_le (Nat.le_refl _) (by omega)) q⟩
      obtain ⟨i, hi, ei⟩ := hv.elim (fun z => absurd z n1) (fun z => z.2)
      rw [ei]
      exact w_who hn9 ((s1.2 14 0 55 rfl).trans g24.2.2) hi hB (r_Mod_watches_115 (q2 n1 i hi ei))
    | succ j ih =>
      intro W hW S' L B s1 hL hB hI
      have hfl := wf_lt hw W
      refine r_Mod_watches_60 (by omega) ⟨fun q => absurd q (nI_ge (by omega) (by omega)), fun _ => w_sprd hw s1 (by omega) (fun S2 s2 => r_Mod_watches_72 ⟨fun q => r_Mod_watches_91 ?_, fun q => r_Mod_watches_91 ?_⟩)⟩
      · have hlt : wf S n W < L := (nI_ltI (by omega) (by omega)).1 q
        rw [nI_1]
        exact ih (W + 1) (by omega) S2 _ W s2 (by omega) (by omega) (wBI_new hI trivial hlt)
      · have hle : L ≤ wf S n W := Nat.le_of_not_lt (fun z => q (nI_lt z (by omega)))
        rw [nI_1]
        exact ih (W + 1) (by omega) S2 L B s2 hL hB (wBI_keep hI hle hfl)
  have pw : ∀ (j i : Nat), i + j = n → ov_V true true d 0 0 mq_Mod_watches 32 [some (.inr (.inr (true, 14, 0))), some (.inl v1), some (.inl (nI (3 ^ i))), some (.inl (nI i)), none, none, none] [] S0 Q := by
    intro j
    induction j with
    | zero =>
      intro i hi
      have e : i = n := by omega
      subst e
      refine r_Mod_watches_32 ?_
      rw [show ov_g S0 14 0 55 = nI i from (hs0.2 14 0 55 rfl).trans g24.2.2]
      exact ⟨fun _ => loop (3 ^ i) 0 (by omega) S0 1000000 0 hs0 (Nat.le_refl _) (by decide) (.inl ⟨rfl, fun W hW => absurd hW (by omega)⟩), fun q => absurd (nI_le (Nat.le_refl _) (by omega)) q⟩
    | succ j ih =>
      intro i hi
      refine r_Mod_watches_32 ?_
      rw [show ov_g S0 14 0 55 = nI n from (hs0.2 14 0 55 rfl).trans g24.2.2]
      refine ⟨fun q => absurd q (nI_ge (by omega) (by omega)), fun _ => ?_⟩
      have e3 : (3 * nI (3 ^ i) : Int32) = nI (3 ^ (i + 1)) := by
        rw [Nat.pow_succ, Nat.mul_comm]
        exact pk_mul 3 (3 ^ i)
      rw [e3, nI_1]
      exact ih (i + 1) (by omega)
  exact r_Mod_watches_28 (pw n 0 (by omega))
theorem s_watches {d : Nat} {S : ov_S} {v1 : Int32} (hd : 15 ≤ d) (h : rl_S S) : rl_2 d mq_Eye_watches mq_Mod_watches [some (.inr (.inr (true, 0, 0))), some (.inl v1), none] [some (.inr (.inr (true, 14, 0))), some (.inl v1), none, none, none, none, none] S := by
  unfold rl_2
  obtain ⟨c, m, lb, nz, n, hw, ho, hi⟩ := id h
  have g24 := hw.2.2.2.2.2.2.2.2.2.2.2.2.2.2.2.2.2.2.2.2.2.2.2.1
  have hn9 := g24.1
  have hp : 0 < 3 ^ n := Nat.pow_pos (by decide)
  have hin : ∀ v : Int32, (10 ≤ v ∧ v ≤ 9 + nI n) → ∃ i, i < n ∧ v - 10 = nI i := by
    intro v q
    have e9 : (9 + nI n : Int32) = nI (9 + n) := nI_add 9 n
    rw [e9] at q
    obtain ⟨k, h1, h2, rfl⟩ := (zz_rng (a := 10) (b := 9 + n) rfl (nI_toInt (by omega))).1 q
    exact ⟨k - 10, by omega, pk_sub (b := 10) h1⟩
  have main : (v1 = 0 ∨ (¬ v1 = 0 ∧ ∃ i, i < n ∧ v1 - 10 = nI i)) → ov_V true true d 0 0 mq_Eye_watches 30 [some (.inr (.inr (true, 0, 0))), some (.inl v1), some (.inl (nI n))] [] S (fun r S1 => ov_V true true d 0 0 mq_Mod_watches 0 [some (.inr (.inr (true, 14, 0))), some (.inl v1), none, none, none, none, none] [] S1 (fun r' S2 => rl_e r r' S2)) := by
    intro hv
    refine r_Eye_watches_30 (by omega) (w_E (by omega) hw (fun S1 L B hI hL hB => ?_))
    have s1 := hI.1
    have e55 : ov_g (ov_w S1 14 0 0 0) 14 0 55 = nI n := (s1.2 14 0 55 rfl).trans g24.2.2
    -- the first of the best is one of these
    have same : ∀ L' B', wBI (wf S n) (fun _ => True) (3 ^ n) L' B' → L' = L ∧ B' = B ∧ L < 1000000 := by
      intro L' B' hB'
      have can : ∀ W, W < 3 ^ n → ∃ W2, W2 ≤ W ∧ wcn n 0 W2 ∧ wf S n W2 = wf S n W := fun W hW => w_can n 0 (fun _ => 0) W hW (fun _ _ _ => rfl)
      rcases hB' with ⟨_, q⟩ | ⟨k1, k2, k3, k4, k5, k6⟩
      · exact absurd trivial (q 0 hp)
      · obtain ⟨W2, a1, a2, a3⟩ := can B' k4
        have eW : W2 = B' := by
          rcases Nat.lt_or_ge W2 B' with z | z
          · have := k6 W2 z trivial
            omega
          · omega
        rw [eW] at a2
        rcases hB with ⟨_, q⟩ | ⟨g1, g2, g3, g4, g5, g6⟩
        · exact absurd a2 (q B' k4)
        · have t1 := k5 B g4 trivial
          have t2 := g5 B' k4 a2
          have : B' = B := by
            rcases Nat.lt_trichotomy B' B with z | z | z
            · have := g6 B' z a2
              omega
            · exact z
            · have := k6 B z trivial
              omega
          subst this
          exact ⟨by omega, rfl, g2⟩
    have fin : ∀ x : Int32, (v1 = 0 → x = nI L) → (¬ v1 = 0 → L < 1000000 → ∀ i, i < n → v1 - 10 = nI i → x = nI (B / 3 ^ (n - 1 - i) % 3)) → ov_V true true d 0 0 mq_Mod_watches 0 [some (.inr (.inr (true, 14, 0))), some (.inl v1), none, none, none, none, none] [] S1 (fun r' S2 => rl_e (some (.inl x)) r' S2) := by
      intro x hx1 hx2
      have go : ov_V true true d 0 0 mq_Mod_watches 28 [some (.inr (.inr (true, 14, 0))), some (.inl v1), none, none, none, none, none] [] (ov_w S1 14 0 0 0) (fun r' S2 => rl_e (some (.inl x)) r' S2) := by
        refine w_M (by omega) hw (sc_w s1 rfl) hv (fun S2 L' B' s2 hB' hL' => ?_)
        obtain ⟨e1, e2, e3⟩ := same L' B' hB'
        subst e1
        subst e2
        exact ⟨fun y => sc_ans h s2 (hx1 y).symm, fun n1 i hi ei => sc_ans h s2 (hx2 n1 e3 i hi ei).symm⟩
      refine r_Mod_watches_0 (by omega) ?_
      rw [e55]
      refine ⟨fun _ => go, fun n1 => ⟨fun _ => go, fun n2 => absurd ?_ n2⟩⟩
      obtain ⟨i, hi, ei⟩ := hv.elim (fun z => absurd z n1) (fun z => z.2)
      have e9 : (9 + nI n : Int32) = nI (9 + n) := nI_add 9 n
      rw [e9]
      refine (zz_rng (a := 10) (b := 9 + n) rfl (nI_toInt (by omega))).2 ⟨i + 10, by omega, by omega, ?_⟩
      have : v1 = nI i + nI 10 := by rw [← ei]; exact (Int32.sub_add_cancel v1 10).symm
      rw [this, nI_add]
    refine r_Eye_watches_48 ⟨fun n1 => ?_, fun y => ?_⟩
    · obtain ⟨i, hi, ei⟩ := hv.elim (fun z => absurd z n1) (fun z => z.2)
      rw [ei, zz_ix (n := i) (by omega)]
      refine ⟨zz_ib (by omega) (by decide), fin _ (fun y => absurd y n1) (fun _ hL2 i' hi' ei' => ?_)⟩
      have eii : i' = i := zz_inj (by omega) (by omega) (ei'.symm.trans ei)
      subst eii
      rcases hI.2.2.2.2 with z | z
      · omega
      · exact z i' hi'
    · exact fin _ (fun _ => hI.2.2.2.1) (fun n1 => absurd y n1)
  refine r_Eye_watches_0 (by omega) ?_
  rw [show ov_g S 5 0 4 = nI n from g24.2.1]
  refine ⟨fun y => main (.inl y), fun n1 => ⟨fun q => main (.inr ⟨n1, hin _ q⟩), fun n2 => r_Mod_watches_0 (by omega) ?_⟩⟩
  rw [show ov_g (ov_w S 14 0 0 0) 14 0 55 = nI n from g24.2.2]
  exact ⟨fun y => absurd y n1, fun _ => ⟨fun q => absurd q n2, fun _ => rl_same h rfl⟩⟩
