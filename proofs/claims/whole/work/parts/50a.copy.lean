/-! ===== IMAGE: one world copied from the other ===== -/
def kyf (S : ov_S) (r p q j : Nat) : ov_S := ov_w S r p j (ov_g S r q j)
def kyr (S : ov_S) (r p q : Nat) (n : Int32) : ov_S := ov_wa S r p (va_cpy (S.1 r q) (S.1 r p) (ov_ix 0) (ov_ix 0) (ov_ix n))
/-- only cells of the world that is written have changed -/
def kyc (tg : Nat → Nat → Prop) (S0 S : ov_S) : Prop := S.2.2.1 = S0.2.2.1 ∧ ∀ r i j, ¬ tg r i → S.1 r i j = S0.1 r i j
/-- this cell holds what its fellow held -/
def kyd (sr : Nat → Nat → Nat) (S0 S : ov_S) (r i j : Nat) : Prop := S.1 r i j = S0.1 r (sr r i) j
def kym (sr : Nat → Nat → Nat) (S0 S S' : ov_S) : Prop := ∀ r i j, kyd sr S0 S r i j → kyd sr S0 S' r i j
theorem ky_f {tg : Nat → Nat → Prop} {sr : Nat → Nat → Nat} {S0 S : ov_S} {r p q j : Nat} (h : kyc tg S0 S) (ht : tg r p) (hs : sr r p = q) (hn : ¬ tg r q) : kyc tg S0 (kyf S r p q j) ∧ kyd sr S0 (kyf S r p q j) r p j ∧ kym sr S0 S (kyf S r p q j) := by
  have e : ov_g S r q j = S0.1 r (sr r p) j := by rw [hs]; exact h.2 r q j hn
  have c1 : kyd sr S0 (kyf S r p q j) r p j := (rl_ww S r p j _).trans e
  refine ⟨⟨h.1, fun r' i' j' hx => (rl_wn ?_).trans (h.2 r' i' j' hx)⟩, c1, fun r' i' j' hx => ?_⟩
  · rintro ⟨e1, e2, _⟩
    rw [e1, e2] at hx
    exact hx ht
  · by_cases z : r' = r ∧ i' = p ∧ j' = j
    · obtain ⟨e1, e2, e3⟩ := z
      rw [e1, e2, e3]
      exact c1
    · exact (rl_wn z).trans hx
theorem ky_cpy {g g' : Nat → Int32} {n : Int32} {k j : Nat} (hn : ov_ix n = k) : va_cpy g g' (ov_ix 0) (ov_ix 0) (ov_ix n) j = if j < k then g j else g' j := by
  have e0 : ov_ix (0 : Int32) = 0 := zz_ix (n := 0) (by decide)
  rw [e0, hn]
  show (if 0 ≤ j ∧ j < 0 + k then g (0 + (j - 0)) else g' j) = _
  by_cases z : j < k
  · rw [if_pos ⟨Nat.zero_le _, by omega⟩, if_pos z, Nat.sub_zero, Nat.zero_add]
  · rw [if_neg (by omega), if_neg z]
theorem ky_r {tg : Nat → Nat → Prop} {sr : Nat → Nat → Nat} {S0 S : ov_S} {r p q k : Nat} {n : Int32} (hk : ov_ix n = k) (h : kyc tg S0 S) (ht : tg r p) (hs : sr r p = q) (hn : ¬ tg r q) : kyc tg S0 (kyr S r p q n) ∧ (∀ j, j < k → kyd sr S0 (kyr S r p q n) r p j) ∧ kym sr S0 S (kyr S r p q n) := by
  have c0 : ∀ j, (kyr S r p q n).1 r p j = if j < k then S.1 r q j else S.1 r p j := fun j => x_way.trans (ky_cpy hk)
  have c1 : ∀ j, j < k → kyd sr S0 (kyr S r p q n) r p j := by
    intro j hj
    have e : S.1 r q j = S0.1 r (sr r p) j := by rw [hs]; exact h.2 r q j hn
    refine (c0 j).trans ?_
    rw [if_pos hj]
    exact e
  refine ⟨⟨h.1, fun r' i' j' hx => (x_wan ?_).trans (h.2 r' i' j' hx)⟩, c1, fun r' i' j' hx => ?_⟩
  · rintro ⟨e1, e2⟩
    rw [e1, e2] at hx
    exact hx ht
  · by_cases z : r' = r ∧ i' = p
    · obtain ⟨e1, e2⟩ := z
      rw [e1, e2] at hx ⊢
      by_cases z2 : j' < k
      · exact c1 j' z2
      · refine (c0 j').trans ?_
        rw [if_neg z2]
        exact hx
    · exact (x_wan z).trans hx
theorem kym_t {sr : Nat → Nat → Nat} {S0 S S1 S2 : ov_S} (h1 : kym sr S0 S S1) (h2 : kym sr S0 S1 S2) : kym sr S0 S S2 := fun r i j h => h2 r i j (h1 r i j h)
theorem kym_r {sr : Nat → Nat → Nat} {S0 S : ov_S} : kym sr S0 S S := fun _ _ _ h => h
def kyR (tg : Nat → Nat → Prop) (sr : Nat → Nat → Nat) (r p q : Nat) : Prop := tg r p ∧ sr r p = q ∧ ¬ tg r q
theorem ky_plan {tg : Nat → Nat → Prop} {sr : Nat → Nat → Nat} {S0 S : ov_S} {p q d : Nat} {Q : ov_Q} (hd : 1 ≤ d) (h : kyc tg S0 S) (h8 : kyR tg sr 8 p q) (h41 : ∀ r, 41 ≤ r → r ≤ 44 → kyR tg sr r p q) (hQ : ∀ S', kyc tg S0 S' → kym sr S0 S S' → kyd sr S0 S' 8 p 4 → (∀ r, 41 ≤ r → r ≤ 44 → ∀ j, j < 30 → kyd sr S0 S' r p j) → Q none S') : ov_V true true d 0 0 mq_Plan_copyFrom 0 [some (.inr (.inr (true, 8, p))), some (.inr (.inr (true, 8, q)))] [] S Q := by
  refine r_Plan_copyFrom_0 hd ?_
  show Q none (kyf (kyr (kyr (kyr (kyr S 41 p q 30) 42 p q 30) 43 p q 30) 44 p q 30) 8 p q 4)
  have e30 : ov_ix (30 : Int32) = 30 := zz_ix (n := 30) (by decide)
  obtain ⟨a1, a2, a3⟩ := ky_r e30 h (h41 41 (by decide) (by decide)).1 (h41 41 (by decide) (by decide)).2.1 (h41 41 (by decide) (by decide)).2.2
  obtain ⟨b1, b2, b3⟩ := ky_r e30 a1 (h41 42 (by decide) (by decide)).1 (h41 42 (by decide) (by decide)).2.1 (h41 42 (by decide) (by decide)).2.2
  obtain ⟨c1, c2, c3⟩ := ky_r e30 b1 (h41 43 (by decide) (by decide)).1 (h41 43 (by decide) (by decide)).2.1 (h41 43 (by decide) (by decide)).2.2
  obtain ⟨d1, d2, d3⟩ := ky_r e30 c1 (h41 44 (by decide) (by decide)).1 (h41 44 (by decide) (by decide)).2.1 (h41 44 (by decide) (by decide)).2.2
  obtain ⟨f1, f2, f3⟩ := ky_f (j := 4) d1 h8.1 h8.2.1 h8.2.2
  refine hQ _ f1 (kym_t a3 (kym_t b3 (kym_t c3 (kym_t d3 f3)))) f2 (fun r h1 h2 j hj => ?_)
  have hr : r = 41 ∨ r = 42 ∨ r = 43 ∨ r = 44 := by omega
  rcases hr with e | e | e | e <;> subst e
  · exact f3 _ _ _ (d3 _ _ _ (c3 _ _ _ (b3 _ _ _ (a2 j hj))))
  · exact f3 _ _ _ (d3 _ _ _ (c3 _ _ _ (b2 j hj)))
  · exact f3 _ _ _ (d3 _ _ _ (c2 j hj))
  · exact f3 _ _ _ (d2 j hj)
theorem ky_three {tg : Nat → Nat → Prop} {sr : Nat → Nat → Nat} {S0 S : ov_S} {p q d : Nat} {Q : ov_Q} (hd : 2 ≤ d) (h : kyc tg S0 S) (h6 : kyR tg sr 6 p q) (h34 : kyR tg sr 34 p q) (h8 : kyR tg sr 8 p q) (h41 : ∀ r, 41 ≤ r → r ≤ 44 → kyR tg sr r p q) (hQ : ∀ S', kyc tg S0 S' → kym sr S0 S S' → kyd sr S0 S' 8 p 4 → (∀ r, 41 ≤ r → r ≤ 44 → ∀ j, j < 30 → kyd sr S0 S' r p j) → (∀ j, j < 3 → kyd sr S0 S' 34 p j) → (∀ j, j < 5 ∨ (7 ≤ j ∧ j < 12) → kyd sr S0 S' 6 p j) → Q none S') : ov_V true true d 0 0 mq_Three_copyFrom 0 [some (.inr (.inr (true, 6, p))), some (.inr (.inr (true, 6, q)))] [] S Q := by
  refine r_Three_copyFrom_0 (by omega) ?_
  show ov_V true true ((d - 1)) 0 0 mq_Plan_copyFrom 0 [some (.inr (.inr (true, 8, p))), some (.inr (.inr (true, 8, q)))] [] (kyr (kyf (kyf (kyf (kyf (kyf S 6 p q 0) 6 p q 1) 6 p q 2) 6 p q 3) 6 p q 4) 34 p q 3) _
  have e3 : ov_ix (3 : Int32) = 3 := zz_ix (n := 3) (by decide)
  obtain ⟨a1, a2, a3⟩ := ky_f (j := 0) h h6.1 h6.2.1 h6.2.2
  obtain ⟨b1, b2, b3⟩ := ky_f (j := 1) a1 h6.1 h6.2.1 h6.2.2
  obtain ⟨c1, c2, c3⟩ := ky_f (j := 2) b1 h6.1 h6.2.1 h6.2.2
  obtain ⟨d1, d2, d3⟩ := ky_f (j := 3) c1 h6.1 h6.2.1 h6.2.2
  obtain ⟨f1, f2, f3⟩ := ky_f (j := 4) d1 h6.1 h6.2.1 h6.2.2
  obtain ⟨g1, g2, g3⟩ := ky_r e3 f1 h34.1 h34.2.1 h34.2.2
  have m0 := kym_t a3 (kym_t b3 (kym_t c3 (kym_t d3 (kym_t f3 g3))))
  have k0 := g3 _ _ _ (f3 _ _ _ (d3 _ _ _ (c3 _ _ _ (b3 _ _ _ a2))))
  have k1 := g3 _ _ _ (f3 _ _ _ (d3 _ _ _ (c3 _ _ _ b2)))
  have k2 := g3 _ _ _ (f3 _ _ _ (d3 _ _ _ c2))
  have k3 := g3 _ _ _ (f3 _ _ _ d2)
  have k4 := g3 _ _ _ f2
  refine ky_plan (by omega) g1 h8 h41 (fun S' hc hm hp hr => r_Three_copyFrom_65 ?_)
  show Q none (kyf (kyf (kyf (kyf (kyf S' 6 p q 7) 6 p q 8) 6 p q 9) 6 p q 10) 6 p q 11)
  obtain ⟨n1, n2, n3⟩ := ky_f (j := 7) hc h6.1 h6.2.1 h6.2.2
  obtain ⟨o1, o2, o3⟩ := ky_f (j := 8) n1 h6.1 h6.2.1 h6.2.2
  obtain ⟨p1, p2, p3⟩ := ky_f (j := 9) o1 h6.1 h6.2.1 h6.2.2
  obtain ⟨q1, q2, q3⟩ := ky_f (j := 10) p1 h6.1 h6.2.1 h6.2.2
  obtain ⟨r1, r2, r3⟩ := ky_f (j := 11) q1 h6.1 h6.2.1 h6.2.2
  have mm := kym_t n3 (kym_t o3 (kym_t p3 (kym_t q3 r3)))
  refine hQ _ r1 (kym_t m0 (kym_t hm mm)) (mm _ _ _ hp) (fun r x1 x2 j hj => mm _ _ _ (hr r x1 x2 j hj)) (fun j hj => mm _ _ _ (hm _ _ _ (g2 j hj))) (fun j hj => ?_)
  have hj' : j = 0 ∨ j = 1 ∨ j = 2 ∨ j = 3 ∨ j = 4 ∨ j = 7 ∨ j = 8 ∨ j = 9 ∨ j = 10 ∨ j = 11 := by omega
  rcases hj' with e | e | e | e | e | e | e | e | e | e <;> subst e
  · exact mm _ _ _ (hm _ _ _ k0)
  · exact mm _ _ _ (hm _ _ _ k1)
  · exact mm _ _ _ (hm _ _ _ k2)
  · exact mm _ _ _ (hm _ _ _ k3)
  · exact mm _ _ _ (hm _ _ _ k4)
  · exact r3 _ _ _ (q3 _ _ _ (p3 _ _ _ (o3 _ _ _ n2)))
  · exact r3 _ _ _ (q3 _ _ _ (p3 _ _ _ o2))
  · exact r3 _ _ _ (q3 _ _ _ p2)
  · exact r3 _ _ _ q2
  · exact r2
