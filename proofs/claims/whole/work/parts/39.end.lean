/-! ===== the end of a minute: who had what, who heard what ===== -/
def mh_a (pl : Nat → Nat → Int32) (a p x : Nat) : Int32 := if p < 12 ∧ x < 3 ∧ 3 * (p / 3) + x < a ∧ pl (p / 3) x = nI (p % 3) then 1 else 0
def mh_b (pl : Nat → Nat → Int32) (l : Int32) (b p : Nat) : Int32 := if p < 12 ∧ p / 3 < b ∧ pl (p / 3) 1 = nI (p % 3) then l else 0
def mh_d (pl : Nat → Nat → Int32) (l : Int32) (b t : Nat) : Int32 := if t < b ∧ ¬ (0 ≤ pl t 1 ∧ pl t 1 ≤ 2) then l else 0
theorem mh_a1 {pl : Nat → Nat → Int32} {t x m : Nat} (hx : x < 3) (hm : m < 3) (ht : t < 4) (e : pl t x = nI m) : mh_a pl (3 * t + x) (3 * t + m) x = 0 ∧ mh_a pl (3 * t + x + 1) (3 * t + m) x = 1 := by
  have e1 : (3 * t + m) / 3 = t := by omega
  have e2 : (3 * t + m) % 3 = m := by omega
  unfold mh_a
  rw [e1, e2]
  exact ⟨if_neg (fun q => absurd q.2.2.1 (by omega)), if_pos ⟨by omega, hx, by omega, e⟩⟩
theorem mh_a2 {pl : Nat → Nat → Int32} {t x m p y : Nat} (hx : x < 3) (hm : m < 3) (e : pl t x = nI m) (n : ¬ (p = 3 * t + m ∧ y = x)) : mh_a pl (3 * t + x + 1) p y = mh_a pl (3 * t + x) p y := by
  unfold mh_a
  by_cases q : p < 12 ∧ y < 3 ∧ 3 * (p / 3) + y < 3 * t + x + 1 ∧ pl (p / 3) y = nI (p % 3)
  · rw [if_pos q, if_pos]
    refine ⟨q.1, q.2.1, ?_, q.2.2.2⟩
    apply Classical.byContradiction
    intro hn
    have q3 := q.2.2.1
    have q2 := q.2.1
    have h1 : p / 3 = t := by omega
    have h2 : y = x := by omega
    have h4 := q.2.2.2
    rw [h1, h2, e] at h4
    have := zz_inj (by omega) (by omega) h4
    exact n ⟨by omega, h2⟩
  · rw [if_neg q, if_neg (fun z => q ⟨z.1, z.2.1, by omega, z.2.2.2⟩)]
theorem mh_a3 {pl : Nat → Nat → Int32} {t x p y : Nat} (hx : x < 3) (e : ¬ (0 ≤ pl t x ∧ pl t x ≤ 2)) : mh_a pl (3 * t + x + 1) p y = mh_a pl (3 * t + x) p y := by
  unfold mh_a
  by_cases q : p < 12 ∧ y < 3 ∧ 3 * (p / 3) + y < 3 * t + x + 1 ∧ pl (p / 3) y = nI (p % 3)
  · rw [if_pos q, if_pos]
    refine ⟨q.1, q.2.1, ?_, q.2.2.2⟩
    apply Classical.byContradiction
    intro hn
    have q3 := q.2.2.1
    have q2 := q.2.1
    have h1 : p / 3 = t := by omega
    have h2 : y = x := by omega
    have h4 := q.2.2.2
    rw [h1, h2] at h4
    exact e ((zz_le (b := 2) rfl).2 ⟨p % 3, by omega, h4⟩)
  · rw [if_neg q, if_neg (fun z => q ⟨z.1, z.2.1, by omega, z.2.2.2⟩)]
theorem mh_b1 {pl : Nat → Nat → Int32} {l : Int32} {t m : Nat} (hm : m < 3) (ht : t < 4) (e : pl t 1 = nI m) : mh_b pl l t (3 * t + m) = 0 ∧ mh_b pl l (t + 1) (3 * t + m) = l := by
  have e1 : (3 * t + m) / 3 = t := by omega
  have e2 : (3 * t + m) % 3 = m := by omega
  unfold mh_b
  rw [e1, e2]
  exact ⟨if_neg (fun q => absurd q.2.1 (by omega)), if_pos ⟨by omega, by omega, e⟩⟩
theorem mh_b2 {pl : Nat → Nat → Int32} {l : Int32} {t m p : Nat} (hm : m < 3) (e : pl t 1 = nI m) (n : ¬ p = 3 * t + m) : mh_b pl l (t + 1) p = mh_b pl l t p := by
  unfold mh_b
  by_cases q : p < 12 ∧ p / 3 < t + 1 ∧ pl (p / 3) 1 = nI (p % 3)
  · rw [if_pos q, if_pos]
    refine ⟨q.1, ?_, q.2.2⟩
    apply Classical.byContradiction
    intro hn
    have q2 := q.2.1
    have h1 : p / 3 = t := by omega
    have h4 := q.2.2
    rw [h1, e] at h4
    have := zz_inj (by omega) (by omega) h4
    exact n (by omega)
  · rw [if_neg q, if_neg (fun z => q ⟨z.1, by omega, z.2.2⟩)]
theorem mh_b3 {pl : Nat → Nat → Int32} {l : Int32} {t p : Nat} (e : ¬ (0 ≤ pl t 1 ∧ pl t 1 ≤ 2)) : mh_b pl l (t + 1) p = mh_b pl l t p := by
  unfold mh_b
  by_cases q : p < 12 ∧ p / 3 < t + 1 ∧ pl (p / 3) 1 = nI (p % 3)
  · rw [if_pos q, if_pos]
    refine ⟨q.1, ?_, q.2.2⟩
    apply Classical.byContradiction
    intro hn
    have q2 := q.2.1
    have h1 : p / 3 = t := by omega
    have h4 := q.2.2
    rw [h1] at h4
    exact e ((zz_le (b := 2) rfl).2 ⟨p % 3, by omega, h4⟩)
  · rw [if_neg q, if_neg (fun z => q ⟨z.1, by omega, z.2.2⟩)]
theorem mh_d1 {pl : Nat → Nat → Int32} {l : Int32} {t : Nat} (e : ¬ (0 ≤ pl t 1 ∧ pl t 1 ≤ 2)) : mh_d pl l t t = 0 ∧ mh_d pl l (t + 1) t = l := by
  unfold mh_d
  exact ⟨if_neg (fun q => absurd q.1 (by omega)), if_pos ⟨by omega, e⟩⟩
theorem mh_d2 {pl : Nat → Nat → Int32} {l : Int32} {t s : Nat} (n : ¬ s = t) : mh_d pl l (t + 1) s = mh_d pl l t s := by
  unfold mh_d
  by_cases q : s < t + 1 ∧ ¬ (0 ≤ pl s 1 ∧ pl s 1 ≤ 2)
  · rw [if_pos q, if_pos ⟨by omega, q.2⟩]
  · rw [if_neg q, if_neg (fun z => q ⟨by omega, z.2⟩)]
theorem mh_d3 {pl : Nat → Nat → Int32} {l : Int32} {t s : Nat} (e : 0 ≤ pl t 1 ∧ pl t 1 ≤ 2) : mh_d pl l (t + 1) s = mh_d pl l t s := by
  by_cases n : s = t
  · subst n
    unfold mh_d
    rw [if_neg (fun q => q.2 e), if_neg (fun q => q.2 e)]
  · exact mh_d2 n
theorem mi_ext {S S' : ov_S} (h : ∀ r i k, S.1 r i k = S'.1 r i k) (h2 : S.2 = S'.2) : S = S' := by
  obtain ⟨f, x⟩ := S
  obtain ⟨f', x'⟩ := S'
  have e : f = f' := by
    funext r i k
    exact h r i k
  have e2 : x = x' := h2
  rw [e, e2]
def mh_C (C : ov_S) (l : Int32) (a b : Nat) : ov_S := (fun r i k => if r = 40 then C.1 40 i k + mh_a (C.1 34) a i k else if r = 7 ∧ k = 6 then C.1 7 i 6 + mh_b (C.1 34) l b i else if r = 6 ∧ k = 4 then C.1 6 i 4 + mh_d (C.1 34) l b i else C.1 r i k, C.2)
def mh_p (T : ov_S) (t x : Nat) : Int32 := T.1 62 0 (3 * t + x)
def mh_T (T : ov_S) (l : Int32) (a b : Nat) : ov_S := (fun r i k => if r = 66 ∧ i = 0 then T.1 66 0 k + mh_a (mh_p T) a (k / 3) (k % 3) else if r = 72 ∧ i = 0 then T.1 72 0 k + mh_b (mh_p T) l b k else if r = 73 ∧ i = 0 then T.1 73 0 k + mh_d (mh_p T) l b k else T.1 r i k, T.2)
theorem mh_C1 {C T0 : ov_S} {l : Int32} {t x m b : Nat} (hx : x < 3) (hm : m < 3) (ht : t < 4) (e : C.1 34 t x = nI m) : ov_w (mh_C C l (3 * t + x) b) 40 (3 * t + m) x (ov_g (ov_mix (mh_C C l (3 * t + x) b) T0) 40 (3 * t + m) x + 1) = mh_C C l (3 * t + x + 1) b := by
  refine mi_ext (fun r i k => ?_) rfl
  show (if r = 40 ∧ i = 3 * t + m ∧ k = x then (C.1 40 (3 * t + m) x + mh_a (C.1 34) (3 * t + x) (3 * t + m) x) + 1 else (mh_C C l (3 * t + x) b).1 r i k) = (mh_C C l (3 * t + x + 1) b).1 r i k
  have h1 := mh_a1 (pl := C.1 34) hx hm ht e
  by_cases hr : r = 40
  · subst hr
    by_cases q : i = 3 * t + m ∧ k = x
    · rw [if_pos ⟨rfl, q⟩, h1.1, Int32.add_zero, q.1, q.2]
      show _ = C.1 40 (3 * t + m) x + mh_a (C.1 34) (3 * t + x + 1) (3 * t + m) x
      rw [h1.2]
    · rw [if_neg (fun z => q z.2)]
      show C.1 40 i k + mh_a (C.1 34) (3 * t + x) i k = C.1 40 i k + mh_a (C.1 34) (3 * t + x + 1) i k
      rw [mh_a2 hx hm e q]
  · rw [if_neg (fun z => hr z.1)]
    unfold mh_C
    dsimp only
    rw [if_neg hr, if_neg hr]
theorem mh_C2 {C : ov_S} {l : Int32} {t x b : Nat} (hx : x < 3) (e : ¬ (0 ≤ C.1 34 t x ∧ C.1 34 t x ≤ 2)) : mh_C C l (3 * t + x + 1) b = mh_C C l (3 * t + x) b := by
  refine mi_ext (fun r i k => ?_) rfl
  unfold mh_C
  dsimp only
  rw [mh_a3 hx e]
theorem mh_C3 {C T0 : ov_S} {l : Int32} {t m a : Nat} (hm : m < 3) (ht : t < 4) (e : C.1 34 t 1 = nI m) : ov_w (mh_C C l a t) 7 (3 * t + m) 6 (ov_g (ov_mix (mh_C C l a t) T0) 7 (3 * t + m) 6 + l) = mh_C C l a (t + 1) := by
  refine mi_ext (fun r i k => ?_) rfl
  show (if r = 7 ∧ i = 3 * t + m ∧ k = 6 then (C.1 7 (3 * t + m) 6 + mh_b (C.1 34) l t (3 * t + m)) + l else (mh_C C l a t).1 r i k) = (mh_C C l a (t + 1)).1 r i k
  have h1 := mh_b1 (pl := C.1 34) (l := l) hm ht e
  have hin : 0 ≤ C.1 34 t 1 ∧ C.1 34 t 1 ≤ 2 := by rw [e]; exact (zz_le (b := 2) rfl).2 ⟨m, by omega, rfl⟩
  by_cases hr : r = 7 ∧ k = 6
  · obtain ⟨rfl, rfl⟩ := hr
    by_cases q : i = 3 * t + m
    · rw [if_pos ⟨rfl, q, rfl⟩, h1.1, Int32.add_zero, q]
      show _ = C.1 7 (3 * t + m) 6 + mh_b (C.1 34) l (t + 1) (3 * t + m)
      rw [h1.2]
    · rw [if_neg (fun z => q z.2.1)]
      show C.1 7 i 6 + mh_b (C.1 34) l t i = C.1 7 i 6 + mh_b (C.1 34) l (t + 1) i
      rw [mh_b2 hm e q]
  · rw [if_neg (fun z => hr ⟨z.1, z.2.2⟩)]
    unfold mh_C
    dsimp only
    rw [if_neg hr, if_neg hr, mh_d3 hin]
theorem mh_C4 {C T0 : ov_S} {l : Int32} {t a : Nat} (e : ¬ (0 ≤ C.1 34 t 1 ∧ C.1 34 t 1 ≤ 2)) : ov_w (mh_C C l a t) 6 t 4 (ov_g (ov_mix (mh_C C l a t) T0) 6 t 4 + l) = mh_C C l a (t + 1) := by
  refine mi_ext (fun r i k => ?_) rfl
  show (if r = 6 ∧ i = t ∧ k = 4 then (C.1 6 t 4 + mh_d (C.1 34) l t t) + l else (mh_C C l a t).1 r i k) = (mh_C C l a (t + 1)).1 r i k
  have h1 := mh_d1 (pl := C.1 34) (l := l) e
  by_cases hr : r = 6 ∧ k = 4
  · obtain ⟨rfl, rfl⟩ := hr
    by_cases q : i = t
    · rw [if_pos ⟨rfl, q, rfl⟩, h1.1, Int32.add_zero, q]
      show _ = C.1 6 t 4 + mh_d (C.1 34) l (t + 1) t
      rw [h1.2]
    · rw [if_neg (fun z => q z.2.1)]
      show C.1 6 i 4 + mh_d (C.1 34) l t i = C.1 6 i 4 + mh_d (C.1 34) l (t + 1) i
      rw [mh_d2 q]
  · rw [if_neg (fun z => hr ⟨z.1, z.2.2⟩)]
    unfold mh_C
    dsimp only
    rw [if_neg hr, if_neg hr, mh_b3 e]
theorem mh_C5 {C : ov_S} {a b b' : Nat} : mh_C C 0 a b = mh_C C 0 a b' := by
  have e1 : ∀ (b i : Nat), mh_b (C.1 34) 0 b i = 0 := fun b i => ite_self _
  have e2 : ∀ (b i : Nat), mh_d (C.1 34) 0 b i = 0 := fun b i => ite_self _
  refine mi_ext (fun r i k => ?_) rfl
  unfold mh_C
  dsimp only
  rw [e1, e1, e2, e2]
theorem mh_C0 {C : ov_S} {l : Int32} : mh_C C l 0 0 = C := by
  have e1 : ∀ (i k : Nat), mh_a (C.1 34) 0 i k = 0 := fun i k => if_neg (fun q => absurd q.2.2.1 (by omega))
  have e2 : ∀ (i : Nat), mh_b (C.1 34) l 0 i = 0 := fun i => if_neg (fun q => absurd q.2.1 (by omega))
  have e3 : ∀ (i : Nat), mh_d (C.1 34) l 0 i = 0 := fun i => if_neg (fun q => absurd q.1 (by omega))
  refine mi_ext (fun r i k => ?_) rfl
  unfold mh_C
  dsimp only
  rw [e1, e2, e3, Int32.add_zero, Int32.add_zero, Int32.add_zero]
  by_cases h1 : r = 40
  · rw [if_pos h1, h1]
  · rw [if_neg h1]
    by_cases h2 : r = 7 ∧ k = 6
    · rw [if_pos h2, h2.1, h2.2]
    · rw [if_neg h2]
      by_cases h3 : r = 6 ∧ k = 4
      · rw [if_pos h3, h3.1, h3.2]
      · rw [if_neg h3]
theorem mh_T0 {T : ov_S} {l : Int32} : mh_T T l 0 0 = T := by
  have e1 : ∀ (i k : Nat), mh_a (mh_p T) 0 i k = 0 := fun i k => if_neg (fun q => absurd q.2.2.1 (by omega))
  have e2 : ∀ (i : Nat), mh_b (mh_p T) l 0 i = 0 := fun i => if_neg (fun q => absurd q.2.1 (by omega))
  have e3 : ∀ (i : Nat), mh_d (mh_p T) l 0 i = 0 := fun i => if_neg (fun q => absurd q.1 (by omega))
  refine mi_ext (fun r i k => ?_) rfl
  unfold mh_T
  dsimp only
  rw [e1, e2, e3, Int32.add_zero, Int32.add_zero, Int32.add_zero]
  by_cases h1 : r = 66 ∧ i = 0
  · rw [if_pos h1, h1.1, h1.2]
  · rw [if_neg h1]
    by_cases h2 : r = 72 ∧ i = 0
    · rw [if_pos h2, h2.1, h2.2]
    · rw [if_neg h2]
      by_cases h3 : r = 73 ∧ i = 0
      · rw [if_pos h3, h3.1, h3.2]
      · rw [if_neg h3]
theorem mh_T1 {T D : ov_S} {l : Int32} {t x m b : Nat} (hx : x < 3) (hm : m < 3) (ht : t < 4) (e : mh_p T t x = nI m) : ov_w (mh_T T l (3 * t + x) b) 66 0 (3 * (3 * t + m) + x) (ov_g (ov_mix D (mh_T T l (3 * t + x) b)) 66 0 (3 * (3 * t + m) + x) + 1) = mh_T T l (3 * t + x + 1) b := by
  refine mi_ext (fun r i k => ?_) rfl
  show (if r = 66 ∧ i = 0 ∧ k = 3 * (3 * t + m) + x then (T.1 66 0 (3 * (3 * t + m) + x) + mh_a (mh_p T) (3 * t + x) ((3 * (3 * t + m) + x) / 3) ((3 * (3 * t + m) + x) % 3)) + 1 else (mh_T T l (3 * t + x) b).1 r i k) = (mh_T T l (3 * t + x + 1) b).1 r i k
  have h1 := mh_a1 (pl := mh_p T) hx hm ht e
  have d1 : (3 * (3 * t + m) + x) / 3 = 3 * t + m := by omega
  have d2 : (3 * (3 * t + m) + x) % 3 = x := by omega
  rw [d1, d2]
  by_cases hr : r = 66 ∧ i = 0
  · obtain ⟨rfl, rfl⟩ := hr
    by_cases q : k = 3 * (3 * t + m) + x
    · rw [if_pos ⟨rfl, rfl, q⟩, h1.1, Int32.add_zero, q]
      show _ = T.1 66 0 (3 * (3 * t + m) + x) + mh_a (mh_p T) (3 * t + x + 1) ((3 * (3 * t + m) + x) / 3) ((3 * (3 * t + m) + x) % 3)
      rw [d1, d2, h1.2]
    · rw [if_neg (fun z => q z.2.2)]
      show T.1 66 0 k + mh_a (mh_p T) (3 * t + x) (k / 3) (k % 3) = T.1 66 0 k + mh_a (mh_p T) (3 * t + x + 1) (k / 3) (k % 3)
      rw [mh_a2 hx hm e (fun z => q (by omega))]
  · rw [if_neg (fun z => hr ⟨z.1, z.2.1⟩)]
    unfold mh_T
    dsimp only
    rw [if_neg hr, if_neg hr]
theorem mh_T2 {T : ov_S} {l : Int32} {t x b : Nat} (hx : x < 3) (e : ¬ (0 ≤ mh_p T t x ∧ mh_p T t x ≤ 2)) : mh_T T l (3 * t + x + 1) b = mh_T T l (3 * t + x) b := by
  refine mi_ext (fun r i k => ?_) rfl
  unfold mh_T
  dsimp only
  rw [mh_a3 hx e]
theorem mh_T3 {T D : ov_S} {l : Int32} {t m a : Nat} (hm : m < 3) (ht : t < 4) (e : mh_p T t 1 = nI m) : ov_w (mh_T T l a t) 72 0 (3 * t + m) (ov_g (ov_mix D (mh_T T l a t)) 72 0 (3 * t + m) + l) = mh_T T l a (t + 1) := by
  refine mi_ext (fun r i k => ?_) rfl
  show (if r = 72 ∧ i = 0 ∧ k = 3 * t + m then (T.1 72 0 (3 * t + m) + mh_b (mh_p T) l t (3 * t + m)) + l else (mh_T T l a t).1 r i k) = (mh_T T l a (t + 1)).1 r i k
  have h1 := mh_b1 (pl := mh_p T) (l := l) hm ht e
  have hin : 0 ≤ mh_p T t 1 ∧ mh_p T t 1 ≤ 2 := by rw [e]; exact (zz_le (b := 2) rfl).2 ⟨m, by omega, rfl⟩
  by_cases hr : r = 72 ∧ i = 0
  · obtain ⟨rfl, rfl⟩ := hr
    by_cases q : k = 3 * t + m
    · rw [if_pos ⟨rfl, rfl, q⟩, h1.1, Int32.add_zero, q]
      show _ = T.1 72 0 (3 * t + m) + mh_b (mh_p T) l (t + 1) (3 * t + m)
      rw [h1.2]
    · rw [if_neg (fun z => q z.2.2)]
      show T.1 72 0 k + mh_b (mh_p T) l t k = T.1 72 0 k + mh_b (mh_p T) l (t + 1) k
      rw [mh_b2 hm e q]
  · rw [if_neg (fun z => hr ⟨z.1, z.2.1⟩)]
    unfold mh_T
    dsimp only
    rw [if_neg hr, if_neg hr, mh_d3 hin]
theorem mh_T4 {T D : ov_S} {l : Int32} {t a : Nat} (e : ¬ (0 ≤ mh_p T t 1 ∧ mh_p T t 1 ≤ 2)) : ov_w (mh_T T l a t) 73 0 t (ov_g (ov_mix D (mh_T T l a t)) 73 0 t + l) = mh_T T l a (t + 1) := by
  refine mi_ext (fun r i k => ?_) rfl
  show (if r = 73 ∧ i = 0 ∧ k = t then (T.1 73 0 t + mh_d (mh_p T) l t t) + l else (mh_T T l a t).1 r i k) = (mh_T T l a (t + 1)).1 r i k
  have h1 := mh_d1 (pl := mh_p T) (l := l) e
  by_cases hr : r = 73 ∧ i = 0
  · obtain ⟨rfl, rfl⟩ := hr
    by_cases q : k = t
    · rw [if_pos ⟨rfl, rfl, q⟩, h1.1, Int32.add_zero, q]
      show _ = T.1 73 0 t + mh_d (mh_p T) l (t + 1) t
      rw [h1.2]
    · rw [if_neg (fun z => q z.2.2)]
      show T.1 73 0 k + mh_d (mh_p T) l t k = T.1 73 0 k + mh_d (mh_p T) l (t + 1) k
      rw [mh_d2 q]
  · rw [if_neg (fun z => hr ⟨z.1, z.2.1⟩)]
    unfold mh_T
    dsimp only
    rw [if_neg hr, if_neg hr, mh_b3 e]
/-! the class -/
theorem mh_E1 {d c : Nat} {C T0 : ov_S} {Q : ov_Q} {l : Int32} {t x : Nat} (hd : 2 ≤ d) (hc : c ≤ 4) (e2 : C.1 1 0 2 = nI c) (ht : t < c) (fl : ∀ j, j < 12 → C.1 3 0 j ≠ 0) (hx : x < 3) (pp : rl_plc (C.1 34 t x)) (h : ov_V true true d 0 0 mq_World_endMinute 14 [some (.inr (.inr (true, 1, 0))), some (.inl (nI t)), some (.inl l), some (.inr (.inr (true, 6, t))), some (.inl (nI (x + 1))), none] [] (ov_mix (mh_C C l (3 * t + x + 1) t) T0) Q) : ov_V true true d 0 0 mq_World_endMinute 14 [some (.inr (.inr (true, 1, 0))), some (.inl (nI t)), some (.inl l), some (.inr (.inr (true, 6, t))), some (.inl (nI x)), none] [] (ov_mix (mh_C C l (3 * t + x) t) T0) Q := by
  have ht3 := (w_three (S := ov_mix (mh_C C l (3 * t + x) t) T0) (v := nI t) hc e2).2 ⟨t, ht, rfl⟩
  have ib : ov_ib (nI x) 3 := zz_ib hx (by decide)
  refine r_World_endMinute_14 hd ⟨fun q => absurd q (nI_ge (b := 3) hx (by decide)), fun _ => ?_⟩
  rw [zz_ix (n := x) (by omega)]
  rcases mi_plc pp with ⟨m, hm, em⟩ | ⟨n1, _⟩
  · have hmi : 0 ≤ nI m ∧ nI m ≤ 2 := (zz_le (b := 2) rfl).2 ⟨m, by omega, rfl⟩
    rw [show ov_g (ov_mix (mh_C C l (3 * t + x) t) T0) 34 t x = nI m from em, zz_3, zz_ix (n := 3 * t + m) (by omega), Nat.mul_zero, Nat.zero_add, mix_c rfl, mh_C1 hx hm (by omega) em]
    refine ⟨ib, fun _ => ⟨fl _ (by omega), ib, ib, r_World_endMinute_51 ?_⟩, fun n => absurd ⟨ht3.1, ht3.2, hmi⟩ n⟩
    rw [nI_1]
    exact h
  · rw [mh_C2 hx n1] at h
    refine ⟨ib, fun q => absurd q.2.2 n1, fun _ => r_World_endMinute_51 ?_⟩
    rw [nI_1]
    exact h
theorem mh_E2 {d c n : Nat} {C T0 : ov_S} {Q : ov_Q} {t : Nat} (hd : 4 ≤ d) (hc : c ≤ 4) (e2 : C.1 1 0 2 = nI c) (ht : t < c) (fl2 : ∀ j, j < 4 → C.1 2 0 j ≠ 0) (fl : ∀ j, j < 12 → C.1 3 0 j ≠ 0) (hn : n < 2 ^ 31) (pp : ∀ x, x < 3 → rl_plc (C.1 34 t x)) (h : Q none (ov_mix (mh_C C (nI n) (3 * (t + 1)) (t + 1)) T0)) : ov_V true true d 0 0 mq_World_endMinute 0 [some (.inr (.inr (true, 1, 0))), some (.inl (nI t)), some (.inl (nI n)), none, none, none] [] (ov_mix (mh_C C (nI n) (3 * t) t) T0) Q := by
  have ht3 := (w_three (S := ov_mix (mh_C C (nI n) (3 * t) t) T0) (v := nI t) hc e2).2 ⟨t, ht, rfl⟩
  have ht3' := (w_three (S := ov_mix (mh_C C (nI n) (3 * t + 3) t) T0) (v := nI t) hc e2).2 ⟨t, ht, rfl⟩
  refine r_World_endMinute_0 (by omega) ⟨fun _ => ?_, fun n => absurd ht3 n⟩
  rw [zz_ix (n := t) (by omega), Nat.mul_zero, Nat.zero_add]
  refine ⟨fl2 t (by omega), mh_E1 (x := 0) (by omega) hc e2 ht fl (by decide) (pp 0 (by decide)) (mh_E1 (x := 1) (by omega) hc e2 ht fl (by decide) (pp 1 (by decide)) (mh_E1 (x := 2) (by omega) hc e2 ht fl (by decide) (pp 2 (by decide)) ?_))⟩
  have h : Q none (ov_mix (mh_C C (nI n) (3 * t + 3) (t + 1)) T0) := h
  refine r_World_endMinute_14 (by omega) ⟨fun _ => ⟨fun q => r_World_endMinute_68 ?_, fun q => ?_⟩, fun q => absurd (by decide) q⟩
  · have hn0 : n = 0 := by
      rcases Nat.eq_zero_or_pos n with e | e
      · exact e
      · exact absurd q (nI_nle e hn)
    subst hn0
    have e := mh_C5 (C := C) (a := 3 * t + 3) (b := t + 1) (b' := t)
    rw [nI_0, e] at h
    rw [nI_0]
    exact h
  · refine r_World_hearNoises_0 (by omega) ?_
    rw [show ov_ix 1 = 1 from rfl]
    rcases mi_plc (pp 1 (by decide)) with ⟨m, hm, em⟩ | ⟨n1, _⟩
    · have hmi : 0 ≤ nI m ∧ nI m ≤ 2 := (zz_le (b := 2) rfl).2 ⟨m, by omega, rfl⟩
      rw [show ov_g (ov_mix (mh_C C (nI n) (3 * t + 2 + 1) t) T0) 34 t 1 = nI m from em, zz_3, zz_ix (n := 3 * t + m) (by omega), Nat.mul_zero, Nat.zero_add, mix_c rfl, mh_C3 hm (by omega) em]
      exact ⟨fun _ => ⟨fl _ (by omega), r_World_endMinute_68 h⟩, fun n => absurd ⟨ht3'.1, ht3'.2, hmi⟩ n⟩
    · rw [mix_c (r := 6) rfl, mh_C4 n1]
      exact ⟨fun q => absurd q.2.2 n1, fun _ => r_World_endMinute_68 h⟩
/-! the reference -/
theorem mh_M1 {d : Nat} {T D : ov_S} {Q : ov_Q} {l : Int32} {t x b : Nat} (hd : 2 ≤ d) (ht : t < 4) (hx : x < 3) (pp : rl_plc (mh_p T t x)) (h : ov_V true true d 0 0 mq_Mod_goesBy 112 [some (.inr (.inr (true, 14, 0))), some (.inl (nI t)), some (.inl (nI (x + 1)))] [] (ov_mix D (mh_T T l (3 * t + x + 1) b)) Q) : ov_V true true d 0 0 mq_Mod_goesBy 112 [some (.inr (.inr (true, 14, 0))), some (.inl (nI t)), some (.inl (nI x))] [] (ov_mix D (mh_T T l (3 * t + x) b)) Q := by
  have ib : ov_ib (nI (3 * t + x)) 12 := zz_ib (by omega) (by decide)
  refine r_Mod_goesBy_112 hd ⟨fun q => absurd q (nI_ge (b := 3) hx (by decide)), fun _ => ?_⟩
  rcases mi_plc pp with ⟨m, hm, em⟩ | ⟨n1, n2⟩
  · have hh : ov_hol (ov_mix D (mh_T T l (3 * t + x) b)) (nI t) (nI x) = nI (3 * t + m) := mi_hol1 ht hx hm em
    have ib2 : ov_ib (nI (3 * (3 * t + m) + x)) 36 := zz_ib (by omega) (by decide)
    have hne : ¬ nI (3 * t + m) = -1 := fun q => nI_pos (n := 3 * t + m) (by omega) (by rw [q]; decide)
    rw [hh, zz_3, zz_3, zz_ix (n := 3 * (3 * t + m) + x) (by omega), mix_m rfl, mh_T1 hx hm ht em]
    refine ⟨ib, fun q => absurd q hne, fun _ => ⟨ib, ib, ib2, ib2, r_Mod_goesBy_159 ?_⟩⟩
    rw [nI_1]
    exact h
  · have hh : ov_hol (ov_mix D (mh_T T l (3 * t + x) b)) (nI t) (nI x) = -1 := mi_hol2 ht hx rfl n2
    rw [mh_T2 hx n1] at h
    rw [hh, zz_3]
    refine ⟨ib, fun _ => r_Mod_goesBy_159 ?_, fun n => absurd rfl n⟩
    rw [nI_1]
    exact h
theorem mh_M2 {d c : Nat} {T D : ov_S} {Q : ov_Q} {l : Int32} {b : Nat} (hd : 2 ≤ d) (hc : c ≤ 4) (e2 : T.1 14 0 2 = nI c) (pp : ∀ t, t < 4 → ∀ x, x < 3 → rl_plc (mh_p T t x)) (h : ov_V true true d 0 0 mq_Mod_goesBy 102 [some (.inr (.inr (true, 14, 0))), some (.inl (nI c)), none] [] (ov_mix D (mh_T T l (3 * c) b)) Q) : ∀ j t, t + j = c → ov_V true true d 0 0 mq_Mod_goesBy 102 [some (.inr (.inr (true, 14, 0))), some (.inl (nI t)), none] [] (ov_mix D (mh_T T l (3 * t) b)) Q := by
  intro j
  induction j with
  | zero =>
    intro t ht
    have e : t = c := by omega
    subst e
    exact h
  | succ j ih =>
    intro t ht
    refine r_Mod_goesBy_102 (by omega) ⟨fun q => ?_, fun _ => ?_⟩
    · rw [show ov_g (ov_mix D (mh_T T l (3 * t) b)) 14 0 2 = nI c from e2] at q
      exact absurd q (nI_ge (by omega) (by omega))
    · refine mh_M1 (x := 0) hd (by omega) (by decide) (pp t (by omega) 0 (by decide)) (mh_M1 (x := 1) hd (by omega) (by decide) (pp t (by omega) 1 (by decide)) (mh_M1 (x := 2) hd (by omega) (by decide) (pp t (by omega) 2 (by decide)) (r_Mod_goesBy_112 hd ⟨fun _ => ?_, fun q => absurd (by decide) q⟩)))
      rw [nI_1]
      exact ih (t + 1) (by omega)
/-- how many noises there are -/
def mh_n (f : Nat → Int32) (mn : Int32) : Nat → Nat
  | 0 => 0
  | i + 1 => mh_n f mn i + if f i = mn then 1 else 0
theorem mh_n_le (f : Nat → Int32) (mn : Int32) : ∀ i, mh_n f mn i ≤ i
  | 0 => Nat.le_refl _
  | i + 1 => by
    have h := mh_n_le f mn i
    have h2 : (if f i = mn then 1 else 0) ≤ 1 := by
      by_cases q : f i = mn
      · rw [if_pos q]; exact Nat.le_refl _
      · rw [if_neg q]; exact Nat.zero_le _
    show mh_n f mn i + (if f i = mn then 1 else 0) ≤ i + 1
    omega
theorem mh_n_c {f g : Nat → Int32} {mn : Int32} : ∀ n, (∀ k, k < n → f k = g k) → mh_n f mn n = mh_n g mn n
  | 0, _ => rfl
  | n + 1, h => by
    show mh_n f mn n + (if f n = mn then 1 else 0) = mh_n g mn n + (if g n = mn then 1 else 0)
    rw [mh_n_c n (fun k hk => h k (by omega)), h n (by omega)]
theorem mh_nE {d nz : Nat} {C T0 : ov_S} {Q : ov_Q} {mn : Int32} (hz : nz ≤ 20) (ez : C.1 1 0 7 = nI nz) (em : C.1 1 0 9 = mn) (h : Q (some (.inl (nI (mh_n (C.1 21 0) mn nz)))) (ov_mix C T0)) : ∀ j i, i + j = nz → ov_V true true d 0 0 mq_World_noisesNow 4 [some (.inr (.inr (true, 1, 0))), some (.inl (nI (mh_n (C.1 21 0) mn i))), some (.inl (nI i))] [] (ov_mix C T0) Q := by
  intro j
  induction j with
  | zero =>
    intro i hi
    have e : i = nz := by omega
    subst e
    refine r_World_noisesNow_4 ⟨fun _ => h, fun n => absurd (by rw [show ov_g (ov_mix C T0) 1 0 7 = nI i from ez]; exact nI_le (Nat.le_refl _) (by omega)) n⟩
  | succ j ih =>
    intro i hi
    have ih := ih (i + 1) (by omega)
    refine r_World_noisesNow_4 ?_
    rw [show ov_g (ov_mix C T0) 1 0 7 = nI nz from ez, show ov_g (ov_mix C T0) 1 0 9 = mn from em, zz_ix (n := i) (by omega)]
    refine ⟨fun q => absurd q (nI_ge (by omega) (by omega)), fun _ => ⟨fun q => absurd q (nI_ge (b := 20) (by omega) (by omega)), fun _ => ⟨zz_ib (by omega) (by decide), fun n => r_World_noisesNow_34 ?_, fun y => r_World_noisesNow_34 ?_⟩⟩⟩
    · have e : mh_n (C.1 21 0) mn (i + 1) = mh_n (C.1 21 0) mn i := by
        show mh_n (C.1 21 0) mn i + (if C.1 21 0 i = mn then 1 else 0) = _
        rw [if_neg (show ¬ C.1 21 0 i = mn from n)]
        rfl
      rw [e] at ih
      rw [nI_1]
      exact ih
    · have e : mh_n (C.1 21 0) mn (i + 1) = mh_n (C.1 21 0) mn i + 1 := by
        show mh_n (C.1 21 0) mn i + (if C.1 21 0 i = mn then 1 else 0) = _
        rw [if_pos (show C.1 21 0 i = mn from y)]
      rw [e] at ih
      rw [nI_1, nI_1]
      exact ih
theorem mh_nM {d nz : Nat} {T D : ov_S} {Q : ov_Q} {mn : Int32} (hz : nz ≤ 20) (ez : T.1 14 0 18 = nI nz) (em : T.1 14 0 16 = mn) (h : ov_V true true d 0 0 mq_Mod_sounds 37 [some (.inr (.inr (true, 14, 0))), some (.inl (nI (mh_n (T.1 71 0) mn nz))), some (.inl 0), none] [] (ov_mix D T) Q) : ∀ j i, i + j = nz → ov_V true true d 0 0 mq_Mod_sounds 4 [some (.inr (.inr (true, 14, 0))), some (.inl (nI (mh_n (T.1 71 0) mn i))), some (.inl (nI i)), none] [] (ov_mix D T) Q := by
  intro j
  induction j with
  | zero =>
    intro i hi
    have e : i = nz := by omega
    subst e
    refine r_Mod_sounds_4 ⟨fun _ => h, fun n => absurd (by rw [show ov_g (ov_mix D T) 14 0 18 = nI i from ez]; exact nI_le (Nat.le_refl _) (by omega)) n⟩
  | succ j ih =>
    intro i hi
    have ih := ih (i + 1) (by omega)
    refine r_Mod_sounds_4 ?_
    rw [show ov_g (ov_mix D T) 14 0 18 = nI nz from ez, show ov_g (ov_mix D T) 14 0 16 = mn from em, zz_ix (n := i) (by omega)]
    refine ⟨fun q => absurd q (nI_ge (by omega) (by omega)), fun _ => ⟨zz_ib (by omega) (by decide), fun n => r_Mod_sounds_29 ?_, fun y => r_Mod_sounds_29 ?_⟩⟩
    · have e : mh_n (T.1 71 0) mn (i + 1) = mh_n (T.1 71 0) mn i := by
        show mh_n (T.1 71 0) mn i + (if T.1 71 0 i = mn then 1 else 0) = _
        rw [if_neg (show ¬ T.1 71 0 i = mn from n)]
        rfl
      rw [e] at ih
      rw [nI_1]
      exact ih
    · have e : mh_n (T.1 71 0) mn (i + 1) = mh_n (T.1 71 0) mn i + 1 := by
        show mh_n (T.1 71 0) mn i + (if T.1 71 0 i = mn then 1 else 0) = _
        rw [if_pos (show T.1 71 0 i = mn from y)]
      rw [e] at ih
      rw [nI_1, nI_1]
      exact ih
theorem mh_M3 {d c : Nat} {T D : ov_S} {Q : ov_Q} {l : Int32} {a : Nat} (hd : 2 ≤ d) (hc : c ≤ 4) (e2 : T.1 14 0 2 = nI c) (pp : ∀ t, t < 4 → ∀ x, x < 3 → rl_plc (mh_p T t x)) (h : Q none (ov_mix D (mh_T T l a c))) : ∀ j t, t + j = c → ov_V true true d 0 0 mq_Mod_sounds 37 [some (.inr (.inr (true, 14, 0))), some (.inl l), some (.inl (nI t)), none] [] (ov_mix D (mh_T T l a t)) Q := by
  intro j
  induction j with
  | zero =>
    intro t ht
    have e : t = c := by omega
    subst e
    refine r_Mod_sounds_37 hd ⟨fun _ => h, fun n => absurd (by rw [show ov_g (ov_mix D (mh_T T l a t)) 14 0 2 = nI t from e2]; exact nI_le (Nat.le_refl _) (by omega)) n⟩
  | succ j ih =>
    intro t ht
    have ih := ih (t + 1) (by omega)
    have ib1 : ov_ib (3 * nI t + 1) 12 := by
      rw [show (3 * nI t + 1 : Int32) = nI (3 * t + 1) from zz_3 t 1]; exact zz_ib (by omega) (by decide)
    have ib4 : ov_ib (nI t) 4 := zz_ib (by omega) (by decide)
    refine r_Mod_sounds_37 hd ?_
    rw [show ov_g (ov_mix D (mh_T T l a t)) 14 0 2 = nI c from e2]
    refine ⟨fun q => absurd q (nI_ge (by omega) (by omega)), fun _ => ⟨ib1, ?_⟩⟩
    rcases mi_plc (pp t (by omega) 1 (by decide)) with ⟨m, hm, em⟩ | ⟨n1, n2⟩
    · have hh : ov_hol (ov_mix D (mh_T T l a t)) (nI t) 1 = nI (3 * t + m) := mi_hol1 (x := 1) (by omega) (by decide) hm em
      have hne : ¬ nI (3 * t + m) = -1 := fun q => nI_pos (n := 3 * t + m) (by omega) (by rw [q]; decide)
      have ib2 : ov_ib (nI (3 * t + m)) 12 := zz_ib (by omega) (by decide)
      rw [hh, zz_ix (n := 3 * t + m) (by omega), mix_m rfl, mh_T3 hm (by omega) em]
      refine ⟨fun _ => ⟨ib2, ib2, r_Mod_sounds_88 ?_⟩, fun q => absurd q hne⟩
      rw [nI_1]
      exact ih
    · have hh : ov_hol (ov_mix D (mh_T T l a t)) (nI t) 1 = -1 := mi_hol2 (x := 1) (by omega) (by decide) rfl n2
      rw [hh, zz_ix (n := t) (by omega), mix_m (r := 73) rfl, mh_T4 n1]
      refine ⟨fun n => absurd rfl n, fun _ => ⟨ib4, ib4, r_Mod_sounds_88 ?_⟩⟩
      rw [nI_1]
      exact ih
