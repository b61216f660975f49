/-! ===== ints that are small numbers ===== -/
theorem zz_of {v : Int32} (h : 0 ≤ v.toInt) : v = nI v.toInt.toNat := by
  apply Int32.toInt_inj.mp
  rw [nI_toInt (by have := Int32.toInt_lt v; omega)]
  omega
theorem zz_le {v : Int32} {b : Nat} {y : Int32} (hy : y.toInt = (b : Int)) : (0 ≤ v ∧ v ≤ y) ↔ ∃ k : Nat, k ≤ b ∧ v = nI k := by
  have e0 : (0 : Int32).toInt = 0 := rfl
  constructor
  · rintro ⟨h1, h2⟩
    have h1 := Int32.le_iff_toInt_le.mp h1
    have h2 := Int32.le_iff_toInt_le.mp h2
    exact ⟨v.toInt.toNat, by omega, zz_of (by omega)⟩
  · rintro ⟨k, hk, rfl⟩
    have hb : (b : Int) < 2 ^ 31 := by rw [← hy]; exact Int32.toInt_lt y
    have := nI_toInt (n := k) (by omega)
    exact ⟨Int32.le_iff_toInt_le.mpr (by omega), Int32.le_iff_toInt_le.mpr (by omega)⟩
theorem zz_lt {v : Int32} {b : Nat} {y : Int32} (hy : y.toInt = (b : Int)) : (0 ≤ v ∧ v < y) ↔ ∃ k : Nat, k < b ∧ v = nI k := by
  have e0 : (0 : Int32).toInt = 0 := rfl
  constructor
  · rintro ⟨h1, h2⟩
    have h1 := Int32.le_iff_toInt_le.mp h1
    have h2 := Int32.lt_iff_toInt_lt.mp h2
    exact ⟨v.toInt.toNat, by omega, zz_of (by omega)⟩
  · rintro ⟨k, hk, rfl⟩
    have hb : (b : Int) < 2 ^ 31 := by rw [← hy]; exact Int32.toInt_lt y
    have := nI_toInt (n := k) (by omega)
    exact ⟨Int32.le_iff_toInt_le.mpr (by omega), Int32.lt_iff_toInt_lt.mpr (by omega)⟩
theorem zz_rng {v x y : Int32} {a b : Nat} (hx : x.toInt = (a : Int)) (hy : y.toInt = (b : Int)) : (x ≤ v ∧ v ≤ y) ↔ ∃ k : Nat, a ≤ k ∧ k ≤ b ∧ v = nI k := by
  constructor
  · rintro ⟨h1, h2⟩
    have h1 := Int32.le_iff_toInt_le.mp h1
    have h2 := Int32.le_iff_toInt_le.mp h2
    exact ⟨v.toInt.toNat, by omega, by omega, zz_of (by omega)⟩
  · rintro ⟨k, ha, hk, rfl⟩
    have hb : (b : Int) < 2 ^ 31 := by rw [← hy]; exact Int32.toInt_lt y
    have := nI_toInt (n := k) (by omega)
    exact ⟨Int32.le_iff_toInt_le.mpr (by omega), Int32.le_iff_toInt_le.mpr (by omega)⟩
theorem zz_inj {a b : Nat} (ha : a < 2 ^ 31) (hb : b < 2 ^ 31) (h : nI a = nI b) : a = b := (nI_eq ha hb).mp h
theorem zz_ix {n : Nat} (h : n < 2 ^ 31) : ov_ix (nI n) = n := nI_clamp h
theorem zz_ib {n N : Nat} (h : n < N) (hN : N < 2 ^ 31) : ov_ib (nI n) N := by
  have := nI_toInt (n := n) (by omega)
  exact ⟨by omega, by omega⟩
/-- a three by its number, as the class and as the reference ask -/
theorem zz_3c : ∀ c : Nat, c < 5 → (3 * nI c - 1).toInt = 3 * (c : Int) - 1 ∧ (nI c - 1).toInt = (c : Int) - 1 ∧ (3 * nI c).toInt = 3 * (c : Int) ∧ (nI c).toInt = (c : Int) := by decide +kernel
theorem zz_tc {v : Int32} {c : Nat} (hc : c ≤ 4) : ((0 ≤ v ∧ v ≤ nI c - 1) ∧ v < 4) ↔ ∃ t : Nat, t < c ∧ v = nI t := by
  obtain ⟨e1, e2, e3, e4⟩ := zz_3c c (by omega)
  have e0 : (0 : Int32).toInt = 0 := rfl
  have e5 : (4 : Int32).toInt = 4 := rfl
  constructor
  · rintro ⟨⟨h1, h2⟩, h3⟩
    have h1 := Int32.le_iff_toInt_le.mp h1
    have h2 := Int32.le_iff_toInt_le.mp h2
    exact ⟨v.toInt.toNat, by omega, zz_of (by omega)⟩
  · rintro ⟨k, hk, rfl⟩
    have := nI_toInt (n := k) (by omega)
    exact ⟨⟨Int32.le_iff_toInt_le.mpr (by omega), Int32.le_iff_toInt_le.mpr (by omega)⟩, Int32.lt_iff_toInt_lt.mpr (by omega)⟩
theorem zz_pc {v : Int32} {c : Nat} (hc : c ≤ 4) : ((0 ≤ v ∧ v ≤ 3 * nI c - 1) ∧ v < 12) ↔ ∃ t : Nat, t < 3 * c ∧ v = nI t := by
  obtain ⟨e1, e2, e3, e4⟩ := zz_3c c (by omega)
  have e0 : (0 : Int32).toInt = 0 := rfl
  have e5 : (12 : Int32).toInt = 12 := rfl
  constructor
  · rintro ⟨⟨h1, h2⟩, h3⟩
    have h1 := Int32.le_iff_toInt_le.mp h1
    have h2 := Int32.le_iff_toInt_le.mp h2
    exact ⟨v.toInt.toNat, by omega, zz_of (by omega)⟩
  · rintro ⟨k, hk, rfl⟩
    have := nI_toInt (n := k) (by omega)
    exact ⟨⟨Int32.le_iff_toInt_le.mpr (by omega), Int32.le_iff_toInt_le.mpr (by omega)⟩, Int32.lt_iff_toInt_lt.mpr (by omega)⟩
theorem zz_tm {v : Int32} {c : Nat} (hc : c ≤ 4) : (0 ≤ v ∧ v < nI c) ↔ ∃ t : Nat, t < c ∧ v = nI t := zz_lt (zz_3c c (by omega)).2.2.2
theorem zz_pm {v : Int32} {c : Nat} (hc : c ≤ 4) : (0 ≤ v ∧ v < 3 * nI c) ↔ ∃ t : Nat, t < 3 * c ∧ v = nI t := zz_lt (b := 3 * c) (by rw [(zz_3c c (by omega)).2.2.1]; omega)
theorem zz_3 (t x : Nat) : 3 * nI t + nI x = nI (3 * t + x) := by
  show nI 3 * nI t + nI x = _
  rw [pk_mul, nI_add]
theorem zz_4 (t x : Nat) : 4 * nI t + nI x = nI (4 * t + x) := by
  show nI 4 * nI t + nI x = _
  rw [pk_mul, nI_add]
theorem zz_10 (t x : Nat) : 10 * nI t + nI x = nI (10 * t + x) := by
  show nI 10 * nI t + nI x = _
  rw [pk_mul, nI_add]
/-! ===== what the class and the reference hold, side by side ===== -/
/-- a STEP in both: kind, thing, number, hearer; word, a, b; how many threes -/
def rl_step (c : Nat) (kd th nu he w a b : Int32) : Prop := kd = w ∧
  ((w = 0 ∧ th = a ∧ nu = b ∧ (∃ x : Nat, x < 3 ∧ a = nI x) ∧ ∃ m : Nat, m < 3 ∧ b = nI m) ∨
   (w = 1 ∧ nu = a ∧ ∃ f : Nat, f < 10 ∧ a = nI f) ∨
   ((w = 2 ∨ w = 3) ∧ nu = a ∧ he = b ∧ (∃ f : Nat, f < 10 ∧ a = nI f) ∧ ∃ t : Nat, t < c ∧ b = nI t) ∨
   (w = 4 ∧ nu = a ∧ ∃ n : Nat, 1 ≤ n ∧ n ≤ 99 ∧ a = nI n) ∨
   (w = 5 ∧ th = a ∧ nu = b ∧ (∃ x : Nat, x < 3 ∧ a = nI x) ∧ ∃ s : Nat, s < 9 ∧ b = nI s))
/-- what a THREE does: left, doing, thing, target; the reference's doing, what, to -/
def rl_do (le dg th tg md wh to : Int32) : Prop := (le = 0 → md = 0) ∧ (¬ le = 0 → (md = 1 ∧ dg = 0 ∧ th = wh ∧ tg = to ∧ (∃ x : Nat, x < 3 ∧ wh = nI x) ∧ ∃ m : Nat, m < 3 ∧ to = nI m) ∨ (md = 2 ∧ dg = 4) ∨ (md = 3 ∧ dg = 5 ∧ th = wh ∧ tg = to ∧ (∃ x : Nat, x < 3 ∧ wh = nI x) ∧ ∃ s : Nat, s < 9 ∧ to = nI s))
def rl_plc (v : Int32) : Prop := (∃ k : Nat, k ≤ 3 ∧ v = nI k) ∨ ∃ s : Nat, s < 9 ∧ v = nI (10 + s)
/-- a world of the class C (its cells by region, place in the world, place), and the reference's state u; c threes, m the minute, lb lines, nz noises, wc watches -/
def rl_w (c m lb nz wc : Nat) (C u : Nat → Nat → Nat → Int32) : Prop :=
  (c ≤ 4 ∧ C 1 0 2 = nI c ∧ u 14 0 2 = nI c) ∧
  (C 1 0 8 = u 14 0 1) ∧
  (m ≤ 99999 ∧ C 1 0 9 = nI m ∧ u 14 0 16 = nI m) ∧
  (C 1 0 10 = u 14 0 17 ∧ (u 14 0 17 = -1 ∧ m = 0 ∨ ∃ k : Nat, k ≤ 180 ∧ u 14 0 17 = nI k)) ∧
  (nz ≤ 20 ∧ C 1 0 7 = nI nz ∧ u 14 0 18 = nI nz) ∧
  (∀ k, k < 20 → C 21 0 k = u 71 0 k) ∧
  (∀ f, f < 10 → C 20 0 f = u 63 0 f ∧ (u 63 0 f = 0 ∨ u 63 0 f = 1)) ∧
  (∀ t, t < 4 → C 6 t 0 = u 58 0 t ∧ C 6 t 1 = u 59 0 t ∧ (t < c → (∃ h : Nat, 1 ≤ h ∧ h ≤ 9 ∧ u 58 0 t = nI h) ∧ ∃ q : Nat, q ≤ 1000 ∧ u 59 0 t = nI q)) ∧
  (∀ t, t < 4 → C 6 t 2 = u 60 0 t ∧ C 6 t 3 = u 61 0 t ∧ C 6 t 4 = u 73 0 t) ∧
  (∀ t, t < 4 → ∀ x, x < 3 → C 34 t x = u 62 0 (3 * t + x) ∧ rl_plc (u 62 0 (3 * t + x))) ∧
  (∀ t, t < 4 → C 6 t 7 = u 87 0 t ∧ C 6 t 8 = u 80 0 t ∧ (∃ k : Nat, k ≤ 99 ∧ u 80 0 t = nI k) ∧ rl_do (C 6 t 8) (C 6 t 9) (C 6 t 10) (C 6 t 11) (u 79 0 t) (u 81 0 t) (u 82 0 t)) ∧
  (∀ t, t < 4 → ∀ x, x < 3 → u 62 0 (3 * t + x) = 3 → u 79 0 t = 1 ∧ u 81 0 t = nI x) ∧
  (∀ t, t < 4 → ∃ n k : Nat, k ≤ n ∧ n ≤ 30 ∧ C 8 t 4 = nI n ∧ u 86 0 t = nI n ∧ u 87 0 t = nI k ∧ ∀ j, j < n → rl_step c (C 41 t j) (C 42 t j) (C 43 t j) (C 44 t j) (u 85 0 (120 * t + 4 * j)) (u 85 0 (120 * t + 4 * j + 1)) (u 85 0 (120 * t + 4 * j + 2))) ∧
  (∀ p, p < 12 → ∀ f, f < 10 → C 35 p f = u 64 0 (10 * p + f) ∧ (u 64 0 (10 * p + f) = 0 ∨ u 64 0 (10 * p + f) = 1 ∨ u 64 0 (10 * p + f) = 2)) ∧
  (∀ p, p < 12 → ∀ f, f < 10 → C 36 p f = u 67 0 (10 * p + f) ∧ C 37 p f = u 68 0 (10 * p + f) ∧ C 38 p f = u 69 0 (10 * p + f) ∧ C 39 p f = u 70 0 (10 * p + f)) ∧
  (∀ p, p < 12 → ∀ x, x < 3 → C 40 p x = u 66 0 (3 * p + x)) ∧
  (∀ p, p < 12 → C 7 p 6 = u 72 0 p) ∧
  (∀ p, p < 12 → ∃ b : Nat, b < 16 ∧ C 7 p 7 = nI b ∧ (p < 3 * c → ∀ t, t < 4 → u 65 0 (4 * p + t) = if b.testBit t then 1 else 0) ∧ (3 * c ≤ p → b = 15)) ∧
  (lb ≤ 99 ∧ C 4 0 5 = nI lb ∧ u 14 0 22 = nI lb) ∧
  (∀ i, i < 99 → C 22 0 i = u 74 0 i ∧ C 23 0 i = u 75 0 i ∧ C 24 0 i = u 76 0 i ∧ C 25 0 i = u 77 0 i ∧ C 26 0 i = u 78 0 i) ∧
  (∀ i, i < lb → (∃ p : Nat, p < 3 * c ∧ u 74 0 i = nI p) ∧ (∃ f : Nat, f < 10 ∧ u 75 0 i = nI f) ∧ (u 76 0 i = 0 ∨ u 76 0 i = 1)) ∧
  (∀ k, k < 108 → C 29 0 k = u 90 0 k ∧ ∃ v : Nat, v ≤ 9 ∧ u 90 0 k = nI v) ∧
  (∀ s, s < 9 → ∃ w t : Nat, w ≤ 99 ∧ 1 ≤ t ∧ t ≤ 9 ∧ C 30 0 s = nI w ∧ u 92 0 s = nI w ∧ C 31 0 s = nI t ∧ u 93 0 s = nI (t - 1)) ∧
  (wc ≤ 9 ∧ C 5 0 4 = nI wc ∧ u 14 0 55 = nI wc) ∧
  (∀ i, i < 9 → C 32 0 i = u 95 0 i ∧ (i < wc → ∃ v : Nat, 1 ≤ v ∧ v ≤ 99 ∧ u 95 0 i = nI v)) ∧
  (∀ t, t < 4 → ∃ b : Nat, b < 512 ∧ C 33 0 t = nI b ∧ ∀ k, k < 9 → u 97 0 (9 * t + k) = if b.testBit k then 1 else 0)
