/-! ===== TALK: the class ===== -/
def lB6 (x : Int64) (K : Nat) : Bool := x.toBitVec.getLsbD K
theorem l_ext {x y : Int64} (h : ∀ K, K < 64 → lB6 x K = lB6 y K) : x = y := by
  apply Int64.toBitVec_inj.mp
  exact BitVec.eq_of_getLsbD_eq (fun i hi => h i hi)
theorem l_or (x y : Int64) (K : Nat) : lB6 (x ||| y) K = (lB6 x K || lB6 y K) := by
  unfold lB6
  rw [Int64.toBitVec_or, BitVec.getLsbD_or]
theorem l_and (x y : Int64) (K : Nat) : lB6 (x &&& y) K = (lB6 x K && lB6 y K) := by
  unfold lB6
  rw [Int64.toBitVec_and, BitVec.getLsbD_and]
theorem l_m1 : ∀ K : Nat, K < 64 → lB6 (-1) K = true := by decide +kernel
theorem l_not (x : Int64) {K : Nat} (hK : K < 64) : lB6 (x ^^^ (-1)) K = !lB6 x K := by
  have h := l_m1 K hK
  unfold lB6 at h ⊢
  rw [Int64.toBitVec_xor, BitVec.getLsbD_xor, h, Bool.xor_true]
theorem l_0 (K : Nat) : lB6 (Int64.ofNat 0) K = false := by
  unfold lB6
  show (0#64).getLsbD K = false
  exact BitVec.getLsbD_zero
theorem l_sw : ∀ k : Nat, k < 6 → ∀ K : Nat, K < 64 → lB6 (ov_sw k) K = K.testBit k := by decide +kernel
theorem l_one : ∀ k : Nat, k < 64 → ∀ K : Nat, K < 64 → lB6 ((Int64.ofNat 1) <<< (Int32.toInt64 (nI k) &&& 63)) K = decide (K = k) := by decide +kernel
theorem l_shc : ∀ h : Nat, h < 6 → (Int32.toInt64 ((1 : Int32) <<< (nI h &&& 31)) &&& 63).toBitVec.smod 64 = BitVec.ofNat 64 (2 ^ h) ∧ 2 ^ h < 64 := by decide +kernel
theorem l_shl (x : Int64) {h K : Nat} (hh : h < 6) (hK : K < 64) : lB6 (x <<< (Int32.toInt64 ((1 : Int32) <<< (nI h &&& 31)) &&& 63)) K = (!decide (K < 2 ^ h) && lB6 x (K - 2 ^ h)) := by
  obtain ⟨e, e2⟩ := l_shc h hh
  unfold lB6
  rw [Int64.toBitVec_shiftLeft, e, BitVec.shiftLeft_eq', BitVec.toNat_ofNat, Nat.mod_eq_of_lt (by omega), BitVec.getLsbD_shiftLeft, decide_eq_true hK, Bool.true_and]
theorem l_63 (x : Int64) : ((Int64.toUInt64 x >>> ((Int32.toInt64 63).toUInt64 &&& Int64.toUInt64 63)).toInt64 = Int64.ofNat 0) ↔ lB6 x 63 = false := by
  have e : (((Int32.toInt64 63).toUInt64 &&& Int64.toUInt64 63).toBitVec % 64) = 63#64 := by decide
  have et : (Int64.toUInt64 x >>> ((Int32.toInt64 63).toUInt64 &&& Int64.toUInt64 63)).toInt64.toBitVec = x.toBitVec >>> 63 := by
    show (Int64.toUInt64 x >>> ((Int32.toInt64 63).toUInt64 &&& Int64.toUInt64 63)).toBitVec = _
    rw [UInt64.toBitVec_shiftRight, e]
    rfl
  constructor
  · intro q
    have h := congrArg Int64.toBitVec q
    rw [et] at h
    have h2 : (x.toBitVec >>> 63).getLsbD 0 = (0#64).getLsbD 0 := by rw [h]; rfl
    rw [BitVec.getLsbD_ushiftRight, BitVec.getLsbD_zero] at h2
    exact h2
  · intro q
    apply Int64.toBitVec_inj.mp
    rw [et]
    show x.toBitVec >>> 63 = 0#64
    apply BitVec.eq_of_getLsbD_eq
    intro i hi
    rw [BitVec.getLsbD_ushiftRight, BitVec.getLsbD_zero]
    rcases Nat.eq_zero_or_pos i with z | z
    · rw [z]; exact q
    · exact BitVec.getLsbD_of_ge _ _ (by omega)
theorem l_cmp (x y : Int64) : lg_cmp x y = 0 ↔ x = y := by
  unfold lg_cmp
  constructor
  · intro h
    split at h
    · cases h
    · split at h
      · rename_i _ e; exact e
      · cases h
  · intro h
    subst h
    rw [if_neg (Int64.lt_irrefl), if_pos rfl]
/-- which sets stand at a position -/
def lS (S : ov_S) (r p K : Nat) : Prop := lB6 (S.2.1 r 0 p) K = true
theorem rl_lr (S : ov_S) (r j : Nat) (v : Int64) (j' : Nat) : (ov_wl S r 0 j v).2.1 r 0 j' = if j' = j then v else S.2.1 r 0 j' := by
  show (if r = r ∧ 0 = 0 ∧ j' = j then v else S.2.1 r 0 j') = _
  by_cases e : j' = j
  · rw [if_pos ⟨rfl, rfl, e⟩, if_pos e]
  · rw [if_neg (fun q => e q.2.2), if_neg e]
theorem rl_ln {S : ov_S} {r j r' j' : Nat} {v : Int64} (h : ¬ r' = r) : (ov_wl S r 0 j v).2.1 r' 0 j' = S.2.1 r' 0 j' := if_neg (fun q => h q.1)
/-- what goes on from p comes to q -/
def lT (S : ov_S) (q p : Nat) : ov_S := ov_wl S 51 0 q (ov_gl S 51 0 q ||| ov_gl S 50 0 p)
theorem lT_b {S : ov_S} {q p p' K : Nat} : lS (lT S q p) 51 p' K ↔ (lS S 51 p' K ∨ (p' = q ∧ lS S 50 p K)) := by
  unfold lS lT
  rw [rl_lr]
  by_cases e : p' = q
  · rw [if_pos e, l_or, Bool.or_eq_true, e]
    exact ⟨fun z => z.elim .inl (fun w => .inr ⟨rfl, w⟩), fun z => z.elim .inl (fun w => .inr w.2)⟩
  · rw [if_neg e]
    exact ⟨.inl, fun z => z.elim (fun w => w) (fun w => absurd w.1 e)⟩
theorem lT_o {S : ov_S} {q p p' K r : Nat} (hr : ¬ r = 51) : lS (lT S q p) r p' K ↔ lS S r p' K := by
  unfold lS lT
  rw [rl_ln hr]
/-- the edge and what was reached stay, and what comes is said by a rule -/
def lU (S S1 : ov_S) (X : Nat → Nat → Prop) : Prop := sc S S1 ∧ (∀ p K, lS S1 50 p K ↔ lS S 50 p K) ∧ (∀ p K, lS S1 49 p K ↔ lS S 49 p K) ∧ ∀ p K, K < 64 → (lS S1 51 p K ↔ (lS S 51 p K ∨ X p K))
theorem lU_r {S : ov_S} : lU S S (fun _ _ => False) := ⟨sc_r, fun _ _ => Iff.rfl, fun _ _ => Iff.rfl, fun _ _ _ => ⟨.inl, fun z => z.elim (fun w => w) (fun w => w.elim)⟩⟩
theorem lU_t {S S1 S2 : ov_S} {X Y : Nat → Nat → Prop} (h : lU S S1 X) (k : lU S1 S2 Y) : lU S S2 (fun p K => X p K ∨ Y p K) := ⟨sc_t h.1 k.1, fun p K => (k.2.1 p K).trans (h.2.1 p K), fun p K => (k.2.2.1 p K).trans (h.2.2.1 p K), fun p K hK => by rw [k.2.2.2 p K hK, h.2.2.2 p K hK, or_assoc]⟩
theorem lU_c {S S1 : ov_S} {X Y : Nat → Nat → Prop} (h : lU S S1 X) (e : ∀ p K, K < 64 → (X p K ↔ Y p K)) : lU S S1 Y := ⟨h.1, h.2.1, h.2.2.1, fun p K hK => by rw [h.2.2.2 p K hK, e p K hK]⟩
theorem lU_T {S : ov_S} {q p : Nat} : lU S (lT S q p) (fun p' K => p' = q ∧ lS S 50 p K) := ⟨sc_wl sc_r, fun _ _ => lT_o (by decide), fun _ _ => lT_o (by decide), fun _ _ _ => lT_b⟩
def cH (p m p' : Nat) : Prop := p' = p % 27 + 27 * m ∨ p' = p / 27 * 27 + p % 9 + 9 * m ∨ p' = p / 9 * 9 + p % 3 + 3 * m ∨ p' = p / 3 * 3 + m
theorem l_hand {d p : Nat} {S : ov_S} {Q : ov_Q} (hp : p < 81) (h : ∀ S1, lU S S1 (fun p' K => lS S 50 p K ∧ ∃ m, m < 3 ∧ cH p m p') → Q none S1) : ov_V true true d 0 0 mq_Talk_handOverFrom 0 [some (.inr (.inr (true, 10, 0))), some (.inl (nI p)), none] [] S Q := by
  have loop : ∀ (j m : Nat), m + j = 3 → ∀ S1, lU S S1 (fun p' K => lS S 50 p K ∧ ∃ m', m' < m ∧ cH p m' p') → ov_V true true d 0 0 mq_Talk_handOverFrom 2 [some (.inr (.inr (true, 10, 0))), some (.inl (nI p)), some (.inl (nI m))] [] S1 Q := by
    intro j
    induction j with
    | zero =>
      intro m hm S1 hU
      have e : m = 3 := by omega
      subst e
      exact r_Talk_handOverFrom_2 ⟨fun _ => h S1 hU, fun q => absurd (by decide) q⟩
    | succ j ih =>
      intro m hm S1 hU
      have hm3 : m < 3 := by omega
      have e27 : (nI p - nI p / 27 * 27 : Int32) = nI (p % 27) := pk_rem (d := 27) (by omega) (by decide) (by decide)
      have e9 : (nI p - nI p / 9 * 9 : Int32) = nI (p % 9) := pk_rem (d := 9) (by omega) (by decide) (by decide)
      have e3 : (nI p - nI p / 3 * 3 : Int32) = nI (p % 3) := pk_rem (d := 3) (by omega) (by decide) (by decide)
      have d27 : (nI p / 27 : Int32) = nI (p / 27) := pk_div (d := 27) (by omega) (by decide) (by decide)
      have d9 : (nI p / 9 : Int32) = nI (p / 9) := pk_div (d := 9) (by omega) (by decide) (by decide)
      have d3 : (nI p / 3 : Int32) = nI (p / 3) := pk_div (d := 3) (by omega) (by decide) (by decide)
      have q1 : (nI (p % 27) + 27 * nI m : Int32) = nI (p % 27 + 27 * m) := by
        show nI _ + nI 27 * nI m = _
        rw [pk_mul, nI_add]
      have q2 : (nI (p / 27) * 27 + nI (p % 9) + 9 * nI m : Int32) = nI (p / 27 * 27 + p % 9 + 9 * m) := by
        show nI (p / 27) * nI 27 + nI _ + nI 9 * nI m = _
        rw [pk_mul, pk_mul, nI_add, nI_add]
      have q3 : (nI (p / 9) * 9 + nI (p % 3) + 3 * nI m : Int32) = nI (p / 9 * 9 + p % 3 + 3 * m) := by
        show nI (p / 9) * nI 9 + nI _ + nI 3 * nI m = _
        rw [pk_mul, pk_mul, nI_add, nI_add]
      have q4 : (nI (p / 3) * 3 + nI m : Int32) = nI (p / 3 * 3 + m) := by
        show nI (p / 3) * nI 3 + nI m = _
        rw [pk_mul, nI_add]
      refine r_Talk_handOverFrom_2 ⟨fun q => absurd q (nI_ge (b := 3) hm3 (by decide)), fun _ => ?_⟩
      rw [e27, e9, e3, d27, d9, d3, q1, q2, q3, q4, zz_ix (n := p) (by omega), zz_ix (n := p % 27 + 27 * m) (by omega), zz_ix (n := p / 27 * 27 + p % 9 + 9 * m) (by omega), zz_ix (n := p / 9 * 9 + p % 3 + 3 * m) (by omega), zz_ix (n := p / 3 * 3 + m) (by omega), nI_1]
      have ib : ov_ib (nI p) 81 := zz_ib hp (by decide)
      have ib1 : ov_ib (nI (p % 27 + 27 * m)) 81 := zz_ib (by omega) (by decide)
      have ib2 : ov_ib (nI (p / 27 * 27 + p % 9 + 9 * m)) 81 := zz_ib (by omega) (by decide)
      have ib3 : ov_ib (nI (p / 9 * 9 + p % 3 + 3 * m)) 81 := zz_ib (by omega) (by decide)
      have ib4 : ov_ib (nI (p / 3 * 3 + m)) 81 := zz_ib (by omega) (by decide)
      refine ⟨ib1, ib, ib1, ib2, ib, ib2, ib3, ib, ib3, ib4, ib, ib4, ?_⟩
      have u1 := lU_t hU (lU_T (S := S1) (q := p % 27 + 27 * m) (p := p))
      have u2 := lU_t u1 (lU_T (q := p / 27 * 27 + p % 9 + 9 * m) (p := p))
      have u3 := lU_t u2 (lU_T (q := p / 9 * 9 + p % 3 + 3 * m) (p := p))
      have u4 := lU_t u3 (lU_T (q := p / 3 * 3 + m) (p := p))
      refine ih (m + 1) (by omega) (lT (lT (lT (lT S1 (p % 27 + 27 * m) p) (p / 27 * 27 + p % 9 + 9 * m) p) (p / 9 * 9 + p % 3 + 3 * m) p) (p / 3 * 3 + m) p) (lU_c u4 (fun p' K hK => ?_))
      have o1 := lT_o (S := S1) (q := p % 27 + 27 * m) (p := p) (p' := p) (K := K) (r := 50) (by decide)
      have o2 := lT_o (S := lT S1 (p % 27 + 27 * m) p) (q := p / 27 * 27 + p % 9 + 9 * m) (p := p) (p' := p) (K := K) (r := 50) (by decide)
      have o3 := lT_o (S := lT (lT S1 (p % 27 + 27 * m) p) (p / 27 * 27 + p % 9 + 9 * m) p) (q := p / 9 * 9 + p % 3 + 3 * m) (p := p) (p' := p) (K := K) (r := 50) (by decide)
      rw [o3, o2, o1, hU.2.1 p K]
      constructor
      · rintro ((((⟨z, m', z1, z2⟩ | ⟨z1, z⟩) | ⟨z1, z⟩) | ⟨z1, z⟩) | ⟨z1, z⟩)
        · exact ⟨z, m', by omega, z2⟩
        · exact ⟨z, m, by omega, .inl z1⟩
        · exact ⟨z, m, by omega, .inr (.inl z1)⟩
        · exact ⟨z, m, by omega, .inr (.inr (.inl z1))⟩
        · exact ⟨z, m, by omega, .inr (.inr (.inr z1))⟩
      · rintro ⟨z, m', z1, z2⟩
        by_cases e : m' = m
        · subst e
          rcases z2 with w | w | w | w
          · exact .inl (.inl (.inl (.inr ⟨w, z⟩)))
          · exact .inl (.inl (.inr ⟨w, z⟩))
          · exact .inl (.inr ⟨w, z⟩)
          · exact .inr ⟨w, z⟩
        · exact .inl (.inl (.inl (.inl ⟨z, m', by omega, z2⟩)))
  exact r_Talk_handOverFrom_0 (loop 3 0 (by omega) S (lU_c lU_r (fun p' K _ => ⟨fun z => z.elim, fun ⟨_, m', z, _⟩ => absurd z (by omega)⟩)))
theorem l_say {d p s h : Nat} {S : ov_S} {Q : ov_Q} (hd : 1 ≤ d) (hp : p < 81) (hs : s < 6) (hh : h < 6) (hQ : ∀ S1, lU S S1 (fun p' K' => p' = p ∧ ∃ K, K < 64 ∧ lS S 50 p K ∧ K.testBit s = true ∧ K.testBit h = false ∧ K' = K + 2 ^ h) → Q none S1) : ov_V true true d 0 0 mq_Talk_say 0 [some (.inr (.inr (true, 10, 0))), some (.inl (nI p)), some (.inl (nI s)), some (.inl (nI h))] [] S Q := by
  have ibp : ov_ib (nI p) 81 := zz_ib hp (by decide)
  have i80 : 0 ≤ nI p ∧ nI p ≤ 80 := (zz_le (b := 80) rfl).2 ⟨p, by omega, rfl⟩
  have i5s : 0 ≤ nI s ∧ nI s ≤ 5 := (zz_le (b := 5) rfl).2 ⟨s, by omega, rfl⟩
  have i5h : 0 ≤ nI h ∧ nI h ≤ 5 := (zz_le (b := 5) rfl).2 ⟨h, by omega, rfl⟩
  refine r_Talk_say_0 hd ⟨fun n => absurd i80 n, fun _ => ⟨fun n => absurd i5s n, fun _ => ⟨fun n => absurd i5h n, fun _ => ⟨ibp, ibp, zz_ib hs (by decide), zz_ib hh (by decide), ibp, ?_⟩⟩⟩⟩
  rw [zz_ix (n := p) (by omega), zz_ix (n := s) (by omega), zz_ix (n := h) (by omega)]
  refine hQ _ ⟨sc_wl sc_r, fun p' K => ?_, fun p' K => ?_, fun p' K' hK' => ?_⟩
  · unfold lS; rw [rl_ln (by decide)]
  · unfold lS; rw [rl_ln (by decide)]
  · unfold lS
    rw [rl_lr]
    have hl : K' - 2 ^ h < 64 := Nat.lt_of_le_of_lt (Nat.sub_le _ _) hK'
    by_cases e : p' = p
    · subst e
      rw [if_pos rfl, l_or, Bool.or_eq_true, l_shl _ hh hK', Bool.and_eq_true, Bool.not_eq_true', decide_eq_false_iff_not, l_and, l_and, l_sw s hs _ hl, l_not _ hl, l_sw h hh _ hl, Bool.and_eq_true, Bool.and_eq_true, Bool.not_eq_true']
      constructor
      · rintro (z | ⟨z1, ⟨z2, z3⟩, z4⟩)
        · exact .inl z
        · exact .inr ⟨rfl, K' - 2 ^ h, hl, z2, z3, z4, by omega⟩
      · rintro (z | ⟨_, K, z0, z1, z2, z3, z4⟩)
        · exact .inl z
        · refine .inr ⟨by omega, ⟨?_, ?_⟩, ?_⟩
          · rw [show K' - 2 ^ h = K by omega]; exact z1
          · rw [show K' - 2 ^ h = K by omega]; exact z2
          · rw [show K' - 2 ^ h = K by omega]; exact z3
    · rw [if_neg e]
      exact ⟨.inl, fun z => z.elim (fun w => w) (fun w => absurd w.1 e)⟩
def cY (p s h : Nat) : Prop := (s = p / 27 % 3 ∨ s = 3 + p / 3 % 3) ∧ (h = p / 9 % 3 ∨ h = 3 + p % 3)
theorem l_sayF {d p : Nat} {S : ov_S} {Q : ov_Q} (hd : 2 ≤ d) (hp : p < 81) (hQ : ∀ S1, lU S S1 (fun p' K' => p' = p ∧ ∃ s h K, cY p s h ∧ K < 64 ∧ lS S 50 p K ∧ K.testBit s = true ∧ K.testBit h = false ∧ K' = K + 2 ^ h) → Q none S1) : ov_V true true d 0 0 mq_Talk_sayFrom 0 [some (.inr (.inr (true, 10, 0))), some (.inl (nI p)), none, none, none, none] [] S Q := by
  have d27 : (nI p / 27 : Int32) = nI (p / 27) := pk_div (d := 27) (by omega) (by decide) (by decide)
  have d9 : (nI p / 9 : Int32) = nI (p / 9) := pk_div (d := 9) (by omega) (by decide) (by decide)
  have d3 : (nI p / 3 : Int32) = nI (p / 3) := pk_div (d := 3) (by omega) (by decide) (by decide)
  have m1 : (nI (p / 27) - nI (p / 27) / 3 * 3 : Int32) = nI (p / 27 % 3) := pk_rem (d := 3) (by omega) (by decide) (by decide)
  have m2 : (nI (p / 9) - nI (p / 9) / 3 * 3 : Int32) = nI (p / 9 % 3) := pk_rem (d := 3) (by omega) (by decide) (by decide)
  have m3 : (nI (p / 3) - nI (p / 3) / 3 * 3 : Int32) = nI (p / 3 % 3) := pk_rem (d := 3) (by omega) (by decide) (by decide)
  have m4 : (nI p - nI p / 3 * 3 : Int32) = nI (p % 3) := pk_rem (d := 3) (by omega) (by decide) (by decide)
  have a1 : (3 + nI (p % 3) : Int32) = nI (3 + p % 3) := nI_add 3 _
  have a2 : (3 + nI (p / 3 % 3) : Int32) = nI (3 + p / 3 % 3) := nI_add 3 _
  refine r_Talk_sayFrom_0 (by omega) ?_
  rw [d27, d9, m4, d3, m1, m2, m3, a1, a2]
  refine l_say (by omega) hp (by omega) (by omega) (fun S1 u1 => r_Talk_sayFrom_38 (by omega) (l_say (by omega) hp (by omega) (by omega) (fun S2 u2 => r_Talk_sayFrom_46 (by omega) (l_say (by omega) hp (by omega) (by omega) (fun S3 u3 => r_Talk_sayFrom_54 (by omega) (l_say (by omega) hp (by omega) (by omega) (fun S4 u4 => r_Talk_sayFrom_62 (hQ S4 (lU_c (lU_t (lU_t (lU_t u1 u2) u3) u4) (fun p' K' hK' => ?_))))))))))
  have e1 : ∀ K, lS S1 50 p K ↔ lS S 50 p K := fun K => u1.2.1 p K
  have e2 : ∀ K, lS S2 50 p K ↔ lS S 50 p K := fun K => (u2.2.1 p K).trans (e1 K)
  have e3 : ∀ K, lS S3 50 p K ↔ lS S 50 p K := fun K => (u3.2.1 p K).trans (e2 K)
  simp only [e1, e2, e3]
  constructor
  · rintro (((⟨z, K, z0, z1, z2⟩ | ⟨z, K, z0, z1, z2⟩) | ⟨z, K, z0, z1, z2⟩) | ⟨z, K, z0, z1, z2⟩)
    · exact ⟨z, _, _, K, ⟨.inl rfl, .inl rfl⟩, z0, z1, z2⟩
    · exact ⟨z, _, _, K, ⟨.inl rfl, .inr rfl⟩, z0, z1, z2⟩
    · exact ⟨z, _, _, K, ⟨.inr rfl, .inl rfl⟩, z0, z1, z2⟩
    · exact ⟨z, _, _, K, ⟨.inr rfl, .inr rfl⟩, z0, z1, z2⟩
  · rintro ⟨z, s, h, K, ⟨y1, y2⟩, z0, z1, z2⟩
    rcases y1 with rfl | rfl <;> rcases y2 with rfl | rfl
    · exact .inl (.inl (.inl ⟨z, K, z0, z1, z2⟩))
    · exact .inl (.inl (.inr ⟨z, K, z0, z1, z2⟩))
    · exact .inl (.inr ⟨z, K, z0, z1, z2⟩)
    · exact .inr ⟨z, K, z0, z1, z2⟩
theorem cE_iff {p K p' K' : Nat} : cE p K p' K' ↔ ((K' = K ∧ ∃ m, m < 3 ∧ cH p m p') ∨ (p' = p ∧ ∃ s h, cY p s h ∧ K.testBit s = true ∧ K.testBit h = false ∧ K' = K + 2 ^ h)) := by
  unfold cE cH cY
  constructor
  · rintro (z | ⟨z, s, h, a, b, c⟩)
    · exact .inl z
    · exact .inr ⟨z, s, h, ⟨a, b⟩, c⟩
  · rintro (z | ⟨z, s, h, ⟨a, b⟩, c⟩)
    · exact .inl z
    · exact .inr ⟨z, s, h, a, b, c⟩
/-- the edge moves on -/
theorem l_edge {d : Nat} {S : ov_S} {Q : ov_Q} (h : ∀ S1 (v : Int32), sc S S1 → (v = 0 ∨ v = 1) → (v = 0 ↔ ∀ p, p < 81 → ¬ (lS S 51 p 63 ∧ ¬ lS S 49 p 63)) → (∀ p K, p < 81 → K < 64 → (lS S1 50 p K ↔ (lS S 51 p K ∧ ¬ lS S 49 p K)) ∧ (lS S1 49 p K ↔ (lS S 49 p K ∨ lS S 51 p K)) ∧ ¬ lS S1 51 p K) → Q (some (.inl v)) S1) : ov_V true true d 0 0 mq_Talk_moveEdge 0 [some (.inr (.inr (true, 10, 0))), none, none] [] S Q := by
  have loop : ∀ (j p : Nat), p + j = 81 → ∀ S1 (v : Int32), sc S S1 → (v = 0 ∨ v = 1) → (v = 0 ↔ ∀ p', p' < p → ¬ (lS S 51 p' 63 ∧ ¬ lS S 49 p' 63)) → (∀ p' K, p' < p → K < 64 → (lS S1 50 p' K ↔ (lS S 51 p' K ∧ ¬ lS S 49 p' K)) ∧ (lS S1 49 p' K ↔ (lS S 49 p' K ∨ lS S 51 p' K)) ∧ ¬ lS S1 51 p' K) → (∀ p', p ≤ p' → S1.2.1 51 0 p' = S.2.1 51 0 p' ∧ S1.2.1 49 0 p' = S.2.1 49 0 p') → ov_V true true d 0 0 mq_Talk_moveEdge 4 [some (.inr (.inr (true, 10, 0))), some (.inl v), some (.inl (nI p))] [] S1 Q := by
    intro j
    induction j with
    | zero =>
      intro p hp S1 v s1 hv01 hv hd hu
      have e : p = 81 := by omega
      subst e
      exact r_Talk_moveEdge_4 ⟨fun _ => ⟨hv01, h S1 v s1 hv01 hv (fun p K hp hK => hd p K hp hK)⟩, fun q => absurd (by decide) q⟩
    | succ j ih =>
      intro p hp S1 v s1 hv01 hv hd hu
      have hp81 : p < 81 := by omega
      have ib : ov_ib (nI p) 81 := zz_ib hp81 (by decide)
      obtain ⟨u51, u49⟩ := hu p (Nat.le_refl _)
      have g51 : ov_gl S1 51 0 p = S.2.1 51 0 p := u51
      have g49 : ov_gl S1 49 0 p = S.2.1 49 0 p := u49
      refine r_Talk_moveEdge_4 ⟨fun q => absurd q (nI_ge (b := 81) hp81 (by decide)), fun _ => ?_⟩
      rw [zz_ix (n := p) (by omega), g51, g49]
      have hE : ∀ K, K < 64 → (lB6 (S.2.1 51 0 p &&& (S.2.1 49 0 p ^^^ (-1))) K = true ↔ (lS S 51 p K ∧ ¬ lS S 49 p K)) := by
        intro K hK
        unfold lS
        rw [l_and, l_not _ hK, Bool.and_eq_true, Bool.not_eq_true', Bool.eq_false_iff]
      generalize S.2.1 51 0 p &&& (S.2.1 49 0 p ^^^ (-1)) = E at hE
      have r50 : ov_gl (ov_wl S1 50 0 p E) 50 0 p = E := by
        show (ov_wl S1 50 0 p E).2.1 50 0 p = E
        rw [rl_lr, if_pos rfl]
      have r49 : ov_gl (ov_wl S1 50 0 p E) 49 0 p = S.2.1 49 0 p := u49
      rw [r50, r49]
      have r50' : ov_gl (ov_wl (ov_wl (ov_wl S1 50 0 p E) 49 0 p (S.2.1 49 0 p ||| E)) 51 0 p (Int64.ofNat 0)) 50 0 p = E := r50
      rw [r50']
      generalize hS2 : ov_wl (ov_wl (ov_wl S1 50 0 p E) 49 0 p (S.2.1 49 0 p ||| E)) 51 0 p (Int64.ofNat 0) = S2
      have s2 : sc S S2 := by rw [← hS2]; exact sc_wl (sc_wl (sc_wl s1))
      have b50 : ∀ p', S2.2.1 50 0 p' = if p' = p then E else S1.2.1 50 0 p' := fun p' => by
        rw [← hS2, rl_ln (by decide), rl_ln (by decide), rl_lr]
      have b49 : ∀ p', S2.2.1 49 0 p' = if p' = p then (S.2.1 49 0 p ||| E) else S1.2.1 49 0 p' := fun p' => by
        rw [← hS2, rl_ln (by decide), rl_lr]
        by_cases e : p' = p
        · rw [if_pos e, if_pos e]
        · rw [if_neg e, if_neg e, rl_ln (by decide)]
      have b51 : ∀ p', S2.2.1 51 0 p' = if p' = p then (Int64.ofNat 0) else S1.2.1 51 0 p' := fun p' => by
        rw [← hS2, rl_lr]
        by_cases e : p' = p
        · rw [if_pos e, if_pos e]
        · rw [if_neg e, if_neg e, rl_ln (by decide), rl_ln (by decide)]
      have hd2 : ∀ p' K, p' < p + 1 → K < 64 → (lS S2 50 p' K ↔ (lS S 51 p' K ∧ ¬ lS S 49 p' K)) ∧ (lS S2 49 p' K ↔ (lS S 49 p' K ∨ lS S 51 p' K)) ∧ ¬ lS S2 51 p' K := by
        intro p' K hp' hK
        by_cases e : p' = p
        · subst e
          have hEK := hE K hK
          refine ⟨?_, ?_, ?_⟩
          · show lB6 (S2.2.1 50 0 p') K = true ↔ _
            rw [b50, if_pos rfl]
            exact hEK
          · show lB6 (S2.2.1 49 0 p') K = true ↔ _
            rw [b49, if_pos rfl, l_or, Bool.or_eq_true, hEK]
            constructor
            · rintro (z | z)
              · exact .inl z
              · exact .inr z.1
            · rintro (z | z)
              · exact .inl z
              · by_cases w : lS S 49 p' K
                · exact .inl w
                · exact .inr ⟨z, w⟩
          · show ¬ lB6 (S2.2.1 51 0 p') K = true
            rw [b51, if_pos rfl, l_0]
            decide
        · obtain ⟨z1, z2, z3⟩ := hd p' K (by omega) hK
          refine ⟨?_, ?_, ?_⟩
          · show lB6 (S2.2.1 50 0 p') K = true ↔ _
            rw [b50, if_neg e]; exact z1
          · show lB6 (S2.2.1 49 0 p') K = true ↔ _
            rw [b49, if_neg e]; exact z2
          · show ¬ lB6 (S2.2.1 51 0 p') K = true
            rw [b51, if_neg e]; exact z3
      have hu2 : ∀ p', p + 1 ≤ p' → S2.2.1 51 0 p' = S.2.1 51 0 p' ∧ S2.2.1 49 0 p' = S.2.1 49 0 p' := by
        intro p' hp'
        rw [b51, b49, if_neg (by omega), if_neg (by omega)]
        exact hu p' (by omega)
      rw [l_cmp, l_63]
      have h63 := hE 63 (by decide)
      refine ⟨ib, ib, ib, ib, ib, ib, ib, ib, fun q => r_Talk_moveEdge_75 ?_, fun q => r_Talk_moveEdge_75_2 ?_⟩
      · rw [nI_1]
        have e0 : (v ||| 0 : Int32) = v := Int32.or_zero
        rw [e0]
        refine ih (p + 1) (by omega) S2 v s2 hv01 ?_ hd2 hu2
        rw [hv]
        constructor
        · intro z p' hp'
          by_cases e : p' = p
          · subst e
            intro w
            have := h63.2 w
            rw [q] at this
            cases this
          · exact z p' (by omega)
        · intro z p' hp'
          exact z p' (by omega)
      · rw [nI_1]
        have e1 : (v ||| 1 : Int32) = 1 := by rcases hv01 with z | z <;> rw [z] <;> decide
        rw [e1]
        refine ih (p + 1) (by omega) S2 1 s2 (.inr rfl) ?_ hd2 hu2
        constructor
        · intro z; exact absurd z (by decide)
        · intro z
          have q' : lB6 E 63 = true := by
            cases w : lB6 E 63
            · exact absurd w q
            · rfl
          exact absurd (h63.1 q') (z p (by omega))
  exact r_Talk_moveEdge_0 (loop 81 0 (by omega) S 0 sc_r (.inl rfl) ⟨fun _ p' hp' => absurd hp' (by omega), fun _ => rfl⟩ (fun p' K hp' => absurd hp' (by omega)) (fun p' _ => ⟨rfl, rfl⟩))
theorem l_f49 {d : Nat} {S0 : ov_S} {Q : ov_Q} (h : ∀ S', sc S0 S' → (∀ p, p < 81 → S'.2.1 49 0 p = Int64.ofNat 0) → Q none S') : ∀ (j i : Nat), i + j = 81 → ∀ S, sc S0 S → (∀ p, p < i → S.2.1 49 0 p = Int64.ofNat 0) → ov_V true true d 0 0 mq_Arrays_fillJ 6 [some (.inr (.inr (true, 49, 0))), some (.inr (.inl (Int64.ofNat 0))), none, some (.inl (nI i)), some (.inl (nI 81))] [] S Q := by
  intro j
  induction j with
  | zero =>
    intro i hi S a1 a2
    have e : i = 81 := by omega
    subst e
    exact rx49_Arrays_fillJ_6 ⟨fun _ => h S a1 a2, fun q => absurd (by decide) q⟩
  | succ j ih =>
    intro i hi S a1 a2
    refine rx49_Arrays_fillJ_6 ⟨fun q => absurd q (nI_ge (by omega) (by decide)), fun _ => ⟨zz_ib (by omega) (by decide), ?_⟩⟩
    rw [nI_1, zz_ix (n := i) (by omega)]
    refine ih (i + 1) (by omega) _ (sc_wl a1) (fun s hs => ?_)
    rw [rl_lr]
    by_cases e : s = i
    · rw [if_pos e]
    · rw [if_neg e]; exact a2 s (by omega)
theorem l_f51 {d : Nat} {S0 : ov_S} {Q : ov_Q} (h : ∀ S', sc S0 S' → (∀ p, p < 81 → S'.2.1 49 0 p = Int64.ofNat 0) → (∀ p, p < 81 → S'.2.1 51 0 p = Int64.ofNat 0) → Q none S') : ∀ (j i : Nat), i + j = 81 → ∀ S, sc S0 S → (∀ p, p < 81 → S.2.1 49 0 p = Int64.ofNat 0) → (∀ p, p < i → S.2.1 51 0 p = Int64.ofNat 0) → ov_V true true d 0 0 mq_Arrays_fillJ 6 [some (.inr (.inr (true, 51, 0))), some (.inr (.inl (Int64.ofNat 0))), none, some (.inl (nI i)), some (.inl (nI 81))] [] S Q := by
  intro j
  induction j with
  | zero =>
    intro i hi S a1 a3 a2
    have e : i = 81 := by omega
    subst e
    exact rx51_Arrays_fillJ_6 ⟨fun _ => h S a1 a3 a2, fun q => absurd (by decide) q⟩
  | succ j ih =>
    intro i hi S a1 a3 a2
    refine rx51_Arrays_fillJ_6 ⟨fun q => absurd q (nI_ge (by omega) (by decide)), fun _ => ⟨zz_ib (by omega) (by decide), ?_⟩⟩
    rw [nI_1, zz_ix (n := i) (by omega)]
    refine ih (i + 1) (by omega) _ (sc_wl a1) a3 (fun s hs => ?_)
    rw [rl_lr]
    by_cases e : s = i
    · rw [if_pos e]
    · rw [if_neg e]; exact a2 s (by omega)
theorem l_E {d p0 K0 : Nat} {S : ov_S} {Q : ov_Q} (hd : 4 ≤ d) (hp0 : p0 < 81) (hK0 : K0 < 64) (h0 : K0 = 0 → Q (some (.inl (-1))) S) (h : ∀ S' n, sc S S' → n < 100 → cMin p0 K0 n → Q (some (.inl (nI n))) S') : ov_V true true d 0 0 mq_Talk_fewestActs 0 [some (.inr (.inr (true, 10, 0))), some (.inl (nI p0)), some (.inl (nI K0)), none, none] [] S Q := by
  have ip : 0 ≤ nI p0 ∧ nI p0 ≤ 80 := (zz_le (b := 80) rfl).2 ⟨p0, by omega, rfl⟩
  refine r_Talk_fewestActs_0 (by omega) ⟨fun n => absurd ip n, fun _ => ⟨fun q => ?_, fun q => h0 ?_⟩⟩
  rotate_left
  · apply Classical.byContradiction
    intro hn
    exact q ((zz_rng (a := 1) (b := 63) rfl rfl).2 ⟨K0, by omega, by omega, rfl⟩)
  have hK : 0 < K0 := by
    obtain ⟨k, h1, _, e⟩ := (zz_rng (a := 1) (b := 63) rfl rfl).1 q
    have := zz_inj (by omega) (by omega) e
    omega
  obtain ⟨pg, hg⟩ := c_all hp0 hK0 hK
  -- at the beginning of an act: what was reached before, and what is ahead
  have acts : ∀ (j n : Nat), n + j = 14 → ∀ S1, sc S S1 → (∀ m, m < n → ∀ p, ¬ cR p0 K0 m p 63) → (∀ p K, p < 81 → K < 64 → ((lS S1 49 p K ∨ lS S1 51 p K) ↔ cR p0 K0 n p K)) → (∀ p K, p < 81 → K < 64 → (lS S1 49 p K ↔ ∃ m, m + 1 = n ∧ cR p0 K0 m p K)) → ov_V true true d 0 0 mq_Talk_fewestActs 49 [some (.inr (.inr (true, 10, 0))), none, none, some (.inl (nI n)), none] [] S1 Q := by
    intro j
    induction j with
    | zero =>
      intro n hn S1 s1 hno _ _
      exact absurd hg (hno 13 (by omega) pg)
    | succ j ih =>
      intro n hn S1 s1 hno hA hR
      have n63 : ∀ p, p < 81 → ¬ lS S1 49 p 63 := fun p hp z => by
        obtain ⟨m, e, w⟩ := (hR p 63 hp (by decide)).1 z
        exact hno m (by omega) p w
      refine r_Talk_fewestActs_49 (by omega) ⟨fun q => absurd q (nI_ge (b := 100) (by omega) (by decide)), fun _ => l_edge (fun S2 v s2 hv01 hv hE => r_Talk_fewestActs_59 ⟨fun q => ?_, fun q => ?_⟩)⟩
      · -- not all yet
        have hno2 : ∀ m, m < n + 1 → ∀ p, ¬ cR p0 K0 m p 63 := by
          intro m hm p z
          by_cases e : m = n
          · subst e
            obtain ⟨l1, _⟩ := cR_lt hp0 hK0 m p 63 z
            rcases (hA p 63 l1 (by decide)).2 z with w | w
            · exact n63 p l1 w
            · exact (hv.1 q) p l1 ⟨w, n63 p l1⟩
          · exact hno m (by omega) p z
        have e49 : ∀ p K, p < 81 → K < 64 → (lS S2 49 p K ↔ cR p0 K0 n p K) := fun p K hp hK => by
          rw [(hE p K hp hK).2.1]; exact hA p K hp hK
        have e50 : ∀ p K, p < 81 → K < 64 → (lS S2 50 p K ↔ (cR p0 K0 n p K ∧ ¬ lS S1 49 p K)) := fun p K hp hK => by
          rw [(hE p K hp hK).1, ← hA p K hp hK]
          exact ⟨fun z => ⟨.inr z.1, z.2⟩, fun z => ⟨z.1.elim (fun w => absurd w z.2) (fun w => w), z.2⟩⟩
        -- from each position on
        have pos : ∀ (i p : Nat), p + i = 81 → ∀ S3, sc S S3 → (∀ p' K, lS S3 50 p' K ↔ lS S2 50 p' K) → (∀ p' K, lS S3 49 p' K ↔ lS S2 49 p' K) → (∀ p' K, p' < 81 → K < 64 → (lS S3 51 p' K ↔ ∃ q K1, q < p ∧ K1 < 64 ∧ lS S2 50 q K1 ∧ cE q K1 p' K)) → ov_V true true d 0 0 mq_Talk_fewestActs 67 [some (.inr (.inr (true, 10, 0))), none, none, some (.inl (nI n)), some (.inl (nI p))] [] S3 Q := by
          intro i
          induction i with
          | zero =>
            intro p hp S3 s3 f50 f49 f51
            have e : p = 81 := by omega
            subst e
            refine r_Talk_fewestActs_67 (by omega) ⟨fun _ => ?_, fun q => absurd (by decide) q⟩
            rw [nI_1]
            refine ih (n + 1) (by omega) S3 s3 hno2 (fun p K hp hK => ?_) (fun p K hp hK => ?_)
            · rw [f49, e49 p K hp hK, f51 p K hp hK]
              constructor
              · rintro (z | ⟨q, K1, z1, z2, z3, z4⟩)
                · exact cR_up hp z
                · exact ⟨q, K1, ((e50 q K1 z1 z2).1 z3).1, z4⟩
              · rintro ⟨q, K1, z1, z2⟩
                obtain ⟨l1, l2⟩ := cR_lt hp0 hK0 n q K1 z1
                by_cases w : lS S1 49 q K1
                · obtain ⟨m, e, w2⟩ := (hR q K1 l1 l2).1 w
                  refine .inl ?_
                  rw [← e]
                  exact ⟨q, K1, w2, z2⟩
                · exact .inr ⟨q, K1, l1, l2, (e50 q K1 l1 l2).2 ⟨z1, w⟩, z2⟩
            · rw [f49, e49 p K hp hK]
              exact ⟨fun z => ⟨n, rfl, z⟩, fun ⟨m, e, z⟩ => by
                have : m = n := by omega
                rw [← this]; exact z⟩
          | succ i ihp =>
            intro p hp S3 s3 f50 f49 f51
            have hp81 : p < 81 := by omega
            have next : ∀ S4, sc S S4 → (∀ p' K, lS S4 50 p' K ↔ lS S2 50 p' K) → (∀ p' K, lS S4 49 p' K ↔ lS S2 49 p' K) → (∀ p' K, p' < 81 → K < 64 → (lS S4 51 p' K ↔ ∃ q K1, q < p + 1 ∧ K1 < 64 ∧ lS S2 50 q K1 ∧ cE q K1 p' K)) → ov_V true true d 0 0 mq_Talk_fewestActs 98 [some (.inr (.inr (true, 10, 0))), none, none, some (.inl (nI n)), some (.inl (nI p))] [] S4 Q := by
              intro S4 s4 g50 g49 g51
              refine r_Talk_fewestActs_98 ?_
              rw [nI_1]
              exact ihp (p + 1) (by omega) S4 s4 g50 g49 g51
            refine r_Talk_fewestActs_67 (by omega) ⟨fun q => absurd q (nI_ge (b := 81) hp81 (by decide)), fun _ => ⟨zz_ib hp81 (by decide), fun qe => ?_, fun qe => ?_⟩⟩
            · -- an empty edge
              rw [zz_ix (n := p) (by omega), l_cmp] at qe
              have he : ∀ K, ¬ lS S3 50 p K := fun K z => by
                have : lB6 (S3.2.1 50 0 p) K = true := z
                rw [show S3.2.1 50 0 p = Int64.ofNat 0 from qe, l_0] at this
                cases this
              refine next S3 s3 f50 f49 (fun p' K hp' hK => ?_)
              rw [f51 p' K hp' hK]
              constructor
              · rintro ⟨q, K1, z1, z2⟩
                exact ⟨q, K1, by omega, z2⟩
              · rintro ⟨q, K1, z1, z2, z3, z4⟩
                by_cases e : q = p
                · subst e; exact absurd ((f50 q K1).2 z3) (he K1)
                · exact ⟨q, K1, by omega, z2, z3, z4⟩
            · refine l_hand hp81 (fun S4 u4 => r_Talk_fewestActs_92 (by omega) (l_sayF (by omega) hp81 (fun S5 u5 => next S5 (sc_t s3 (sc_t u4.1 u5.1)) (fun p' K => (u5.2.1 p' K).trans ((u4.2.1 p' K).trans (f50 p' K))) (fun p' K => (u5.2.2.1 p' K).trans ((u4.2.2.1 p' K).trans (f49 p' K))) (fun p' K hp' hK => ?_))))
              rw [u5.2.2.2 p' K hK, u4.2.2.2 p' K hK, f51 p' K hp' hK]
              constructor
              · rintro ((⟨q, K1, z1, z2⟩ | ⟨z1, m, z2, z3⟩) | ⟨z1, s, hh, K1, z2, z3, z4, z5⟩)
                · exact ⟨q, K1, by omega, z2⟩
                · exact ⟨p, K, by omega, hK, (f50 p K).1 z1, cE_iff.2 (.inl ⟨rfl, m, z2, z3⟩)⟩
                · exact ⟨p, K1, by omega, z3, (f50 p K1).1 ((u4.2.1 p K1).1 z4), cE_iff.2 (.inr ⟨z1, s, hh, z2, z5⟩)⟩
              · rintro ⟨q, K1, z1, z2, z3, z4⟩
                by_cases e : q = p
                · subst e
                  rcases cE_iff.1 z4 with ⟨w1, w2⟩ | ⟨w1, s, hh, w2, w3⟩
                  · subst w1
                    exact .inl (.inr ⟨(f50 q K).2 z3, w2⟩)
                  · exact .inr ⟨w1, s, hh, K1, w2, z2, (u4.2.1 q K1).2 ((f50 q K1).2 z3), w3⟩
                · exact .inl (.inl ⟨q, K1, by omega, z2, z3, z4⟩)
        refine pos 81 0 (by omega) S2 (sc_t s1 s2) (fun _ _ => Iff.rfl) (fun _ _ => Iff.rfl) (fun p' K hp' hK => ?_)
        exact ⟨fun z => absurd z (hE p' K hp' hK).2.2, fun ⟨_, _, z, _⟩ => absurd z (by omega)⟩
      · -- all six
        refine h S2 n (sc_t s1 s2) (by omega) ⟨?_, hno⟩
        apply Classical.byContradiction
        intro hn
        apply q
        rw [hv]
        intro p hp z
        exact hn ⟨p, (hA p 63 hp (by decide)).1 (.inr z.1)⟩
  refine rx49_Arrays_fillJ_0 (l_f49 (fun S1 s1 f1 => r_Talk_fewestActs_30 (by omega) (rx51_Arrays_fillJ_0 (l_f51 (fun S2 s2 g1 g2 => r_Talk_fewestActs_38 ?_) 81 0 (by omega) S1 s1 f1 (fun p hp => absurd hp (by omega))))) 81 0 (by omega) S sc_r (fun p hp => absurd hp (by omega)))
  rw [zz_ix (n := p0) (by omega)]
  have z49 : ∀ p K, p < 81 → ¬ lS (ov_wl S2 51 0 p0 ((Int64.ofNat 1) <<< (Int32.toInt64 (nI K0) &&& 63))) 49 p K := fun p K hp z => by
    have : lB6 (S2.2.1 49 0 p) K = true := by
      unfold lS at z
      rw [rl_ln (by decide)] at z
      exact z
    rw [g1 p hp, l_0] at this
    cases this
  refine ⟨zz_ib hp0 (by decide), acts 14 0 (by omega) _ (sc_wl s2) (fun m hm => absurd hm (by omega)) (fun p K hp hK => ?_) (fun p K hp hK => ⟨fun z => absurd z (z49 p K hp), fun ⟨m, e, _⟩ => absurd e (by omega)⟩)⟩
  constructor
  · rintro (z | z)
    · exact absurd z (z49 p K hp)
    · unfold lS at z
      rw [rl_lr] at z
      by_cases e : p = p0
      · rw [if_pos e, l_one K0 hK0 K hK, decide_eq_true_iff] at z
        exact ⟨e, z⟩
      · rw [if_neg e, g2 p hp, l_0] at z
        cases z
  · rintro ⟨e1, e2⟩
    refine .inr ?_
    unfold lS
    rw [rl_lr, if_pos e1, l_one K0 hK0 K hK, decide_eq_true_iff]
    exact e2
