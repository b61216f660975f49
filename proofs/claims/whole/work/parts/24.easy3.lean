theorem rl_wj {S : ov_S} {r i j : Nat} {v : Int32} {r' i' j' : Nat} (h : j' ≠ j) : (ov_w S r i j v).1 r' i' j' = S.1 r' i' j' := if_neg (fun q => h q.2.2)
theorem rl_wwa (S : ov_S) (r i j : Nat) (F : Nat → Int32) (v : Int32) : ov_w (ov_wa S r i F) r i j v = ov_wa S r i (fun k => if k = j then v else F k) := by
  have e : ov_u3 (ov_u2 S.1 r i F) r i j v = ov_u2 S.1 r i (fun k => if k = j then v else F k) := by
    funext r' i' k'
    show (if r' = r ∧ i' = i ∧ k' = j then v else (if r' = r ∧ i' = i then F else S.1 r' i') k') = (if r' = r ∧ i' = i then (fun k => if k = j then v else F k) else S.1 r' i') k'
    by_cases hC : r' = r ∧ i' = i
    · rw [if_pos hC, if_pos hC]
      by_cases hk : k' = j
      · rw [if_pos ⟨hC.1, hC.2, hk⟩, if_pos hk]
      · rw [if_neg (fun q => hk q.2.2), if_neg hk]
    · rw [if_neg (fun q => hC ⟨q.1, q.2.1⟩), if_neg hC, if_neg hC]
  show (ov_u3 (ov_u2 S.1 r i F) r i j v, S.2) = (ov_u2 S.1 r i (fun k => if k = j then v else F k), S.2)
  rw [e]
theorem rl_wa_self (S : ov_S) (r i : Nat) : ov_wa S r i (S.1 r i) = S := by
  have e : ov_u2 S.1 r i (S.1 r i) = S.1 := by
    funext r' i'
    show (if r' = r ∧ i' = i then S.1 r i else S.1 r' i') = S.1 r' i'
    by_cases hC : r' = r ∧ i' = i
    · rw [if_pos hC, hC.1, hC.2]
    · rw [if_neg hC]
  show (ov_u2 S.1 r i (S.1 r i), S.2) = S
  rw [e]
theorem rl_step_m {c c' : Nat} (hc : c ≤ c') {kd th nu he w a b : Int32} (h : rl_step c kd th nu he w a b) : rl_step c' kd th nu he w a b := by
  refine ⟨h.1, ?_⟩
  rcases h.2 with h | h | ⟨h1, h2, h3, h4, t, ht, e⟩ | h | h
  · exact .inl h
  · exact .inr (.inl h)
  · exact .inr (.inr (.inl ⟨h1, h2, h3, h4, t, by omega, e⟩))
  · exact .inr (.inr (.inr (.inl h)))
  · exact .inr (.inr (.inr (.inr h)))
def th_F (S : ov_S) (c k : Nat) : Nat → Int32 := fun j => if 12 * c ≤ j ∧ j < 12 * c + k then 1 else S.1 65 0 j
theorem th_st (S : ov_S) (c k : Nat) : ov_w (ov_wa S 65 0 (th_F S c k)) 65 0 (12 * c + k) 1 = ov_wa S 65 0 (th_F S c (k + 1)) := by
  rw [rl_wwa]
  congr 1
  funext j
  show (if j = 12 * c + k then 1 else if 12 * c ≤ j ∧ j < 12 * c + k then 1 else S.1 65 0 j) = if 12 * c ≤ j ∧ j < 12 * c + (k + 1) then 1 else S.1 65 0 j
  by_cases e : j = 12 * c + k
  · rw [if_pos e, if_pos (by omega)]
  · rw [if_neg e]
    by_cases e2 : 12 * c ≤ j ∧ j < 12 * c + k
    · rw [if_pos e2, if_pos (by omega)]
    · rw [if_neg e2, if_neg (by omega)]
theorem th_0 (S : ov_S) (c : Nat) : ov_wa S 65 0 (th_F S c 0) = S := by
  have e : th_F S c 0 = S.1 65 0 := by
    funext j
    exact if_neg (by omega)
  rw [e, rl_wa_self]
theorem th_in {d a b : Nat} {S : ov_S} {Q : ov_Q} {c : Nat} (hc : c < 4) (e : S.1 14 0 2 = nI c) {m : Nat} (hm : m < 3) (h : ov_V true true d a b mq_Mod_three 60 [some (.inr (.inr (true, 14, 0))), none, none, some (.inl (nI (m + 1))), none] [] (ov_wa S 65 0 (th_F S c (4 * m + 4))) Q) : ∀ n t : Nat, n + t = 4 → ov_V true true d a b mq_Mod_three 68 [some (.inr (.inr (true, 14, 0))), none, none, some (.inl (nI m)), some (.inl (nI t))] [] (ov_wa S 65 0 (th_F S c (4 * m + t))) Q
  | 0, t, ht => by
    obtain rfl : t = 4 := by omega
    refine r_Mod_three_68 ⟨fun _ => ?_, fun n => absurd (show (4 : Int32) ≤ nI 4 by decide) n⟩
    rw [nI_1]
    exact h
  | n + 1, t, ht => by
    refine r_Mod_three_68 ⟨fun q => absurd q (nI_ge (b := 4) (by omega) (by decide)), fun _ => ?_⟩
    have ei : 4 * (3 * ov_g (ov_wa S 65 0 (th_F S c (4 * m + t))) 14 0 2 + nI m) + nI t = nI (12 * c + (4 * m + t)) := by
      rw [show ov_g (ov_wa S 65 0 (th_F S c (4 * m + t))) 14 0 2 = nI c from e, zz_3, zz_4]
      congr 1
      omega
    rw [ei, zz_ix (by omega), th_st, nI_1]
    exact ⟨zz_ib (by omega) (by decide), th_in hc e hm h n (t + 1) (by omega)⟩
theorem th_all {d a b : Nat} {S : ov_S} {Q : ov_Q} {c : Nat} (hc : c < 4) (e : S.1 14 0 2 = nI c) (h : Q (some (.inl (nI c + 1 - 1))) (ov_w (ov_wa S 65 0 (th_F S c 12)) 14 0 2 (nI c + 1))) : ov_V true true d a b mq_Mod_three 60 [some (.inr (.inr (true, 14, 0))), none, none, some (.inl 0), none] [] S Q := by
  have k3 : ov_V true true d a b mq_Mod_three 60 [some (.inr (.inr (true, 14, 0))), none, none, some (.inl (nI 3)), none] [] (ov_wa S 65 0 (th_F S c 12)) Q := by
    refine r_Mod_three_60 ⟨fun _ => ?_, fun n => absurd (by decide) n⟩
    rw [← e] at h
    exact h
  have k2 : ov_V true true d a b mq_Mod_three 60 [some (.inr (.inr (true, 14, 0))), none, none, some (.inl (nI 2)), none] [] (ov_wa S 65 0 (th_F S c 8)) Q := r_Mod_three_60 ⟨fun n => absurd n (by decide), fun _ => th_in hc e (m := 2) (by decide) k3 4 0 rfl⟩
  have k1 : ov_V true true d a b mq_Mod_three 60 [some (.inr (.inr (true, 14, 0))), none, none, some (.inl (nI 1)), none] [] (ov_wa S 65 0 (th_F S c 4)) Q := r_Mod_three_60 ⟨fun n => absurd n (by decide), fun _ => th_in hc e (m := 1) (by decide) k2 4 0 rfl⟩
  have k0 : ov_V true true d a b mq_Mod_three 60 [some (.inr (.inr (true, 14, 0))), none, none, some (.inl (nI 0)), none] [] (ov_wa S 65 0 (th_F S c 0)) Q := r_Mod_three_60 ⟨fun n => absurd n (by decide), fun _ => th_in hc e (m := 0) (by decide) k1 4 0 rfl⟩
  rw [th_0] at k0
  exact k0
theorem s_three {d : Nat} {S : ov_S} {v1 : Int32} {v2 : Int32} (hd : 2 ≤ d) (h : rl_S S) : rl_2 d mq_Eye_three mq_Mod_three [some (.inr (.inr (true, 0, 0))), some (.inl v1), some (.inl v2)] [some (.inr (.inr (true, 14, 0))), some (.inl v1), some (.inl v2), none, none] S := by
  unfold rl_2
  obtain ⟨c, m, lb, nz, wc, hw, ho, hi⟩ := id h
  obtain ⟨g1, g2, g3, g4, g5, g6, g7, g8, g9, g10, g11, g12, g13, g14, g15, g16, g17, g18, g19, g20, g21, g22, g23, g24, g25, g26⟩ := hw
  obtain ⟨hc, en, em⟩ := g1
  have hE : (0 ≤ ov_g S 1 0 2 ∧ ov_g S 1 0 2 ≤ 3) ↔ c < 4 := by
    rw [show ov_g S 1 0 2 = nI c from en, zz_le (b := 3) rfl]
    exact ⟨fun ⟨k, hk, e⟩ => by have := zz_inj (by omega) (by omega) e; omega, fun q => ⟨c, by omega, rfl⟩⟩
  refine r_Eye_three_0 (by omega) ⟨fun n => r_Mod_three_0 (by omega) ⟨fun _ => rl_same h rfl, fun y => absurd y n⟩, fun q1 => ⟨fun q2 => r_World_addThree_0 (by omega) ⟨fun q3 => ?_, fun q3 => r_Eye_three_32 (r_Mod_three_0 (by omega) ⟨fun n1 => absurd q1 n1, fun _ => ⟨fun n1 => absurd q2 n1, fun _ => ⟨fun n => ?_, fun _ => rl_same h rfl⟩⟩⟩)⟩, fun n => r_Mod_three_0 (by omega) ⟨fun n1 => absurd q1 n1, fun _ => ⟨fun _ => rl_same h rfl, fun y => absurd y n⟩⟩⟩⟩
  · have hz := hE.1 q3
    have fl : (ov_g S 2 0 c != 0) = true := bne_iff_ne.2 (ho.2.2.2.1 c hz)
    rw [show ov_ix (ov_g S 1 0 2) = c by rw [show ov_g S 1 0 2 = nI c from en]; exact zz_ix (by omega), show ov_g S 1 0 2 = nI c from en, fl, Nat.mul_zero, Nat.zero_add]
    refine ⟨zz_ib hz (by decide), r_World_addThree_23 ?_⟩
    rw [show ov_g (ov_w S 6 c 0 v1) 1 0 2 = nI c from en, zz_ix (by omega), show (ov_g (ov_w S 6 c 0 v1) 2 0 c != 0) = true from fl, Nat.mul_zero, Nat.zero_add]
    refine ⟨zz_ib hz (by decide), r_World_addThree_36 (r_Eye_three_32 (r_Mod_three_0 (by omega) ⟨fun n1 => absurd q1 n1, fun _ => ⟨fun n1 => absurd q2 n1, fun _ => ⟨fun _ => ?_, fun e => absurd (zz_inj (b := 4) (by omega) (by decide) (em.symm.trans e)) (by omega)⟩⟩⟩))⟩
    obtain ⟨hd1, hh1, hh2, rfl⟩ := (zz_rng (a := 1) (b := 9) rfl rfl).1 q1
    obtain ⟨dp, hp, rfl⟩ := (zz_le (b := 1000) rfl).1 q2
    generalize hS1 : ov_w (ov_w (ov_w S 6 c 0 (nI hd1)) 6 c 1 (nI dp)) 1 0 2 (ov_g (ov_w (ov_w S 6 c 0 (nI hd1)) 6 c 1 (nI dp)) 1 0 2 + 1) = S1
    have e18 : ov_g (ov_w S1 14 0 0 0) 14 0 2 = nI c := by rw [← hS1]; exact em
    rw [e18, zz_ix (by omega)]
    have e19 : ov_g (ov_w (ov_w S1 14 0 0 0) 58 0 c (nI hd1)) 14 0 2 = nI c := e18
    rw [e19, zz_ix (by omega)]
    refine ⟨zz_ib hz (by decide), zz_ib hz (by decide), th_all hz e19 ?_⟩
    subst hS1
    have n6 : ∀ t j, j ≠ 0 → j ≠ 1 → (ov_w (ov_w S 6 c 0 (nI hd1)) 6 c 1 (nI dp)).1 6 t j = S.1 6 t j := fun t j h0 h1 => (rl_wj h1).trans (rl_wj h0)
    refine ⟨_, rfl, congrArg (fun z => some (Sum.inl z)) (show nI c + 1 - 1 = S.1 1 0 2 + 1 - 1 by rw [en]), c + 1, m, lb, nz, wc, ⟨?_, g2, g3, g4, g5, g6, g7, ?_, ?_, g10, ?_, g12, ?_, g14, g15, g16, g17, ?_, g19, g20, ?_, g22, g23, g24, g25, g26⟩, ho, (rl_i_hi (rl_hi_14 (rl_hi_wa (rl_hi_hi (rl_hi_hi (rl_hi_14 (rl_hi_lo (rl_hi_lo (rl_hi_lo rl_hi_r (by decide) (show c < 4 by omega) (by decide) (by decide)) (by decide) (show c < 4 by omega) (by decide) (by decide)) (by decide) (by decide) (by decide) (by decide)) (by decide)) (by decide) (by decide)) (by decide) (by decide)) (fun q => absurd q.1 (by decide)) (by decide) (by decide) (by decide)) (by decide)) hi)⟩
    · exact ⟨hz, show S.1 1 0 2 + 1 = _ by rw [en, nI_1], nI_1 c⟩
    · intro t ht
      refine ⟨?_, ?_, fun q => ?_⟩
      · show (ov_w (ov_w S 6 c 0 (nI hd1)) 6 c 1 (nI dp)).1 6 t 0 = (ov_w S 58 0 c (nI hd1)).1 58 0 t
        rw [rl_wj (by decide), rl_wi, rl_wr, (g8 t ht).1]
      · show (ov_w (ov_w S 6 c 0 (nI hd1)) 6 c 1 (nI dp)).1 6 t 1 = (ov_w S 59 0 c (nI dp)).1 59 0 t
        rw [rl_wi, rl_wj (by decide), rl_wr, (g8 t ht).2.1]
      · show (∃ h' : Nat, 1 ≤ h' ∧ h' ≤ 9 ∧ (ov_w S 58 0 c (nI hd1)).1 58 0 t = nI h') ∧ ∃ q : Nat, q ≤ 1000 ∧ (ov_w S 59 0 c (nI dp)).1 59 0 t = nI q
        rw [rl_wr, rl_wr]
        by_cases e : t = c
        · rw [if_pos e, if_pos e]; exact ⟨⟨hd1, hh1, hh2, rfl⟩, dp, hp, rfl⟩
        · rw [if_neg e, if_neg e]; exact (g8 t ht).2.2 (by omega)
    · intro t ht
      have e := g9 t ht
      exact ⟨(n6 t 2 (by decide) (by decide)).trans e.1, (n6 t 3 (by decide) (by decide)).trans e.2.1, (n6 t 4 (by decide) (by decide)).trans e.2.2⟩
    · intro t ht
      have e := g11 t ht
      rw [← n6 t 7 (by decide) (by decide), ← n6 t 8 (by decide) (by decide), ← n6 t 9 (by decide) (by decide), ← n6 t 10 (by decide) (by decide), ← n6 t 11 (by decide) (by decide)] at e
      exact e
    · intro t ht
      obtain ⟨n, k, h1, h2, h3, h4, h5, h6⟩ := g13 t ht
      exact ⟨n, k, h1, h2, h3, h4, h5, fun j hj => rl_step_m (by omega) (h6 j hj)⟩
    · intro p hp
      obtain ⟨b, h1, h2, h3, h4⟩ := g18 p hp
      refine ⟨b, h1, h2, fun q t ht => ?_, fun q => h4 (by omega)⟩
      show (if 12 * c ≤ 4 * p + t ∧ 4 * p + t < 12 * c + 12 then 1 else S.1 65 0 (4 * p + t)) = _
      by_cases e : p < 3 * c
      · rw [if_neg (by omega)]; exact h3 e t ht
      · rw [if_pos (by omega), h4 (by omega), if_pos ((show ∀ t : Nat, t < 4 → (15 : Nat).testBit t = true by decide) t ht)]
    · intro i hi2
      obtain ⟨⟨p, hp, e⟩, h2⟩ := g21 i hi2
      exact ⟨⟨p, by omega, e⟩, h2⟩
  · refine absurd ?_ n
    have hq : ¬ c < 4 := fun z => q3 (hE.2 z)
    have : c = 4 := by omega
    exact em.trans (by rw [this]; rfl)
def rl_N (S : ov_S) (r : Nat) (F : Nat → Int32) (q k : Nat) (x : Int32) : ov_S := ov_w (ov_wa S r 0 F) q 0 k x
def rl_up (F : Nat → Int32) (j : Nat) (v : Int32) : Nat → Int32 := fun i => if i = j then v else F i
theorem rl_Ns (S : ov_S) (r : Nat) (F : Nat → Int32) (q k : Nat) (x : Int32) (j : Nat) (v y : Int32) : ov_w (ov_w (rl_N S r F q k x) r 0 j v) q 0 k y = rl_N S r (rl_up F j v) q k y := by
  have e : ov_u3 (ov_u3 (ov_u3 (ov_u2 S.1 r 0 F) q 0 k x) r 0 j v) q 0 k y = ov_u3 (ov_u2 S.1 r 0 (rl_up F j v)) q 0 k y := by
    funext r' i' k'
    show (if r' = q ∧ i' = 0 ∧ k' = k then y else if r' = r ∧ i' = 0 ∧ k' = j then v else if r' = q ∧ i' = 0 ∧ k' = k then x else (if r' = r ∧ i' = 0 then F else S.1 r' i') k') = if r' = q ∧ i' = 0 ∧ k' = k then y else (if r' = r ∧ i' = 0 then rl_up F j v else S.1 r' i') k'
    by_cases hA : r' = q ∧ i' = 0 ∧ k' = k
    · rw [if_pos hA, if_pos hA]
    · rw [if_neg hA, if_neg hA, if_neg hA]
      by_cases hC : r' = r ∧ i' = 0
      · rw [if_pos hC, if_pos hC]
        show _ = if k' = j then v else F k'
        by_cases hk : k' = j
        · rw [if_pos ⟨hC.1, hC.2, hk⟩, if_pos hk]
        · rw [if_neg (fun q => hk q.2.2), if_neg hk]
      · rw [if_neg (fun q => hC ⟨q.1, q.2.1⟩), if_neg hC, if_neg hC]
  show (ov_u3 (ov_u3 (ov_u3 (ov_u2 S.1 r 0 F) q 0 k x) r 0 j v) q 0 k y, S.2) = (ov_u3 (ov_u2 S.1 r 0 (rl_up F j v)) q 0 k y, S.2)
  rw [e]
theorem rl_Nself (S : ov_S) (r q k : Nat) {x : Int32} (hx : S.1 q 0 k = x) : rl_N S r (S.1 r 0) q k x = S := by
  unfold rl_N
  rw [rl_wa_self]
  have e : ov_u3 S.1 q 0 k x = S.1 := by
    funext r' i' k'
    show (if r' = q ∧ i' = 0 ∧ k' = k then x else S.1 r' i' k') = _
    by_cases hA : r' = q ∧ i' = 0 ∧ k' = k
    · rw [if_pos hA, hA.1, hA.2.1, hA.2.2, hx]
    · rw [if_neg hA]
  show (ov_u3 S.1 q 0 k x, S.2) = S
  rw [e]
def ap_e (v z : Int32) : Int32 := ((Int32.toUInt32 v >>> (Int32.toUInt32 z &&& Int32.toUInt32 31)).toInt32) &&& 255
def ap_m (v z : Int32) : Int32 := (v >>> (z &&& 31)) &&& 255
theorem ap_byte {v z : Int32} (k : Nat) (h1 : ((z.toUInt32 &&& Int32.toUInt32 31).toBitVec % 32).toNat = k) (h2 : ((z &&& 31).toBitVec.smod 32).toNat = k) (hk : k = 0 ∨ k = 8 ∨ k = 16 ∨ k = 24) : ap_e v z = ap_m v z ∧ ∃ x : Nat, x < 256 ∧ ap_m v z = nI x := by
  unfold ap_e ap_m
  rw [pk_and _ (m := 255) 8 (by decide), pk_and _ (m := 255) 8 (by decide), pk_ushr _ _ k h1]
  refine ⟨congrArg nI ?_, _, Nat.mod_lt _ (by decide), rfl⟩
  have e := pk_shr v (z &&& 31) k h2
  generalize v >>> (z &&& 31) = w at e ⊢
  have ew : w.toInt = if 2 * w.toBitVec.toNat < 2 ^ 32 then (w.toBitVec.toNat : Int) else (w.toBitVec.toNat : Int) - ((2 ^ 32 : Nat) : Int) := BitVec.toInt_eq_toNat_cond w.toBitVec
  have ev : v.toInt = if 2 * v.toBitVec.toNat < 2 ^ 32 then (v.toBitVec.toNat : Int) else (v.toBitVec.toNat : Int) - ((2 ^ 32 : Nat) : Int) := BitVec.toInt_eq_toNat_cond v.toBitVec
  have lw := w.toBitVec.isLt
  have lv := v.toBitVec.isLt
  rw [Int.shiftRight_eq_div_pow] at e
  generalize w.toBitVec.toNat = a at *
  generalize v.toBitVec.toNat = b at *
  rcases hk with rfl | rfl | rfl | rfl <;> split at ew <;> split at ev <;> omega
def ap_FE (F : Nat → Int32) (n : Nat) (v : Int32) : Nat → Int32 := rl_up (rl_up (rl_up (rl_up F n (ap_e v 24)) (n + 1) (ap_e v (24 + -8))) (n + 2) (ap_e v (24 + -8 + -8))) (n + 3) (ap_e v (24 + -8 + -8 + -8))
def ap_FM (F : Nat → Int32) (n : Nat) (v : Int32) : Nat → Int32 := rl_up (rl_up (rl_up (rl_up F n (ap_m v 24)) (n + 1) (ap_m v (24 + -8))) (n + 2) (ap_m v (24 + -8 + -8))) (n + 3) (ap_m v (24 + -8 + -8 + -8))
theorem ap_up {F G : Nat → Int32} {j : Nat} {x y : Int32} (h : ∀ i, i < 400 → F i = G i ∧ ∃ v : Nat, v < 256 ∧ G i = nI v) (e : x = y ∧ ∃ v : Nat, v < 256 ∧ y = nI v) : ∀ i, i < 400 → rl_up F j x i = rl_up G j y i ∧ ∃ v : Nat, v < 256 ∧ rl_up G j y i = nI v := by
  intro i hi
  unfold rl_up
  by_cases q : i = j
  · rw [if_pos q, if_pos q]; exact e
  · rw [if_neg q, if_neg q]; exact h i hi
theorem ap_eq {F G : Nat → Int32} {n : Nat} {v : Int32} (h : ∀ i, i < 400 → F i = G i ∧ ∃ v : Nat, v < 256 ∧ G i = nI v) : ∀ i, i < 400 → ap_FE F n v i = ap_FM G n v i ∧ ∃ x : Nat, x < 256 ∧ ap_FM G n v i = nI x := ap_up (ap_up (ap_up (ap_up h (ap_byte 24 (by decide) (by decide) (by decide))) (ap_byte 16 (by decide) (by decide) (by decide))) (ap_byte 8 (by decide) (by decide) (by decide))) (ap_byte 0 (by decide) (by decide) (by decide))
theorem ap_E1 {d a b : Nat} {S : ov_S} {Q : ov_Q} {F : Nat → Int32} {n : Nat} {v z : Int32} (hd : 1 ≤ d) (hz : ¬ z < 0) (hn : n < 400) (h : ov_V true true d a b mq_Reader_append 3 [some (.inr (.inr (true, 9, 0))), some (.inl v), some (.inl (z + -8))] [] (rl_N S 45 (rl_up F n (ap_e v z)) 9 1 (nI (n + 1))) Q) : ov_V true true d a b mq_Reader_append 3 [some (.inr (.inr (true, 9, 0))), some (.inl v), some (.inl z)] [] (rl_N S 45 F 9 1 (nI n)) Q := by
  have eg : ov_g (rl_N S 45 F 9 1 (nI n)) 9 0 1 = nI n := rfl
  refine r_Reader_append_3 hd ⟨fun e => absurd e hz, fun _ => ⟨fun e => absurd ((zz_le (b := 399) rfl).2 ⟨n, by omega, rfl⟩) e, fun _ => ⟨zz_ib hn (by decide), r_Reader_append_47 ?_⟩⟩⟩
  rw [← rl_Ns S 45 F 9 1 (nI n), ← nI_1] at h
  rw [eg, zz_ix (by omega)]
  exact h
theorem ap_E {d a b : Nat} {S : ov_S} {Q : ov_Q} {F : Nat → Int32} {n : Nat} {v : Int32} (hd : 1 ≤ d) (hn : n + 4 ≤ 400) (h : Q none (rl_N S 45 (ap_FE F n v) 9 1 (nI (n + 4)))) : ov_V true true d a b mq_Reader_append 0 [some (.inr (.inr (true, 9, 0))), some (.inl v), none] [] (rl_N S 45 F 9 1 (nI n)) Q :=
  r_Reader_append_0 (ap_E1 hd (by decide) (by omega) (ap_E1 hd (by decide) (by omega) (ap_E1 hd (by decide) (by omega) (ap_E1 hd (by decide) (by omega) (r_Reader_append_3 hd ⟨fun _ => h, fun n => absurd (by decide) n⟩)))))
theorem ap_M1 {d a b : Nat} {S : ov_S} {Q : ov_Q} {F : Nat → Int32} {n : Nat} {v z : Int32} (hz : ¬ z < 0) (hn : n < 400) (h : ov_V true true d a b mq_Mod_puts 3 [some (.inr (.inr (true, 14, 0))), some (.inl v), some (.inl (z + -8))] [] (rl_N S 84 (rl_up F n (ap_m v z)) 14 34 (nI (n + 1))) Q) : ov_V true true d a b mq_Mod_puts 3 [some (.inr (.inr (true, 14, 0))), some (.inl v), some (.inl z)] [] (rl_N S 84 F 14 34 (nI n)) Q := by
  have eg : ov_g (rl_N S 84 F 14 34 (nI n)) 14 0 34 = nI n := rfl
  refine r_Mod_puts_3 ⟨fun e => absurd e hz, fun _ => ⟨zz_ib hn (by decide), ?_⟩⟩
  rw [← rl_Ns S 84 F 14 34 (nI n), ← nI_1] at h
  rw [eg, zz_ix (by omega)]
  exact h
theorem ap_M {d a b : Nat} {S : ov_S} {Q : ov_Q} {F : Nat → Int32} {n : Nat} {v : Int32} (hn : n + 4 ≤ 400) (h : Q none (rl_N S 84 (ap_FM F n v) 14 34 (nI (n + 4)))) : ov_V true true d a b mq_Mod_puts 0 [some (.inr (.inr (true, 14, 0))), some (.inl v), none] [] (rl_N S 84 F 14 34 (nI n)) Q :=
  r_Mod_puts_0 (ap_M1 (by decide) (by omega) (ap_M1 (by decide) (by omega) (ap_M1 (by decide) (by omega) (ap_M1 (by decide) (by omega) (r_Mod_puts_3 ⟨fun _ => h, fun n => absurd (by decide) n⟩)))))
theorem s_feed {d : Nat} {S : ov_S} {v1 : Int32} {v2 : Int32} {v3 : Int32} {v4 : Int32} {v5 : Int32} (hd : 2 ≤ d) (h : rl_S S) : rl_2 d mq_Eye_feed mq_Mod_feed [some (.inr (.inr (true, 0, 0))), some (.inl v1), some (.inl v2), some (.inl v3), some (.inl v4), some (.inl v5)] [some (.inr (.inr (true, 14, 0))), some (.inl v1), some (.inl v2), some (.inl v3), some (.inl v4), some (.inl v5)] S := by
  unfold rl_2
  obtain ⟨c, m, lb, nz, wc, hw, ho, hi⟩ := id h
  obtain ⟨⟨k, hk, ek, em⟩, o2, o3, o4, o5, o6⟩ := ho
  have hE : (ov_g S 9 0 1 + 20 ≤ 400) ↔ k + 20 ≤ 400 := by
    rw [show ov_g S 9 0 1 = nI k from ek]
    show nI k + nI 20 ≤ nI 400 ↔ _
    rw [nI_add, nI_leI (by omega) (by decide)]
  have hM : (S.1 14 0 34 ≤ 380) ↔ k + 20 ≤ 400 := by
    rw [em]
    show nI k ≤ nI 380 ↔ _
    rw [nI_leI (by omega) (by decide)]
    omega
  refine r_Eye_feed_0 (by omega) ⟨fun q => ?_, fun q => r_Mod_feed_0 (by omega) ⟨fun y => absurd (hE.2 (hM.1 y)) q, fun _ => rl_same h rfl⟩⟩
  have hk2 := hE.1 q
  rw [← rl_Nself S 45 9 1 ek]
  refine ap_E (by omega) (by omega) (r_Eye_feed_26 (by omega) (ap_E (by omega) (by omega) (r_Eye_feed_34 (by omega) (ap_E (by omega) (by omega) (r_Eye_feed_42 (by omega) (ap_E (by omega) (by omega) (r_Eye_feed_51 (by omega) (ap_E (by omega) (by omega) (r_Eye_feed_60 ?_)))))))))
  generalize hF : ap_FE (ap_FE (ap_FE (ap_FE (ap_FE _ _ v1) _ v2) _ v3) _ v4) _ v5 = F
  generalize hT : ov_w (rl_N S 45 F 9 1 (nI (k + 4 + 4 + 4 + 4 + 4))) 14 0 0 0 = T
  refine r_Mod_feed_0 (by omega) ⟨fun _ => ?_, fun n => absurd (hM.2 hk2) n⟩
  have eT : T.1 14 0 34 = nI k := by rw [← hT]; exact em
  rw [hT, ← rl_Nself T 84 14 34 eT]
  refine ap_M (by omega) (r_Mod_feed_22 (by omega) (ap_M (by omega) (r_Mod_feed_27 (by omega) (ap_M (by omega) (r_Mod_feed_32 (by omega) (ap_M (by omega) (r_Mod_feed_38 (by omega) (ap_M (by omega) (r_Mod_feed_44 ?_)))))))))
  have hB := ap_eq (n := k + 4 + 4 + 4 + 4) (v := v5) (ap_eq (n := k + 4 + 4 + 4) (v := v4) (ap_eq (n := k + 4 + 4) (v := v3) (ap_eq (n := k + 4) (v := v2) (ap_eq (n := k) (v := v1) o2))))
  rw [hF] at hB
  subst hT
  refine ⟨nI (k + 4 + 4 + 4 + 4 + 4), rfl, rfl, c, m, lb, nz, wc, ?_, ⟨⟨k + 20, by omega, rfl, rfl⟩, hB, o3, o4, o5, o6⟩, rl_i_hi (rl_hi_14 (rl_hi_wa (rl_hi_14 (rl_hi_lo (rl_hi_wa rl_hi_r (fun q => absurd q.1 (by decide)) (by decide) (by decide) (by decide)) (by decide) (by decide) (by decide) (by decide)) (by decide)) (fun q => absurd q.1 (by decide)) (by decide) (by decide) (by decide)) (by decide)) hi⟩
  unfold rl_w at hw ⊢
  exact hw
