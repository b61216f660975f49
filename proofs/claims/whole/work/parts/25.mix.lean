/-! ===== the class's cells of C, the reference's of T ===== -/
def rl_mr (r : Nat) : Bool := Nat.beq r 14 || Nat.blt 57 r
def ov_mix (C T : ov_S) : ov_S := (fun r => cond (rl_mr r) (T.1 r) (C.1 r), C.2)
theorem mix_m {C T : ov_S} {r i j : Nat} {v : Int32} (h : rl_mr r = true) : ov_w (ov_mix C T) r i j v = ov_mix C (ov_w T r i j v) := by
  have e : ov_u3 (fun r => cond (rl_mr r) (T.1 r) (C.1 r)) r i j v = fun r' => cond (rl_mr r') (ov_u3 T.1 r i j v r') (C.1 r') := by
    funext r' i' j'
    show (if r' = r ∧ i' = i ∧ j' = j then v else (cond (rl_mr r') (T.1 r') (C.1 r')) i' j') = (cond (rl_mr r') (ov_u3 T.1 r i j v r') (C.1 r')) i' j'
    by_cases hr : r' = r
    · subst hr
      rw [h]
      rfl
    · rw [if_neg (fun q => hr q.1)]
      cases rl_mr r'
      · rfl
      · exact (if_neg (fun q => hr q.1)).symm
  show (ov_u3 (fun r => cond (rl_mr r) (T.1 r) (C.1 r)) r i j v, C.2) = (_, C.2)
  rw [e]
  rfl
theorem mix_c {C T : ov_S} {r i j : Nat} {v : Int32} (h : rl_mr r = false) : ov_w (ov_mix C T) r i j v = ov_mix (ov_w C r i j v) T := by
  have e : ov_u3 (fun r => cond (rl_mr r) (T.1 r) (C.1 r)) r i j v = fun r' => cond (rl_mr r') (T.1 r') (ov_u3 C.1 r i j v r') := by
    funext r' i' j'
    show (if r' = r ∧ i' = i ∧ j' = j then v else (cond (rl_mr r') (T.1 r') (C.1 r')) i' j') = (cond (rl_mr r') (T.1 r') (ov_u3 C.1 r i j v r')) i' j'
    by_cases hr : r' = r
    · subst hr
      rw [h]
      rfl
    · rw [if_neg (fun q => hr q.1)]
      cases rl_mr r'
      · exact (if_neg (fun q => hr q.1)).symm
      · rfl
  show (ov_u3 (fun r => cond (rl_mr r) (T.1 r) (C.1 r)) r i j v, C.2) = (_, C.2)
  rw [e]
  rfl
theorem mix_self (S : ov_S) : ov_mix S S = S := by
  have e : (fun r => cond (rl_mr r) (S.1 r) (S.1 r)) = S.1 := by
    funext r
    cases rl_mr r <;> rfl
  show ((fun r => cond (rl_mr r) (S.1 r) (S.1 r)), S.2) = S
  rw [e]
/-! ===== chance ===== -/
def dr_s (x : Int32) : Int32 := 1664525 * x + 1013904223
def dr_v (x k : Int32) : Int32 := (Int32.toUInt32 x >>> (Int32.toUInt32 8 &&& Int32.toUInt32 31)).toInt32 - (Int32.toUInt32 x >>> (Int32.toUInt32 8 &&& Int32.toUInt32 31)).toInt32 / k * k
theorem dr_b (x : Int32) {k : Nat} (h0 : 0 < k) (hk : k < 2 ^ 31) : ∃ n : Nat, n < k ∧ dr_v x (nI k) = nI n := by
  have e := pk_ushr x 8 8 (by decide)
  generalize hy : (Int32.toUInt32 x >>> (Int32.toUInt32 8 &&& Int32.toUInt32 31)).toInt32 = y at e
  have l := x.toBitVec.isLt
  have hy2 : y = nI (x.toBitVec.toNat / 2 ^ 8) := by
    apply Int32.toBitVec_inj.mp
    apply BitVec.eq_of_toNat_eq
    rw [e, pk_tn (by omega)]
  unfold dr_v
  rw [hy, hy2, pk_rem (by omega) h0 hk]
  exact ⟨_, Nat.mod_lt _ h0, rfl⟩
theorem mi_drM {d a b : Nat} {C T : ov_S} {Q : ov_Q} {k : Int32} (hk : ¬ k = 0) (h : Q (some (.inl (dr_v (dr_s (T.1 14 0 1)) k))) (ov_mix C (ov_w T 14 0 1 (dr_s (T.1 14 0 1))))) : ov_V true true d a b mq_Mod_draw 0 [some (.inr (.inr (true, 14, 0))), some (.inl k)] [] (ov_mix C T) Q := by
  refine r_Mod_draw_0 ⟨hk, ?_⟩
  rw [mix_m rfl]
  exact h
theorem mi_drE {d a b : Nat} {C T : ov_S} {Q : ov_Q} {k x : Int32} (hk : ¬ k = 0) (hk1 : 1 ≤ k) (hx : C.1 1 0 8 = x) (h : Q (some (.inl (dr_v (dr_s x) k))) (ov_mix (ov_w C 1 0 8 (dr_s x)) T)) : ov_V true true d a b mq_World_draw 0 [some (.inr (.inr (true, 1, 0))), some (.inl k)] [] (ov_mix C T) Q := by
  subst hx
  refine r_World_draw_0 ⟨fun _ => ⟨hk, ?_⟩, fun n => absurd hk1 n⟩
  rw [mix_c rfl]
  exact h
/-! ===== who has empty hands ===== -/
abbrev mi_busy (f : Nat → Int32) (k : Int32) : Prop := f 0 = k ∨ f 1 = k ∨ f 2 = k
def mi_first (f : Nat → Int32) : Int32 := if mi_busy f 0 then (if mi_busy f 1 then (if mi_busy f 2 then 0 else 2) else 1) else 0
theorem mi_fE1 {d a b : Nat} {S : ov_S} {Q : ov_Q} {t : Nat} {v : Int32} (hv : ¬ 3 ≤ v) (hb : mi_busy (S.1 34 t) v → ov_V true true d a b mq_Three_firstWithEmptyHands 2 [some (.inr (.inr (true, 6, t))), some (.inl (v + 1))] [] S Q) (hn : ¬ mi_busy (S.1 34 t) v → Q (some (.inl v)) S) : ov_V true true d a b mq_Three_firstWithEmptyHands 2 [some (.inr (.inr (true, 6, t))), some (.inl v)] [] S Q :=
  r_Three_firstWithEmptyHands_2 ⟨fun q => absurd q hv, fun _ => ⟨fun e => r_Three_firstWithEmptyHands_39 (hb (.inl e)), fun n0 => ⟨fun e => r_Three_firstWithEmptyHands_39 (hb (.inr (.inl e))), fun n1 => ⟨fun e => r_Three_firstWithEmptyHands_39 (hb (.inr (.inr e))), fun n2 => hn (fun q => q.elim n0 (fun q => q.elim n1 n2))⟩⟩⟩⟩
theorem mi_firstE {d a b : Nat} {S : ov_S} {Q : ov_Q} {t : Nat} (h : Q (some (.inl (mi_first (S.1 34 t)))) S) : ov_V true true d a b mq_Three_firstWithEmptyHands 0 [some (.inr (.inr (true, 6, t))), none] [] S Q := by
  unfold mi_first at h
  refine r_Three_firstWithEmptyHands_0 (mi_fE1 (by decide) (fun b0 => mi_fE1 (by decide) (fun b1 => mi_fE1 (by decide) (fun b2 => ?_) (fun n2 => ?_)) (fun n1 => ?_)) (fun n0 => ?_))
  · replace b1 : mi_busy (S.1 34 t) 1 := b1
    replace b2 : mi_busy (S.1 34 t) 2 := b2
    rw [if_pos b0, if_pos b1, if_pos b2] at h
    exact r_Three_firstWithEmptyHands_2 ⟨fun _ => h, fun n => absurd (by decide) n⟩
  · replace b1 : mi_busy (S.1 34 t) 1 := b1
    replace n2 : ¬ mi_busy (S.1 34 t) 2 := n2
    rw [if_pos b0, if_pos b1, if_neg n2] at h
    exact h
  · replace n1 : ¬ mi_busy (S.1 34 t) 1 := n1
    rw [if_pos b0, if_neg n1] at h
    exact h
  · rw [if_neg n0] at h
    exact h
def mi_f (T : ov_S) (t : Nat) : Nat → Int32 := fun x => T.1 62 0 (3 * t + x)
theorem mi_fM1 {d a b : Nat} {S : ov_S} {Q : ov_Q} {t : Nat} {v2 v : Int32} (hd : 1 ≤ d) (ht : t < 4) (hv : ¬ v < 0) (hb : mi_busy (mi_f S t) v → ov_V true true d a b mq_Mod_feels 39 [some (.inr (.inr (true, 14, 0))), some (.inl (nI t)), some (.inl v2), some (.inl (v - 1)), none] [] S Q) (hn : ¬ mi_busy (mi_f S t) v → ov_V true true d a b mq_Mod_feels 85 [some (.inr (.inr (true, 14, 0))), some (.inl (nI t)), some (.inl v2), some (.inl v), some (.inl (v - 1))] [] S Q) : ov_V true true d a b mq_Mod_feels 39 [some (.inr (.inr (true, 14, 0))), some (.inl (nI t)), some (.inl v2), some (.inl v), none] [] S Q := by
  have e0 : (3 * nI t + 0 : Int32) = nI (3 * t + 0) := zz_3 t 0
  have e1 : (3 * nI t + 1 : Int32) = nI (3 * t + 1) := zz_3 t 1
  have e2 : (3 * nI t + 2 : Int32) = nI (3 * t + 2) := zz_3 t 2
  refine r_Mod_feels_39 hd ⟨fun q => absurd q hv, fun _ => ?_⟩
  rw [e0, e1, e2, zz_ix (by omega), zz_ix (by omega), zz_ix (by omega)]
  exact ⟨zz_ib (by omega) (by decide), fun e => r_Mod_feels_73 (hb (.inl e)), fun n0 => ⟨zz_ib (by omega) (by decide), fun e => r_Mod_feels_73 (hb (.inr (.inl e))), fun n1 => ⟨zz_ib (by omega) (by decide), fun n2 => r_Mod_feels_80 (hn (fun q => q.elim n0 (fun q => q.elim n1 n2))), fun e => r_Mod_feels_73 (hb (.inr (.inr e)))⟩⟩⟩
theorem mi_fM2 {d a b : Nat} {S : ov_S} {Q : ov_Q} {t : Nat} {v2 w v : Int32} (hd : 1 ≤ d) (ht : t < 4) (hv : ¬ v < 0) (hb : mi_busy (mi_f S t) v → ov_V true true d a b mq_Mod_feels 85 [some (.inr (.inr (true, 14, 0))), some (.inl (nI t)), some (.inl v2), some (.inl w), some (.inl (v + -1))] [] S Q) (hn : ¬ mi_busy (mi_f S t) v → ov_V true true d a b mq_Mod_feels 85 [some (.inr (.inr (true, 14, 0))), some (.inl (nI t)), some (.inl v2), some (.inl v), some (.inl (v + -1))] [] S Q) : ov_V true true d a b mq_Mod_feels 85 [some (.inr (.inr (true, 14, 0))), some (.inl (nI t)), some (.inl v2), some (.inl w), some (.inl v)] [] S Q := by
  have e0 : (3 * nI t + 0 : Int32) = nI (3 * t + 0) := zz_3 t 0
  have e1 : (3 * nI t + 1 : Int32) = nI (3 * t + 1) := zz_3 t 1
  have e2 : (3 * nI t + 2 : Int32) = nI (3 * t + 2) := zz_3 t 2
  refine r_Mod_feels_85 hd ⟨fun q => absurd q hv, fun _ => ?_⟩
  rw [e0, e1, e2, zz_ix (by omega), zz_ix (by omega), zz_ix (by omega)]
  exact ⟨zz_ib (by omega) (by decide), fun e => r_Mod_feels_126 (hb (.inl e)), fun n0 => ⟨zz_ib (by omega) (by decide), fun e => r_Mod_feels_126 (hb (.inr (.inl e))), fun n1 => ⟨zz_ib (by omega) (by decide), fun e => r_Mod_feels_126 (hb (.inr (.inr e))), fun n2 => r_Mod_feels_126 (hn (fun q => q.elim n0 (fun q => q.elim n1 n2)))⟩⟩⟩
theorem mi_fM {d a b : Nat} {S : ov_S} {Q : ov_Q} {t k : Nat} (hd : 1 ≤ d) (ht : t < 4) (hk : k < 12) (h : Q none (ov_w S 62 0 k (mi_first (mi_f S t)))) : ov_V true true d a b mq_Mod_feels 39 [some (.inr (.inr (true, 14, 0))), some (.inl (nI t)), some (.inl (nI k)), some (.inl 2), none] [] S Q := by
  have fin : ∀ w z : Int32, z < 0 → (mi_first (mi_f S t) = if 0 ≤ w then w else 0) → ov_V true true d a b mq_Mod_feels 85 [some (.inr (.inr (true, 14, 0))), some (.inl (nI t)), some (.inl (nI k)), some (.inl w), some (.inl z)] [] S Q := by
    intro w z hz hw
    refine r_Mod_feels_85 hd ⟨fun _ => ⟨fun q => ?_, fun q => ?_⟩, fun n => absurd hz n⟩
    · rw [if_pos q] at hw
      rw [hw] at h
      rw [zz_ix (by omega)]
      exact ⟨zz_ib hk (by decide), h⟩
    · rw [if_neg q] at hw
      rw [hw] at h
      rw [zz_ix (by omega)]
      exact ⟨zz_ib hk (by decide), h⟩
  unfold mi_first at fin
  by_cases b0 : mi_busy (mi_f S t) 0
  · by_cases b1 : mi_busy (mi_f S t) 1
    · by_cases b2 : mi_busy (mi_f S t) 2
      · rw [if_pos b0, if_pos b1, if_pos b2] at fin
        exact mi_fM1 hd ht (by decide) (fun _ => mi_fM1 hd ht (by decide) (fun _ => mi_fM1 hd ht (by decide) (fun _ => r_Mod_feels_39 hd ⟨fun _ => r_Mod_feels_80 (fin _ _ (by decide) (by decide)), fun n => absurd (by decide) n⟩) (fun n => absurd b0 n)) (fun n => absurd b1 n)) (fun n => absurd b2 n)
      · rw [if_pos b0, if_pos b1, if_neg b2] at fin
        exact mi_fM1 hd ht (by decide) (fun q => absurd q b2) (fun _ => mi_fM2 hd ht (by decide) (fun _ => mi_fM2 hd ht (by decide) (fun _ => fin _ _ (by decide) (by decide)) (fun n => absurd b0 n)) (fun n => absurd b1 n))
    · rw [if_pos b0, if_neg b1] at fin
      by_cases b2 : mi_busy (mi_f S t) 2
      · exact mi_fM1 hd ht (by decide) (fun _ => mi_fM1 hd ht (by decide) (fun q => absurd q b1) (fun _ => mi_fM2 hd ht (by decide) (fun _ => fin _ _ (by decide) (by decide)) (fun n => absurd b0 n))) (fun n => absurd b2 n)
      · exact mi_fM1 hd ht (by decide) (fun q => absurd q b2) (fun _ => mi_fM2 hd ht (by decide) (fun q => absurd q b1) (fun _ => mi_fM2 hd ht (by decide) (fun _ => fin _ _ (by decide) (by decide)) (fun n => absurd b0 n)))
  · rw [if_neg b0] at fin
    have f0 : ∀ w z : Int32, z < 0 → w = 0 → ov_V true true d a b mq_Mod_feels 85 [some (.inr (.inr (true, 14, 0))), some (.inl (nI t)), some (.inl (nI k)), some (.inl w), some (.inl z)] [] S Q := fun w z hz e => fin w z hz (by rw [e]; rfl)
    by_cases b1 : mi_busy (mi_f S t) 1
    · by_cases b2 : mi_busy (mi_f S t) 2
      · exact mi_fM1 hd ht (by decide) (fun _ => mi_fM1 hd ht (by decide) (fun _ => mi_fM1 hd ht (by decide) (fun q => absurd q b0) (fun _ => f0 _ _ (by decide) (by decide))) (fun n => absurd b1 n)) (fun n => absurd b2 n)
      · exact mi_fM1 hd ht (by decide) (fun q => absurd q b2) (fun _ => mi_fM2 hd ht (by decide) (fun _ => mi_fM2 hd ht (by decide) (fun q => absurd q b0) (fun _ => f0 _ _ (by decide) (by decide))) (fun n => absurd b1 n))
    · by_cases b2 : mi_busy (mi_f S t) 2
      · exact mi_fM1 hd ht (by decide) (fun _ => mi_fM1 hd ht (by decide) (fun q => absurd q b1) (fun _ => mi_fM2 hd ht (by decide) (fun q => absurd q b0) (fun _ => f0 _ _ (by decide) (by decide)))) (fun n => absurd b2 n)
      · exact mi_fM1 hd ht (by decide) (fun q => absurd q b2) (fun _ => mi_fM2 hd ht (by decide) (fun q => absurd q b1) (fun _ => mi_fM2 hd ht (by decide) (fun q => absurd q b0) (fun _ => f0 _ _ (by decide) (by decide))))
