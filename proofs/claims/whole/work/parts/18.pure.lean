/-- a truth as an int -/
noncomputable def ov_b (P : Prop) : Int32 := @ite _ P (Classical.propDecidable P) 1 0
theorem ov_bt {P : Prop} (h : P) : ov_b P = 1 := if_pos h
theorem ov_bf {P : Prop} (h : ¬ P) : ov_b P = 0 := if_neg h
theorem ov_b01 (P : Prop) : ov_b P = 0 ∨ ov_b P = 1 := (Classical.em P).elim (fun h => Or.inr (ov_bt h)) (fun h => Or.inl (ov_bf h))
theorem ov_b0 {P : Prop} (h : ov_b P = 0) : ¬ P := fun q => by rw [ov_bt q] at h; exact absurd h (by decide)
theorem ov_b1 {P : Prop} (h : ¬ ov_b P = 0) : P := Classical.byContradiction fun q => h (ov_bf q)
theorem ov_b2 {P : Prop} (h : ¬ ov_b P ≠ 0) : ¬ P := ov_b0 (Decidable.not_not.mp h)
theorem ov_bc {P Q : Prop} (h : P ↔ Q) : ov_b P = ov_b Q := by rw [propext h]
theorem ov_ibd {x : Int32} {n : Nat} (h : 0 ≤ x.toInt ∧ x.toInt < (n : Int)) : ov_ib x n := h
theorem ov_ib_le {x k : Int32} {n : Nat} (h0 : 0 ≤ x) (h : x ≤ k) (hk : k.toInt < n) : ov_ib x n := by
  have h1 := Int32.le_iff_toInt_le.mp h0
  have h2 := Int32.le_iff_toInt_le.mp h
  have h3 : (0 : Int32).toInt = 0 := rfl
  exact ⟨by omega, by omega⟩
theorem ov_ib_lt {x k : Int32} {n : Nat} (h0 : ¬ x < 0) (h : ¬ k ≤ x) (hk : k.toInt ≤ n) : ov_ib x n := by
  have h1 := Int32.le_iff_toInt_le.mp (Int32.not_lt.mp h0)
  have h2 := Int32.lt_iff_toInt_lt.mp (Int32.not_le.mp h)
  have h3 : (0 : Int32).toInt = 0 := rfl
  exact ⟨by omega, by omega⟩
def ov_bit (x i : Int32) : Prop := ¬ ((x >>> (i &&& 31)) &&& 1) = 0
def ov_wb (x i s : Int32) : Int32 := if s = 0 then x &&& ((1 <<< (i &&& 31)) ^^^ (-1)) else x ||| (1 <<< (i &&& 31))
def ov_mem (p x : Int32) : Int32 := if x = 0 then p / 9 else if x = 1 then (p / 3) - (p / 3) / 3 * 3 else p - p / 3 * 3
def ov_mov (p x m : Int32) : Int32 := p + (m - ov_mem p x) * (if x = 0 then 9 else if x = 1 then 3 else 1)
def ov_hol (S : ov_S) (t x : Int32) : Int32 := if ov_g S 62 0 (ov_ix (3 * t + x)) < 3 then 3 * t + ov_g S 62 0 (ov_ix (3 * t + x)) else -1
def ov_raw (S : ov_S) (k : Int32) : Int32 := if k < ov_g S 14 0 34 then ov_g S 84 0 (ov_ix k) else -1
noncomputable def ov_sort (c : Int32) : Int32 := @ite _ (c = 32 ∨ c = 10) (Classical.propDecidable _) 0 (@ite _ ((97 ≤ c ∧ c ≤ 122) ∨ (65 ≤ c ∧ c ≤ 90)) (Classical.propDecidable _) 1 (@ite _ (48 ≤ c ∧ c ≤ 57) (Classical.propDecidable _) 2 3))
noncomputable def ov_sign (S : ov_S) (k : Int32) : Int32 := @ite _ (0 ≤ k ∧ k < ov_g S 9 0 1 ∧ k < 400) (Classical.propDecidable _) (ov_g S 45 0 (ov_ix k)) (-1)
def ov_most (k : Int32) : Int32 := if k = 0 then 2 else if k = 4 then 99 else if k = 5 then 8 else 9
noncomputable def ov_tok (S : ov_S) : Int32 := @ite _ (0 ≤ ov_g S 9 0 9 ∧ ov_g S 9 0 9 ≤ ov_g S 9 0 8 - 1) (Classical.propDecidable _) (ov_g S 46 0 (ov_ix (ov_g S 9 0 9))) 12
noncomputable def ov_plc (S : ov_S) (i : Nat) (x : Int32) : Int32 := @ite _ (0 ≤ x ∧ x ≤ 2) (Classical.propDecidable _) (ov_g S 34 i (ov_ix x)) (-1)
noncomputable def ov_hof (S : ov_S) (i : Nat) (x : Int32) : Int32 := @ite _ ((0 ≤ x ∧ x ≤ 2) ∧ (0 ≤ ov_g S 34 i (ov_ix x) ∧ ov_g S 34 i (ov_ix x) ≤ 2)) (Classical.propDecidable _) (ov_g S 34 i (ov_ix x)) (-1)
noncomputable def ov_st2 (v : Int32) : Int32 := @ite _ (0 ≤ v ∧ v ≤ 2) (Classical.propDecidable _) v 0
noncomputable def ov_stp (S : ov_S) (i : Nat) (x : Int32) : Int32 := ov_st2 (if ov_plc S i x = 3 then ov_g S 6 i 11 else ov_plc S i x)
noncomputable def ov_kno (S : ov_S) (i : Nat) (f : Int32) : Int32 := @ite _ (0 ≤ f ∧ f ≤ 9) (Classical.propDecidable _) (ov_g S 35 i (ov_ix f)) (-1)
def sp_mq_Eye_within : List (Nat × List Bool) := []
theorem r_Eye_within_0 {d a b : Nat} {S : ov_S} {Q : ov_Q} {v0 : Int32} {v1 : Int32} {v2 : Int32} (h : (v0 < v1 → Q (some (.inl 0)) S) ∧ (¬ v0 < v1 → (v2 < v0 → Q (some (.inl 0)) S) ∧ (¬ v2 < v0 → Q (some (.inl 1)) S))) : ov_V true true d a b mq_Eye_within 0 [some (.inl v0), some (.inl v1), some (.inl v2)] [] S Q := ov_run sp_mq_Eye_within 400 ⟨fun c1 => ⟨Or.inl rfl, (h.1 c1)⟩, fun c1 => ⟨fun c2 => ⟨Or.inl rfl, ((h.2 c1).1 c2)⟩, fun c2 => ⟨Or.inr rfl, ((h.2 c1).2 c2)⟩⟩⟩
theorem pu_mq_Eye_within {d : Nat} {S : ov_S} {Q : ov_Q} {v l h : Int32} (hd : 0 ≤ d) (g : Q (some (.inl (ov_b (l ≤ v ∧ v ≤ h)))) S) : ov_V true true d 0 0 mq_Eye_within 0 [some (.inl v), some (.inl l), some (.inl h)] [] S Q := by
  refine r_Eye_within_0 ⟨fun c => ?_, fun c => ⟨fun c2 => ?_, fun c2 => ?_⟩⟩
  · rwa [ov_bf (fun q => absurd c (Int32.not_lt.mpr q.1))] at g
  · rwa [ov_bf (fun q => absurd c2 (Int32.not_lt.mpr q.2))] at g
  · rwa [ov_bt ⟨Int32.not_lt.mp c, Int32.not_lt.mp c2⟩] at g
def sp_mq_Eye_holdsBit : List (Nat × List Bool) := []
theorem r_Eye_holdsBit_0 {d a b : Nat} {S : ov_S} {Q : ov_Q} {v0 : Int32} {v1 : Int32} (h : (((v0 >>> (v1 &&& 31)) &&& 1) = 0 → Q (some (.inl 0)) S) ∧ (¬ ((v0 >>> (v1 &&& 31)) &&& 1) = 0 → Q (some (.inl 1)) S)) : ov_V true true d a b mq_Eye_holdsBit 0 [some (.inl v0), some (.inl v1)] [] S Q := ov_run sp_mq_Eye_holdsBit 400 ⟨fun c1 => ⟨Or.inl rfl, (h.1 c1)⟩, fun c1 => ⟨Or.inr rfl, (h.2 c1)⟩⟩
theorem pu_mq_Eye_holdsBit {d : Nat} {S : ov_S} {Q : ov_Q} {v l : Int32} (hd : 0 ≤ d) (g : Q (some (.inl (ov_b (ov_bit v l)))) S) : ov_V true true d 0 0 mq_Eye_holdsBit 0 [some (.inl v), some (.inl l)] [] S Q := by
  refine r_Eye_holdsBit_0 ⟨fun c => ?_, fun c => ?_⟩
  · rwa [ov_bf (fun q => q c)] at g
  · rwa [ov_bt (show ov_bit v l from c)] at g
def sp_mq_Eye_withBit : List (Nat × List Bool) := []
theorem r_Eye_withBit_0 {d a b : Nat} {S : ov_S} {Q : ov_Q} {v0 : Int32} {v1 : Int32} {v2 : Int32} (h : (v2 = 0 → Q (some (.inl (v0 &&& (((1 : Int32) <<< (v1 &&& 31)) ^^^ (-1))))) S) ∧ (¬ v2 = 0 → Q (some (.inl (v0 ||| ((1 : Int32) <<< (v1 &&& 31))))) S)) : ov_V true true d a b mq_Eye_withBit 0 [some (.inl v0), some (.inl v1), some (.inl v2)] [] S Q := ov_run sp_mq_Eye_withBit 400 ⟨fun c1 => (h.1 c1), fun c1 => (h.2 c1)⟩
theorem pu_mq_Eye_withBit {d : Nat} {S : ov_S} {Q : ov_Q} {v l s : Int32} (hd : 0 ≤ d) (g : Q (some (.inl (ov_wb v l s))) S) : ov_V true true d 0 0 mq_Eye_withBit 0 [some (.inl v), some (.inl l), some (.inl s)] [] S Q := by
  refine r_Eye_withBit_0 ⟨fun c => ?_, fun c => ?_⟩
  · rwa [ov_wb, if_pos c] at g
  · rwa [ov_wb, if_neg c] at g
def sp_mq_Eye_dangerAt : List (Nat × List Bool) := []
theorem r_Eye_dangerAt_0 {d a b : Nat} {S : ov_S} {Q : ov_Q} {v0 : Int32} {v1 : Int32} {v2 : Int32} (h : Q (some (.inl ((((v0 * 3) + v1) * 3) + v2))) S) : ov_V true true d a b mq_Eye_dangerAt 0 [some (.inl v0), some (.inl v1), some (.inl v2)] [] S Q := ov_run sp_mq_Eye_dangerAt 400 h
theorem pu_mq_Eye_dangerAt {d : Nat} {S : ov_S} {Q : ov_Q} {v l s : Int32} (hd : 0 ≤ d) (g : Q (some (.inl ((v * 3 + l) * 3 + s))) S) : ov_V true true d 0 0 mq_Eye_dangerAt 0 [some (.inl v), some (.inl l), some (.inl s)] [] S Q := by
  exact r_Eye_dangerAt_0 g
def sp_mq_Mod_isIn : List (Nat × List Bool) := []
theorem r_Mod_isIn_0 {d a b : Nat} {S : ov_S} {Q : ov_Q} {v1 : Int32} {v2 : Int32} {v3 : Int32} (h : (v1 < v2 → Q (some (.inl 0)) S) ∧ (¬ v1 < v2 → (v3 < v1 → Q (some (.inl 0)) S) ∧ (¬ v3 < v1 → Q (some (.inl 1)) S))) : ov_V true true d a b mq_Mod_isIn 0 [some (.inr (.inr (true, 14, 0))), some (.inl v1), some (.inl v2), some (.inl v3)] [] S Q := ov_run sp_mq_Mod_isIn 400 ⟨fun c1 => ⟨Or.inl rfl, (h.1 c1)⟩, fun c1 => ⟨fun c2 => ⟨Or.inl rfl, ((h.2 c1).1 c2)⟩, fun c2 => ⟨Or.inr rfl, ((h.2 c1).2 c2)⟩⟩⟩
theorem pu_mq_Mod_isIn {d : Nat} {S : ov_S} {Q : ov_Q} {v l h : Int32} (hd : 0 ≤ d) (g : Q (some (.inl (ov_b (l ≤ v ∧ v ≤ h)))) S) : ov_V true true d 0 0 mq_Mod_isIn 0 [some (.inr (.inr (true, 14, 0))), some (.inl v), some (.inl l), some (.inl h)] [] S Q := by
  refine r_Mod_isIn_0 ⟨fun c => ?_, fun c => ⟨fun c2 => ?_, fun c2 => ?_⟩⟩
  · rwa [ov_bf (fun q => absurd c (Int32.not_lt.mpr q.1))] at g
  · rwa [ov_bf (fun q => absurd c2 (Int32.not_lt.mpr q.2))] at g
  · rwa [ov_bt ⟨Int32.not_lt.mp c, Int32.not_lt.mp c2⟩] at g
def sp_mq_Mod_isThree : List (Nat × List Bool) := []
theorem r_Mod_isThree_0 {d a b : Nat} {S : ov_S} {Q : ov_Q} {v1 : Int32} (h : (v1 < 0 → Q (some (.inl 0)) S) ∧ (¬ v1 < 0 → ((ov_g S 14 0 2) ≤ v1 → Q (some (.inl 0)) S) ∧ (¬ (ov_g S 14 0 2) ≤ v1 → Q (some (.inl 1)) S))) : ov_V true true d a b mq_Mod_isThree 0 [some (.inr (.inr (true, 14, 0))), some (.inl v1)] [] S Q := ov_run sp_mq_Mod_isThree 400 ⟨fun c1 => ⟨Or.inl rfl, (h.1 c1)⟩, fun c1 => ⟨fun c2 => ⟨Or.inl rfl, ((h.2 c1).1 c2)⟩, fun c2 => ⟨Or.inr rfl, ((h.2 c1).2 c2)⟩⟩⟩
theorem pu_mq_Mod_isThree {d : Nat} {S : ov_S} {Q : ov_Q} {v : Int32} (hd : 0 ≤ d) (g : Q (some (.inl (ov_b (0 ≤ v ∧ v < ov_g S 14 0 2)))) S) : ov_V true true d 0 0 mq_Mod_isThree 0 [some (.inr (.inr (true, 14, 0))), some (.inl v)] [] S Q := by
  refine r_Mod_isThree_0 ⟨fun c => ?_, fun c => ⟨fun c2 => ?_, fun c2 => ?_⟩⟩
  · rwa [ov_bf (fun q => absurd c (Int32.not_lt.mpr q.1))] at g
  · rwa [ov_bf (fun q => absurd q.2 (Int32.not_lt.mpr c2))] at g
  · rwa [ov_bt ⟨Int32.not_lt.mp c, Int32.not_le.mp c2⟩] at g
def sp_mq_Mod_isPerson : List (Nat × List Bool) := []
theorem r_Mod_isPerson_0 {d a b : Nat} {S : ov_S} {Q : ov_Q} {v1 : Int32} (h : (v1 < 0 → Q (some (.inl 0)) S) ∧ (¬ v1 < 0 → ((3 * (ov_g S 14 0 2)) ≤ v1 → Q (some (.inl 0)) S) ∧ (¬ (3 * (ov_g S 14 0 2)) ≤ v1 → Q (some (.inl 1)) S))) : ov_V true true d a b mq_Mod_isPerson 0 [some (.inr (.inr (true, 14, 0))), some (.inl v1)] [] S Q := ov_run sp_mq_Mod_isPerson 400 ⟨fun c1 => ⟨Or.inl rfl, (h.1 c1)⟩, fun c1 => ⟨fun c2 => ⟨Or.inl rfl, ((h.2 c1).1 c2)⟩, fun c2 => ⟨Or.inr rfl, ((h.2 c1).2 c2)⟩⟩⟩
theorem pu_mq_Mod_isPerson {d : Nat} {S : ov_S} {Q : ov_Q} {v : Int32} (hd : 0 ≤ d) (g : Q (some (.inl (ov_b (0 ≤ v ∧ v < 3 * ov_g S 14 0 2)))) S) : ov_V true true d 0 0 mq_Mod_isPerson 0 [some (.inr (.inr (true, 14, 0))), some (.inl v)] [] S Q := by
  refine r_Mod_isPerson_0 ⟨fun c => ?_, fun c => ⟨fun c2 => ?_, fun c2 => ?_⟩⟩
  · rwa [ov_bf (fun q => absurd c (Int32.not_lt.mpr q.1))] at g
  · rwa [ov_bf (fun q => absurd q.2 (Int32.not_lt.mpr c2))] at g
  · rwa [ov_bt ⟨Int32.not_lt.mp c, Int32.not_le.mp c2⟩] at g
def sp_mq_Mod_isThing : List (Nat × List Bool) := []
theorem r_Mod_isThing_0 {d a b : Nat} {S : ov_S} {Q : ov_Q} {v1 : Int32} (h : (v1 < 0 → Q (some (.inl 0)) S) ∧ (¬ v1 < 0 → (3 ≤ v1 → Q (some (.inl 0)) S) ∧ (¬ 3 ≤ v1 → Q (some (.inl 1)) S))) : ov_V true true d a b mq_Mod_isThing 0 [some (.inr (.inr (true, 14, 0))), some (.inl v1)] [] S Q := ov_run sp_mq_Mod_isThing 400 ⟨fun c1 => ⟨Or.inl rfl, (h.1 c1)⟩, fun c1 => ⟨fun c2 => ⟨Or.inl rfl, ((h.2 c1).1 c2)⟩, fun c2 => ⟨Or.inr rfl, ((h.2 c1).2 c2)⟩⟩⟩
theorem pu_mq_Mod_isThing {d : Nat} {S : ov_S} {Q : ov_Q} {v : Int32} (hd : 0 ≤ d) (g : Q (some (.inl (ov_b (0 ≤ v ∧ v < 3)))) S) : ov_V true true d 0 0 mq_Mod_isThing 0 [some (.inr (.inr (true, 14, 0))), some (.inl v)] [] S Q := by
  refine r_Mod_isThing_0 ⟨fun c => ?_, fun c => ⟨fun c2 => ?_, fun c2 => ?_⟩⟩
  · rwa [ov_bf (fun q => absurd c (Int32.not_lt.mpr q.1))] at g
  · rwa [ov_bf (fun q => absurd q.2 (Int32.not_lt.mpr c2))] at g
  · rwa [ov_bt ⟨Int32.not_lt.mp c, Int32.not_le.mp c2⟩] at g
def sp_mq_Mod_isFact : List (Nat × List Bool) := []
theorem r_Mod_isFact_0 {d a b : Nat} {S : ov_S} {Q : ov_Q} {v1 : Int32} (h : (v1 < 0 → Q (some (.inl 0)) S) ∧ (¬ v1 < 0 → (10 ≤ v1 → Q (some (.inl 0)) S) ∧ (¬ 10 ≤ v1 → Q (some (.inl 1)) S))) : ov_V true true d a b mq_Mod_isFact 0 [some (.inr (.inr (true, 14, 0))), some (.inl v1)] [] S Q := ov_run sp_mq_Mod_isFact 400 ⟨fun c1 => ⟨Or.inl rfl, (h.1 c1)⟩, fun c1 => ⟨fun c2 => ⟨Or.inl rfl, ((h.2 c1).1 c2)⟩, fun c2 => ⟨Or.inr rfl, ((h.2 c1).2 c2)⟩⟩⟩
theorem pu_mq_Mod_isFact {d : Nat} {S : ov_S} {Q : ov_Q} {v : Int32} (hd : 0 ≤ d) (g : Q (some (.inl (ov_b (0 ≤ v ∧ v < 10)))) S) : ov_V true true d 0 0 mq_Mod_isFact 0 [some (.inr (.inr (true, 14, 0))), some (.inl v)] [] S Q := by
  refine r_Mod_isFact_0 ⟨fun c => ?_, fun c => ⟨fun c2 => ?_, fun c2 => ?_⟩⟩
  · rwa [ov_bf (fun q => absurd c (Int32.not_lt.mpr q.1))] at g
  · rwa [ov_bf (fun q => absurd q.2 (Int32.not_lt.mpr c2))] at g
  · rwa [ov_bt ⟨Int32.not_lt.mp c, Int32.not_le.mp c2⟩] at g
def sp_mq_Mod_isLetter : List (Nat × List Bool) := [(9, [true, true]), (21, [false, false])]
theorem r_Mod_isLetter_0 {d a b : Nat} {S : ov_S} {Q : ov_Q} {v1 : Int32} (hd : 1 ≤ d) (h : ((97 ≤ v1 ∧ v1 ≤ 122) → Q (some (.inl 1)) S) ∧ (¬ (97 ≤ v1 ∧ v1 ≤ 122) → (¬ (65 ≤ v1 ∧ v1 ≤ 90) → Q (some (.inl 0)) S) ∧ ((65 ≤ v1 ∧ v1 ≤ 90) → Q (some (.inl 1)) S))) : ov_V true true d a b mq_Mod_isLetter 0 [some (.inr (.inr (true, 14, 0))), some (.inl v1)] [] S Q := ov_run sp_mq_Mod_isLetter 400 ⟨by omega, pu_mq_Mod_isIn (by omega) (ov_run sp_mq_Mod_isLetter 400 ⟨fun c1 => ⟨Or.inr rfl, (h.1 (ov_b1 c1))⟩, fun c1 => ⟨by omega, pu_mq_Mod_isIn (by omega) (ov_run sp_mq_Mod_isLetter 400 ⟨fun c2 => ⟨Or.inl rfl, ((h.2 (ov_b2 c1)).1 (ov_b0 c2))⟩, fun c2 => ⟨Or.inr rfl, ((h.2 (ov_b2 c1)).2 (ov_b1 c2))⟩⟩)⟩⟩)⟩
theorem pu_mq_Mod_isLetter {d : Nat} {S : ov_S} {Q : ov_Q} {v : Int32} (hd : 1 ≤ d) (g : Q (some (.inl (ov_b ((97 ≤ v ∧ v ≤ 122) ∨ (65 ≤ v ∧ v ≤ 90))))) S) : ov_V true true d 0 0 mq_Mod_isLetter 0 [some (.inr (.inr (true, 14, 0))), some (.inl v)] [] S Q := by
  refine r_Mod_isLetter_0 hd ⟨fun c => ?_, fun c => ⟨fun c2 => ?_, fun c2 => ?_⟩⟩
  · rwa [ov_bt (Or.inl c)] at g
  · rwa [ov_bf (fun q => q.elim c c2)] at g
  · rwa [ov_bt (Or.inr c2)] at g
def sp_mq_Mod_isDigit : List (Nat × List Bool) := [(9, [false, false])]
theorem r_Mod_isDigit_0 {d a b : Nat} {S : ov_S} {Q : ov_Q} {v1 : Int32} (hd : 1 ≤ d) (h : Q (some (.inl (ov_b (48 ≤ v1 ∧ v1 ≤ 57)))) S) : ov_V true true d a b mq_Mod_isDigit 0 [some (.inr (.inr (true, 14, 0))), some (.inl v1)] [] S Q := ov_run sp_mq_Mod_isDigit 400 ⟨by omega, pu_mq_Mod_isIn (by omega) (ov_run sp_mq_Mod_isDigit 400 ⟨ov_b01 _, h⟩)⟩
theorem pu_mq_Mod_isDigit {d : Nat} {S : ov_S} {Q : ov_Q} {v : Int32} (hd : 1 ≤ d) (g : Q (some (.inl (ov_b (48 ≤ v ∧ v ≤ 57)))) S) : ov_V true true d 0 0 mq_Mod_isDigit 0 [some (.inr (.inr (true, 14, 0))), some (.inl v)] [] S Q := by
  exact r_Mod_isDigit_0 hd g
def sp_mq_Mod_memberOf : List (Nat × List Bool) := []
theorem r_Mod_memberOf_0 {d a b : Nat} {S : ov_S} {Q : ov_Q} {v1 : Int32} {v2 : Int32} (h : (¬ v2 = 0 → (¬ v2 = 1 → Q (some (.inl (v1 - v1 / 3 * 3))) S) ∧ (v2 = 1 → Q (some (.inl ((v1 / 3) - (v1 / 3) / 3 * 3))) S)) ∧ (v2 = 0 → Q (some (.inl (v1 / 9))) S)) : ov_V true true d a b mq_Mod_memberOf 0 [some (.inr (.inr (true, 14, 0))), some (.inl v1), some (.inl v2)] [] S Q := ov_run sp_mq_Mod_memberOf 400 ⟨fun c1 => ⟨fun c2 => ⟨by decide, ((h.1 c1).1 c2)⟩, fun c2 => ⟨by decide, ⟨by decide, ((h.1 c1).2 (Decidable.not_not.mp c2))⟩⟩⟩, fun c1 => ⟨by decide, (h.2 (Decidable.not_not.mp c1))⟩⟩
theorem pu_mq_Mod_memberOf {d : Nat} {S : ov_S} {Q : ov_Q} {v x : Int32} (hd : 0 ≤ d) (g : Q (some (.inl (ov_mem v x))) S) : ov_V true true d 0 0 mq_Mod_memberOf 0 [some (.inr (.inr (true, 14, 0))), some (.inl v), some (.inl x)] [] S Q := by
  refine r_Mod_memberOf_0 ⟨fun c => ⟨fun c2 => ?_, fun c2 => ?_⟩, fun c => ?_⟩
  · rwa [ov_mem, if_neg c, if_neg c2] at g
  · rwa [ov_mem, if_neg c, if_pos c2] at g
  · rwa [ov_mem, if_pos c] at g
def sp_mq_Mod_movedTo : List (Nat × List Bool) := [(8, [false, false, true, false])]
theorem r_Mod_movedTo_0 {d a b : Nat} {S : ov_S} {Q : ov_Q} {v1 : Int32} {v2 : Int32} {v3 : Int32} (hd : 1 ≤ d) (h : (¬ v2 = 0 → (¬ v2 = 1 → Q (some (.inl (v1 + ((v3 - (ov_mem v1 v2)) * 1)))) S) ∧ (v2 = 1 → Q (some (.inl (v1 + ((v3 - (ov_mem v1 v2)) * 3)))) S)) ∧ (v2 = 0 → Q (some (.inl (v1 + ((v3 - (ov_mem v1 v2)) * 9)))) S)) : ov_V true true d a b mq_Mod_movedTo 0 [some (.inr (.inr (true, 14, 0))), some (.inl v1), some (.inl v2), some (.inl v3)] [] S Q := ov_run sp_mq_Mod_movedTo 400 ⟨by omega, pu_mq_Mod_memberOf (by omega) (ov_run sp_mq_Mod_movedTo 400 ⟨fun c1 => ⟨fun c2 => ((h.1 c1).1 c2), fun c2 => ((h.1 c1).2 (Decidable.not_not.mp c2))⟩, fun c1 => (h.2 (Decidable.not_not.mp c1))⟩)⟩
theorem pu_mq_Mod_movedTo {d : Nat} {S : ov_S} {Q : ov_Q} {v x m : Int32} (hd : 1 ≤ d) (g : Q (some (.inl (ov_mov v x m))) S) : ov_V true true d 0 0 mq_Mod_movedTo 0 [some (.inr (.inr (true, 14, 0))), some (.inl v), some (.inl x), some (.inl m)] [] S Q := by
  refine r_Mod_movedTo_0 hd ⟨fun c => ⟨fun c2 => ?_, fun c2 => ?_⟩, fun c => ?_⟩
  · rwa [ov_mov, if_neg c, if_neg c2] at g
  · rwa [ov_mov, if_neg c, if_pos c2] at g
  · rwa [ov_mov, if_pos c] at g
def sp_mq_Mod_stateOf : List (Nat × List Bool) := []
theorem r_Mod_stateOf_0 {d a b : Nat} {S : ov_S} {Q : ov_Q} {v1 : Int32} {v2 : Int32} {v3 : Int32} (h : Q (some (.inl (((729 * v3) + (27 * v1)) + v2))) S) : ov_V true true d a b mq_Mod_stateOf 0 [some (.inr (.inr (true, 14, 0))), some (.inl v1), some (.inl v2), some (.inl v3)] [] S Q := ov_run sp_mq_Mod_stateOf 400 h
theorem pu_mq_Mod_stateOf {d : Nat} {S : ov_S} {Q : ov_Q} {v x m : Int32} (hd : 0 ≤ d) (g : Q (some (.inl (729 * m + 27 * v + x))) S) : ov_V true true d 0 0 mq_Mod_stateOf 0 [some (.inr (.inr (true, 14, 0))), some (.inl v), some (.inl x), some (.inl m)] [] S Q := by
  exact r_Mod_stateOf_0 g
def sp_mq_Mod_thing : List (Nat × List Bool) := []
theorem r_Mod_thing_0 {d a b : Nat} {S : ov_S} {Q : ov_Q} {v1 : Int32} {v2 : Int32} (h : ov_ib ((3 * v1) + v2) 12 ∧ (Q (some (.inl (ov_g S 62 0 (ov_ix ((3 * v1) + v2))))) S)) : ov_V true true d a b mq_Mod_thing 0 [some (.inr (.inr (true, 14, 0))), some (.inl v1), some (.inl v2)] [] S Q := ov_run sp_mq_Mod_thing 400 ⟨h.1, h.2⟩
theorem pu_mq_Mod_thing {d : Nat} {S : ov_S} {Q : ov_Q} {v x : Int32} (hd : 0 ≤ d) (hp : ov_ib (3 * v + x) 12) (g : Q (some (.inl (ov_g S 62 0 (ov_ix (3 * v + x))))) S) : ov_V true true d 0 0 mq_Mod_thing 0 [some (.inr (.inr (true, 14, 0))), some (.inl v), some (.inl x)] [] S Q := by
  exact r_Mod_thing_0 ⟨hp, g⟩
def sp_mq_Mod_holder : List (Nat × List Bool) := [(6, [true, true, true]), (19, [false, false, false])]
theorem r_Mod_holder_0 {d a b : Nat} {S : ov_S} {Q : ov_Q} {v1 : Int32} {v2 : Int32} (hd : 1 ≤ d) (h : ov_ib (3 * v1 + v2) 12 ∧ ((3 ≤ (ov_g S 62 0 (ov_ix (3 * v1 + v2))) → Q (some (.inl (-1))) S) ∧ (¬ 3 ≤ (ov_g S 62 0 (ov_ix (3 * v1 + v2))) → ov_ib (3 * v1 + v2) 12 ∧ (Q (some (.inl ((3 * v1) + (ov_g S 62 0 (ov_ix (3 * v1 + v2)))))) S)))) : ov_V true true d a b mq_Mod_holder 0 [some (.inr (.inr (true, 14, 0))), some (.inl v1), some (.inl v2)] [] S Q := ov_run sp_mq_Mod_holder 400 ⟨by omega, pu_mq_Mod_thing (by omega) h.1 (ov_run sp_mq_Mod_holder 400 ⟨fun c1 => (h.2.1 c1), fun c1 => ⟨by omega, pu_mq_Mod_thing (by omega) (h.2.2 c1).1 (ov_run sp_mq_Mod_holder 400 (h.2.2 c1).2)⟩⟩)⟩
theorem pu_mq_Mod_holder {d : Nat} {S : ov_S} {Q : ov_Q} {v x : Int32} (hd : 1 ≤ d) (hp : ov_ib (3 * v + x) 12) (g : Q (some (.inl (ov_hol S v x))) S) : ov_V true true d 0 0 mq_Mod_holder 0 [some (.inr (.inr (true, 14, 0))), some (.inl v), some (.inl x)] [] S Q := by
  refine r_Mod_holder_0 hd ⟨hp, fun c => ?_, fun c => ⟨hp, ?_⟩⟩
  · rwa [ov_hol, if_neg (Int32.not_lt.mpr c)] at g
  · rwa [ov_hol, if_pos (Int32.not_le.mp c)] at g
def sp_mq_Mod_raw : List (Nat × List Bool) := []
theorem r_Mod_raw_0 {d a b : Nat} {S : ov_S} {Q : ov_Q} {v1 : Int32} (h : ((ov_g S 14 0 34) ≤ v1 → Q (some (.inl (-1))) S) ∧ (¬ (ov_g S 14 0 34) ≤ v1 → ov_ib v1 400 ∧ (Q (some (.inl (ov_g S 84 0 (ov_ix v1)))) S))) : ov_V true true d a b mq_Mod_raw 0 [some (.inr (.inr (true, 14, 0))), some (.inl v1)] [] S Q := ov_run sp_mq_Mod_raw 400 ⟨fun c1 => (h.1 c1), fun c1 => ⟨(h.2 c1).1, (h.2 c1).2⟩⟩
theorem pu_mq_Mod_raw {d : Nat} {S : ov_S} {Q : ov_Q} {v : Int32} (hd : 0 ≤ d) (hp : v < ov_g S 14 0 34 → ov_ib v 400) (g : Q (some (.inl (ov_raw S v))) S) : ov_V true true d 0 0 mq_Mod_raw 0 [some (.inr (.inr (true, 14, 0))), some (.inl v)] [] S Q := by
  refine r_Mod_raw_0 ⟨fun c => ?_, fun c => ⟨hp (Int32.not_le.mp c), ?_⟩⟩
  · rwa [ov_raw, if_neg (Int32.not_lt.mpr c)] at g
  · rwa [ov_raw, if_pos (Int32.not_le.mp c)] at g
def sp_mq_Reader_sortOf : List (Nat × List Bool) := [(22, [true]), (33, [true]), (46, [false])]
theorem r_Reader_sortOf_0 {d a b : Nat} {S : ov_S} {Q : ov_Q} {v0 : Int32} (hd : 1 ≤ d) (h : (v0 = 32 → Q (some (.inl 0)) S) ∧ (¬ v0 = 32 → (¬ v0 = 10 → ((97 ≤ v0 ∧ v0 ≤ 122) → Q (some (.inl 1)) S) ∧ (¬ (97 ≤ v0 ∧ v0 ≤ 122) → (¬ (65 ≤ v0 ∧ v0 ≤ 90) → (¬ (48 ≤ v0 ∧ v0 ≤ 57) → Q (some (.inl 3)) S) ∧ ((48 ≤ v0 ∧ v0 ≤ 57) → Q (some (.inl 2)) S)) ∧ ((65 ≤ v0 ∧ v0 ≤ 90) → Q (some (.inl 1)) S))) ∧ (v0 = 10 → Q (some (.inl 0)) S))) : ov_V true true d a b mq_Reader_sortOf 0 [some (.inl v0)] [] S Q := ov_run sp_mq_Reader_sortOf 400 ⟨fun c1 => (h.1 c1), fun c1 => ⟨fun c2 => ⟨by omega, pu_mq_Eye_within (by omega) (ov_run sp_mq_Reader_sortOf 400 ⟨fun c3 => (((h.2 c1).1 c2).1 (ov_b1 c3)), fun c3 => ⟨by omega, pu_mq_Eye_within (by omega) (ov_run sp_mq_Reader_sortOf 400 ⟨fun c4 => ⟨by omega, pu_mq_Eye_within (by omega) (ov_run sp_mq_Reader_sortOf 400 ⟨fun c5 => (((((h.2 c1).1 c2).2 (ov_b2 c3)).1 (ov_b0 c4)).1 (ov_b0 c5)), fun c5 => (((((h.2 c1).1 c2).2 (ov_b2 c3)).1 (ov_b0 c4)).2 (ov_b1 c5))⟩)⟩, fun c4 => ((((h.2 c1).1 c2).2 (ov_b2 c3)).2 (ov_b1 c4))⟩)⟩⟩)⟩, fun c2 => ((h.2 c1).2 (Decidable.not_not.mp c2))⟩⟩
theorem pu_mq_Reader_sortOf {d : Nat} {S : ov_S} {Q : ov_Q} {v : Int32} (hd : 1 ≤ d) (g : Q (some (.inl (ov_sort v))) S) : ov_V true true d 0 0 mq_Reader_sortOf 0 [some (.inl v)] [] S Q := by
  refine r_Reader_sortOf_0 hd ⟨fun c => ?_, fun c => ⟨fun c2 => ⟨fun c3 => ?_, fun c3 => ⟨fun c4 => ⟨fun c5 => ?_, fun c5 => ?_⟩, fun c4 => ?_⟩⟩, fun c2 => ?_⟩⟩
  · rwa [ov_sort, if_pos (Or.inl c)] at g
  · rwa [ov_sort, if_neg (fun q => q.elim c c2), if_pos (Or.inl c3)] at g
  · rwa [ov_sort, if_neg (fun q => q.elim c c2), if_neg (fun q => q.elim c3 c4), if_neg c5] at g
  · rwa [ov_sort, if_neg (fun q => q.elim c c2), if_neg (fun q => q.elim c3 c4), if_pos c5] at g
  · rwa [ov_sort, if_neg (fun q => q.elim c c2), if_pos (Or.inr c4)] at g
  · rwa [ov_sort, if_pos (Or.inr c2)] at g
def sp_mq_Reader_signAt : List (Nat × List Bool) := []
theorem r_Reader_signAt_0 {d a b : Nat} {S : ov_S} {Q : ov_Q} {v1 : Int32} (h : (v1 < 0 → Q (some (.inl (-1))) S) ∧ (¬ v1 < 0 → ((ov_g S 9 0 1) ≤ v1 → Q (some (.inl (-1))) S) ∧ (¬ (ov_g S 9 0 1) ≤ v1 → (400 ≤ v1 → Q (some (.inl (-1))) S) ∧ (¬ 400 ≤ v1 → ov_ib v1 400 ∧ (Q (some (.inl (ov_g S 45 0 (ov_ix v1)))) S))))) : ov_V true true d a b mq_Reader_signAt 0 [some (.inr (.inr (true, 9, 0))), some (.inl v1)] [] S Q := ov_run sp_mq_Reader_signAt 400 ⟨fun c1 => (h.1 c1), fun c1 => ⟨fun c2 => ((h.2 c1).1 c2), fun c2 => ⟨fun c3 => (((h.2 c1).2 c2).1 c3), fun c3 => ⟨(((h.2 c1).2 c2).2 c3).1, (((h.2 c1).2 c2).2 c3).2⟩⟩⟩⟩
theorem pu_mq_Reader_signAt {d : Nat} {S : ov_S} {Q : ov_Q} {v : Int32} (hd : 0 ≤ d) (g : Q (some (.inl (ov_sign S v))) S) : ov_V true true d 0 0 mq_Reader_signAt 0 [some (.inr (.inr (true, 9, 0))), some (.inl v)] [] S Q := by
  refine r_Reader_signAt_0 ⟨fun c => ?_, fun c => ⟨fun c2 => ?_, fun c2 => ⟨fun c3 => ?_, fun c3 => ⟨ov_ib_lt c c3 (by decide), ?_⟩⟩⟩⟩
  · rwa [ov_sign, if_neg (fun q => absurd c (Int32.not_lt.mpr q.1))] at g
  · rwa [ov_sign, if_neg (fun q => absurd q.2.1 (Int32.not_lt.mpr c2))] at g
  · rwa [ov_sign, if_neg (fun q => absurd q.2.2 (Int32.not_lt.mpr c3))] at g
  · rwa [ov_sign, if_pos ⟨Int32.not_lt.mp c, Int32.not_le.mp c2, Int32.not_le.mp c3⟩] at g
def sp_mq_Reader_mostOf : List (Nat × List Bool) := []
theorem r_Reader_mostOf_0 {d a b : Nat} {S : ov_S} {Q : ov_Q} {v0 : Int32} (h : (Int32.toInt v0 = 0 → Q (some (.inl 2)) S) ∧ (¬ Int32.toInt v0 = 0 → (Int32.toInt v0 = 4 → Q (some (.inl 99)) S) ∧ (¬ Int32.toInt v0 = 4 → (Int32.toInt v0 = 5 → Q (some (.inl 8)) S) ∧ (¬ Int32.toInt v0 = 5 → Q (some (.inl 9)) S)))) : ov_V true true d a b mq_Reader_mostOf 0 [some (.inl v0)] [] S Q := ov_run sp_mq_Reader_mostOf 400 ⟨fun c3 => (h.1 c3), fun c3 => ⟨fun c2 => ((h.2 c3).1 c2), fun c2 => ⟨fun c1 => (((h.2 c3).2 c2).1 c1), fun c1 => (((h.2 c3).2 c2).2 c1)⟩⟩⟩
theorem pu_mq_Reader_mostOf {d : Nat} {S : ov_S} {Q : ov_Q} {v : Int32} (hd : 0 ≤ d) (g : Q (some (.inl (ov_most v))) S) : ov_V true true d 0 0 mq_Reader_mostOf 0 [some (.inl v)] [] S Q := by
  have e : ∀ k : Int32, Int32.toInt v = Int32.toInt k ↔ v = k := fun k => Int32.toInt_inj
  have e0 := e 0
  have e4 := e 4
  have e5 := e 5
  refine r_Reader_mostOf_0 ⟨fun c => ?_, fun c => ⟨fun c2 => ?_, fun c2 => ⟨fun c3 => ?_, fun c3 => ?_⟩⟩⟩
  · rwa [ov_most, if_pos (e0.mp c)] at g
  · rwa [ov_most, if_neg (fun q => c (e0.mpr q)), if_pos (e4.mp c2)] at g
  · rwa [ov_most, if_neg (fun q => c (e0.mpr q)), if_neg (fun q => c2 (e4.mpr q)), if_pos (e5.mp c3)] at g
  · rwa [ov_most, if_neg (fun q => c (e0.mpr q)), if_neg (fun q => c2 (e4.mpr q)), if_neg (fun q => c3 (e5.mpr q))] at g
def sp_mq_Reader_token : List (Nat × List Bool) := [(14, [true])]
theorem r_Reader_token_0 {d a b : Nat} {S : ov_S} {Q : ov_Q}  (hd : 1 ≤ d) (h : (¬ (0 ≤ (ov_g S 9 0 9) ∧ (ov_g S 9 0 9) ≤ ((ov_g S 9 0 8) - 1)) → Q (some (.inl 12)) S) ∧ ((0 ≤ (ov_g S 9 0 9) ∧ (ov_g S 9 0 9) ≤ ((ov_g S 9 0 8) - 1)) → ov_ib (ov_g S 9 0 9) 401 ∧ (Q (some (.inl (ov_g S 46 0 (ov_ix (ov_g S 9 0 9))))) S))) : ov_V true true d a b mq_Reader_token 0 [some (.inr (.inr (true, 9, 0)))] [] S Q := ov_run sp_mq_Reader_token 400 ⟨by omega, pu_mq_Eye_within (by omega) (ov_run sp_mq_Reader_token 400 ⟨fun c1 => (h.1 (ov_b0 c1)), fun c1 => ⟨(h.2 (ov_b1 c1)).1, (h.2 (ov_b1 c1)).2⟩⟩)⟩
theorem pu_mq_Reader_token {d : Nat} {S : ov_S} {Q : ov_Q}  (hd : 1 ≤ d) (hp : 0 ≤ ov_g S 9 0 9 ∧ ov_g S 9 0 9 ≤ ov_g S 9 0 8 - 1 → ov_ib (ov_g S 9 0 9) 401) (g : Q (some (.inl (ov_tok S))) S) : ov_V true true d 0 0 mq_Reader_token 0 [some (.inr (.inr (true, 9, 0)))] [] S Q := by
  refine r_Reader_token_0 hd ⟨fun c => ?_, fun c => ⟨hp c, ?_⟩⟩
  · rwa [ov_tok, if_neg c] at g
  · rwa [ov_tok, if_pos c] at g
def sp_mq_Three_placeOf : List (Nat × List Bool) := [(6, [true, true])]
theorem r_Three_placeOf_0 {d a b : Nat} {S : ov_S} {Q : ov_Q} {nv0 : Nat} {v1 : Int32} (hd : 1 ≤ d) (h : (¬ (0 ≤ v1 ∧ v1 ≤ 2) → Q (some (.inl (-1))) S) ∧ ((0 ≤ v1 ∧ v1 ≤ 2) → ov_ib v1 3 ∧ (Q (some (.inl (ov_g S 34 nv0 (ov_ix v1)))) S))) : ov_V true true d a b mq_Three_placeOf 0 [some (.inr (.inr (true, 6, nv0))), some (.inl v1)] [] S Q := ov_run sp_mq_Three_placeOf 400 ⟨by omega, pu_mq_Eye_within (by omega) (ov_run sp_mq_Three_placeOf 400 ⟨fun c1 => (h.1 (ov_b0 c1)), fun c1 => ⟨(h.2 (ov_b1 c1)).1, (h.2 (ov_b1 c1)).2⟩⟩)⟩
theorem pu_mq_Three_placeOf {d : Nat} {S : ov_S} {Q : ov_Q} {i : Nat} {v : Int32} (hd : 1 ≤ d) (g : Q (some (.inl (ov_plc S i v))) S) : ov_V true true d 0 0 mq_Three_placeOf 0 [some (.inr (.inr (true, 6, i))), some (.inl v)] [] S Q := by
  refine r_Three_placeOf_0 hd ⟨fun c => ?_, fun c => ⟨ov_ib_le c.1 c.2 (by decide), ?_⟩⟩
  · rwa [ov_plc, if_neg c] at g
  · rwa [ov_plc, if_pos c] at g
def sp_mq_Three_holderOf : List (Nat × List Bool) := [(6, [true, true, false]), (20, [true, true, false]), (27, [true, true, false]), (28, [true, true, false])]
theorem r_Three_holderOf_0 {d a b : Nat} {S : ov_S} {Q : ov_Q} {nv0 : Nat} {v1 : Int32} (hd : 1 ≤ d) (h : (¬ (0 ≤ v1 ∧ v1 ≤ 2) → ov_V true true d a b mq_Three_holderOf 27 [some (.inr (.inr (true, 6, nv0))), some (.inl v1), none] [] S Q) ∧ ((0 ≤ v1 ∧ v1 ≤ 2) → ov_ib v1 3 ∧ ((¬ (0 ≤ (ov_g S 34 nv0 (ov_ix v1)) ∧ (ov_g S 34 nv0 (ov_ix v1)) ≤ 2) → ov_V true true d a b mq_Three_holderOf 27 [some (.inr (.inr (true, 6, nv0))), some (.inl v1), none] [] S Q) ∧ ((0 ≤ (ov_g S 34 nv0 (ov_ix v1)) ∧ (ov_g S 34 nv0 (ov_ix v1)) ≤ 2) → ov_V true true d a b mq_Three_holderOf 28 [some (.inr (.inr (true, 6, nv0))), some (.inl v1), none] [.inl 1] S Q)))) : ov_V true true d a b mq_Three_holderOf 0 [some (.inr (.inr (true, 6, nv0))), some (.inl v1), none] [] S Q := ov_run sp_mq_Three_holderOf 400 ⟨by omega, pu_mq_Eye_within (by omega) (ov_run sp_mq_Three_holderOf 400 ⟨fun c1 => (h.1 (ov_b0 c1)), fun c1 => ⟨(h.2 (ov_b1 c1)).1, ⟨by omega, pu_mq_Eye_within (by omega) (ov_run sp_mq_Three_holderOf 400 ⟨fun c2 => ((h.2 (ov_b1 c1)).2.1 (ov_b0 c2)), fun c2 => ((h.2 (ov_b1 c1)).2.2 (ov_b1 c2))⟩)⟩⟩⟩)⟩
theorem r_Three_holderOf_27 {d a b : Nat} {S : ov_S} {Q : ov_Q} {nv0 : Nat} {v1 : Int32} (h : ov_V true true d a b mq_Three_holderOf 28 [some (.inr (.inr (true, 6, nv0))), some (.inl v1), none] [.inl 0] S Q) : ov_V true true d a b mq_Three_holderOf 27 [some (.inr (.inr (true, 6, nv0))), some (.inl v1), none] [] S Q := ov_run sp_mq_Three_holderOf 400 h
theorem r_Three_holderOf_28 {d a b : Nat} {S : ov_S} {Q : ov_Q} {nv0 : Nat} {v1 : Int32} (h : ov_ib v1 3 ∧ (Q (some (.inl (ov_g S 34 nv0 (ov_ix v1)))) S)) : ov_V true true d a b mq_Three_holderOf 28 [some (.inr (.inr (true, 6, nv0))), some (.inl v1), none] [.inl 1] S Q := ov_run sp_mq_Three_holderOf 400 ⟨fun c3 => absurd c3 (by decide), fun _ => ⟨h.1, h.2⟩⟩
theorem r_Three_holderOf_28_2 {d a b : Nat} {S : ov_S} {Q : ov_Q} {nv0 : Nat} {v1 : Int32} (h : Q (some (.inl (-1))) S) : ov_V true true d a b mq_Three_holderOf 28 [some (.inr (.inr (true, 6, nv0))), some (.inl v1), none] [.inl 0] S Q := ov_run sp_mq_Three_holderOf 400 ⟨fun _ => h, fun c4 => absurd (by decide) c4⟩
theorem pu_mq_Three_holderOf {d : Nat} {S : ov_S} {Q : ov_Q} {i : Nat} {v : Int32} (hd : 1 ≤ d) (g : Q (some (.inl (ov_hof S i v))) S) : ov_V true true d 0 0 mq_Three_holderOf 0 [some (.inr (.inr (true, 6, i))), some (.inl v), none] [] S Q := by
  refine r_Three_holderOf_0 hd ⟨fun c => r_Three_holderOf_27 (r_Three_holderOf_28_2 ?_), fun c => ⟨ov_ib_le c.1 c.2 (by decide), fun c2 => r_Three_holderOf_27 (r_Three_holderOf_28_2 ?_), fun c2 => r_Three_holderOf_28 ⟨ov_ib_le c.1 c.2 (by decide), ?_⟩⟩⟩
  · rwa [ov_hof, if_neg (fun q => c q.1)] at g
  · rwa [ov_hof, if_neg (fun q => c2 q.2)] at g
  · rwa [ov_hof, if_pos ⟨c, c2⟩] at g
def sp_mq_Three_settledPlaceOf : List (Nat × List Bool) := [(5, [true, true, false]), (21, [false, false, false]), (28, [false, false, true])]
theorem r_Three_settledPlaceOf_0 {d a b : Nat} {S : ov_S} {Q : ov_Q} {nv0 : Nat} {v1 : Int32} (hd : 2 ≤ d) (h : (¬ (ov_plc S nv0 v1) = 3 → (¬ (0 ≤ (ov_plc S nv0 v1) ∧ (ov_plc S nv0 v1) ≤ 2) → Q (some (.inl 0)) S) ∧ ((0 ≤ (ov_plc S nv0 v1) ∧ (ov_plc S nv0 v1) ≤ 2) → Q (some (.inl (ov_plc S nv0 v1))) S)) ∧ ((ov_plc S nv0 v1) = 3 → ov_V true true d a b mq_Three_settledPlaceOf 21 [none, none, none] [.inl (ov_g S 6 nv0 11)] S Q)) : ov_V true true d a b mq_Three_settledPlaceOf 0 [some (.inr (.inr (true, 6, nv0))), some (.inl v1), none] [] S Q := ov_run sp_mq_Three_settledPlaceOf 400 ⟨by omega, pu_mq_Three_placeOf (by omega) (ov_run sp_mq_Three_settledPlaceOf 400 ⟨fun c1 => ⟨by omega, pu_mq_Three_placeOf (by omega) (ov_run sp_mq_Three_settledPlaceOf 400 ⟨by omega, pu_mq_Eye_within (by omega) (ov_run sp_mq_Three_settledPlaceOf 400 ⟨fun c2 => ((h.1 c1).1 (ov_b0 c2)), fun c2 => ((h.1 c1).2 (ov_b1 c2))⟩)⟩)⟩, fun c1 => (h.2 (Decidable.not_not.mp c1))⟩)⟩
theorem r_Three_settledPlaceOf_21 {d a b : Nat} {S : ov_S} {Q : ov_Q} {s0 : Int32} (hd : 1 ≤ d) (h : (¬ (0 ≤ s0 ∧ s0 ≤ 2) → Q (some (.inl 0)) S) ∧ ((0 ≤ s0 ∧ s0 ≤ 2) → Q (some (.inl s0)) S)) : ov_V true true d a b mq_Three_settledPlaceOf 21 [none, none, none] [.inl s0] S Q := ov_run sp_mq_Three_settledPlaceOf 400 ⟨by omega, pu_mq_Eye_within (by omega) (ov_run sp_mq_Three_settledPlaceOf 400 ⟨fun c3 => (h.1 (ov_b0 c3)), fun c3 => (h.2 (ov_b1 c3))⟩)⟩
theorem pu_mq_Three_settledPlaceOf {d : Nat} {S : ov_S} {Q : ov_Q} {i : Nat} {v : Int32} (hd : 2 ≤ d) (g : Q (some (.inl (ov_stp S i v))) S) : ov_V true true d 0 0 mq_Three_settledPlaceOf 0 [some (.inr (.inr (true, 6, i))), some (.inl v), none] [] S Q := by
  refine r_Three_settledPlaceOf_0 hd ⟨fun c => ⟨fun c2 => ?_, fun c2 => ?_⟩, fun c => r_Three_settledPlaceOf_21 (by omega) ⟨fun c2 => ?_, fun c2 => ?_⟩⟩
  · rwa [ov_stp, if_neg c, ov_st2, if_neg c2] at g
  · rwa [ov_stp, if_neg c, ov_st2, if_pos c2] at g
  · rwa [ov_stp, if_pos c, ov_st2, if_neg c2] at g
  · rwa [ov_stp, if_pos c, ov_st2, if_pos c2] at g
def sp_mq_Three_mouthAndEar : List (Nat × List Bool) := [(6, [true]), (12, [false])]
theorem r_Three_mouthAndEar_0 {d a b : Nat} {S : ov_S} {Q : ov_Q} {nv0 : Nat} (hd : 3 ≤ d) (h : Q (some (.inl ((3 * (ov_stp S nv0 2)) + (ov_stp S nv0 1)))) S) : ov_V true true d a b mq_Three_mouthAndEar 0 [some (.inr (.inr (true, 6, nv0)))] [] S Q := ov_run sp_mq_Three_mouthAndEar 400 ⟨by omega, pu_mq_Three_settledPlaceOf (by omega) (ov_run sp_mq_Three_mouthAndEar 400 ⟨by omega, pu_mq_Three_settledPlaceOf (by omega) (ov_run sp_mq_Three_mouthAndEar 400 h)⟩)⟩
theorem pu_mq_Three_mouthAndEar {d : Nat} {S : ov_S} {Q : ov_Q} {i : Nat} (hd : 3 ≤ d) (g : Q (some (.inl (3 * ov_stp S i 2 + ov_stp S i 1))) S) : ov_V true true d 0 0 mq_Three_mouthAndEar 0 [some (.inr (.inr (true, 6, i)))] [] S Q := by
  exact r_Three_mouthAndEar_0 hd g
def sp_mq_Person_knowledgeOf : List (Nat × List Bool) := [(7, [true, true])]
theorem r_Person_knowledgeOf_0 {d a b : Nat} {S : ov_S} {Q : ov_Q} {nv0 : Nat} {v1 : Int32} (hd : 1 ≤ d) (h : (¬ (0 ≤ v1 ∧ v1 ≤ 9) → Q (some (.inl (-1))) S) ∧ ((0 ≤ v1 ∧ v1 ≤ 9) → ov_ib v1 10 ∧ (Q (some (.inl (ov_g S 35 nv0 (ov_ix v1)))) S))) : ov_V true true d a b mq_Person_knowledgeOf 0 [some (.inr (.inr (true, 7, nv0))), some (.inl v1)] [] S Q := ov_run sp_mq_Person_knowledgeOf 400 ⟨by omega, pu_mq_Eye_within (by omega) (ov_run sp_mq_Person_knowledgeOf 400 ⟨fun c1 => (h.1 (ov_b0 c1)), fun c1 => ⟨(h.2 (ov_b1 c1)).1, (h.2 (ov_b1 c1)).2⟩⟩)⟩
theorem pu_mq_Person_knowledgeOf {d : Nat} {S : ov_S} {Q : ov_Q} {i : Nat} {v : Int32} (hd : 1 ≤ d) (g : Q (some (.inl (ov_kno S i v))) S) : ov_V true true d 0 0 mq_Person_knowledgeOf 0 [some (.inr (.inr (true, 7, i))), some (.inl v)] [] S Q := by
  refine r_Person_knowledgeOf_0 hd ⟨fun c => ?_, fun c => ⟨ov_ib_le c.1 c.2 (by decide), ?_⟩⟩
  · rwa [ov_kno, if_neg c] at g
  · rwa [ov_kno, if_pos c] at g
def sp_mq_World_threeAt : List (Nat × List Bool) := [(11, [true, true]), (25, [false, false])]
theorem r_World_threeAt_0 {d a b : Nat} {S : ov_S} {Q : ov_Q} {nv0 : Nat} {v1 : Int32} (hd : 1 ≤ d) (h : (¬ (0 ≤ v1 ∧ v1 ≤ ((ov_g S 1 nv0 2) - 1)) → Q (some (.inr (.inr (false, 0, 0)))) S) ∧ ((0 ≤ v1 ∧ v1 ≤ ((ov_g S 1 nv0 2) - 1)) → (4 ≤ v1 → Q (some (.inr (.inr (false, 0, 0)))) S) ∧ (¬ 4 ≤ v1 → ov_ib v1 4 ∧ (ov_V true true d a b mq_World_threeAt 25 [none, none] [.inr (.inr ((ov_g S 2 nv0 (ov_ix v1) != 0), 6, (4 * nv0 + (ov_ix v1))))] S Q)))) : ov_V true true d a b mq_World_threeAt 0 [some (.inr (.inr (true, 1, nv0))), some (.inl v1)] [] S Q := ov_run sp_mq_World_threeAt 400 ⟨by omega, pu_mq_Eye_within (by omega) (ov_run sp_mq_World_threeAt 400 ⟨fun c1 => (h.1 (ov_b0 c1)), fun c1 => ⟨fun c2 => ((h.2 (ov_b1 c1)).1 c2), fun c2 => ⟨((h.2 (ov_b1 c1)).2 c2).1, ((h.2 (ov_b1 c1)).2 c2).2⟩⟩⟩)⟩
theorem r_World_threeAt_25 {d a b : Nat} {S : ov_S} {Q : ov_Q} {ns0 : Nat} (h : Q (some (.inr (.inr (true, 6, ns0)))) S) : ov_V true true d a b mq_World_threeAt 25 [none, none] [.inr (.inr (true, 6, ns0))] S Q := ov_run sp_mq_World_threeAt 400 h
theorem pu_mq_World_threeAt {d : Nat} {S : ov_S} {Q : ov_Q} {w : Nat} {t : Int32} (hd : 1 ≤ d) (hp : ((0 ≤ t ∧ t ≤ ov_g S 1 w 2 - 1) ∧ t < 4) → ov_g S 2 w (ov_ix t) ≠ 0) (g1 : ((0 ≤ t ∧ t ≤ ov_g S 1 w 2 - 1) ∧ t < 4) → Q (some (.inr (.inr (true, 6, 4 * w + ov_ix t)))) S) (g2 : ¬ ((0 ≤ t ∧ t ≤ ov_g S 1 w 2 - 1) ∧ t < 4) → Q (some (.inr (.inr (false, 0, 0)))) S) : ov_V true true d 0 0 mq_World_threeAt 0 [some (.inr (.inr (true, 1, w))), some (.inl t)] [] S Q := by
  refine r_World_threeAt_0 hd ⟨fun c => g2 (fun q => c q.1), fun c => ⟨fun c2 => g2 (fun q => absurd q.2 (Int32.not_lt.mpr c2)), fun c2 => ⟨ov_ib_lt (Int32.not_lt.mpr c.1) c2 (by decide), ?_⟩⟩⟩
  have h := hp ⟨c, Int32.not_le.mp c2⟩
  rw [show (ov_g S 2 w (ov_ix t) != 0) = true from by simpa using h]
  exact r_World_threeAt_25 (g1 ⟨c, Int32.not_le.mp c2⟩)
def sp_mq_World_personAt : List (Nat × List Bool) := [(13, [true, true]), (28, [false, false])]
theorem r_World_personAt_0 {d a b : Nat} {S : ov_S} {Q : ov_Q} {nv0 : Nat} {v1 : Int32} (hd : 1 ≤ d) (h : (¬ (0 ≤ v1 ∧ v1 ≤ ((3 * (ov_g S 1 nv0 2)) - 1)) → Q (some (.inr (.inr (false, 0, 0)))) S) ∧ ((0 ≤ v1 ∧ v1 ≤ ((3 * (ov_g S 1 nv0 2)) - 1)) → (12 ≤ v1 → Q (some (.inr (.inr (false, 0, 0)))) S) ∧ (¬ 12 ≤ v1 → ov_ib v1 12 ∧ (ov_V true true d a b mq_World_personAt 28 [none, none] [.inr (.inr ((ov_g S 3 nv0 (ov_ix v1) != 0), 7, (12 * nv0 + (ov_ix v1))))] S Q)))) : ov_V true true d a b mq_World_personAt 0 [some (.inr (.inr (true, 1, nv0))), some (.inl v1)] [] S Q := ov_run sp_mq_World_personAt 400 ⟨by omega, pu_mq_Eye_within (by omega) (ov_run sp_mq_World_personAt 400 ⟨fun c1 => (h.1 (ov_b0 c1)), fun c1 => ⟨fun c2 => ((h.2 (ov_b1 c1)).1 c2), fun c2 => ⟨((h.2 (ov_b1 c1)).2 c2).1, ((h.2 (ov_b1 c1)).2 c2).2⟩⟩⟩)⟩
theorem r_World_personAt_28 {d a b : Nat} {S : ov_S} {Q : ov_Q} {ns0 : Nat} (h : Q (some (.inr (.inr (true, 7, ns0)))) S) : ov_V true true d a b mq_World_personAt 28 [none, none] [.inr (.inr (true, 7, ns0))] S Q := ov_run sp_mq_World_personAt 400 h
theorem pu_mq_World_personAt {d : Nat} {S : ov_S} {Q : ov_Q} {w : Nat} {t : Int32} (hd : 1 ≤ d) (hp : ((0 ≤ t ∧ t ≤ 3 * ov_g S 1 w 2 - 1) ∧ t < 12) → ov_g S 3 w (ov_ix t) ≠ 0) (g1 : ((0 ≤ t ∧ t ≤ 3 * ov_g S 1 w 2 - 1) ∧ t < 12) → Q (some (.inr (.inr (true, 7, 12 * w + ov_ix t)))) S) (g2 : ¬ ((0 ≤ t ∧ t ≤ 3 * ov_g S 1 w 2 - 1) ∧ t < 12) → Q (some (.inr (.inr (false, 0, 0)))) S) : ov_V true true d 0 0 mq_World_personAt 0 [some (.inr (.inr (true, 1, w))), some (.inl t)] [] S Q := by
  refine r_World_personAt_0 hd ⟨fun c => g2 (fun q => c q.1), fun c => ⟨fun c2 => g2 (fun q => absurd q.2 (Int32.not_lt.mpr c2)), fun c2 => ⟨ov_ib_lt (Int32.not_lt.mpr c.1) c2 (by decide), ?_⟩⟩⟩
  have h := hp ⟨c, Int32.not_le.mp c2⟩
  rw [show (ov_g S 3 w (ov_ix t) != 0) = true from by simpa using h]
  exact r_World_personAt_28 (g1 ⟨c, Int32.not_le.mp c2⟩)
def sp_mq_World_personOf : List (Nat × List Bool) := [(11, [true, true, true, false]), (25, [true, true, true, false]), (32, [true, true, true, false]), (33, [true, true, true, false]), (48, [false, false, false, false])]
theorem r_World_personOf_0 {d a b : Nat} {S : ov_S} {Q : ov_Q} {nv0 : Nat} {v1 : Int32} {v2 : Int32} (hd : 1 ≤ d) (h : (¬ (0 ≤ v1 ∧ v1 ≤ ((ov_g S 1 nv0 2) - 1)) → ov_V true true d a b mq_World_personOf 32 [some (.inr (.inr (true, 1, nv0))), some (.inl v1), some (.inl v2), none] [] S Q) ∧ ((0 ≤ v1 ∧ v1 ≤ ((ov_g S 1 nv0 2) - 1)) → (4 ≤ v1 → ov_V true true d a b mq_World_personOf 32 [some (.inr (.inr (true, 1, nv0))), some (.inl v1), some (.inl v2), none] [] S Q) ∧ (¬ 4 ≤ v1 → (¬ (0 ≤ v2 ∧ v2 ≤ 2) → ov_V true true d a b mq_World_personOf 32 [some (.inr (.inr (true, 1, nv0))), some (.inl v1), some (.inl v2), none] [] S Q) ∧ ((0 ≤ v2 ∧ v2 ≤ 2) → ov_V true true d a b mq_World_personOf 33 [some (.inr (.inr (true, 1, nv0))), some (.inl v1), some (.inl v2), none] [.inl 1] S Q)))) : ov_V true true d a b mq_World_personOf 0 [some (.inr (.inr (true, 1, nv0))), some (.inl v1), some (.inl v2), none] [] S Q := ov_run sp_mq_World_personOf 400 ⟨by omega, pu_mq_Eye_within (by omega) (ov_run sp_mq_World_personOf 400 ⟨fun c1 => (h.1 (ov_b0 c1)), fun c1 => ⟨fun c2 => ((h.2 (ov_b1 c1)).1 c2), fun c2 => ⟨by omega, pu_mq_Eye_within (by omega) (ov_run sp_mq_World_personOf 400 ⟨fun c3 => (((h.2 (ov_b1 c1)).2 c2).1 (ov_b0 c3)), fun c3 => (((h.2 (ov_b1 c1)).2 c2).2 (ov_b1 c3))⟩)⟩⟩⟩)⟩
theorem r_World_personOf_32 {d a b : Nat} {S : ov_S} {Q : ov_Q} {nv0 : Nat} {v1 : Int32} {v2 : Int32} (h : ov_V true true d a b mq_World_personOf 33 [some (.inr (.inr (true, 1, nv0))), some (.inl v1), some (.inl v2), none] [.inl 0] S Q) : ov_V true true d a b mq_World_personOf 32 [some (.inr (.inr (true, 1, nv0))), some (.inl v1), some (.inl v2), none] [] S Q := ov_run sp_mq_World_personOf 400 h
theorem r_World_personOf_33 {d a b : Nat} {S : ov_S} {Q : ov_Q} {nv0 : Nat} {v1 : Int32} {v2 : Int32} (h : ov_ib ((3 * v1) + v2) 12 ∧ (ov_V true true d a b mq_World_personOf 48 [none, none, none, none] [.inr (.inr ((ov_g S 3 nv0 (ov_ix ((3 * v1) + v2)) != 0), 7, (12 * nv0 + (ov_ix ((3 * v1) + v2)))))] S Q)) : ov_V true true d a b mq_World_personOf 33 [some (.inr (.inr (true, 1, nv0))), some (.inl v1), some (.inl v2), none] [.inl 1] S Q := ov_run sp_mq_World_personOf 400 ⟨fun c4 => absurd c4 (by decide), fun _ => ⟨h.1, h.2⟩⟩
theorem r_World_personOf_33_2 {d a b : Nat} {S : ov_S} {Q : ov_Q} {nv0 : Nat} {v1 : Int32} {v2 : Int32} (h : Q (some (.inr (.inr (false, 0, 0)))) S) : ov_V true true d a b mq_World_personOf 33 [some (.inr (.inr (true, 1, nv0))), some (.inl v1), some (.inl v2), none] [.inl 0] S Q := ov_run sp_mq_World_personOf 400 ⟨fun _ => h, fun c5 => absurd (by decide) c5⟩
theorem r_World_personOf_48 {d a b : Nat} {S : ov_S} {Q : ov_Q} {ns0 : Nat} (h : Q (some (.inr (.inr (true, 7, ns0)))) S) : ov_V true true d a b mq_World_personOf 48 [none, none, none, none] [.inr (.inr (true, 7, ns0))] S Q := ov_run sp_mq_World_personOf 400 h
theorem ov_tm {t m : Int32} (h0 : 0 ≤ t) (h1 : t < 4) (h2 : 0 ≤ m) (h3 : m ≤ 2) : (3 * t + m).toInt = 3 * t.toInt + m.toInt ∧ 0 ≤ t.toInt ∧ t.toInt < 4 ∧ 0 ≤ m.toInt ∧ m.toInt ≤ 2 := by
  have a0 := Int32.le_iff_toInt_le.mp h0
  have a1 := Int32.lt_iff_toInt_lt.mp h1
  have a2 := Int32.le_iff_toInt_le.mp h2
  have a3 := Int32.le_iff_toInt_le.mp h3
  have e0 : (0 : Int32).toInt = 0 := rfl
  have e4 : (4 : Int32).toInt = 4 := rfl
  have e2 : (2 : Int32).toInt = 2 := rfl
  have e3 : (3 : Int32).toInt = 3 := rfl
  rw [e0] at a0 a2
  rw [e4] at a1
  rw [e2] at a3
  refine ⟨?_, a0, a1, a2, a3⟩
  rw [Int32.toInt_add, Int32.toInt_mul, e3, Int.bmod_eq_of_le (n := 3 * t.toInt) (by omega) (by omega), Int.bmod_eq_of_le (by omega) (by omega)]
theorem pu_mq_World_personOf {d : Nat} {S : ov_S} {Q : ov_Q} {w : Nat} {t m : Int32} (hd : 1 ≤ d) (hp : ((0 ≤ t ∧ t ≤ ov_g S 1 w 2 - 1) ∧ t < 4 ∧ (0 ≤ m ∧ m ≤ 2)) → ov_g S 3 w (ov_ix (3 * t + m)) ≠ 0) (g1 : ((0 ≤ t ∧ t ≤ ov_g S 1 w 2 - 1) ∧ t < 4 ∧ (0 ≤ m ∧ m ≤ 2)) → Q (some (.inr (.inr (true, 7, 12 * w + ov_ix (3 * t + m))))) S) (g2 : ¬ ((0 ≤ t ∧ t ≤ ov_g S 1 w 2 - 1) ∧ t < 4 ∧ (0 ≤ m ∧ m ≤ 2)) → Q (some (.inr (.inr (false, 0, 0)))) S) : ov_V true true d 0 0 mq_World_personOf 0 [some (.inr (.inr (true, 1, w))), some (.inl t), some (.inl m), none] [] S Q := by
  refine r_World_personOf_0 hd ⟨fun c => r_World_personOf_32 (r_World_personOf_33_2 (g2 (fun q => c q.1))), fun c => ⟨fun c2 => r_World_personOf_32 (r_World_personOf_33_2 (g2 (fun q => absurd q.2.1 (Int32.not_lt.mpr c2)))), fun c2 => ⟨fun c3 => r_World_personOf_32 (r_World_personOf_33_2 (g2 (fun q => c3 q.2.2))), fun c3 => r_World_personOf_33 ⟨?_, ?_⟩⟩⟩⟩
  · obtain ⟨e, h1, h2, h3, h4⟩ := ov_tm c.1 (Int32.not_le.mp c2) c3.1 c3.2
    exact ⟨by rw [e]; omega, by rw [e]; omega⟩
  · have h := hp ⟨c, Int32.not_le.mp c2, c3⟩
    rw [show (ov_g S 3 w (ov_ix (3 * t + m)) != 0) = true from by simpa using h]
    exact r_World_personOf_48 (g1 ⟨c, Int32.not_le.mp c2, c3⟩)
def sp_mq_Integer_bitCount : List (Nat × List Bool) := []
theorem r_Integer_bitCount_0 {d a b : Nat} {S : ov_S} {Q : ov_Q} {v0 : Int32} (h : Q (some (.inl ((((((((v0 - (((Int32.toUInt32 v0 >>> (Int32.toUInt32 1 &&& Int32.toUInt32 31)).toInt32) &&& 1431655765)) &&& 858993459) + (((Int32.toUInt32 (v0 - (((Int32.toUInt32 v0 >>> (Int32.toUInt32 1 &&& Int32.toUInt32 31)).toInt32) &&& 1431655765)) >>> (Int32.toUInt32 2 &&& Int32.toUInt32 31)).toInt32) &&& 858993459)) + ((Int32.toUInt32 (((v0 - (((Int32.toUInt32 v0 >>> (Int32.toUInt32 1 &&& Int32.toUInt32 31)).toInt32) &&& 1431655765)) &&& 858993459) + (((Int32.toUInt32 (v0 - (((Int32.toUInt32 v0 >>> (Int32.toUInt32 1 &&& Int32.toUInt32 31)).toInt32) &&& 1431655765)) >>> (Int32.toUInt32 2 &&& Int32.toUInt32 31)).toInt32) &&& 858993459)) >>> (Int32.toUInt32 4 &&& Int32.toUInt32 31)).toInt32)) &&& 252645135) + ((Int32.toUInt32 (((((v0 - (((Int32.toUInt32 v0 >>> (Int32.toUInt32 1 &&& Int32.toUInt32 31)).toInt32) &&& 1431655765)) &&& 858993459) + (((Int32.toUInt32 (v0 - (((Int32.toUInt32 v0 >>> (Int32.toUInt32 1 &&& Int32.toUInt32 31)).toInt32) &&& 1431655765)) >>> (Int32.toUInt32 2 &&& Int32.toUInt32 31)).toInt32) &&& 858993459)) + ((Int32.toUInt32 (((v0 - (((Int32.toUInt32 v0 >>> (Int32.toUInt32 1 &&& Int32.toUInt32 31)).toInt32) &&& 1431655765)) &&& 858993459) + (((Int32.toUInt32 (v0 - (((Int32.toUInt32 v0 >>> (Int32.toUInt32 1 &&& Int32.toUInt32 31)).toInt32) &&& 1431655765)) >>> (Int32.toUInt32 2 &&& Int32.toUInt32 31)).toInt32) &&& 858993459)) >>> (Int32.toUInt32 4 &&& Int32.toUInt32 31)).toInt32)) &&& 252645135) >>> (Int32.toUInt32 8 &&& Int32.toUInt32 31)).toInt32)) + ((Int32.toUInt32 ((((((v0 - (((Int32.toUInt32 v0 >>> (Int32.toUInt32 1 &&& Int32.toUInt32 31)).toInt32) &&& 1431655765)) &&& 858993459) + (((Int32.toUInt32 (v0 - (((Int32.toUInt32 v0 >>> (Int32.toUInt32 1 &&& Int32.toUInt32 31)).toInt32) &&& 1431655765)) >>> (Int32.toUInt32 2 &&& Int32.toUInt32 31)).toInt32) &&& 858993459)) + ((Int32.toUInt32 (((v0 - (((Int32.toUInt32 v0 >>> (Int32.toUInt32 1 &&& Int32.toUInt32 31)).toInt32) &&& 1431655765)) &&& 858993459) + (((Int32.toUInt32 (v0 - (((Int32.toUInt32 v0 >>> (Int32.toUInt32 1 &&& Int32.toUInt32 31)).toInt32) &&& 1431655765)) >>> (Int32.toUInt32 2 &&& Int32.toUInt32 31)).toInt32) &&& 858993459)) >>> (Int32.toUInt32 4 &&& Int32.toUInt32 31)).toInt32)) &&& 252645135) + ((Int32.toUInt32 (((((v0 - (((Int32.toUInt32 v0 >>> (Int32.toUInt32 1 &&& Int32.toUInt32 31)).toInt32) &&& 1431655765)) &&& 858993459) + (((Int32.toUInt32 (v0 - (((Int32.toUInt32 v0 >>> (Int32.toUInt32 1 &&& Int32.toUInt32 31)).toInt32) &&& 1431655765)) >>> (Int32.toUInt32 2 &&& Int32.toUInt32 31)).toInt32) &&& 858993459)) + ((Int32.toUInt32 (((v0 - (((Int32.toUInt32 v0 >>> (Int32.toUInt32 1 &&& Int32.toUInt32 31)).toInt32) &&& 1431655765)) &&& 858993459) + (((Int32.toUInt32 (v0 - (((Int32.toUInt32 v0 >>> (Int32.toUInt32 1 &&& Int32.toUInt32 31)).toInt32) &&& 1431655765)) >>> (Int32.toUInt32 2 &&& Int32.toUInt32 31)).toInt32) &&& 858993459)) >>> (Int32.toUInt32 4 &&& Int32.toUInt32 31)).toInt32)) &&& 252645135) >>> (Int32.toUInt32 8 &&& Int32.toUInt32 31)).toInt32)) >>> (Int32.toUInt32 16 &&& Int32.toUInt32 31)).toInt32)) &&& 63))) S) : ov_V true true d a b mq_Integer_bitCount 0 [some (.inl v0)] [] S Q := ov_run sp_mq_Integer_bitCount 400 h
def ov_pop (v0 : Int32) : Int32 := ((((((((v0 - (((Int32.toUInt32 v0 >>> (Int32.toUInt32 1 &&& Int32.toUInt32 31)).toInt32) &&& 1431655765)) &&& 858993459) + (((Int32.toUInt32 (v0 - (((Int32.toUInt32 v0 >>> (Int32.toUInt32 1 &&& Int32.toUInt32 31)).toInt32) &&& 1431655765)) >>> (Int32.toUInt32 2 &&& Int32.toUInt32 31)).toInt32) &&& 858993459)) + ((Int32.toUInt32 (((v0 - (((Int32.toUInt32 v0 >>> (Int32.toUInt32 1 &&& Int32.toUInt32 31)).toInt32) &&& 1431655765)) &&& 858993459) + (((Int32.toUInt32 (v0 - (((Int32.toUInt32 v0 >>> (Int32.toUInt32 1 &&& Int32.toUInt32 31)).toInt32) &&& 1431655765)) >>> (Int32.toUInt32 2 &&& Int32.toUInt32 31)).toInt32) &&& 858993459)) >>> (Int32.toUInt32 4 &&& Int32.toUInt32 31)).toInt32)) &&& 252645135) + ((Int32.toUInt32 (((((v0 - (((Int32.toUInt32 v0 >>> (Int32.toUInt32 1 &&& Int32.toUInt32 31)).toInt32) &&& 1431655765)) &&& 858993459) + (((Int32.toUInt32 (v0 - (((Int32.toUInt32 v0 >>> (Int32.toUInt32 1 &&& Int32.toUInt32 31)).toInt32) &&& 1431655765)) >>> (Int32.toUInt32 2 &&& Int32.toUInt32 31)).toInt32) &&& 858993459)) + ((Int32.toUInt32 (((v0 - (((Int32.toUInt32 v0 >>> (Int32.toUInt32 1 &&& Int32.toUInt32 31)).toInt32) &&& 1431655765)) &&& 858993459) + (((Int32.toUInt32 (v0 - (((Int32.toUInt32 v0 >>> (Int32.toUInt32 1 &&& Int32.toUInt32 31)).toInt32) &&& 1431655765)) >>> (Int32.toUInt32 2 &&& Int32.toUInt32 31)).toInt32) &&& 858993459)) >>> (Int32.toUInt32 4 &&& Int32.toUInt32 31)).toInt32)) &&& 252645135) >>> (Int32.toUInt32 8 &&& Int32.toUInt32 31)).toInt32)) + ((Int32.toUInt32 ((((((v0 - (((Int32.toUInt32 v0 >>> (Int32.toUInt32 1 &&& Int32.toUInt32 31)).toInt32) &&& 1431655765)) &&& 858993459) + (((Int32.toUInt32 (v0 - (((Int32.toUInt32 v0 >>> (Int32.toUInt32 1 &&& Int32.toUInt32 31)).toInt32) &&& 1431655765)) >>> (Int32.toUInt32 2 &&& Int32.toUInt32 31)).toInt32) &&& 858993459)) + ((Int32.toUInt32 (((v0 - (((Int32.toUInt32 v0 >>> (Int32.toUInt32 1 &&& Int32.toUInt32 31)).toInt32) &&& 1431655765)) &&& 858993459) + (((Int32.toUInt32 (v0 - (((Int32.toUInt32 v0 >>> (Int32.toUInt32 1 &&& Int32.toUInt32 31)).toInt32) &&& 1431655765)) >>> (Int32.toUInt32 2 &&& Int32.toUInt32 31)).toInt32) &&& 858993459)) >>> (Int32.toUInt32 4 &&& Int32.toUInt32 31)).toInt32)) &&& 252645135) + ((Int32.toUInt32 (((((v0 - (((Int32.toUInt32 v0 >>> (Int32.toUInt32 1 &&& Int32.toUInt32 31)).toInt32) &&& 1431655765)) &&& 858993459) + (((Int32.toUInt32 (v0 - (((Int32.toUInt32 v0 >>> (Int32.toUInt32 1 &&& Int32.toUInt32 31)).toInt32) &&& 1431655765)) >>> (Int32.toUInt32 2 &&& Int32.toUInt32 31)).toInt32) &&& 858993459)) + ((Int32.toUInt32 (((v0 - (((Int32.toUInt32 v0 >>> (Int32.toUInt32 1 &&& Int32.toUInt32 31)).toInt32) &&& 1431655765)) &&& 858993459) + (((Int32.toUInt32 (v0 - (((Int32.toUInt32 v0 >>> (Int32.toUInt32 1 &&& Int32.toUInt32 31)).toInt32) &&& 1431655765)) >>> (Int32.toUInt32 2 &&& Int32.toUInt32 31)).toInt32) &&& 858993459)) >>> (Int32.toUInt32 4 &&& Int32.toUInt32 31)).toInt32)) &&& 252645135) >>> (Int32.toUInt32 8 &&& Int32.toUInt32 31)).toInt32)) >>> (Int32.toUInt32 16 &&& Int32.toUInt32 31)).toInt32)) &&& 63)
theorem pu_mq_Integer_bitCount {d : Nat} {S : ov_S} {Q : ov_Q} {v : Int32} (hd : 0 ≤ d) (g : Q (some (.inl (ov_pop v))) S) : ov_V true true d 0 0 mq_Integer_bitCount 0 [some (.inl v)] [] S Q := by
  exact r_Integer_bitCount_0 g
