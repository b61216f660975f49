/-! ===== TEXT: the class reads a PLAN ===== -/
/-- SEE and REST, behind the word -/
theorem x_sr {c lo hi : Nat} {C A V : Nat → Nat} {N : Nat} {S0 : ov_S} {n d : Nat} {S : ov_S} {Q : ov_Q} {v1 : Int32} (hd : 5 ≤ d) (hH : xgH C V N) (hP : xgP c C A V N S0 (xN c C V n + 1) n S) (hn : n < 30) (hk : (C (xN c C V n) = 1 ∧ lo = 0 ∧ hi = 9) ∨ (C (xN c C V n) = 4 ∧ lo = 1 ∧ hi = 99)) (hok : ∀ a b k' S', xsp c C V (xN c C V n) = .inr (a, b, k') → xgP c C A V N S0 k' (n + 1) S' → Q none S') (her : ∀ kd idx S', xsp c C V (xN c C V n) = .inl (kd, idx) → xgF C A V N S0 kd idx S' → Q none S') : ov_V true true d 0 0 mq_Reader_readStep 62 [some (.inr (.inr (true, 9, 0))), some (.inl v1), some (.inl (nI (C (xN c C V n)))), none, none, none] [.inl (-1)] S Q := by
  have ho : xsp c C V (xN c C V n) = xsn C V (xN c C V n + 1) lo hi (fun v => xse C (xN c C V n + 2) v 0) := by
    unfold xsp
    rcases hk with ⟨e, rfl, rfl⟩ | ⟨e, rfl, rfl⟩
    · rw [if_neg (by omega), if_neg (by omega), if_neg (by omega), if_pos e]
    · rw [if_neg (by omega), if_neg (by omega), if_pos e]
  have h5 : C (xN c C V n) ≤ 5 := by omega
  have em : ov_most (nI (C (xN c C V n))) = nI hi := by
    rcases hk with ⟨e, _, rfl⟩ | ⟨e, _, rfl⟩ <;> rw [e] <;> rfl
  have n2 : ¬ nI (C (xN c C V n)) = 2 := fun e => by have := zz_inj (b := 2) (by omega) (by decide) e; omega
  have n3 : ¬ nI (C (xN c C V n)) = 3 := fun e => by have := zz_inj (b := 3) (by omega) (by decide) e; omega
  have go : ov_V true true ((d - 1)) 0 0 mq_Reader_expectNumber 0 [some (.inr (.inr (true, 9, 0))), some (.inl (nI lo)), some (.inl (nI hi)), none] [] S (fun r S1 => ov_V true true d 0 0 mq_Reader_readStep 81 [some (.inr (.inr (true, 9, 0))), some (.inl v1), some (.inl (nI (C (xN c C V n)))), some (.inl (-1)), none, none] (r.toList ++ []) S1 Q) := by
    refine x_num (by omega) hH hP (by omega) (by omega) (fun y1 y2 => ?_) (fun kd x z => ?_)
    · rw [x_sn' y1 y2] at ho
      refine r_Reader_readStep_81 ⟨fun z => absurd z n2, fun _ => ⟨fun _ => x_115 hd hH (xgP_a hH hP (show ¬ C (xN c C V n + 1) = 12 by rw [y1]; decide)) hn h5 ⟨rfl, ?_⟩ ho hok her, fun z => absurd z n3⟩⟩
      rcases hk with ⟨e, rfl, rfl⟩ | ⟨e, rfl, rfl⟩
      · exact .inr (.inl ⟨by rw [e]; rfl, rfl, _, by omega, rfl⟩)
      · exact .inr (.inr (.inr (.inl ⟨by rw [e]; rfl, rfl, _, y2.1, y2.2, rfl⟩)))
    · obtain ⟨z1, z2, z3⟩ := x_sn (g := fun v => xse C (xN c C V n + 2) v 0) z
      have hF := xgP_f hP z2 z3
      exact x_d81 hd hH hF (her kd _ _ (ho.trans z1) hF)
  refine r_Reader_readStep_62_2 ⟨fun n4 => r_Reader_readStep_74 (by omega) ?_, fun y4 => r_Reader_readStep_74_2 (by omega) ?_⟩
  · rw [em]
    rcases hk with ⟨e, rfl, _⟩ | ⟨e, rfl, _⟩
    · exact go
    · exact absurd (by rw [e]; rfl) n4
  · rw [em]
    rcases hk with ⟨e, rfl, _⟩ | ⟨e, rfl, _⟩
    · exact absurd (zz_inj (b := 4) (by omega) (by decide) y4) (by omega)
    · exact go
/-- SAY and LIE, behind the word -/
theorem x_sl {c : Nat} {C A V : Nat → Nat} {N : Nat} {S0 : ov_S} {n d : Nat} {S : ov_S} {Q : ov_Q} (hd : 5 ≤ d) (hc : 1 ≤ c) (hc4 : c ≤ 4) (hH : xgH C V N) (hP : xgP c C A V N S0 (xN c C V n + 1) n S) (hn : n < 30) (hk : C (xN c C V n) = 2 ∨ C (xN c C V n) = 3) (hok : ∀ a b k' S', xsp c C V (xN c C V n) = .inr (a, b, k') → xgP c C A V N S0 k' (n + 1) S' → Q none S') (her : ∀ kd idx S', xsp c C V (xN c C V n) = .inl (kd, idx) → xgF C A V N S0 kd idx S' → Q none S') : ov_V true true d 0 0 mq_Reader_readStep 62 [some (.inr (.inr (true, 9, 0))), some (.inl (nI c)), some (.inl (nI (C (xN c C V n)))), none, none, none] [.inl (-1)] S Q := by
  have ho : xsp c C V (xN c C V n) = xsn C V (xN c C V n + 1) 0 9 (fun v => xsw C (xN c C V n + 2) 6 6 (fun _ => xsn C V (xN c C V n + 3) 0 (c - 1) (fun h => xse C (xN c C V n + 4) v h))) := by
    unfold xsp
    rw [if_neg (by omega), if_neg (by omega), if_neg (by omega), if_neg (by omega)]
  have h5 : C (xN c C V n) ≤ 5 := by omega
  have em : ov_most (nI (C (xN c C V n))) = nI 9 := by
    rcases hk with e | e <;> rw [e] <;> rfl
  have n4 : ¬ nI (C (xN c C V n)) = 4 := fun e => by have := zz_inj (b := 4) (by omega) (by decide) e; omega
  have e1 : (nI c - 1 : Int32) = nI (c - 1) := pk_sub (b := 1) hc
  refine r_Reader_readStep_62_2 ⟨fun _ => r_Reader_readStep_74 (by omega) ?_, fun z => absurd z n4⟩
  rw [em]
  refine x_num (lo := 0) (by omega) hH hP (by decide) (by decide) (fun y1 y2 => ?_) (fun kd x z => ?_)
  · rw [x_sn' y1 y2] at ho
    have hP1 := xgP_a hH hP (show ¬ C (xN c C V n + 1) = 12 by rw [y1]; decide)
    have go : ov_V true true d 0 0 mq_Reader_readStep 96 [some (.inr (.inr (true, 9, 0))), some (.inl (nI c)), some (.inl (nI (C (xN c C V n)))), some (.inl (-1)), some (.inl (nI (V (xN c C V n + 1)))), none] [] (ov_w S 9 0 9 (nI (xN c C V n + 1 + 1))) Q := by
      refine r_Reader_readStep_96 (by omega) (x_exp (lo := 6) (hi := 6) (by omega) hH hP1 (by decide) (by decide) (fun y => ?_) (fun m => ?_))
      · have ho2 := ho
        rw [x_sw' (k := xN c C V n + 2) y] at ho2
        have hP2 := xgP_a hH hP1 (show ¬ C (xN c C V n + 1 + 1) = 12 by omega)
        refine r_Reader_readStep_104 (by omega) ?_
        rw [e1]
        refine x_num (lo := 0) (by omega) hH hP2 (by decide) (by omega) (fun y3 y4 => ?_) (fun kd x z => ?_)
        · rw [x_sn' (k := xN c C V n + 3) y3 y4] at ho2
          refine r_Reader_readStep_113 (x_115 hd hH (xgP_a hH hP2 (show ¬ C (xN c C V n + 1 + 1 + 1) = 12 by rw [y3]; decide)) hn h5 ⟨rfl, .inr (.inr (.inl ⟨?_, rfl, rfl, ⟨_, by omega, rfl⟩, ⟨_, by omega, rfl⟩⟩))⟩ ho2 hok her)
          rcases hk with e | e
          · exact .inl (by rw [e]; rfl)
          · exact .inr (by rw [e]; rfl)
        · obtain ⟨z1, z2, z3⟩ := x_sn (k := xN c C V n + 3) (g := fun h => xse C (xN c C V n + 4) (V (xN c C V n + 1)) h) z
          have hF := xgP_f hP2 z2 z3
          exact r_Reader_readStep_113 (x_d115 hd hH hF (her kd _ _ (ho2.trans z1) hF))
      · have ho2 := ho
        rw [x_sw (k := xN c C V n + 2) m] at ho2
        have hF := xgP_f hP1 (kd := 1) (by decide) (by decide)
        exact r_Reader_readStep_104 (by omega) (x_numF (by omega) hH hF (fun y => r_Reader_readStep_113 (x_d115 hd hH hF (her 1 _ _ ho2 hF))))
    refine r_Reader_readStep_81 ⟨fun _ => go, fun n2 => ⟨fun n3 => ?_, fun _ => go⟩⟩
    rcases hk with e | e
    · exact absurd (by rw [e]; rfl) n2
    · exact absurd (by rw [e]; rfl) n3
  · obtain ⟨z1, z2, z3⟩ := x_sn (g := fun v => xsw C (xN c C V n + 2) 6 6 (fun _ => xsn C V (xN c C V n + 3) 0 (c - 1) (fun h => xse C (xN c C V n + 4) v h))) z
    have hF := xgP_f hP z2 z3
    exact x_d81 hd hH hF (her kd _ _ (ho.trans z1) hF)
/-- what is wrong in the STEP n -/
def xer (c : Nat) (C V : Nat → Nat) (n kd idx : Nat) : Prop := ¬ C (xN c C V n) = 12 ∧ ((¬ C (xN c C V n) ≤ 5 ∧ kd = 1 ∧ idx = xN c C V n) ∨ (C (xN c C V n) ≤ 5 ∧ n = 30 ∧ kd = 3 ∧ idx = xN c C V n) ∨ (C (xN c C V n) ≤ 5 ∧ n < 30 ∧ xsp c C V (xN c C V n) = .inl (kd, idx)))
theorem x_step {c : Nat} {C A V : Nat → Nat} {N : Nat} {S0 : ov_S} {n d : Nat} {S : ov_S} {Q : ov_Q} (hd : 5 ≤ d) (hc : 1 ≤ c) (hc4 : c ≤ 4) (hH : xgH C V N) (hP : xgP c C A V N S0 (xN c C V n) n S) (h12 : ¬ C (xN c C V n) = 12) (hok : ∀ S', n < 30 → xgP c C A V N S0 (xN c C V (n + 1)) (n + 1) S' → Q none S') (her : ∀ kd idx S', xer c C V n kd idx → xgF C A V N S0 kd idx S' → Q none S') : ov_V true true d 0 0 mq_Reader_readStep 0 [some (.inr (.inr (true, 9, 0))), some (.inl (nI c)), none, none, none, none] [] S Q := by
  have hk := hP.2.2.2.2.1
  have hn := hP.2.2.2.2.2.1
  have hC := hH.2.2.1 (xN c C V n)
  refine r_Reader_readStep_0 (by omega) ?_
  rw [x_tok hH.1 hP.2.1 hk.2 hk.1, show ov_g S 8 8 4 = nI n from hn.1]
  have hq : (0 ≤ nI (C (xN c C V n)) ∧ nI (C (xN c C V n)) ≤ 5) ↔ C (xN c C V n) ≤ 5 := by
    constructor
    · intro y
      exact (nI_leI (b := 5) (by omega) (by decide)).1 y.2
    · intro y
      exact ⟨nI_le (a := 0) (by omega) (by omega), nI_le (b := 5) y (by decide)⟩
  refine ⟨x_ib hH.1 hk.2 hk.1, fun z => ?_, fun y => ⟨fun y2 => ?_, fun n2 => ?_⟩⟩
  · have n5 : ¬ C (xN c C V n) ≤ 5 := fun e => z (hq.2 e)
    have hF := xgP_f hP (kd := 1) (by decide) (by decide)
    exact r_Reader_readStep_31 (by omega) (x_exp (lo := 0) (hi := 5) (by omega) hH hP (by decide) (by decide) (fun e => absurd e.2 n5) (fun _ => x_d37 hd hH hF (her 1 _ _ ⟨h12, .inl ⟨n5, rfl, rfl⟩⟩ hF)))
  · have h5 := hq.1 y
    have hn30 : n < 30 := (nI_ltI (b := 30) (by omega) (by decide)).1 y2
    have hok' : ∀ a b k' S', xsp c C V (xN c C V n) = .inr (a, b, k') → xgP c C A V N S0 k' (n + 1) S' → Q none S' := fun a b k' S' e hp => hok S' hn30 (by rw [xN_s e]; exact hp)
    have her' : ∀ kd idx S', xsp c C V (xN c C V n) = .inl (kd, idx) → xgF C A V N S0 kd idx S' → Q none S' := fun kd idx S' e hf => her kd idx S' ⟨h12, .inr (.inr ⟨h5, hn30, e⟩)⟩ hf
    refine r_Reader_readStep_31 (by omega) (x_exp (lo := 0) (hi := 5) (by omega) hH hP (by decide) (by decide) (fun e => ?_) (fun m => absurd ⟨Nat.zero_le _, h5⟩ m))
    have hP1 := xgP_a hH hP h12
    refine r_Reader_readStep_37 ⟨fun e0 => ?_, fun n0 => ⟨fun n5 => ?_, fun e5 => ?_⟩⟩
    · exact x_gf hd hH hP1 hn30 (.inl ⟨zz_inj (b := 0) (by omega) (by decide) e0, rfl⟩) hok' her'
    · have m0 : ¬ C (xN c C V n) = 0 := fun e => n0 (by rw [e]; rfl)
      have m5 : ¬ C (xN c C V n) = 5 := fun e => n5 (by rw [e]; rfl)
      have : C (xN c C V n) = 1 ∨ C (xN c C V n) = 4 ∨ (C (xN c C V n) = 2 ∨ C (xN c C V n) = 3) := by omega
      rcases this with e | e | e
      · exact x_sr hd hH hP1 hn30 (.inl ⟨e, rfl, rfl⟩) hok' her'
      · exact x_sr hd hH hP1 hn30 (.inr ⟨e, rfl, rfl⟩) hok' her'
      · exact x_sl hd hc hc4 hH hP1 hn30 e hok' her'
    · exact x_gf hd hH hP1 hn30 (.inr ⟨zz_inj (b := 5) (by omega) (by decide) e5, rfl⟩) hok' her'
  · have hn30 : n = 30 := by
      have : ¬ n < 30 := fun e => n2 (nI_lt (b := 30) e (by decide))
      omega
    have hF := xgP_f hP (kd := 3) (by decide) (by decide)
    exact x_bl (kd := 3) (by omega) hH hP (r_Reader_readStep_31 (by omega) (x_expF (by omega) hH hF (fun x => x_d37 hd hH hF (her 3 _ _ ⟨h12, .inr (.inl ⟨hq.1 y, hn30, rfl, rfl⟩)⟩ hF))))
def xok (c : Nat) (C V : Nat → Nat) (n : Nat) : Prop := n ≤ 30 ∧ ∀ i, i < n → C (xN c C V i) ≤ 5 ∧ ∃ a b, xsp c C V (xN c C V i) = .inr (a, b, xN c C V (i + 1))
theorem x_plan {c : Nat} {C A V : Nat → Nat} {N : Nat} {S0 : ov_S} {d : Nat} {Q : ov_Q} (hd : 6 ≤ d) (hc : 1 ≤ c) (hc4 : c ≤ 4) (hH : xgH C V N) (hok : ∀ n S', xok c C V n → C (xN c C V n) = 12 → xgP c C A V N S0 (xN c C V n) n S' → Q (some (.inl 1)) S') (her : ∀ n kd idx S', xok c C V n → xer c C V n kd idx → xgF C A V N S0 kd idx S' → Q (some (.inl 0)) S') : ∀ j n S, n + j = 30 → xgP c C A V N S0 (xN c C V n) n S → ov_V true true d 0 0 mq_Reader_readPlan 10 [some (.inr (.inr (true, 9, 0))), some (.inl (nI c)), some (.inl (nI n))] [] S Q := by
  intro j
  induction j with
  | zero =>
    intro n S hn hP
    have hx : xok c C V n := ⟨by omega, fun i hi => ⟨(hP.2.2.2.2.2.2 i hi).1, (hP.2.2.2.2.2.2 i hi).2.elim fun a h => h.elim fun b h => ⟨a, b, h.1⟩⟩⟩
    have hk := hP.2.2.2.2.1
    have hC := hH.2.2.1 (xN c C V n)
    refine r_Reader_readPlan_10 (by omega) ?_
    rw [x_tok hH.1 hP.2.1 hk.2 hk.1]
    refine ⟨fun y => absurd y (nI_nlt (a := 30) (by omega) (by decide)), fun _ => ⟨fun z => absurd hP.2.2.1 z, fun _ => ⟨x_ib hH.1 hk.2 hk.1, fun y => ?_, fun m => ?_⟩⟩⟩
    · exact r_Reader_readPlan_43 ⟨fun z => absurd hP.2.2.1 z, fun _ => hok n S hx (zz_inj (b := 12) (by omega) (by decide) y) hP⟩
    · refine x_step (by omega) hc hc4 hH hP (fun e => m (by rw [e]; rfl)) (fun S' h _ => absurd h (by omega)) (fun kd idx S' hx' hF => r_Reader_readPlan_37 ?_)
      have nf : ¬ S'.1 9 0 3 = 0 := by rw [hF.2.2.1.1]; exact fun e => absurd (zz_inj (b := 0) (by have := hF.2.2.1.2; omega) (by decide) e) (by have := hF.2.2.1.2; omega)
      have fin : ov_V true true d 0 0 mq_Reader_readPlan 43 [some (.inr (.inr (true, 9, 0))), none, none] [] S' Q := r_Reader_readPlan_43 ⟨fun _ => her n kd idx S' hx hx' hF, fun z => absurd z nf⟩
      exact r_Reader_readPlan_10 (by omega) ⟨fun _ => fin, fun _ => ⟨fun _ => fin, fun z => absurd z nf⟩⟩
  | succ j ih =>
    intro n S hn hP
    have hx : xok c C V n := ⟨by omega, fun i hi => ⟨(hP.2.2.2.2.2.2 i hi).1, (hP.2.2.2.2.2.2 i hi).2.elim fun a h => h.elim fun b h => ⟨a, b, h.1⟩⟩⟩
    have hk := hP.2.2.2.2.1
    have hC := hH.2.2.1 (xN c C V n)
    refine r_Reader_readPlan_10 (by omega) ?_
    rw [x_tok hH.1 hP.2.1 hk.2 hk.1]
    refine ⟨fun y => absurd y (nI_nlt (a := 30) (by omega) (by decide)), fun _ => ⟨fun z => absurd hP.2.2.1 z, fun _ => ⟨x_ib hH.1 hk.2 hk.1, fun y => ?_, fun m => ?_⟩⟩⟩
    · exact r_Reader_readPlan_43 ⟨fun z => absurd hP.2.2.1 z, fun _ => hok n S hx (zz_inj (b := 12) (by omega) (by decide) y) hP⟩
    · refine x_step (by omega) hc hc4 hH hP (fun e => m (by rw [e]; rfl)) (fun S' h hP' => r_Reader_readPlan_37 ?_) (fun kd idx S' hx' hF => r_Reader_readPlan_37 ?_)
      · rw [nI_1]
        exact ih (n + 1) S' (by omega) hP'
      · have nf : ¬ S'.1 9 0 3 = 0 := by rw [hF.2.2.1.1]; exact fun e => absurd (zz_inj (b := 0) (by have := hF.2.2.1.2; omega) (by decide) e) (by have := hF.2.2.1.2; omega)
        have fin : ov_V true true d 0 0 mq_Reader_readPlan 43 [some (.inr (.inr (true, 9, 0))), none, none] [] S' Q := r_Reader_readPlan_43 ⟨fun _ => her n kd idx S' hx hx' hF, fun z => absurd z nf⟩
        exact r_Reader_readPlan_10 (by omega) ⟨fun _ => fin, fun _ => ⟨fun _ => fin, fun z => absurd z nf⟩⟩
