/-! ===== TEXT: what the tokens say ===== -/
def xse (C : Nat → Nat) (k a b : Nat) : (Nat × Nat) ⊕ (Nat × Nat × Nat) := if C k = 11 then .inr (a, b, k + 1) else .inl (1, k)
def xsn (C V : Nat → Nat) (k lo hi : Nat) (g : Nat → (Nat × Nat) ⊕ (Nat × Nat × Nat)) : (Nat × Nat) ⊕ (Nat × Nat × Nat) := if C k = 10 then (if lo ≤ V k ∧ V k ≤ hi then g (V k) else .inl (2, k)) else .inl (1, k)
def xsw (C : Nat → Nat) (k lo hi : Nat) (g : Nat → (Nat × Nat) ⊕ (Nat × Nat × Nat)) : (Nat × Nat) ⊕ (Nat × Nat × Nat) := if lo ≤ C k ∧ C k ≤ hi then g (C k) else .inl (1, k)
def xsp (c : Nat) (C V : Nat → Nat) (k : Nat) : (Nat × Nat) ⊕ (Nat × Nat × Nat) :=
  if C k = 0 then xsw C (k + 1) 7 9 (fun w => xsn C V (k + 2) 0 2 (fun v => xse C (k + 3) (w - 7) v))
  else if C k = 5 then xsw C (k + 1) 7 9 (fun w => xsn C V (k + 2) 0 8 (fun v => xse C (k + 3) (w - 7) v))
  else if C k = 4 then xsn C V (k + 1) 1 99 (fun v => xse C (k + 2) v 0)
  else if C k = 1 then xsn C V (k + 1) 0 9 (fun v => xse C (k + 2) v 0)
  else xsn C V (k + 1) 0 9 (fun v => xsw C (k + 2) 6 6 (fun _ => xsn C V (k + 3) 0 (c - 1) (fun h => xse C (k + 4) v h)))
def xN (c : Nat) (C V : Nat → Nat) : Nat → Nat
  | 0 => 0
  | i + 1 => match xsp c C V (xN c C V i) with
    | .inr x => x.2.2
    | .inl _ => 0
theorem xN_s {c : Nat} {C V : Nat → Nat} {i a b k : Nat} (h : xsp c C V (xN c C V i) = .inr (a, b, k)) : xN c C V (i + 1) = k := by
  show (match xsp c C V (xN c C V i) with | .inr x => x.2.2 | .inl _ => 0) = k
  rw [h]
def xgH (C V : Nat → Nat) (N : Nat) : Prop := N ≤ 400 ∧ C N = 12 ∧ (∀ i, C i ≤ 13) ∧ ∀ i, C i = 10 → V i ≤ 9999
def xgT (C A V : Nat → Nat) (N : Nat) (S : ov_S) : Prop := S.1 9 0 8 = nI (N + 1) ∧ ∀ i, i ≤ N → S.1 46 0 i = nI (C i) ∧ S.1 47 0 i = nI (A i) ∧ (C i = 10 → S.1 48 0 i = nI (V i))
def xgS (c : Nat) (C V : Nat → Nat) (i : Nat) (S : ov_S) : Prop := C (xN c C V i) ≤ 5 ∧ ∃ a b, xsp c C V (xN c C V i) = .inr (a, b, xN c C V (i + 1)) ∧ rl_step c (S.1 41 8 i) (S.1 42 8 i) (S.1 43 8 i) (S.1 44 8 i) (nI (C (xN c C V i))) (nI a) (nI b)
/-- while it reads: at token k, n steps kept -/
def xgP (c : Nat) (C A V : Nat → Nat) (N : Nat) (S0 : ov_S) (k n : Nat) (S : ov_S) : Prop := xc S0 S ∧ xgT C A V N S ∧ S.1 9 0 3 = 0 ∧ S.1 9 0 4 = -1 ∧ (S.1 9 0 9 = nI k ∧ k ≤ N) ∧ (S.1 8 8 4 = nI n ∧ n ≤ 30) ∧ ∀ i, i < n → xgS c C V i S
/-- once a fault is found -/
def xgF (C A V : Nat → Nat) (N : Nat) (S0 : ov_S) (kd idx : Nat) (S : ov_S) : Prop := xc S0 S ∧ xgT C A V N S ∧ (S.1 9 0 3 = nI kd ∧ 1 ≤ kd ∧ kd ≤ 3) ∧ S.1 9 0 4 = nI (A idx) ∧ ∃ k, k ≤ N ∧ S.1 9 0 9 = nI k
theorem xgP_a {c : Nat} {C A V : Nat → Nat} {N : Nat} {S0 : ov_S} {k n : Nat} {S : ov_S} (hH : xgH C V N) (h : xgP c C A V N S0 k n S) (hk : ¬ C k = 12) : xgP c C A V N S0 (k + 1) n (ov_w S 9 0 9 (nI (k + 1))) := by
  obtain ⟨h1, h2, h3, h4, h5, h6, h7⟩ := h
  have : k ≠ N := fun e => hk (by rw [e]; exact hH.2.1)
  exact ⟨xc_w h1 rfl, h2, h3, h4, ⟨rfl, by omega⟩, h6, h7⟩
def xF (S : ov_S) (kd a : Nat) : ov_S := ov_w (ov_w S 9 0 3 (nI kd)) 9 0 4 (nI a)
theorem xgP_f {c : Nat} {C A V : Nat → Nat} {N : Nat} {S0 : ov_S} {k n kd : Nat} {S : ov_S} (h : xgP c C A V N S0 k n S) (h1 : 1 ≤ kd) (h3 : kd ≤ 3) : xgF C A V N S0 kd k (xF S kd (A k)) := ⟨xc_w (xc_w h.1 rfl) rfl, h.2.1, ⟨rfl, h1, h3⟩, rfl, k, h.2.2.2.2.1.2, h.2.2.2.2.1.1⟩
theorem x_tok {C A V : Nat → Nat} {N k : Nat} {S : ov_S} (hN : N ≤ 400) (hT : xgT C A V N S) (hk : k ≤ N) (e : S.1 9 0 9 = nI k) : ov_tok S = nI (C k) := by
  unfold ov_tok
  have e9 : ov_g S 9 0 9 = nI k := e
  have e8 : ov_g S 9 0 8 = nI (N + 1) := hT.1
  rw [e9, e8, nI_pred, if_pos ⟨nI_le (a := 0) (by omega) (by omega), nI_le hk (by omega)⟩, zz_ix (by omega)]
  exact (hT.2 k hk).1
theorem x_ib {N k : Nat} {S : ov_S} (hN : N ≤ 400) (hk : k ≤ N) (e : S.1 9 0 9 = nI k) : (0 ≤ ov_g S 9 0 9 ∧ ov_g S 9 0 9 ≤ ov_g S 9 0 8 - 1 → ov_ib (ov_g S 9 0 9) 401) := by
  intro _
  rw [show ov_g S 9 0 9 = nI k from e]
  exact zz_ib (by omega) (by decide)
theorem x_bl {c : Nat} {C A V : Nat → Nat} {N : Nat} {S0 : ov_S} {k n kd d : Nat} {S : ov_S} {Q : ov_Q} (hd : 1 ≤ d) (hH : xgH C V N) (hP : xgP c C A V N S0 k n S) (h : Q none (xF S kd (A k))) : ov_V true true d 0 0 mq_Reader_blame 0 [some (.inr (.inr (true, 9, 0))), some (.inl (nI kd))] [] S Q := by
  obtain ⟨h1, h2, h3, h4, h5, h6, h7⟩ := hP
  have hN := hH.1
  refine r_Reader_blame_0 hd ⟨fun n => absurd h3 n, fun _ => ⟨fun z => absurd ((zz_le (b := 400) rfl).2 ⟨k, by omega, h5.1⟩) z, fun _ => ?_⟩⟩
  show ov_ib (ov_g S 9 0 9) 401 ∧ Q none (ov_w (ov_w S 9 0 3 (nI kd)) 9 0 4 (ov_g S 47 0 (ov_ix (ov_g S 9 0 9))))
  rw [show ov_g S 9 0 9 = nI k from h5.1, zz_ix (by omega), show ov_g S 47 0 k = _ from (h2.2 k h5.2).2.1]
  exact ⟨zz_ib (by omega) (by decide), h⟩
theorem x_blF {d : Nat} {S : ov_S} {Q : ov_Q} {v : Int32} (hd : 1 ≤ d) (hF : ¬ S.1 9 0 3 = 0) (h : Q none S) : ov_V true true d 0 0 mq_Reader_blame 0 [some (.inr (.inr (true, 9, 0))), some (.inl v)] [] S Q := r_Reader_blame_0 hd ⟨fun _ => h, fun y => absurd y hF⟩
theorem x_exp {c : Nat} {C A V : Nat → Nat} {N : Nat} {S0 : ov_S} {k n lo hi d : Nat} {S : ov_S} {Q : ov_Q} (hd : 2 ≤ d) (hH : xgH C V N) (hP : xgP c C A V N S0 k n S) (hl : lo ≤ 11) (hh : hi ≤ 11) (h1 : lo ≤ C k ∧ C k ≤ hi → Q (some (.inl (nI (C k)))) (ov_w S 9 0 9 (nI (k + 1)))) (h2 : ¬ (lo ≤ C k ∧ C k ≤ hi) → Q (some (.inl (nI (C k)))) (xF S 1 (A k))) : ov_V true true d 0 0 mq_Reader_expect 0 [some (.inr (.inr (true, 9, 0))), some (.inl (nI lo)), some (.inl (nI hi)), none] [] S Q := by
  have hk := hP.2.2.2.2.1
  have hC := hH.2.2.1 k
  refine r_Reader_expect_0 hd ?_
  rw [x_tok hH.1 hP.2.1 hk.2 hk.1]
  have hq : (nI lo ≤ nI (C k) ∧ nI (C k) ≤ nI hi) ↔ (lo ≤ C k ∧ C k ≤ hi) := by rw [nI_leI (by omega) (by omega), nI_leI (by omega) (by omega)]
  refine ⟨x_ib hH.1 hk.2 hk.1, fun y => ?_, fun n => ?_⟩
  · refine r_Reader_expect_19 ⟨fun z => absurd hP.2.2.1 z, fun _ => ?_⟩
    rw [show ov_g S 9 0 9 = nI k from hk.1, nI_1]
    exact h1 (hq.1 y)
  · exact x_bl (kd := 1) (by omega) hH hP (r_Reader_expect_19 ⟨fun _ => h2 (fun z => n (hq.2 z)), fun z => absurd z (show ¬ nI 1 = 0 by decide)⟩)
theorem x_expF {C A V : Nat → Nat} {N : Nat} {S0 : ov_S} {kd idx d : Nat} {S : ov_S} {Q : ov_Q} {lo hi : Int32} (hd : 2 ≤ d) (hH : xgH C V N) (hF : xgF C A V N S0 kd idx S) (h : ∀ x, Q (some (.inl x)) S) : ov_V true true d 0 0 mq_Reader_expect 0 [some (.inr (.inr (true, 9, 0))), some (.inl lo), some (.inl hi), none] [] S Q := by
  obtain ⟨f1, f2, ⟨f3, f4, f5⟩, f6, k, hk, ek⟩ := hF
  have nf : ¬ S.1 9 0 3 = 0 := by rw [f3]; exact fun e => absurd (zz_inj (b := 0) (by omega) (by decide) e) (by omega)
  refine r_Reader_expect_0 hd ⟨x_ib hH.1 hk ek, fun _ => r_Reader_expect_19 ⟨fun _ => h _, fun z => absurd z nf⟩, fun _ => x_blF (by omega) nf (r_Reader_expect_19 ⟨fun _ => h _, fun z => absurd z nf⟩)⟩
theorem x_num {c : Nat} {C A V : Nat → Nat} {N : Nat} {S0 : ov_S} {k n lo hi d : Nat} {S : ov_S} {Q : ov_Q} (hd : 3 ≤ d) (hH : xgH C V N) (hP : xgP c C A V N S0 k n S) (hl : lo ≤ 100) (hh : hi ≤ 100) (h1 : C k = 10 → lo ≤ V k ∧ V k ≤ hi → Q (some (.inl (nI (V k)))) (ov_w S 9 0 9 (nI (k + 1)))) (h2 : ∀ kd x, (C k = 10 ∧ ¬ (lo ≤ V k ∧ V k ≤ hi) ∧ kd = 2) ∨ (¬ C k = 10 ∧ kd = 1) → Q (some (.inl x)) (xF S kd (A k))) : ov_V true true d 0 0 mq_Reader_expectNumber 0 [some (.inr (.inr (true, 9, 0))), some (.inl (nI lo)), some (.inl (nI hi)), none] [] S Q := by
  have hk := hP.2.2.2.2.1
  have hC := hH.2.2.1 k
  have hN := hH.1
  have hk' := hk.2
  refine r_Reader_expectNumber_0 (by omega) ⟨fun z => absurd ((zz_le (b := 400) rfl).2 ⟨k, by omega, hk.1⟩) z, fun _ => ?_⟩
  rw [show ov_g S 9 0 9 = nI k from hk.1, zz_ix (by omega)]
  refine ⟨zz_ib (by omega) (by decide), r_Reader_expectNumber_27_2 (by omega) ?_⟩
  rw [x_tok hH.1 hP.2.1 hk.2 hk.1]
  refine ⟨x_ib hH.1 hk.2 hk.1, fun n => ?_, fun y => ?_⟩
  · have nC : ¬ C k = 10 := fun e => n (by rw [e]; rfl)
    exact r_Reader_expectNumber_51 (by omega) (x_exp (lo := 10) (hi := 10) (by omega) hH hP (by decide) (by decide) (fun z => absurd (show C k = 10 by omega) nC) (fun _ => r_Reader_expectNumber_59 (h2 1 _ (.inr ⟨nC, rfl⟩))))
  · have yC : C k = 10 := zz_inj (b := 10) (by omega) (by decide) y
    have ev : ov_g S 48 0 k = nI (V k) := (hP.2.1.2 k hk.2).2.2 yC
    have hV := hH.2.2.2 k yC
    rw [ev]
    have hq : (nI lo ≤ nI (V k) ∧ nI (V k) ≤ nI hi) ↔ (lo ≤ V k ∧ V k ≤ hi) := by rw [nI_leI (by omega) (by omega), nI_leI (by omega) (by omega)]
    refine ⟨fun z => ?_, fun z => ?_⟩
    · exact r_Reader_expectNumber_51 (by omega) (x_exp (lo := 10) (hi := 10) (by omega) hH hP (by decide) (by decide) (fun _ => r_Reader_expectNumber_59 (h1 yC (hq.1 z))) (fun m => absurd (show 10 ≤ C k ∧ C k ≤ 10 by omega) m))
    · exact x_bl (kd := 2) (by omega) hH hP (r_Reader_expectNumber_51 (by omega) (x_expF (by omega) hH (xgP_f hP (kd := 2) (by decide) (by decide)) (fun x => r_Reader_expectNumber_59 (h2 2 _ (.inl ⟨yC, fun m => z (hq.2 m), rfl⟩)))))
theorem x_numF {C A V : Nat → Nat} {N : Nat} {S0 : ov_S} {kd idx d : Nat} {S : ov_S} {Q : ov_Q} {lo hi : Int32} (hd : 3 ≤ d) (hH : xgH C V N) (hF : xgF C A V N S0 kd idx S) (h : ∀ x, Q (some (.inl x)) S) : ov_V true true d 0 0 mq_Reader_expectNumber 0 [some (.inr (.inr (true, 9, 0))), some (.inl lo), some (.inl hi), none] [] S Q := by
  obtain ⟨f1, f2, ⟨f3, f4, f5⟩, f6, k, hk, ek⟩ := id hF
  have hN := hH.1
  have nf : ¬ S.1 9 0 3 = 0 := by rw [f3]; exact fun e => absurd (zz_inj (b := 0) (by omega) (by decide) e) (by omega)
  have go : ∀ x : Int32, ov_V true true d 0 0 mq_Reader_expectNumber 51 [some (.inr (.inr (true, 9, 0))), none, none, some (.inl x)] [] S Q := fun x => r_Reader_expectNumber_51 (by omega) (x_expF (by omega) hH hF (fun y => r_Reader_expectNumber_59 (h _)))
  refine r_Reader_expectNumber_0 (by omega) ⟨fun z => absurd ((zz_le (b := 400) rfl).2 ⟨k, by omega, ek⟩) z, fun _ => ?_⟩
  rw [show ov_g S 9 0 9 = nI k from ek, zz_ix (by omega)]
  exact ⟨zz_ib (by omega) (by decide), r_Reader_expectNumber_27_2 (by omega) ⟨x_ib hN hk ek, fun _ => go _, fun _ => ⟨fun _ => go _, fun _ => x_blF (by omega) nf (go _)⟩⟩⟩
