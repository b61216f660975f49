/-! ===== TEXT: the PLAN is taken over ===== -/
theorem x_wan {S : ov_S} {r i : Nat} {F : Nat → Int32} {r' i' j' : Nat} (h : ¬ (r' = r ∧ i' = i)) : (ov_wa S r i F).1 r' i' j' = S.1 r' i' j' := by
  show (if r' = r ∧ i' = i then F else S.1 r' i') j' = _
  rw [if_neg h]
theorem x_way {S : ov_S} {r i : Nat} {F : Nat → Int32} {j' : Nat} : (ov_wa S r i F).1 r i j' = F j' := by
  show (if r = r ∧ i = i then F else S.1 r i) j' = _
  rw [if_pos ⟨rfl, rfl⟩]
theorem x_cpy {g h : Nat → Int32} {j : Nat} (hj : j < 30) : va_cpy g h (ov_ix 0) (ov_ix 0) (ov_ix 30) j = g j := by
  have e0 : ov_ix (0 : Int32) = 0 := zz_ix (n := 0) (by decide)
  have e30 : ov_ix (30 : Int32) = 30 := zz_ix (n := 30) (by decide)
  rw [e0, e30]
  show (if 0 ≤ j ∧ j < 0 + 30 then g (0 + (j - 0)) else h j) = g j
  rw [if_pos ⟨Nat.zero_le _, by omega⟩, Nat.sub_zero, Nat.zero_add]
def xcp (t : Nat) (S P : ov_S) : Prop := P.2.2.1 = S.2.2.1 ∧ (∀ j, j < 30 → P.1 41 t j = S.1 41 8 j ∧ P.1 42 t j = S.1 42 8 j ∧ P.1 43 t j = S.1 43 8 j ∧ P.1 44 t j = S.1 44 8 j) ∧ P.1 8 t 4 = S.1 8 8 4 ∧ ∀ r i j, ¬ ((r = 8 ∨ (41 ≤ r ∧ r ≤ 44)) ∧ i = t) → P.1 r i j = S.1 r i j
theorem x_cp {d t : Nat} {S : ov_S} {Q : ov_Q} (hd : 1 ≤ d) (h : ∀ P, xcp t S P → Q none P) : ov_V true true d 0 0 mq_Plan_copyFrom 0 [some (.inr (.inr (true, 8, t))), some (.inr (.inr (true, 8, 8)))] [] S Q := by
  refine r_Plan_copyFrom_0 hd ?_
  show Q none (ov_w (ov_wa (ov_wa (ov_wa (ov_wa S 41 t (va_cpy (S.1 41 8) (S.1 41 t) (ov_ix 0) (ov_ix 0) (ov_ix 30))) 42 t (va_cpy (S.1 42 8) (S.1 42 t) (ov_ix 0) (ov_ix 0) (ov_ix 30))) 43 t (va_cpy (S.1 43 8) (S.1 43 t) (ov_ix 0) (ov_ix 0) (ov_ix 30))) 44 t (va_cpy (S.1 44 8) (S.1 44 t) (ov_ix 0) (ov_ix 0) (ov_ix 30))) 8 t 4 (ov_g S 8 8 4))
  refine h _ ⟨rfl, fun j hj => ⟨?_, ?_, ?_, ?_⟩, rl_ww _ _ _ _ _, fun r i j hk => ?_⟩
  · exact (rl_wn (by omega)).trans ((x_wan (by omega)).trans ((x_wan (by omega)).trans ((x_wan (by omega)).trans (x_way.trans (x_cpy hj)))))
  · exact (rl_wn (by omega)).trans ((x_wan (by omega)).trans ((x_wan (by omega)).trans (x_way.trans (x_cpy hj))))
  · exact (rl_wn (by omega)).trans ((x_wan (by omega)).trans (x_way.trans (x_cpy hj)))
  · exact (rl_wn (by omega)).trans (x_way.trans (x_cpy hj))
  · exact (rl_wn (by omega)).trans ((x_wan (by omega)).trans ((x_wan (by omega)).trans ((x_wan (by omega)).trans (x_wan (by omega)))))
def xfl (t : Nat) (S F : ov_S) : Prop := F.2.2.1 = S.2.2.1 ∧ (∀ j, j < 30 → F.1 41 t j = S.1 41 8 j ∧ F.1 42 t j = S.1 42 8 j ∧ F.1 43 t j = S.1 43 8 j ∧ F.1 44 t j = S.1 44 8 j) ∧ F.1 8 t 4 = S.1 8 8 4 ∧ F.1 6 t 7 = 0 ∧ ((S.1 6 t 9 = 0 ∧ F.1 6 t 8 = S.1 6 t 8) ∨ (¬ S.1 6 t 9 = 0 ∧ F.1 6 t 8 = 0)) ∧ ∀ r i j, ¬ ((r = 8 ∨ (41 ≤ r ∧ r ≤ 44)) ∧ i = t) → ¬ (r = 6 ∧ i = t ∧ (j = 7 ∨ j = 8)) → F.1 r i j = S.1 r i j
theorem x_fol {d t : Nat} {S : ov_S} {Q : ov_Q} (hd : 2 ≤ d) (h : ∀ F, xfl t S F → Q none F) : ov_V true true d 0 0 mq_Three_follow 0 [some (.inr (.inr (true, 6, t))), some (.inr (.inr (true, 8, 8)))] [] S Q := by
  refine r_Three_follow_0 (by omega) (x_cp (by omega) (fun P hP => r_Three_follow_8 ?_))
  obtain ⟨p1, p2, p3, p4⟩ := hP
  have e9 : ov_g (ov_w P 6 t 7 0) 6 t 9 = S.1 6 t 9 := (rl_wn (by omega)).trans (p4 6 t 9 (by omega))
  have e8 : P.1 6 t 8 = S.1 6 t 8 := p4 6 t 8 (by omega)
  rw [e9]
  refine ⟨fun y => h _ ⟨p1, fun j hj => ?_, ?_, rl_ww _ _ _ _ _, .inl ⟨y, (rl_wn (by omega)).trans e8⟩, fun r i j k1 k2 => (rl_wn (by omega)).trans (p4 r i j k1)⟩, fun n => h _ ⟨p1, fun j hj => ?_, ?_, (rl_wn (by omega)).trans (rl_ww _ _ _ _ _), .inr ⟨n, rl_ww _ _ _ _ _⟩, fun r i j k1 k2 => (rl_wn (by omega)).trans ((rl_wn (by omega)).trans (p4 r i j k1))⟩⟩
  · exact p2 j hj
  · exact p3
  · exact p2 j hj
  · exact p3
/-! the reference -/
def xcl (t k : Nat) (B S : ov_S) : Prop := S.2.2.1 = B.2.2.1 ∧ (∀ i, i < k → S.1 85 0 (120 * t + i) = B.1 85 0 (480 + i)) ∧ ∀ r i j, ¬ (r = 85 ∧ 120 * t ≤ j ∧ j < 120 * t + k) → S.1 r i j = B.1 r i j
def xfm (t n : Nat) (B F : ov_S) : Prop := F.2.2.1 = B.2.2.1 ∧ (∀ i, i < 4 * n → F.1 85 0 (120 * t + i) = B.1 85 0 (480 + i)) ∧ F.1 86 0 t = nI n ∧ F.1 87 0 t = 0 ∧ ((B.1 79 0 t = 1 ∧ F.1 79 0 t = B.1 79 0 t ∧ F.1 80 0 t = B.1 80 0 t) ∨ (¬ B.1 79 0 t = 1 ∧ F.1 79 0 t = 0 ∧ F.1 80 0 t = 0)) ∧ ∀ r i j, ¬ (r = 85 ∧ 120 * t ≤ j ∧ j < 120 * t + 120) → ¬ ((r = 86 ∨ r = 87 ∨ r = 79 ∨ r = 80) ∧ j = t) → F.1 r i j = B.1 r i j
theorem m_74 {d t n : Nat} {B : ov_S} {Q : ov_Q} (ht : t < 4) (hn : n ≤ 30) (h : ∀ F, xfm t n B F → Q (some (.inl (nI n))) F) : ∀ m k S, k + m = 4 * n → xcl t k B S → ov_V true true d 0 0 mq_Mod_text 74 [some (.inr (.inr (true, 14, 0))), some (.inl (nI t)), some (.inl (nI n)), some (.inl (nI k))] [] S Q := by
  have e4 : (4 * nI n : Int32) = nI (4 * n) := pk_mul 4 n
  intro m
  induction m with
  | zero =>
    intro k S hk hS
    obtain ⟨s1, s2, s3⟩ := hS
    refine r_Mod_text_74 ?_
    rw [e4, zz_ix (n := t) (by omega)]
    refine ⟨fun _ => ⟨zz_ib (by omega) (by decide), zz_ib (by omega) (by decide), zz_ib (by omega) (by decide), ?_⟩, fun z => absurd (nI_le (by omega) (by omega)) z⟩
    have e79 : ov_g (ov_w (ov_w S 86 0 t (nI n)) 87 0 t 0) 79 0 t = B.1 79 0 t := s3 79 0 t (by omega)
    rw [e79]
    have e80 : S.1 80 0 t = B.1 80 0 t := s3 80 0 t (by omega)
    have e79' : S.1 79 0 t = B.1 79 0 t := s3 79 0 t (by omega)
    refine ⟨fun y => h _ ⟨s1, fun i hi => s2 i (by omega), rl_ww S 86 0 t _, rl_ww _ _ _ _ _, .inl ⟨y, e79', e80⟩, fun r i j k1 k2 => (rl_wn (by omega)).trans ((rl_wn (by omega)).trans (s3 r i j (by omega)))⟩, fun z => ⟨zz_ib (by omega) (by decide), zz_ib (by omega) (by decide), h _ ⟨s1, fun i hi => s2 i (by omega), rl_ww S 86 0 t _, rl_ww (ov_w S 86 0 t (nI n)) 87 0 t _, .inr ⟨z, rl_ww (ov_w (ov_w S 86 0 t (nI n)) 87 0 t 0) 79 0 t _, rl_ww _ _ _ _ _⟩, fun r i j k1 k2 => (rl_wn (by omega)).trans ((rl_wn (by omega)).trans ((rl_wn (by omega)).trans ((rl_wn (by omega)).trans (s3 r i j (by omega)))))⟩⟩⟩
  | succ m ih =>
    intro k S hk hS
    obtain ⟨s1, s2, s3⟩ := hS
    refine r_Mod_text_74 ?_
    have e12 : (120 * nI t + nI k : Int32) = nI (120 * t + k) := by
      show nI 120 * nI t + nI k = _
      rw [pk_mul, nI_add]
    rw [e4, e12, show (480 + nI k : Int32) = nI (480 + k) from nI_add 480 k, zz_ix (n := 120 * t + k) (by omega), zz_ix (n := 480 + k) (by omega), nI_1]
    refine ⟨fun y => absurd y (nI_ge (by omega) (by omega)), fun _ => ⟨zz_ib (by omega) (by decide), zz_ib (by omega) (by decide), ih (k + 1) _ (by omega) ⟨s1, fun i hi => ?_, fun r i j hk' => (rl_wn (by omega)).trans (s3 r i j (by omega))⟩⟩⟩
    rw [rl_wr]
    by_cases q : i = k
    · subst q
      rw [if_pos rfl]
      exact s3 85 0 (480 + i) (by omega)
    · rw [if_neg (by omega)]
      exact s2 i (by omega)
/-- the reference's TEXT -/
theorem m_text {c : Nat} {f : Nat → Nat} {L : Nat} {d t : Nat} {G : ov_S} {Q : ov_Q} (hd : 8 ≤ d) (hc4 : c ≤ 4) (htc : t < c) (hf : ∀ j, f j < 256) (hL : L ≤ 400) (hM : xM f L G) (e2 : G.1 14 0 2 = nI c) (hok : ∀ n B F, xok c (tx_C f L) (tx_V f L) n → tx_C f L (xN c (tx_C f L) (tx_V f L) n) = 12 → xe G B → (∀ j, B.1 9 0 j = G.1 9 0 j) → B.1 14 0 34 = 0 → B.1 14 0 41 = 0 → B.1 14 0 42 = -1 → (∀ i, i < n → mzS c f L i B) → xfm t n B F → Q (some (.inl (nI n))) F) (her : ∀ n kd idx F, xok c (tx_C f L) (tx_V f L) n → xer c (tx_C f L) (tx_V f L) n kd idx → xe G F → (∀ j, F.1 9 0 j = G.1 9 0 j) → F.1 14 0 34 = 0 → F.1 14 0 41 = nI kd → F.1 14 0 42 = nI (tx_A f L idx) → Q (some (.inl (-1))) F) : ov_V true true d 0 0 mq_Mod_text 0 [some (.inr (.inr (true, 14, 0))), some (.inl (nI t)), none, none] [] G Q := by
  refine r_Mod_text_0 (by omega) ⟨fun z => absurd ?_ z, fun _ => ?_⟩
  · show 0 ≤ nI t ∧ nI t < G.1 14 0 2
    rw [e2]
    exact (zz_tm hc4).2 ⟨t, htc, rfl⟩
  · have hM4 : xM f L (ov_w (ov_w (ov_w (ov_w G 14 0 0 0) 14 0 41 0) 14 0 42 (-1)) 14 0 35 0) := hM
    have hx4 : xe G (ov_w (ov_w (ov_w (ov_w G 14 0 0 0) 14 0 41 0) 14 0 42 (-1)) 14 0 35 0) := xe_w (xe_w (xe_w (xe_w xe_r (by unfold xe_p; omega)) (by unfold xe_p; omega)) (by unfold xe_p; omega)) (by unfold xe_p; omega)
    have h24 : (ov_w (ov_w (ov_w (ov_w G 14 0 0 0) 14 0 41 0) 14 0 42 (-1)) 14 0 35 0).1 14 0 2 = nI c := e2
    have h94 : ∀ j, (ov_w (ov_w (ov_w (ov_w G 14 0 0 0) 14 0 41 0) 14 0 42 (-1)) 14 0 35 0).1 9 0 j = G.1 9 0 j := fun j => rfl
    have h41 : (ov_w (ov_w (ov_w (ov_w G 14 0 0 0) 14 0 41 0) 14 0 42 (-1)) 14 0 35 0).1 14 0 41 = 0 := rfl
    have h42 : (ov_w (ov_w (ov_w (ov_w G 14 0 0 0) 14 0 41 0) 14 0 42 (-1)) 14 0 35 0).1 14 0 42 = -1 := rfl
    have h35 : (ov_w (ov_w (ov_w (ov_w G 14 0 0 0) 14 0 41 0) 14 0 42 (-1)) 14 0 35 0).1 14 0 35 = nI (tx_P f L 0) := rfl
    generalize ov_w (ov_w (ov_w (ov_w G 14 0 0 0) 14 0 41 0) 14 0 42 (-1)) 14 0 35 0 = H at hM4 hx4 h24 h94 h41 h42 h35 ⊢
    refine m_next (k := 0) (by omega) hM4 hf hL h35 (fun S1 hk => r_Mod_text_34 (by omega) (r_Mod_readPlan_0 (m_pl (S0 := H) (by omega) (by omega) hc4 hf hL (fun n S2 hx h12 hP => ?_) (fun n kd idx S2 hx hx' hF => ?_) 30 0 S1 rfl ⟨by decide, fun i hi => absurd hi (by omega)⟩ ⟨xr_xq hk.1, xM_r hM4 hk.1, hk.2.1, hk.2.2.1, hk.2.2.2, (hk.1.2 14 0 2 rfl).trans h24, fun i hi => absurd hi (by omega)⟩)))
    · have hn := hx.1
      exact r_Mod_text_38 ⟨fun _ => r_Mod_text_60 ⟨fun _ => m_74 (B := ov_w S2 14 0 34 0) (by omega) hn (fun F hF => hok n (ov_w S2 14 0 34 0) F hx h12 (xe_w (xe_c hx4 hP.1.1) (by unfold xe_p; omega)) (fun j => (hP.1.2.1 j).trans (h94 j)) rfl (hP.1.2.2.1.trans h41) (hP.1.2.2.2.trans h42) (fun i hi => hP.2.2.2.2.2.2 i hi) hF) (4 * n) 0 _ (by omega) ⟨rfl, fun i hi => absurd hi (by omega), fun _ _ _ _ => rfl⟩, fun q => absurd q (x_ne1 (by omega))⟩, fun q => absurd q (x_ne1 (by omega))⟩
    · refine r_Mod_text_38 ⟨fun z => absurd rfl z, fun _ => r_Mod_text_60 ⟨fun z => absurd rfl z, fun _ => her n kd idx _ hx hx' (xe_w (xe_w (xe_w (xe_c hx4 hF.1.1) (by unfold xe_p; omega)) (by unfold xe_p; omega)) (by unfold xe_p; omega)) (fun j => (hF.1.2.1 j).trans (h94 j)) rfl hF.2.1 hF.2.2⟩⟩
