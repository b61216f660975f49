/-! ===== ERRAND ===== -/
/-- what is wanting till who has the MOUTH KNOWS: 0 nothing, 1 a sight, 2 a hand-over, 3 both -/
def er_k (set p : Nat) : Nat := if set.testBit (pm p 2) then 0 else if pm p 2 = pm p 0 then 1 else if set = 0 then 3 else 2
def er_s (s : Nat) : Nat := er_k (s / 27) (s % 27)
def er_h (g o k : Nat) : Nat := if k = 0 then 0 else if k = 1 then o else if k = 2 then g else g + o
def er_mv (s x m : Nat) : Nat := 27 * (s / 27) + pv (s % 27) x m
def er_see (s : Nat) : Nat := 27 * ((s / 27) ||| 2 ^ (pm (s % 27) 0)) + s % 27
def er_say (s : Nat) : Nat := 27 * ((s / 27) ||| 2 ^ (pm (s % 27) 1)) + s % 27
set_option maxRecDepth 20000 in
theorem er_c0 : ∀ s : Nat, s < 216 → ∀ x : Nat, x < 3 → ∀ m : Nat, m < 3 → m = pm (s % 27) x ∨ (er_mv s x m < 216 ∧ (¬ er_s s = 3 ∨ er_s (er_mv s x m) = 1 ∨ er_s (er_mv s x m) = 3)) := by decide +kernel
theorem er_c1 (s : Nat) (hs : s < 216) (x : Nat) (hx : x < 3) (m : Nat) (hm : m < 3) (hn : m ≠ pm (s % 27) x) : er_mv s x m < 216 ∧ (er_s s = 3 → er_s (er_mv s x m) = 1 ∨ er_s (er_mv s x m) = 3) := by
  rcases er_c0 s hs x hx m hm with e | ⟨h1, h2⟩
  · exact absurd e hn
  · exact ⟨h1, fun q => h2.elim (fun z => absurd q z) (fun z => z)⟩
set_option maxRecDepth 20000 in
theorem er_c2 : ∀ s : Nat, s < 216 → er_see s < 216 ∧ (er_s s = 2 ∨ er_s s = 3 → er_s (er_see s) = 2 ∨ er_s (er_see s) = 3) ∧ er_say s < 216 ∧ ((s / 27).testBit (pm (s % 27) 2) = true ↔ er_s s = 0) ∧ er_s s < 4 := by decide +kernel
set_option maxRecDepth 20000 in
theorem er_u1 : ∀ s : Nat, s < 216 → (er_s s = 1 → er_s (er_see s) = 0) ∧ (er_s s = 2 → ∃ m : Nat, m < 3 ∧ m ≠ pm (s % 27) 2 ∧ er_s (er_mv s 2 m) = 0) ∧ (er_s s = 3 → ∃ m : Nat, m < 3 ∧ m ≠ pm (s % 27) 2 ∧ er_s (er_mv s 2 m) = 1) := by decide +kernel
theorem er_or : ∀ set : Nat, set < 8 → ∀ j : Nat, j < 3 → (nI set ||| ((1 : Int32) <<< (nI j &&& 31))) = nI (set ||| 2 ^ j) := by decide +kernel
theorem er_g1 {g o : Nat} (ho : o ≤ g) {s x m : Nat} (hs : s < 216) (hx : x < 3) (hm : m < 3) (hn : m ≠ pm (s % 27) x) : er_h g o (er_s s) ≤ g + er_h g o (er_s (er_mv s x m)) := by
  have h3 := (er_c1 s hs x hx m hm hn).2
  have h4 := (er_c2 s hs).2.2.2.2
  generalize er_s s = a at h3 h4
  generalize er_s (er_mv s x m) = b at h3
  unfold er_h
  by_cases e3 : a = 3
  · rcases h3 e3 with e | e <;> subst e <;> subst e3 <;> simp <;> omega
  · have : a = 0 ∨ a = 1 ∨ a = 2 := by omega
    rcases this with e | e | e <;> subst e <;> simp <;> omega
theorem er_g2 {g o : Nat} {s : Nat} (hs : s < 216) : er_h g o (er_s s) ≤ o + er_h g o (er_s (er_see s)) := by
  have h3 := (er_c2 s hs).2.1
  have h4 := (er_c2 s hs).2.2.2.2
  generalize er_s s = a at h3 h4
  generalize er_s (er_see s) = b at h3
  unfold er_h
  by_cases e3 : a = 2 ∨ a = 3
  · rcases h3 e3 with e | e <;> subst e <;> rcases e3 with e | e <;> subst e <;> simp <;> omega
  · have : a = 0 ∨ a = 1 := by omega
    rcases this with e | e <;> subst e <;> simp
def er_up (F : Nat → Nat) (k v : Nat) : Nat → Nat := fun i => if i = k then v else F i
def er_mu (F : Nat → Nat) : Nat → Nat
  | 0 => 0
  | n + 1 => er_mu F n + F n
theorem er_mu1 {F : Nat → Nat} {k v : Nat} : ∀ n, n ≤ k → er_mu (er_up F k v) n = er_mu F n
  | 0, _ => rfl
  | n + 1, h => by
    show er_mu (er_up F k v) n + (if n = k then v else F n) = er_mu F n + F n
    rw [er_mu1 n (by omega), if_neg (by omega)]
theorem er_mu2 {F : Nat → Nat} {k v : Nat} (hv : v < F k) : ∀ n, k < n → er_mu (er_up F k v) n < er_mu F n
  | 0, h => absurd h (by omega)
  | n + 1, h => by
    show er_mu (er_up F k v) n + (if n = k then v else F n) < er_mu F n + F n
    by_cases e : n = k
    · rw [if_pos e, er_mu1 n (by omega), e]
      omega
    · rw [if_neg e]
      have := er_mu2 hv n (by omega)
      omega
def er_J (F : Nat → Nat) (ch : Nat) (S0 S : ov_S) : Prop := sc S0 S ∧ (∀ s, s < 216 → S.1 88 0 s = nI (F s)) ∧ S.1 14 0 47 = nI ch
def er_Inv (g o s0 : Nat) (F : Nat → Nat) : Prop := (∀ s, s < 216 → F s ≤ 1000000) ∧ F s0 = 0 ∧ (∀ s, s < 216 → F s < 1000000 → er_h g o (er_s s0) ≤ F s + er_h g o (er_s s))
def er_St (g o s0 : Nat) (F : Nat → Nat) (ch : Nat) (F' : Nat → Nat) (ch' : Nat) : Prop := er_Inv g o s0 F' ∧ (ch' = 0 ∨ ch' = 1) ∧ (ch' = 0 → ch = 0 ∧ F' = F) ∧ (F' = F ∨ er_mu F' 216 < er_mu F 216) ∧ (ch' = 1 → ch = 1 ∨ er_mu F' 216 < er_mu F 216) ∧ ∀ i, F' i ≤ F i
theorem er_St_r {g o s0 ch : Nat} {F : Nat → Nat} (h : er_Inv g o s0 F) (hc : ch = 0 ∨ ch = 1) : er_St g o s0 F ch F ch := ⟨h, hc, fun q => ⟨q, rfl⟩, .inl rfl, fun q => .inl q, fun _ => Nat.le_refl _⟩
theorem er_St_t {g o s0 ch ch1 ch2 : Nat} {F F1 F2 : Nat → Nat} (h : er_St g o s0 F ch F1 ch1) (k : er_St g o s0 F1 ch1 F2 ch2) : er_St g o s0 F ch F2 ch2 := by
  obtain ⟨h1, h2, h3, h4, h5, h6⟩ := h
  obtain ⟨k1, k2, k3, k4, k5, k6⟩ := k
  refine ⟨k1, k2, fun q => ?_, ?_, fun q => ?_, fun i => Nat.le_trans (k6 i) (h6 i)⟩
  · obtain ⟨a, b⟩ := k3 q
    obtain ⟨a', b'⟩ := h3 a
    exact ⟨a', b.trans b'⟩
  · rcases k4 with e | e
    · rw [e]; exact h4
    · rcases h4 with e' | e'
      · rw [e'] at e; exact .inr e
      · exact .inr (Nat.lt_trans e e')
  · have hle : er_mu F1 216 ≤ er_mu F 216 := by
      rcases h4 with e | e
      · rw [e]; exact Nat.le_refl _
      · exact Nat.le_of_lt e
    rcases k5 q with e | e
    · rcases h5 e with e' | e'
      · exact .inl e'
      · rcases k4 with e2 | e2
        · rw [e2]; exact .inr e'
        · exact .inr (Nat.lt_trans e2 e')
    · exact .inr (Nat.lt_of_lt_of_le e hle)
/-- one edge is looked at -/
theorem er_comes {d g o s0 : Nat} {S0 S : ov_S} {Q : ov_Q} {F : Nat → Nat} {ch s w to : Nat} (hs : s < 216) (hto : to < 216) (hI : er_Inv g o s0 F) (hJ : er_J F ch S0 S) (hc : ch = 0 ∨ ch = 1) (hf : F s < 1000000) (hw : w ≤ 1000) (hh : er_h g o (er_s s) ≤ w + er_h g o (er_s to))
    (h : ∀ (S' : ov_S) (F' : Nat → Nat) (ch' : Nat), er_J F' ch' S0 S' → er_St g o s0 F ch F' ch' → (ch' = 0 → F to ≤ F s + w) → Q none S') : ov_V true true d 0 0 mq_Mod_comes 0 [some (.inr (.inr (true, 14, 0))), some (.inl (nI to)), some (.inl (nI (F s + w)))] [] S Q := by
  obtain ⟨i1, i2, i3⟩ := id hI
  obtain ⟨j1, j2, j3⟩ := id hJ
  have ib : ov_ib (nI to) 46656 := zz_ib (by omega) (by decide)
  have hto6 := i1 to hto
  refine r_Mod_comes_0 ?_
  rw [zz_ix (n := to) (by omega), show ov_g S 88 0 to = nI (F to) from j2 to hto]
  refine ⟨ib, fun q => ⟨ib, ?_⟩, fun q => ?_⟩
  · have hlt : F s + w < F to := (nI_ltI (by omega) (by omega)).1 q
    refine h _ (er_up F to (F s + w)) 1 ⟨sc_w (sc_w j1 rfl) rfl, fun k hk => ?_, rl_ww _ _ _ _ _⟩ ⟨⟨fun k hk => ?_, ?_, fun k hk hk2 => ?_⟩, .inr rfl, fun z => absurd z (by decide), .inr (er_mu2 hlt 216 hto), fun _ => .inr (er_mu2 hlt 216 hto), fun i => ?_⟩ (fun z => absurd z (by decide))
    · show (ov_w S 88 0 to (nI (F s + w))).1 88 0 k = nI (if k = to then F s + w else F k)
      rw [rl_wr]
      by_cases e : k = to
      · rw [if_pos e, if_pos e]
      · rw [if_neg e, if_neg e]; exact j2 k hk
    · show (if k = to then F s + w else F k) ≤ 1000000
      by_cases e : k = to
      · rw [if_pos e]; omega
      · rw [if_neg e]; exact i1 k hk
    · show (if s0 = to then F s + w else F s0) = 0
      by_cases e : s0 = to
      · rw [e] at i2; omega
      · rw [if_neg e]; exact i2
    · have hk2 : (if k = to then F s + w else F k) < 1000000 := hk2
      show er_h g o (er_s s0) ≤ (if k = to then F s + w else F k) + er_h g o (er_s k)
      by_cases e : k = to
      · rw [if_pos e, e]
        have := i3 s hs hf
        omega
      · rw [if_neg e] at hk2 ⊢
        exact i3 k hk hk2
    · show (if i = to then F s + w else F i) ≤ F i
      by_cases e : i = to
      · rw [if_pos e, e]; omega
      · rw [if_neg e]; exact Nat.le_refl _
  · have hge : F to ≤ F s + w := Nat.le_of_not_lt (fun z => q (nI_lt z (by omega)))
    exact h S F ch hJ (er_St_r hI hc) (fun _ => hge)
def er_P (F : Nat → Nat) (g s n : Nat) : Prop := ∀ x m : Nat, x < 3 → m < 3 → 3 * x + m < n → m ≠ pm (s % 27) x → F (er_mv s x m) ≤ F s + g
theorem er_1 {d g o s0 : Nat} {S0 S : ov_S} {Q : ov_Q} {F0 F : Nat → Nat} {ch0 ch s x m : Nat} (hd : 2 ≤ d) (hog : o ≤ g) (hg : g ≤ 9) (hs : s < 216) (hx : x < 3) (hm : m < 3) (hf : F0 s < 1000000) (hst : er_St g o s0 F0 ch0 F ch) (hJ : er_J F ch S0 S) (hp : ch = 0 → er_P F0 g s (3 * x + m))
    (h : ∀ (S' : ov_S) (F' : Nat → Nat) (ch' : Nat), er_J F' ch' S0 S' → er_St g o s0 F0 ch0 F' ch' → (ch' = 0 → er_P F0 g s (3 * x + m + 1)) → ov_V true true d 0 0 mq_Mod_errandFrom 24 [some (.inr (.inr (true, 14, 0))), some (.inl (nI s)), some (.inl (nI g)), some (.inl (nI o)), some (.inl (nI (s % 27))), some (.inl (nI (s / 27))), some (.inl (nI x)), some (.inl (nI (m + 1)))] [] S' Q) : ov_V true true d 0 0 mq_Mod_errandFrom 24 [some (.inr (.inr (true, 14, 0))), some (.inl (nI s)), some (.inl (nI g)), some (.inl (nI o)), some (.inl (nI (s % 27))), some (.inl (nI (s / 27))), some (.inl (nI x)), some (.inl (nI m))] [] S Q := by
  have hp27 : s % 27 < 27 := Nat.mod_lt _ (by decide)
  have hmem := pm_ok (s % 27) hp27 x hx
  have hmov := pv_ok (s % 27) hp27 x hx m hm
  have hfs : F s < 1000000 := Nat.lt_of_le_of_lt (hst.2.2.2.2.2 s) hf
  refine r_Mod_errandFrom_24 hd ⟨fun q => absurd q (nI_ge (b := 3) hm (by decide)), fun _ => ?_⟩
  have e27 : (27 * nI (s / 27) + nI (pv (s % 27) x m) : Int32) = nI (er_mv s x m) := by
    show nI 27 * nI (s / 27) + nI (pv (s % 27) x m) = _
    rw [pk_mul, nI_add]
    rfl
  rw [hmem.1, hmov.1, e27, zz_ix (n := s) (by omega), show ov_g S 88 0 s = nI (F s) from hJ.2.1 s hs, nI_add]
  refine ⟨fun q => r_Mod_errandFrom_71 ?_, fun q => ⟨zz_ib (by omega) (by decide), ?_⟩⟩
  · have e : m = pm (s % 27) x := zz_inj (by omega) (by omega) q
    rw [nI_1]
    refine h S F ch hJ hst (fun z x' m' hx' hm' hl hn => ?_)
    by_cases e2 : 3 * x' + m' < 3 * x + m
    · exact hp z x' m' hx' hm' e2 hn
    · have ex : x' = x := by omega
      have em : m' = m := by omega
      subst ex; subst em
      exact absurd e hn
  · have hne : m ≠ pm (s % 27) x := fun z => q (by rw [z])
    refine er_comes hs (er_c1 s hs x hx m hm hne).1 hst.1 hJ hst.2.1 hfs (by omega) (er_g1 hog hs hx hm hne) (fun S' F' ch' k1 k2 k3 => r_Mod_errandFrom_71 ?_)
    rw [nI_1]
    refine h S' F' ch' k1 (er_St_t hst k2) (fun z x' m' hx' hm' hl hn => ?_)
    obtain ⟨z1, z2⟩ := k2.2.2.1 z
    obtain ⟨z3, z4⟩ := hst.2.2.1 z1
    by_cases e2 : 3 * x' + m' < 3 * x + m
    · exact hp z1 x' m' hx' hm' e2 hn
    · have ex : x' = x := by omega
      have em : m' = m := by omega
      subst ex; subst em
      have := k3 z
      rw [z4] at this
      exact this
theorem er_2 {d g o s0 : Nat} {S0 S : ov_S} {Q : ov_Q} {F0 F : Nat → Nat} {ch0 ch s x : Nat} (hd : 2 ≤ d) (hog : o ≤ g) (hg : g ≤ 9) (hs : s < 216) (hx : x < 3) (hf : F0 s < 1000000) (hst : er_St g o s0 F0 ch0 F ch) (hJ : er_J F ch S0 S) (hp : ch = 0 → er_P F0 g s (3 * x))
    (h : ∀ (S' : ov_S) (F' : Nat → Nat) (ch' : Nat), er_J F' ch' S0 S' → er_St g o s0 F0 ch0 F' ch' → (ch' = 0 → er_P F0 g s (3 * (x + 1))) → ov_V true true d 0 0 mq_Mod_errandFrom 15 [some (.inr (.inr (true, 14, 0))), some (.inl (nI s)), some (.inl (nI g)), some (.inl (nI o)), some (.inl (nI (s % 27))), some (.inl (nI (s / 27))), some (.inl (nI (x + 1))), none] [] S' Q) : ov_V true true d 0 0 mq_Mod_errandFrom 15 [some (.inr (.inr (true, 14, 0))), some (.inl (nI s)), some (.inl (nI g)), some (.inl (nI o)), some (.inl (nI (s % 27))), some (.inl (nI (s / 27))), some (.inl (nI x)), none] [] S Q := by
  refine r_Mod_errandFrom_15 (by omega) ⟨fun q => absurd q (nI_ge (b := 3) hx (by decide)), fun _ => ?_⟩
  refine er_1 (m := 0) hd hog hg hs hx (by decide) hf hst hJ hp (fun S1 F1 ch1 a1 a2 a3 => er_1 (m := 1) hd hog hg hs hx (by decide) hf a2 a1 a3 (fun S2 F2 ch2 b1 b2 b3 => er_1 (m := 2) hd hog hg hs hx (by decide) hf b2 b1 b3 (fun S3 F3 ch3 c1 c2 c3 => r_Mod_errandFrom_24 hd ⟨fun _ => ?_, fun q => absurd (by decide) q⟩)))
  rw [nI_1]
  exact h S3 F3 ch3 c1 c2 c3
def er_X (F : Nat → Nat) (g o s : Nat) : Prop := F s < 1000000 → er_P F g s 9 ∧ F (er_see s) ≤ F s + o
/-- all edges of a state -/
theorem er_from {d g o s0 : Nat} {S0 S : ov_S} {Q : ov_Q} {F : Nat → Nat} {ch s : Nat} (hd : 2 ≤ d) (hog : o ≤ g) (hg : g ≤ 9) (hs : s < 216) (hf : F s < 1000000) (hI : er_Inv g o s0 F) (hc : ch = 0 ∨ ch = 1) (hJ : er_J F ch S0 S)
    (h : ∀ (S' : ov_S) (F' : Nat → Nat) (ch' : Nat), er_J F' ch' S0 S' → er_St g o s0 F ch F' ch' → (ch' = 0 → er_X F g o s) → Q none S') : ov_V true true d 0 0 mq_Mod_errandFrom 0 [some (.inr (.inr (true, 14, 0))), some (.inl (nI s)), some (.inl (nI g)), some (.inl (nI o)), none, none, none, none] [] S Q := by
  have hp27 : s % 27 < 27 := Nat.mod_lt _ (by decide)
  have hs8 : s / 27 < 8 := by omega
  refine r_Mod_errandFrom_0 ?_
  have e1 : (nI s - nI s / 27 * 27 : Int32) = nI (s % 27) := pk_rem (d := 27) (by omega) (by decide) (by decide)
  have e2 : (nI s / 27 : Int32) = nI (s / 27) := pk_div (d := 27) (by omega) (by decide) (by decide)
  rw [e1, e2]
  refine er_2 (x := 0) hd hog hg hs (by decide) hf (er_St_r hI hc) hJ (fun _ x' m' hx' hm' hl _ => absurd hl (by omega)) (fun S1 F1 ch1 a1 a2 a3 => er_2 (x := 1) hd hog hg hs (by decide) hf a2 a1 a3 (fun S2 F2 ch2 b1 b2 b3 => er_2 (x := 2) hd hog hg hs (by decide) hf b2 b1 b3 (fun S3 F3 ch3 c1 c2 c3 => r_Mod_errandFrom_15 (by omega) ⟨fun _ => ?_, fun q => absurd (by decide) q⟩)))
  have hf3 : F3 s < 1000000 := Nat.lt_of_le_of_lt (c2.2.2.2.2.2 s) hf
  have hm0 : ov_mem (nI (s % 27)) 0 = nI (pm (s % 27) 0) := (pm_ok (s % 27) hp27 0 (by decide)).1
  have hm1 : ov_mem (nI (s % 27)) 1 = nI (pm (s % 27) 1) := (pm_ok (s % 27) hp27 1 (by decide)).1
  have hm2 : ov_mem (nI (s % 27)) 2 = nI (pm (s % 27) 2) := (pm_ok (s % 27) hp27 2 (by decide)).1
  have l0 := (pm_ok (s % 27) hp27 0 (by decide)).2
  have l1 := (pm_ok (s % 27) hp27 1 (by decide)).2
  have l2 := (pm_ok (s % 27) hp27 2 (by decide)).2
  have es : (27 * nI ((s / 27) ||| 2 ^ (pm (s % 27) 0)) + nI (s % 27) : Int32) = nI (er_see s) := by
    show nI 27 * nI _ + nI _ = _
    rw [pk_mul, nI_add]
    rfl
  have et : (27 * nI ((s / 27) ||| 2 ^ (pm (s % 27) 1)) + nI (s % 27) : Int32) = nI (er_say s) := by
    show nI 27 * nI _ + nI _ = _
    rw [pk_mul, nI_add]
    rfl
  obtain ⟨q1, q2, q3, q4, q5⟩ := er_c2 s hs
  rw [hm0, er_or _ hs8 _ l0, es, zz_ix (n := s) (by omega), show ov_g S3 88 0 s = nI (F3 s) from c1.2.1 s hs, nI_add]
  refine ⟨zz_ib (by omega) (by decide), er_comes hs q1 c2.1 c1 c2.2.1 hf3 (by omega) (er_g2 hs) (fun S4 F4 ch4 d1 d2 d3 => ?_)⟩
  have d2' := er_St_t c2 d2
  have hX : ch4 = 0 → er_X F g o s := by
    intro z _
    obtain ⟨z1, z2⟩ := d2.2.2.1 z
    obtain ⟨z3, z4⟩ := c2.2.2.1 z1
    refine ⟨c3 z1, ?_⟩
    have := d3 z
    rw [z4] at this
    exact this
  have hf4 : F4 s < 1000000 := Nat.lt_of_le_of_lt (d2'.2.2.2.2.2 s) hf
  refine r_Mod_errandFrom_113 (by omega) ?_
  rw [hm2, hm1, zz_bitN (by omega) (by omega), er_or _ hs8 _ l1, et, zz_ix (n := s) (by omega), show ov_g S4 88 0 s = nI (F4 s) from d1.2.1 s hs, nI_add]
  refine ⟨fun _ => r_Mod_errandFrom_159 (h S4 F4 ch4 d1 d2' hX), fun y => ⟨zz_ib (by omega) (by decide), er_comes hs q3 d2'.1 d1 d2'.2.1 hf4 (by omega) ?_ (fun S5 F5 ch5 f1 f2 f3 => r_Mod_errandFrom_159 (h S5 F5 ch5 f1 (er_St_t d2' f2) (fun z => hX (f2.2.2.1 z).1)))⟩⟩
  have hb : (s / 27).testBit (pm (s % 27) 2) = true := by
    rw [Nat.testBit_eq_decide_div_mod_eq]
    have := zz_inj (b := 1) (by have := Nat.mod_lt (s / 27 / 2 ^ pm (s % 27) 2) (show 0 < 2 by decide); omega) (by decide) y
    simpa using this
  rw [q4.1 hb]
  exact Nat.zero_le _
/-- a pass over all states -/
theorem er_pass {d g o s0 : Nat} {S0 : ov_S} {Q : ov_Q} {F0 : Nat → Nat} (hd : 3 ≤ d) (hog : o ≤ g) (hg : g ≤ 9)
    (h : ∀ (S' : ov_S) (F' : Nat → Nat) (ch' : Nat), er_J F' ch' S0 S' → er_St g o s0 F0 0 F' ch' → (ch' = 0 → ∀ s, s < 216 → er_X F0 g o s) → ov_V true true d 0 0 mq_Mod_findsErrand 53 [some (.inr (.inr (true, 14, 0))), none, none, some (.inl (nI g)), some (.inl (nI o)), none, none] [] S' Q) : ∀ (j s : Nat), s + j = 216 → ∀ (S : ov_S) (F : Nat → Nat) (ch : Nat), er_J F ch S0 S → er_St g o s0 F0 0 F ch → (ch = 0 → ∀ s', s' < s → er_X F0 g o s') → ov_V true true d 0 0 mq_Mod_findsErrand 68 [some (.inr (.inr (true, 14, 0))), none, none, some (.inl (nI g)), some (.inl (nI o)), some (.inl (nI s)), none] [] S Q := by
  intro j
  induction j with
  | zero =>
    intro s hs S F ch a1 a2 a3
    have e : s = 216 := by omega
    subst e
    exact r_Mod_findsErrand_68 (by omega) ⟨fun _ => h S F ch a1 a2 a3, fun q => absurd (by decide) q⟩
  | succ j ih =>
    intro s hs S F ch a1 a2 a3
    have hs2 : s < 216 := by omega
    refine r_Mod_findsErrand_68 (by omega) ?_
    rw [zz_ix (n := s) (by omega), show ov_g S 88 0 s = nI (F s) from a1.2.1 s hs2]
    refine ⟨fun q => absurd q (nI_ge (b := 216) hs2 (by decide)), fun _ => ⟨zz_ib (by omega) (by decide), fun q => r_Mod_findsErrand_98 ?_, fun q => ?_⟩⟩
    · rw [nI_1]
      refine ih (s + 1) (by omega) S F ch a1 a2 (fun z s' hs' => ?_)
      by_cases e : s' = s
      · subst e
        have hF : F = F0 := (a2.2.2.1 z).2
        have : 1000000 ≤ F s' := (nI_leI (a := 1000000) (by decide) (by have := a2.1.1 s' hs2; omega)).1 q
        intro hlt
        rw [hF] at this
        omega
      · exact a3 z s' (by omega)
    · have hlt : F s < 1000000 := Nat.lt_of_not_le (fun z => q (nI_le z (by have := a2.1.1 s hs2; omega)))
      refine er_from (by omega) hog hg hs2 hlt a2.1 a2.2.1 a1 (fun S1 F1 ch1 b1 b2 b3 => r_Mod_findsErrand_98 ?_)
      rw [nI_1]
      refine ih (s + 1) (by omega) S1 F1 ch1 b1 (er_St_t a2 b2) (fun z s' hs' => ?_)
      obtain ⟨z1, z2⟩ := b2.2.2.1 z
      by_cases e : s' = s
      · subst e
        have hF : F = F0 := (a2.2.2.1 z1).2
        have := b3 z
        rw [hF] at this
        exact this
      · exact a3 z1 s' (by omega)
theorem er_53 {d g o s0 : Nat} {S0 : ov_S} {Q : ov_Q} (hd : 3 ≤ d) (hog : o ≤ g) (hg : g ≤ 9)
    (h : ∀ (S' : ov_S) (F' : Nat → Nat), er_J F' 0 S0 S' → er_Inv g o s0 F' → (∀ s, s < 216 → er_X F' g o s) → ov_V true true d 0 0 mq_Mod_findsErrand 115 [some (.inr (.inr (true, 14, 0))), none, none, none, some (.inl (nI o)), some (.inl 1000000), some (.inl 0)] [] S' Q) : ∀ (N : Nat) (S : ov_S) (F : Nat → Nat) (ch : Nat), er_mu F 216 < N → er_J F ch S0 S → er_Inv g o s0 F → (ch = 0 ∨ ch = 1) → (ch = 0 → ∀ s, s < 216 → er_X F g o s) → ov_V true true d 0 0 mq_Mod_findsErrand 53 [some (.inr (.inr (true, 14, 0))), none, none, some (.inl (nI g)), some (.inl (nI o)), none, none] [] S Q := by
  intro N
  induction N with
  | zero =>
    intro S F ch hN
    exact absurd hN (by omega)
  | succ N ih =>
    intro S F ch hN hJ hI hc hX
    refine r_Mod_findsErrand_53 ?_
    rw [show ov_g S 14 0 47 = nI ch from hJ.2.2]
    refine ⟨fun q => ?_, fun q => ?_⟩
    · have hc0 : ch = 0 := zz_inj (b := 0) (by omega) (by decide) q
      subst hc0
      exact h S F hJ hI (hX rfl)
    · have hJ0 : er_J F 0 S0 (ov_w S 14 0 47 0) := ⟨sc_w hJ.1 rfl, hJ.2.1, rl_ww _ _ _ _ _⟩
      refine er_pass (F0 := F) hd hog hg (fun S1 F1 ch1 a1 a2 a3 => ?_) 216 0 (by omega) _ F 0 hJ0 (er_St_r hI (.inl rfl)) (fun _ s' hs' => absurd hs' (by omega))
      by_cases e : ch1 = 0
      · have hF : F1 = F := (a2.2.2.1 e).2
        subst e
        subst hF
        have hJ1 := a1
        refine r_Mod_findsErrand_53 ?_
        rw [show ov_g S1 14 0 47 = nI 0 from hJ1.2.2]
        exact ⟨fun _ => h S1 F1 hJ1 a2.1 (a3 rfl), fun q => absurd rfl q⟩
      · have e1 : ch1 = 1 := by
          rcases a2.2.1 with z | z
          · exact absurd z e
          · exact z
        have hmu : er_mu F1 216 < er_mu F 216 := by
          rcases a2.2.2.2.2.1 e1 with z | z
          · exact absurd z (by decide)
          · exact z
        exact ih S1 F1 ch1 (by omega) a1 a2.1 a2.2.1 (fun z => absurd z e)
theorem er_L {g o s0 : Nat} {F : Nat → Nat} (hs0 : s0 < 216) (hg : g ≤ 9) (hog : o ≤ g) (hI : er_Inv g o s0 F) (hX : ∀ s, s < 216 → er_X F g o s) {L : Nat} (h1 : ∀ s, s < 216 → er_s s = 0 → L ≤ F s) (h2 : L = 1000000 ∨ ∃ s, s < 216 ∧ er_s s = 0 ∧ L = F s) : L = er_h g o (er_s s0) := by
  obtain ⟨i1, i2, i3⟩ := hI
  have hk := (er_c2 s0 hs0).2.2.2.2
  obtain ⟨u1, u2, u3⟩ := er_u1 s0 hs0
  have hhl : er_h g o (er_s s0) ≤ 18 := by
    unfold er_h
    split <;> (try split) <;> (try split) <;> omega
  have x0 := hX s0 hs0 (by rw [i2]; decide)
  rw [i2] at x0
  have up : L ≤ er_h g o (er_s s0) := by
    have hcase : er_s s0 = 0 ∨ er_s s0 = 1 ∨ er_s s0 = 2 ∨ er_s s0 = 3 := by omega
    rcases hcase with e | e | e | e
    · have := h1 s0 hs0 e
      omega
    · have a := h1 _ (er_c2 s0 hs0).1 (u1 e)
      have b := x0.2
      rw [e]
      show L ≤ o
      omega
    · obtain ⟨m, hm, hn, he⟩ := u2 e
      have a := h1 _ (er_c1 s0 hs0 2 (by decide) m hm hn).1 he
      have b := x0.1 2 m (by decide) hm (by omega) hn
      rw [i2] at b
      rw [e]
      show L ≤ g
      omega
    · obtain ⟨m, hm, hn, he⟩ := u3 e
      have hlt := (er_c1 s0 hs0 2 (by decide) m hm hn).1
      have b := x0.1 2 m (by decide) hm (by omega) hn
      rw [i2] at b
      have x1 := (hX _ hlt (by omega)).2
      have a := h1 _ (er_c2 _ hlt).1 ((er_u1 _ hlt).1 he)
      rw [e]
      show L ≤ g + o
      omega
  have lo : er_h g o (er_s s0) ≤ L := by
    rcases h2 with e | ⟨s, hs, he, e⟩
    · omega
    · by_cases hf : F s < 1000000
      · have := i3 s hs hf
        rw [he] at this
        have h0 : er_h g o 0 = 0 := rfl
        omega
      · omega
  omega
theorem er_115 {d g o s0 : Nat} {S0 S : ov_S} {Q : ov_Q} {F : Nat → Nat} (hd : 3 ≤ d) (hs0 : s0 < 216) (hg : g ≤ 9) (hog : o ≤ g) (hJ : er_J F 0 S0 S) (hI : er_Inv g o s0 F) (hX : ∀ s, s < 216 → er_X F g o s) (h : Q (some (.inl (nI (er_h g o (er_s s0) + o)))) S) : ∀ (j s L : Nat), s + j = 216 → L ≤ 1000000 → (∀ s', s' < s → er_s s' = 0 → L ≤ F s') → (L = 1000000 ∨ ∃ s', s' < 216 ∧ er_s s' = 0 ∧ L = F s') → ov_V true true d 0 0 mq_Mod_findsErrand 115 [some (.inr (.inr (true, 14, 0))), none, none, none, some (.inl (nI o)), some (.inl (nI L)), some (.inl (nI s))] [] S Q := by
  intro j
  induction j with
  | zero =>
    intro s L hs hL h1 h2
    have e : s = 216 := by omega
    subst e
    have := er_L hs0 hg hog hI hX h1 h2
    subst this
    refine r_Mod_findsErrand_115 (by omega) ⟨fun _ => ?_, fun q => absurd (by decide) q⟩
    rw [nI_add]
    exact h
  | succ j ih =>
    intro s L hs hL h1 h2
    have hs2 : s < 216 := by omega
    have hp27 : s % 27 < 27 := Nat.mod_lt _ (by decide)
    have e1 : (nI s - nI s / 27 * 27 : Int32) = nI (s % 27) := pk_rem (d := 27) (by omega) (by decide) (by decide)
    have e2 : (nI s / 27 : Int32) = nI (s / 27) := pk_div (d := 27) (by omega) (by decide) (by decide)
    have hm2 : ov_mem (nI (s % 27)) 2 = nI (pm (s % 27) 2) := (pm_ok (s % 27) hp27 2 (by decide)).1
    have l2 := (pm_ok (s % 27) hp27 2 (by decide)).2
    have q4 := (er_c2 s hs2).2.2.2.1
    have hF6 := hI.1 s hs2
    refine r_Mod_findsErrand_115 (by omega) ?_
    rw [e1, e2, hm2, zz_bitN (by omega) (by omega), zz_ix (n := s) (by omega), show ov_g S 88 0 s = nI (F s) from hJ.2.1 s hs2]
    refine ⟨fun q => absurd q (nI_ge (b := 216) hs2 (by decide)), fun _ => ⟨fun n => r_Mod_findsErrand_166 ?_, fun y => ⟨zz_ib (by omega) (by decide), fun q => r_Mod_findsErrand_166 ?_, fun q => ⟨zz_ib (by omega) (by decide), r_Mod_findsErrand_166 ?_⟩⟩⟩⟩
    · rw [nI_1]
      refine ih (s + 1) L (by omega) hL (fun s' hs' he => ?_) h2
      by_cases e : s' = s
      · subst e
        have hb := q4.2 he
        rw [Nat.testBit_eq_decide_div_mod_eq] at hb
        have : s' / 27 / 2 ^ pm (s' % 27) 2 % 2 = 1 := by simpa using hb
        exact absurd (by rw [this]; rfl) n
      · exact h1 s' (by omega) he
    · rw [nI_1]
      have hle : L ≤ F s := (nI_leI (by omega) (by omega)).1 q
      refine ih (s + 1) L (by omega) hL (fun s' hs' he => ?_) h2
      by_cases e : s' = s
      · subst e; exact hle
      · exact h1 s' (by omega) he
    · rw [nI_1]
      have hlt : F s < L := Nat.lt_of_not_le (fun z => q (nI_le z (by omega)))
      have hb : (s / 27).testBit (pm (s % 27) 2) = true := by
        rw [Nat.testBit_eq_decide_div_mod_eq]
        have := zz_inj (b := 1) (by have := Nat.mod_lt (s / 27 / 2 ^ pm (s % 27) 2) (show 0 < 2 by decide); omega) (by decide) y
        simpa using this
      refine ih (s + 1) (F s) (by omega) (by omega) (fun s' hs' he => ?_) (.inr ⟨s, hs2, q4.1 hb, rfl⟩)
      by_cases e : s' = s
      · subst e; exact Nat.le_refl _
      · have := h1 s' (by omega) he
        omega
theorem er_fill {d : Nat} {S0 : ov_S} {Q : ov_Q} {v1 v2 v3 v4 : Int32} (hd : 3 ≤ d) (h : ∀ S', sc S0 S' → (∀ s, s < 216 → S'.1 88 0 s = nI 1000000) → ov_V true true d 0 0 mq_Mod_findsErrand 3 [some (.inr (.inr (true, 14, 0))), some (.inl v1), some (.inl v2), some (.inl v3), some (.inl v4), some (.inl (nI 216)), none] [] S' Q) : ∀ (j i : Nat), i + j = 216 → ∀ S, sc S0 S → (∀ s, s < i → S.1 88 0 s = nI 1000000) → ov_V true true d 0 0 mq_Mod_findsErrand 3 [some (.inr (.inr (true, 14, 0))), some (.inl v1), some (.inl v2), some (.inl v3), some (.inl v4), some (.inl (nI i)), none] [] S Q := by
  intro j
  induction j with
  | zero =>
    intro i hi S a1 a2
    have e : i = 216 := by omega
    subst e
    exact h S a1 a2
  | succ j ih =>
    intro i hi S a1 a2
    refine r_Mod_findsErrand_3 (by omega) ⟨fun q => absurd q (nI_ge (b := 216) (by omega) (by decide)), fun _ => ⟨zz_ib (by omega) (by decide), ?_⟩⟩
    rw [nI_1, zz_ix (n := i) (by omega)]
    refine ih (i + 1) (by omega) _ (sc_w a1 rfl) (fun s hs => ?_)
    rw [rl_wr]
    by_cases e : s = i
    · rw [if_pos e]; rfl
    · rw [if_neg e]; exact a2 s (by omega)
theorem qk_sc {S S' : ov_S} (h : sc S S') (t f : Nat) : qk S' t f = qk S t f := by
  unfold qk qk_b
  rw [h.2 64 0 _ rfl, h.2 64 0 _ rfl, h.2 64 0 _ rfl]
theorem qs_sc {S S' : ov_S} (h : sc S S') (t x : Nat) : qs S' t x = qs S t x := by
  unfold qs
  rw [h.2 62 0 _ rfl, h.2 82 0 _ rfl]
theorem qp_sc {S S' : ov_S} (h : sc S S') (t : Nat) : qp S' t = qp S t := by
  unfold qp
  rw [qs_sc h, qs_sc h, qs_sc h]
theorem qp_lt {c mm lb nz wc : Nat} {S : ov_S} {t : Nat} (hw : rl_w c mm lb nz wc S.1 S.1) (ht : t < 4) : qp S t < 27 ∧ pm (qp S t) 0 = qs S t 0 ∧ pm (qp S t) 1 = qs S t 1 ∧ pm (qp S t) 2 = qs S t 2 := by
  have h0 := (qs_ok hw ht (x := 0) (by decide)).1
  have h1 := (qs_ok hw ht (x := 1) (by decide)).1
  have h2 := (qs_ok hw ht (x := 2) (by decide)).1
  refine ⟨by unfold qp; omega, ?_, ?_, ?_⟩
  · show qp S t / 9 = _
    unfold qp; omega
  · show qp S t / 3 % 3 = _
    unfold qp; omega
  · show qp S t % 3 = _
    unfold qp; omega
/-- what the reference finds -/
theorem er_M {d c mm lb nz wc : Nat} {S : ov_S} {Q : ov_Q} {t f g o : Nat} (hd : 4 ≤ d) (hw : rl_w c mm lb nz wc S.1 S.1) (ht : t < 4) (hf : f < 10) (hog : o ≤ g) (hg : g ≤ 9) (h : ∀ S', sc S S' → Q (some (.inl (nI (er_h g o (er_k (qk S t f) (qp S t)) + o)))) S') : ov_V true true d 0 0 mq_Mod_findsErrand 0 [some (.inr (.inr (true, 14, 0))), some (.inl (nI t)), some (.inl (nI f)), some (.inl (nI g)), some (.inl (nI o)), none, none] [] S Q := by
  have hk8 := qk_lt S t f
  have hp := (qp_lt hw ht).1
  refine r_Mod_findsErrand_0 (er_fill (S0 := S) (by omega) (fun S1 s1 h88 => ?_) 216 0 (by omega) S sc_r (fun s hs => absurd hs (by omega)))
  refine r_Mod_findsErrand_3 (by omega) ⟨fun _ => qk_M ht hf (r_Mod_findsErrand_39 (by omega) (qs_M (by omega) (sc_W hw s1) ht (r_Mod_findsErrand_45 ?_))), fun q => absurd (by decide) q⟩
  have e27 : (27 * nI (qk S1 t f) + nI (qp S1 t) : Int32) = nI (27 * qk S t f + qp S t) := by
    show nI 27 * nI _ + nI _ = _
    rw [pk_mul, nI_add, qk_sc s1, qp_sc s1]
  rw [e27, zz_ix (n := 27 * qk S t f + qp S t) (by omega)]
  refine ⟨zz_ib (by omega) (by decide), ?_⟩
  generalize hs0 : 27 * qk S t f + qp S t = s0
  have es : er_s s0 = er_k (qk S t f) (qp S t) := by
    unfold er_s
    rw [show s0 / 27 = qk S t f by omega, show s0 % 27 = qp S t by omega]
  rw [← es] at h
  have hI : er_Inv g o s0 (fun i => if i = s0 then 0 else 1000000) := by
    refine ⟨fun s _ => ?_, if_pos rfl, fun s _ hlt => ?_⟩
    · show (if s = s0 then 0 else 1000000) ≤ 1000000
      split <;> omega
    · by_cases e : s = s0
      · subst e; exact Nat.le_add_left _ _
      · have hlt : (if s = s0 then 0 else 1000000) < 1000000 := hlt
        rw [if_neg e] at hlt
        exact absurd hlt (by decide)
  refine er_53 (s0 := s0) (by omega) hog hg (fun S2 F2 a1 a2 a3 => ?_) (er_mu (fun i => if i = s0 then 0 else 1000000) 216 + 1) _ (fun i => if i = s0 then 0 else 1000000) 1 (by omega) ⟨sc_w (sc_w s1 rfl) rfl, fun s hs => ?_, rl_ww _ _ _ _ _⟩ hI (.inr rfl) (fun q => absurd q (by decide))
  · exact er_115 (by omega) (by omega) hg hog a1 a2 a3 (h S2 a1.1) 216 0 1000000 (by omega) (by decide) (fun s' hs' => absurd hs' (by omega)) (.inl rfl)
  · show (ov_w S1 88 0 s0 0).1 88 0 s = nI (if s = s0 then 0 else 1000000)
    rw [rl_wr]
    by_cases e : s = s0
    · rw [if_pos e, if_pos e]; rfl
    · rw [if_neg e, if_neg e]; exact h88 s hs
/-- what the class answers -/
theorem er_E {d c mm lb nz wc : Nat} {S : ov_S} {Q : ov_Q} {t K g : Nat} {v2 : Int32} (hd : 4 ≤ d) (hw : rl_w c mm lb nz wc S.1 S.1) (ht : t < 4) (hK : K < 8) (eg : S.1 6 t 0 = nI g) (h : Q (some (.inl (nI (if v2 = 0 then er_h 1 0 (er_k K (qp S t)) + 0 else er_h g 1 (er_k K (qp S t)) + 1)))) S) : ov_V true true d 0 0 mq_Three_sendWord 0 [some (.inr (.inr (true, 6, t))), some (.inl (nI K)), some (.inl v2), none, none, none, none] [] S Q := by
  obtain ⟨l0, e0, _⟩ := qs_ok hw ht (x := 0) (by decide)
  obtain ⟨l2, e2, _⟩ := qs_ok hw ht (x := 2) (by decide)
  have e0 : ov_stp S t 0 = nI (qs S t 0) := e0
  have e2 : ov_stp S t 2 = nI (qs S t 2) := e2
  obtain ⟨_, p0, _, p2⟩ := qp_lt hw ht
  have hbit := zz_bit (b := K) (t := qs S t 2) (by omega) (by omega)
  unfold er_k at h
  rw [p0, p2] at h
  have e01 : ∀ x : Int32, (0 * x + 0 + 1 : Int32) = 1 := fun x => by rw [Int32.zero_mul]; rfl
  have e02 : ∀ x : Int32, (0 * x + 1 + 1 : Int32) = 2 := fun x => by rw [Int32.zero_mul]; rfl
  have e11 : (1 * nI g + 0 + 1 : Int32) = nI (g + 1) := by rw [Int32.one_mul, Int32.add_zero, nI_1]
  have e12 : (1 * nI g + 1 + 1 : Int32) = nI (g + 1 + 1) := by rw [Int32.one_mul, nI_1, nI_1]
  refine r_Three_sendWord_0 (by omega) ?_
  rw [e2, e0]
  refine ⟨fun y => r_Three_sendWord_27 ?_, fun n => ⟨fun n2 => ?_, fun y2 => r_Three_sendWord_27 ?_⟩⟩
  · rw [if_pos (hbit.1 y)] at h
    rw [ov_bt y]
    refine r_Three_sendWord_32_2 ⟨fun n => ⟨fun _ => r_Three_sendWord_68 ?_, fun q => absurd q (by decide)⟩, fun q => ?_⟩
    · rw [if_neg n] at h
      rw [e01]
      exact h
    · rw [if_pos q] at h
      exact h
  · have hne : ¬ qs S t 2 = qs S t 0 := fun q => n2 (by rw [q])
    rw [if_neg (fun q => n (hbit.2 q)), if_neg hne] at h
    refine r_Three_sendWord_32 ⟨fun nv => ⟨fun nk => r_Three_sendWord_68 ?_, fun yk => r_Three_sendWord_68_2 ?_⟩, fun q => ?_⟩
    · have : ¬ K = 0 := fun q => nk (by rw [q]; rfl)
      rw [if_neg nv, if_neg this] at h
      rw [show ov_g S 6 t 0 = nI g from eg, e11]
      exact h
    · have : K = 0 := zz_inj (b := 0) (by omega) (by decide) yk
      rw [if_neg nv, if_pos this] at h
      rw [show ov_g S 6 t 0 = nI g from eg, e12]
      exact h
    · rw [if_pos q] at h
      by_cases k0 : K = 0
      · rw [if_pos k0] at h; exact h
      · rw [if_neg k0] at h; exact h
  · have he : qs S t 2 = qs S t 0 := zz_inj (by omega) (by omega) y2
    rw [if_neg (fun q => n (hbit.2 q)), if_pos he] at h
    rw [ov_bf n]
    refine r_Three_sendWord_32_2 ⟨fun nv => ⟨fun q => absurd rfl q, fun _ => r_Three_sendWord_68_2 ?_⟩, fun q => ?_⟩
    · rw [if_neg nv] at h
      rw [e02]
      exact h
    · rw [if_pos q] at h
      exact h
theorem s_errand {d : Nat} {S : ov_S} {v1 v2 v3 v4 : Int32} (hd : 6 ≤ d) (h : rl_S S) : rl_2 d mq_Eye_errand mq_Mod_errand [some (.inr (.inr (true, 0, 0))), some (.inl v1), some (.inl v2), some (.inl v3), some (.inl v4), none, none] [some (.inr (.inr (true, 14, 0))), some (.inl v1), some (.inl v2), some (.inl v3), some (.inl v4)] S := by
  unfold rl_2
  obtain ⟨c, m, lb, nz, wc, hw, ho, hi⟩ := id h
  have hc := hw.1.1
  have hw0 : rl_w c m lb nz wc (ov_w S 14 0 0 0).1 (ov_w S 14 0 0 0).1 := rl_told hw
  have hfe : ∀ v : Int32, (0 ≤ v ∧ v ≤ 9) ↔ (0 ≤ v ∧ v < 10) := fun v => by
    rw [zz_le (b := 9) rfl, zz_lt (b := 10) rfl]
    exact ⟨fun ⟨k, hk, e⟩ => ⟨k, by omega, e⟩, fun ⟨k, hk, e⟩ => ⟨k, by omega, e⟩⟩
  have hT : ∀ v : Int32, ((0 ≤ v ∧ v ≤ ov_g S 1 0 2 - 1) ∧ v < 4) ↔ (0 ≤ v ∧ v < ov_g (ov_w S 14 0 0 0) 14 0 2) := fun v => (w_three hc hw.1.2.1).trans (m_three (S := ov_w S 14 0 0 0) hc hw.1.2.2).symm
  have fl3 : ∀ v : Int32, ((0 ≤ v ∧ v ≤ ov_g S 1 0 2 - 1) ∧ v < 4) → ov_g S 2 0 (ov_ix v) ≠ 0 := fun v q => by
    obtain ⟨t, ht, rfl⟩ := (w_three hc hw.1.2.1).1 q
    rw [zz_ix (by omega)]
    exact ho.2.2.2.1 t (by omega)
  -- whatever is refused, the reference refuses too
  have no : ¬ (((0 ≤ v1 ∧ v1 ≤ ov_g S 1 0 2 - 1) ∧ v1 < 4) ∧ (0 ≤ v2 ∧ v2 ≤ 9) ∧ ((0 ≤ v3 ∧ v3 ≤ ov_g S 1 0 2 - 1) ∧ v3 < 4) ∧ (¬ v1 = v3) ∧ (0 ≤ v4 ∧ v4 ≤ 1)) → ov_V true true d 0 0 mq_Mod_errand 0 [some (.inr (.inr (true, 14, 0))), some (.inl v1), some (.inl v2), some (.inl v3), some (.inl v4)] [] S (fun r' S2 => rl_e (some (.inl (-1))) r' S2) := by
    intro n
    refine r_Mod_errand_0 (by omega) ⟨fun _ => rl_same h rfl, fun q1 => ⟨fun _ => rl_same h rfl, fun q2 => ⟨fun _ => rl_same h rfl, fun q3 => ⟨fun _ => rl_same h rfl, fun q4 => ⟨fun q5 => absurd ⟨(hT _).2 q1, (hfe _).2 q2, (hT _).2 q3, q4, q5⟩ n, fun _ => rl_same h rfl⟩⟩⟩⟩⟩
  refine r_Eye_errand_0 (by omega) ⟨fun e => no (fun q => q.2.2.2.1 e), fun n13 => ⟨fun n => no (fun q => n q.2.1), fun q2 => ⟨fun q4 => ⟨fun q1 => ⟨fl3 _ q1, fun q3 => ⟨fl3 _ q3, ?_⟩, fun n => no (fun q => n q.2.2.1)⟩, fun n => ⟨fun q3 => ⟨fl3 _ q3, no (fun q => n q.1)⟩, fun _ => no (fun q => n q.1)⟩⟩, fun n => no (fun q => n q.2.2.2.2)⟩⟩⟩
  have q1' := (hT _).1 q1
  have q2' := (hfe _).1 q2
  have q3' := (hT _).1 q3
  obtain ⟨t, ht, rfl⟩ := (w_three hc hw.1.2.1).1 q1
  obtain ⟨u, hu, rfl⟩ := (w_three hc hw.1.2.1).1 q3
  obtain ⟨f, hf, rfl⟩ := (zz_le (b := 9) rfl).1 q2
  have hf : f < 10 := by omega
  obtain ⟨g, hg1, hg9, eg⟩ := ((hw.2.2.2.2.2.2.2.1 t (by omega)).2.2 ht).1
  have egE : S.1 6 t 0 = nI g := (hw.2.2.2.2.2.2.2.1 t (by omega)).1.trans eg
  have s0 : sc S (ov_w S 14 0 0 0) := sc_told
  obtain ⟨l1, e1, _⟩ := qs_ok hw (t := u) (by omega) (x := 1) (by decide)
  have e1 : ov_stp S u 1 = nI (qs S u 1) := e1
  have hbit := zz_bit (b := qk S u f) (t := qs S u 1) (by have := qk_lt S u f; omega) (by omega)
  -- the reference up to the question whether it is known there
  have M : ∀ x : Int32, ((qk S u f).testBit (qs S u 1) = true → x = 0) → (¬ (qk S u f).testBit (qs S u 1) = true → x = nI (if ¬ v4 = 0 then er_h 1 0 (er_k (qk S t f) (qp S t)) + 0 else er_h g 1 (er_k (qk S t f) (qp S t)) + 1)) → ov_V true true d 0 0 mq_Mod_errand 0 [some (.inr (.inr (true, 14, 0))), some (.inl (nI t)), some (.inl (nI f)), some (.inl (nI u)), some (.inl v4)] [] S (fun r' S2 => rl_e (some (.inl x)) r' S2) := by
    intro x hx1 hx2
    refine r_Mod_errand_0 (by omega) ⟨fun n => absurd q1' n, fun _ => ⟨fun n => absurd q2' n, fun _ => ⟨fun n => absurd q3' n, fun _ => ⟨fun q => absurd q n13, fun _ => ⟨fun _ => qk_M (by omega) hf (r_Mod_errand_53 (by omega) (qs_M (by omega) hw0 (by omega) (r_Mod_errand_59 (by omega) ?_))), fun n => absurd q4 n⟩⟩⟩⟩⟩
    rw [qk_sc s0, qp_sc s0]
    have hm1 : ov_mem (nI (qp S u)) 1 = nI (qs S u 1) := by
      rw [show ov_mem (nI (qp S u)) 1 = nI (pm (qp S u) 1) from (pm_ok (qp S u) (qp_lt hw (by omega)).1 1 (by decide)).1, (qp_lt hw (t := u) (by omega)).2.2.1]
    rw [hm1, zz_bitN (by have := qk_lt S u f; omega) (by omega), zz_ix (n := t) (by omega), show ov_g (ov_w S 14 0 0 0) 58 0 t = nI g from eg]
    have htb : (qk S u f).testBit (qs S u 1) = true ↔ nI (qk S u f / 2 ^ qs S u 1 % 2) = 1 := by
      rw [Nat.testBit_eq_decide_div_mod_eq]
      have h2 : qk S u f / 2 ^ qs S u 1 % 2 < 2 := Nat.mod_lt _ (by decide)
      constructor
      · intro z
        have : qk S u f / 2 ^ qs S u 1 % 2 = 1 := by simpa using z
        rw [this]; rfl
      · intro z
        have := zz_inj (b := 1) (by omega) (by decide) z
        simpa using this
    refine ⟨fun n => ⟨fun n4 => ?_, fun y4 => ⟨zz_ib (by omega) (by decide), ?_⟩⟩, fun y => ?_⟩
    · refine er_M (g := 1) (o := 0) (by omega) hw0 (by omega) hf (by decide) (by decide) (fun S' hs => r_Mod_errand_101 ?_)
      rw [hx2 (fun z => n (htb.1 z)), if_pos n4, qk_sc s0, qp_sc s0]
      exact sc_ans h (sc_t s0 hs) rfl
    · refine er_M (g := g) (o := 1) (by omega) hw0 (by omega) hf (by omega) (by omega) (fun S' hs => r_Mod_errand_90 (r_Mod_errand_101 ?_))
      rw [hx2 (fun z => n (htb.1 z)), if_neg (fun z => z y4), qk_sc s0, qp_sc s0]
      exact sc_ans h (sc_t s0 hs) rfl
    · rw [hx1 (htb.2 y)]
      exact sc_ans h s0 rfl
  refine qk_E (by omega) hw ho.2.2.2.2.1 hu hf (r_Eye_errand_68 (by omega) ?_)
  rw [zz_ix (n := u) (by omega), zz_ix (n := t) (by omega), Nat.mul_zero, Nat.zero_add, Nat.zero_add, e1]
  refine ⟨fun n => qk_E (by omega) hw ho.2.2.2.2.1 ht hf (r_Eye_errand_93 ⟨fun n4 => r_Eye_errand_103 (by omega) (er_E (by omega) hw (by omega) (qk_lt S t f) egE (r_Eye_errand_106 (M _ ?_ ?_))), fun y4 => r_Eye_errand_103_2 (by omega) (er_E (by omega) hw (by omega) (qk_lt S t f) egE (r_Eye_errand_106 (M _ ?_ ?_)))⟩), fun y => M _ (fun _ => rfl) (fun n => absurd (hbit.1 y) n)⟩
  · intro z; exact absurd (hbit.2 z) n
  · intro _; rw [if_pos rfl, if_pos n4]
  · intro z; exact absurd (hbit.2 z) n
  · intro _; rw [if_neg (by decide), if_neg (fun z => z y4)]
