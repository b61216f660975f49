/-! ===== cells that are only used within one call ===== -/
def sc_q (r : Nat) : Bool := !(List.elem r [11, 13, 27, 28, 52, 53, 54, 55, 56, 57, 88, 89, 91, 94, 96, 98])
def sc_k (r j : Nat) : Bool := cond (Nat.beq r 14) (List.elem j [1, 2, 16, 17, 18, 22, 34, 41, 42, 55, 61]) (sc_q r)
def sc (S S' : ov_S) : Prop := S'.2.2.1 = S.2.2.1 ∧ ∀ r i j, sc_k r j = true → S'.1 r i j = S.1 r i j
theorem sc_kq {r j : Nat} (h : r ≠ 14) (hq : sc_q r = true) : sc_k r j = true := by
  unfold sc_k
  have h1 : Nat.beq r 14 = false := by
    cases h2 : Nat.beq r 14
    · rfl
    · exact absurd (Nat.eq_of_beq_eq_true h2) h
  rw [h1]
  exact hq
theorem sc_r {S : ov_S} : sc S S := ⟨rfl, fun _ _ _ _ => rfl⟩
theorem sc_t {S S1 S2 : ov_S} (h1 : sc S S1) (h2 : sc S1 S2) : sc S S2 := ⟨h2.1.trans h1.1, fun r i j h => (h2.2 r i j h).trans (h1.2 r i j h)⟩
theorem sc_w {S S' : ov_S} {r i j : Nat} {v : Int32} (h : sc S S') (hk : sc_k r j = false) : sc S (ov_w S' r i j v) := by
  refine sc_t h ⟨rfl, fun r' i' j' h' => rl_wn ?_⟩
  rintro ⟨rfl, _, rfl⟩
  rw [hk] at h'
  cases h'
theorem sc_wa {S S' : ov_S} {r i : Nat} {f : Nat → Int32} (h : sc S S') (hk : ∀ j, sc_k r j = false) : sc S (ov_wa S' r i f) := by
  refine sc_t h ⟨rfl, fun r' i' j' h' => ?_⟩
  show (if r' = r ∧ i' = i then f else S'.1 r' i') j' = _
  rw [if_neg]
  rintro ⟨rfl, _⟩
  rw [hk] at h'
  cases h'
theorem sc_wl {S S' : ov_S} {r i j : Nat} {v : Int64} (h : sc S S') : sc S (ov_wl S' r i j v) := sc_t h ⟨rfl, fun _ _ _ _ => rfl⟩
theorem sc_W {c m lb nz wc : Nat} {S S' : ov_S} (h : rl_w c m lb nz wc S.1 S.1) (hs : sc S S') : rl_w c m lb nz wc S'.1 S'.1 := by
  refine rl_w_c ⟨?_, ?_⟩ ⟨?_, ?_⟩ h
  · intro r I J hm i hi j hj
    have hb : r ≠ 14 ∧ sc_q r = true := (show ∀ x ∈ rl_da, x.1 ≠ 14 ∧ sc_q x.1 = true by decide) _ hm
    exact hs.2 r i j (sc_kq hb.1 hb.2)
  · intro r I j hm i hi
    have hb : r ≠ 14 ∧ sc_q r = true := (show ∀ x ∈ rl_ds, x.1 ≠ 14 ∧ sc_q x.1 = true by decide) _ hm
    exact hs.2 r i j (sc_kq hb.1 hb.2)
  · intro r J hm j hj
    have hb : r ≠ 14 ∧ sc_q r = true := (show ∀ x ∈ rl_ua, x.1 ≠ 14 ∧ sc_q x.1 = true by decide) _ hm
    exact hs.2 r 0 j (sc_kq hb.1 hb.2)
  · intro j hj
    exact hs.2 14 0 j ((show ∀ x ∈ rl_us, sc_k 14 x = true by decide) _ hj)
theorem sc_O {S S' : ov_S} (ho : rl_o S) (hs : sc S S') : rl_o S' := by
  obtain ⟨o1, o2, o3, o4, o5, o6⟩ := ho
  refine ⟨?_, ?_, ?_, ?_, ?_, ?_⟩
  · rw [hs.2 9 0 1 rfl, hs.2 14 0 34 rfl]; exact o1
  · intro j hj; rw [hs.2 45 0 j rfl, hs.2 84 0 j rfl]; exact o2 j hj
  · rw [hs.2 9 0 3 rfl, hs.2 9 0 4 rfl, hs.2 14 0 41 rfl, hs.2 14 0 42 rfl]; exact o3
  · intro j hj; rw [hs.2 2 0 j rfl]; exact o4 j hj
  · intro j hj; rw [hs.2 3 0 j rfl]; exact o5 j hj
  · intro k hk; rw [hs.2 83 0 k rfl]; exact o6 k hk
theorem sc_I {S S' : ov_S} (hi : rl_i S) (hs : sc S S') : rl_i S' := by
  have e99 : S'.1 99 0 = S.1 99 0 := funext fun j => hs.2 99 0 j rfl
  rcases hi with ⟨h1, h2, h3⟩ | ⟨h1, h2, h3, h4, c, m, lb, nz, wc, u, h5, h6⟩
  · exact .inl ⟨(hs.2 0 0 1 rfl).trans h1, (hs.2 14 0 61 rfl).trans h2, by rw [hs.1]; exact h3⟩
  · refine .inr ⟨(hs.2 0 0 1 rfl).trans h1, (hs.2 14 0 61 rfl).trans h2, fun j hj => ?_, fun j hj => ?_, c, m, lb, nz, wc, u, rl_w_c ⟨?_, ?_⟩ ⟨fun _ _ _ _ _ => rfl, fun _ _ => rfl⟩ h5, by rw [e99]; exact h6⟩
    · rw [hs.2 2 1 j rfl]; exact h3 j hj
    · rw [hs.2 3 1 j rfl]; exact h4 j hj
    · intro r I J hm i hi j hj
      have hb : r ≠ 14 ∧ sc_q r = true := (show ∀ x ∈ rl_da, x.1 ≠ 14 ∧ sc_q x.1 = true by decide) _ hm
      exact hs.2 r _ j (sc_kq hb.1 hb.2)
    · intro r I j hm i hi
      have hb : r ≠ 14 ∧ sc_q r = true := (show ∀ x ∈ rl_ds, x.1 ≠ 14 ∧ sc_q x.1 = true by decide) _ hm
      exact hs.2 r _ j (sc_kq hb.1 hb.2)
theorem sc_S {S S' : ov_S} (h : rl_S S) (hs : sc S S') : rl_S S' := by
  obtain ⟨c, m, lb, nz, wc, h1, h2, h3⟩ := h
  exact ⟨c, m, lb, nz, wc, sc_W h1 hs, sc_O h2 hs, sc_I h3 hs⟩
theorem sc_ans {S S' : ov_S} {x y : Int32} (h : rl_S S) (hs : sc S S') (e : y = x) : rl_e (some (.inl x)) (some (.inl y)) S' := ⟨x, rfl, by rw [e], sc_S h hs⟩
theorem sc_told {S : ov_S} : sc S (ov_w S 14 0 0 0) := sc_w sc_r rfl
/-! ===== who KNOWS, and who has what in the end ===== -/
def qk_b (S : ov_S) (t f m : Nat) : Nat := if S.1 64 0 (10 * (3 * t + m) + f) = 0 then 0 else 2 ^ m
def qk (S : ov_S) (t f : Nat) : Nat := qk_b S t f 0 + qk_b S t f 1 + qk_b S t f 2
theorem qk_lt (S : ov_S) (t f : Nat) : qk S t f < 8 := by
  have h : ∀ m, qk_b S t f m ≤ 2 ^ m := fun m => by
    unfold qk_b
    by_cases q : S.1 64 0 (10 * (3 * t + m) + f) = 0
    · rw [if_pos q]; exact Nat.zero_le _
    · rw [if_neg q]; exact Nat.le_refl _
  have h0 := h 0
  have h1 := h 1
  have h2 := h 2
  unfold qk
  omega
theorem qk_wb : ∀ m : Nat, m < 3 → ∀ b : Nat, b < 2 ^ m → ov_wb (nI b) (nI m) 1 = nI (b + 2 ^ m) ∧ (nI b ||| ((1 : Int32) <<< (nI m &&& 31))) = nI (b + 2 ^ m) := by decide +kernel
theorem qk_M1 {d : Nat} {S : ov_S} {Q : ov_Q} {t f m b : Nat} (ht : t < 4) (hf : f < 10) (hm : m < 3) (hb : b < 2 ^ m) (h : ov_V true true d 0 0 mq_Mod_knowersOf 5 [some (.inr (.inr (true, 14, 0))), some (.inl (nI t)), some (.inl (nI f)), some (.inl (nI (b + qk_b S t f m))), some (.inl (nI (m + 1)))] [] S Q) : ov_V true true d 0 0 mq_Mod_knowersOf 5 [some (.inr (.inr (true, 14, 0))), some (.inl (nI t)), some (.inl (nI f)), some (.inl (nI b)), some (.inl (nI m))] [] S Q := by
  refine r_Mod_knowersOf_5 ⟨fun q => absurd q (nI_ge (b := 3) hm (by decide)), fun _ => ?_⟩
  rw [zz_3, zz_10, zz_ix (n := 10 * (3 * t + m) + f) (by omega), (qk_wb m hm b hb).2]
  unfold qk_b at h
  refine ⟨zz_ib (by omega) (by decide), fun y => r_Mod_knowersOf_37 ?_, fun n => r_Mod_knowersOf_37 ?_⟩
  · rw [if_pos (show S.1 64 0 (10 * (3 * t + m) + f) = 0 from y)] at h
    rw [nI_1]
    exact h
  · rw [if_neg (show ¬ S.1 64 0 (10 * (3 * t + m) + f) = 0 from n)] at h
    rw [nI_1]
    exact h
theorem qk_bl (S : ov_S) (t f m : Nat) : qk_b S t f m ≤ 2 ^ m := by
  unfold qk_b
  by_cases q : S.1 64 0 (10 * (3 * t + m) + f) = 0
  · rw [if_pos q]; exact Nat.zero_le _
  · rw [if_neg q]; exact Nat.le_refl _
theorem qk_M {d : Nat} {S : ov_S} {Q : ov_Q} {t f : Nat} (ht : t < 4) (hf : f < 10) (h : Q (some (.inl (nI (qk S t f)))) S) : ov_V true true d 0 0 mq_Mod_knowersOf 0 [some (.inr (.inr (true, 14, 0))), some (.inl (nI t)), some (.inl (nI f)), none, none] [] S Q := by
  have b0 := qk_bl S t f 0
  have b1 := qk_bl S t f 1
  refine r_Mod_knowersOf_0 (qk_M1 (b := 0) (m := 0) ht hf (by decide) (by decide) (qk_M1 (m := 1) ht hf (by decide) (by omega) (qk_M1 (m := 2) ht hf (by decide) (by omega) (r_Mod_knowersOf_5 ⟨fun _ => ?_, fun n => absurd (by decide) n⟩))))
  rw [Nat.zero_add]
  exact h
theorem qk_E1 {d c mm lb nz wc : Nat} {S : ov_S} {Q : ov_Q} {t f m b : Nat} (hd : 2 ≤ d) (hw : rl_w c mm lb nz wc S.1 S.1) (fl : ∀ j, j < 12 → S.1 3 0 j ≠ 0) (ht : t < c) (hf : f < 10) (hm : m < 3) (hb : b < 2 ^ m) (h : ov_V true true d 0 0 mq_World_knowersOf 5 [some (.inr (.inr (true, 1, 0))), some (.inl (nI t)), some (.inl (nI f)), some (.inl (nI (b + qk_b S t f m))), some (.inl (nI (m + 1))), none] [] S Q) : ov_V true true d 0 0 mq_World_knowersOf 5 [some (.inr (.inr (true, 1, 0))), some (.inl (nI t)), some (.inl (nI f)), some (.inl (nI b)), some (.inl (nI m)), none] [] S Q := by
  have hc := hw.1.1
  have ht3 := (w_three (S := S) (v := nI t) hc hw.1.2.1).2 ⟨t, ht, rfl⟩
  have hmi : 0 ≤ nI m ∧ nI m ≤ 2 := (zz_le (b := 2) rfl).2 ⟨m, by omega, rfl⟩
  obtain ⟨ek, hk⟩ := hw.2.2.2.2.2.2.2.2.2.2.2.2.2.1 (3 * t + m) (by omega) f hf
  have e : ov_kno S (3 * t + m) (nI f) = S.1 64 0 (10 * (3 * t + m) + f) := by
    rw [← ek]
    unfold ov_kno
    rw [zz_ix (by omega)]
    exact if_pos ((zz_le (b := 9) rfl).2 ⟨f, by omega, rfl⟩)
  refine r_World_knowersOf_5 hd ⟨fun q => absurd q (nI_ge (b := 3) hm (by decide)), fun _ => ?_⟩
  rw [zz_3, zz_ix (n := 3 * t + m) (by omega), Nat.mul_zero, Nat.zero_add, e, (qk_wb m hm b hb).1]
  unfold qk_b at h
  refine ⟨fun _ => ⟨fl _ (by omega), fun y => r_World_knowersOf_42 ?_, fun n => r_World_knowersOf_42 ?_⟩, fun n => absurd ⟨ht3.1, ht3.2, hmi⟩ n⟩
  · have h0 : S.1 64 0 (10 * (3 * t + m) + f) = 0 := by
      rcases hk with h | h | h
      · exact h
      · rw [h] at y; exact absurd y (by decide)
      · rw [h] at y; exact absurd y (by decide)
    rw [if_pos h0] at h
    rw [nI_1]
    exact h
  · have h0 : ¬ S.1 64 0 (10 * (3 * t + m) + f) = 0 := fun q => n (by rw [q]; decide)
    rw [if_neg h0] at h
    rw [nI_1]
    exact h
theorem qk_E {d c mm lb nz wc : Nat} {S : ov_S} {Q : ov_Q} {t f : Nat} (hd : 2 ≤ d) (hw : rl_w c mm lb nz wc S.1 S.1) (fl : ∀ j, j < 12 → S.1 3 0 j ≠ 0) (ht : t < c) (hf : f < 10) (h : Q (some (.inl (nI (qk S t f)))) S) : ov_V true true d 0 0 mq_World_knowersOf 0 [some (.inr (.inr (true, 1, 0))), some (.inl (nI t)), some (.inl (nI f)), none, none, none] [] S Q := by
  have b0 := qk_bl S t f 0
  have b1 := qk_bl S t f 1
  refine r_World_knowersOf_0 (qk_E1 (b := 0) (m := 0) hd hw fl ht hf (by decide) (by decide) (qk_E1 (m := 1) hd hw fl ht hf (by decide) (by omega) (qk_E1 (m := 2) hd hw fl ht hf (by decide) (by omega) (r_World_knowersOf_5 hd ⟨fun _ => ?_, fun n => absurd (by decide) n⟩))))
  rw [Nat.zero_add]
  exact h
/-- who has a THING once all is handed over -/
def qs (S : ov_S) (t x : Nat) : Nat := if S.1 62 0 (3 * t + x) < 3 then ov_ix (S.1 62 0 (3 * t + x)) else if S.1 62 0 (3 * t + x) = 3 then ov_ix (S.1 82 0 t) else 0
theorem qs_ok {c mm lb nz wc : Nat} {S : ov_S} {t x : Nat} (hw : rl_w c mm lb nz wc S.1 S.1) (ht : t < 4) (hx : x < 3) : qs S t x < 3 ∧ ov_stp S t (nI x) = nI (qs S t x) ∧
    ((S.1 62 0 (3 * t + x) < 3 ∧ S.1 62 0 (3 * t + x) = nI (qs S t x)) ∨ (S.1 62 0 (3 * t + x) = 3 ∧ S.1 79 0 t = 1 ∧ S.1 82 0 t = nI (qs S t x)) ∨ (3 ≤ S.1 62 0 (3 * t + x) ∧ ¬ S.1 62 0 (3 * t + x) = 3 ∧ qs S t x = 0)) := by
  obtain ⟨g1, g2, g3, g4, g5, g6, g7, g8, g9, g10, g11, g12, g13, g14, g15, g16, g17, g18, g19, g20, g21, g22, g23, g24, g25, g26⟩ := hw
  obtain ⟨ep, pp⟩ := g10 t ht x hx
  have hpl : ov_plc S t (nI x) = S.1 62 0 (3 * t + x) := by
    rw [← ep]
    unfold ov_plc
    rw [zz_ix (by omega)]
    exact if_pos ((zz_le (b := 2) rfl).2 ⟨x, by omega, rfl⟩)
  have st2 : ∀ k : Nat, k < 3 → ov_st2 (nI k) = nI k := fun k hk => if_pos ((zz_le (b := 2) rfl).2 ⟨k, by omega, rfl⟩)
  unfold ov_stp qs
  rw [hpl]
  rcases pp with ⟨k, hk, e⟩ | ⟨s, hs, e⟩
  · rcases Nat.lt_or_ge k 3 with h3 | h3
    · have l3 : nI k < 3 := nI_lt (b := 3) h3 (by decide)
      have n3 : ¬ nI k = 3 := fun q => by
        have := zz_inj (b := 3) (by omega) (by decide) q
        omega
      rw [e, if_pos l3, if_neg n3, zz_ix (by omega), st2 k h3]
      exact ⟨h3, rfl, .inl ⟨l3, rfl⟩⟩
    · have hk3 : k = 3 := by omega
      subst hk3
      obtain ⟨h79, h81⟩ := g12 t ht x hx e
      obtain ⟨e7, e8, _, hdo⟩ := g11 t ht
      have hne : ¬ S.1 6 t 8 = 0 := fun q => absurd (h79.symm.trans (hdo.1 q)) (by decide)
      obtain ⟨md, dg, th, tg, _, m, hm, em⟩ | ⟨md, _⟩ | ⟨md, _⟩ := hdo.2 hne
      · have e11 : ov_g S 6 t 11 = nI m := tg.trans em
        rw [e, if_neg (show ¬ nI 3 < 3 by decide), if_pos (show nI 3 = 3 from rfl), if_pos (show nI 3 = 3 from rfl), e11, em, zz_ix (by omega), st2 m hm]
        exact ⟨hm, rfl, .inr (.inl ⟨rfl, md, rfl⟩)⟩
      · exact absurd (h79.symm.trans md) (by decide)
      · exact absurd (h79.symm.trans md) (by decide)
  · have n1 : ¬ nI (10 + s) < 3 := nI_nlt (b := 3) (by omega) (by omega)
    have n3 : ¬ nI (10 + s) = 3 := fun q => by
      have := zz_inj (b := 3) (by omega) (by decide) q
      omega
    have n2 : ov_st2 (nI (10 + s)) = 0 := if_neg (fun q => absurd q.2 (nI_ge (a := 2) (by omega) (by omega)))
    rw [e, if_neg n1, if_neg n3, if_neg n3, n2]
    exact ⟨by decide, rfl, .inr (.inr ⟨Int32.not_lt.mp n1, n3, rfl⟩)⟩
theorem qs_M1 {d c mm lb nz wc : Nat} {S : ov_S} {Q : ov_Q} {t x v : Nat} (hd : 1 ≤ d) (hw : rl_w c mm lb nz wc S.1 S.1) (ht : t < 4) (hx : x < 3) (h : ov_V true true d 0 0 mq_Mod_placesOf 4 [some (.inr (.inr (true, 14, 0))), some (.inl (nI t)), some (.inl (nI (3 * v + qs S t x))), some (.inl (nI (x + 1))), none] [] S Q) : ov_V true true d 0 0 mq_Mod_placesOf 4 [some (.inr (.inr (true, 14, 0))), some (.inl (nI t)), some (.inl (nI v)), some (.inl (nI x)), none] [] S Q := by
  obtain ⟨_, _, hq⟩ := qs_ok hw ht hx
  refine r_Mod_placesOf_4 hd ⟨fun q => absurd q (nI_ge (b := 3) hx (by decide)), fun _ => ?_⟩
  have e3 : (3 * nI v : Int32) = nI (3 * v) := pk_mul 3 v
  rw [zz_3, zz_ix (n := 3 * t + x) (by omega), zz_ix (n := t) (by omega), e3]
  have ib : ov_ib (nI (3 * t + x)) 12 := zz_ib (by omega) (by decide)
  have ib4 : ov_ib (nI t) 4 := zz_ib ht (by decide)
  have go : ∀ w : Int32, w = nI (qs S t x) → ov_V true true d 0 0 mq_Mod_placesOf 57 [some (.inr (.inr (true, 14, 0))), some (.inl (nI t)), none, some (.inl (nI x)), none] [.inl w, .inl (nI (3 * v))] S Q := by
    rintro w rfl
    refine r_Mod_placesOf_57 ?_
    rw [nI_add, nI_1]
    exact h
  rcases hq with ⟨h1, h2⟩ | ⟨h1, h2, h3⟩ | ⟨h1, h2, h3⟩
  · exact ⟨ib, fun q => absurd h1 (Int32.not_lt.mpr q), fun _ => go _ h2⟩
  · exact ⟨ib, fun _ => ⟨fun n => absurd h1 n, fun _ => ⟨ib4, fun n => absurd h2 n, fun _ => ⟨ib4, go _ h3⟩⟩⟩, fun n => absurd (show (3 : Int32) ≤ ov_g S 62 0 (3 * t + x) by rw [show ov_g S 62 0 (3 * t + x) = 3 from h1]; decide) n⟩
  · exact ⟨ib, fun _ => ⟨fun _ => r_Mod_placesOf_56 (go 0 (by rw [h3]; rfl)), fun q => absurd q h2⟩, fun n => absurd h1 n⟩
def qp (S : ov_S) (t : Nat) : Nat := 9 * qs S t 0 + 3 * qs S t 1 + qs S t 2
theorem qs_M {d c mm lb nz wc : Nat} {S : ov_S} {Q : ov_Q} {t : Nat} (hd : 1 ≤ d) (hw : rl_w c mm lb nz wc S.1 S.1) (ht : t < 4) (h : Q (some (.inl (nI (qp S t)))) S) : ov_V true true d 0 0 mq_Mod_placesOf 0 [some (.inr (.inr (true, 14, 0))), some (.inl (nI t)), none, none, none] [] S Q := by
  refine r_Mod_placesOf_0 (qs_M1 (v := 0) (x := 0) hd hw ht (by decide) (qs_M1 (x := 1) hd hw ht (by decide) (qs_M1 (x := 2) hd hw ht (by decide) (r_Mod_placesOf_4 hd ⟨fun _ => ?_, fun n => absurd (by decide) n⟩))))
  rw [show 3 * (3 * (3 * 0 + qs S t 0) + qs S t 1) + qs S t 2 = qp S t by unfold qp; omega]
  exact h
/-- places of three things: 9, 3, 1 -/
def pm (p x : Nat) : Nat := if x = 0 then p / 9 else if x = 1 then p / 3 % 3 else p % 3
def pv (p x m : Nat) : Nat := if x = 0 then p % 9 + 9 * m else if x = 1 then p / 9 * 9 + p % 3 + 3 * m else p / 3 * 3 + m
theorem pm_ok : ∀ p : Nat, p < 27 → ∀ x : Nat, x < 3 → ov_mem (nI p) (nI x) = nI (pm p x) ∧ pm p x < 3 := by decide +kernel
theorem pv_ok : ∀ p : Nat, p < 27 → ∀ x : Nat, x < 3 → ∀ m : Nat, m < 3 → ov_mov (nI p) (nI x) (nI m) = nI (pv p x m) ∧ pv p x m < 27 := by decide +kernel
