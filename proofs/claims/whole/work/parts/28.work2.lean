theorem mi_enH' {d : Nat} {C T : ov_S} {Q : ov_Q} {t x : Nat} {v59 v60 v61 v82 s0 : Int32} (hd : 3 ≤ d) (ht : t < 4) (hx : x < 3) (e : T.1 79 0 t = 1) (e81 : T.1 81 0 t = nI x) (e59 : T.1 59 0 t = v59) (e60 : T.1 60 0 t = v60) (e61 : T.1 61 0 t = v61) (e82 : T.1 82 0 t = v82) (es : T.1 14 0 1 = s0)
    (h1 : v59 ≤ 0 → Q none (ov_mix C (ov_w (ov_w (ov_w (ov_w T 60 0 t (v60 + 1)) 79 0 t 0) 62 0 (3 * t + x) v82) 79 0 t 0)))
    (h2 : ¬ v59 ≤ 0 → v59 ≤ dr_v (dr_s s0) 1000 → Q none (ov_mix C (ov_w (ov_w (ov_w (ov_w (ov_w T 60 0 t (v60 + 1)) 79 0 t 0) 14 0 1 (dr_s s0)) 62 0 (3 * t + x) v82) 79 0 t 0)))
    (h3 : ¬ v59 ≤ 0 → ¬ v59 ≤ dr_v (dr_s s0) 1000 → Q none (ov_mix C (ov_w (ov_w (ov_w (ov_w (ov_w (ov_w (ov_w T 60 0 t (v60 + 1)) 79 0 t 0) 14 0 1 (dr_s s0)) 61 0 t (v61 + 1)) 14 0 1 (dr_s (dr_s s0))) 62 0 (3 * t + x) (10 + dr_v (dr_s (dr_s s0)) 9)) 79 0 t 0))) : ov_V true true d 0 0 mq_Mod_ends 0 [some (.inr (.inr (true, 14, 0))), some (.inl (nI t))] [] (ov_mix C T) Q := by
  subst e59 e60 e61 e82 es
  exact mi_enH hd ht hx e e81 h1 h2 h3
theorem mi_enF' {d : Nat} {C T : ov_S} {Q : ov_Q} {t x : Nat} {v62 v82 vf : Int32} (hd : 3 ≤ d) (ht : t < 4) (hx : x < 3) (e : T.1 79 0 t = 3) (e81 : T.1 81 0 t = nI x) (e62 : T.1 62 0 (3 * t + x) = v62) (e82 : T.1 82 0 t = v82) (ef : mi_first (mi_f T t) = vf) (h1 : v62 = 10 + v82 → Q none (ov_mix C (ov_w (ov_w (ov_w T 79 0 t 0) 62 0 (3 * t + x) vf) 79 0 t 0))) (h2 : ¬ v62 = 10 + v82 → Q none (ov_mix C (ov_w (ov_w T 79 0 t 0) 79 0 t 0))) : ov_V true true d 0 0 mq_Mod_ends 0 [some (.inr (.inr (true, 14, 0))), some (.inl (nI t))] [] (ov_mix C T) Q := by
  subst e62 e82 ef
  exact mi_enF hd ht hx e e81 h1 h2
theorem mi_first_m (f : Nat → Int32) : ∃ k : Nat, k < 3 ∧ mi_first f = nI k := by
  unfold mi_first
  split
  · split
    · split
      · exact ⟨0, by decide, rfl⟩
      · exact ⟨2, by decide, rfl⟩
    · exact ⟨1, by decide, rfl⟩
  · exact ⟨0, by decide, rfl⟩
def mi_en (t : Nat) (T T' : ov_S) : Prop := ∀ (d : Nat) (D : ov_S) (Q : ov_Q), 3 ≤ d → Q none (ov_mix D T') → ov_V true true d 0 0 mq_Mod_ends 0 [some (.inr (.inr (true, 14, 0))), some (.inl (nI t))] [] (ov_mix D T) Q
theorem mi_work {d c m lb nz wc : Nat} {C T T0 : ov_S} {Q : ov_Q} {t k : Nat} (hd : 4 ≤ d) (h : rl_w c m lb nz wc C.1 T.1) (ht : t < 4) (hk : k ≤ 98) (e80 : T.1 80 0 t = nI (k + 1))
    (hQ : ∀ C' T' : ov_S, rl_w c m lb nz wc C'.1 T'.1 → mi_kc C C' → mi_kp T T' → (0 < k → T' = ov_w T 80 0 t (nI k)) → (k = 0 → mi_en t (ov_w T 80 0 t 0) T') → Q none (ov_mix C' T0)) : ov_V true true d 0 0 mq_World_workOn 0 [some (.inr (.inr (true, 1, 0))), some (.inr (.inr (true, 6, t)))] [] (ov_mix C T0) Q := by
  have hw := h
  obtain ⟨g1, g2, g3, g4, g5, g6, g7, g8, g9, g10, g11, g12, g13, g14, g15, g16, g17, g18, g19, g20, g21, g22, g23, g24, g25, g26⟩ := h
  obtain ⟨e7, e8, _, hdo⟩ := g11 t ht
  have eL : C.1 6 t 8 = nI (k + 1) := e8.trans e80
  have n13 : ∀ n : Nat, T.1 86 0 t = nI n → n ≤ 30 → ∃ k : Nat, k ≤ n ∧ T.1 87 0 t = nI k := by
    intro n hn hn30
    obtain ⟨n0, k0, a1, a2, _, a4, a5, _⟩ := g13 t ht
    have : n0 = n := zz_inj (by omega) (by omega) (a4.symm.trans hn)
    exact ⟨k0, by omega, a5⟩
  have e9 := g9 t ht
  have t4 : t < rl_sh 6 := ht
  have t34 : t < rl_sh 34 := ht
  have hne : ¬ C.1 6 t 8 = 0 := by rw [eL]; exact nI_ne0 (by omega) (by omega)
  have hcase := hdo.2 hne
  rcases k with _ | k
  · rcases hcase with ⟨md, dg, th, tg, ⟨x, hx, ex⟩, m', hm', em⟩ | ⟨md, dg⟩ | ⟨md, dg, th, tg, ⟨x, hx, ex⟩, s, hs, es⟩
    · refine mi_wkH hd hx eL dg (th.trans ex) (fun q => ?_) (fun q q2 => ?_) (fun q q2 => ?_)
      · skip
        refine hQ _ (ov_w (ov_w (ov_w (ov_w (ov_w T 80 0 t 0) 60 0 t (C.1 6 t 2 + 1)) 79 0 t 0) 62 0 (3 * t + x) (C.1 6 t 11)) 79 0 t 0) (rl_w_3 (t := t) ht hw (fun r i j a b c => ((rl_wn (by omega)).trans ((rl_wn (by omega)).trans (rl_wn (by omega))))) (fun r j a b c => ((rl_wn (by omega)).trans ((rl_wn (by omega)).trans ((rl_wn (by omega)).trans ((rl_wn (by omega)).trans (rl_wn (by omega))))))) ?_ ?_ ?_ ?_ ?_ ?_) (mi_kcw (mi_kcw (mi_kcw mi_kcr t4 (by decide)) t4 (by decide)) t34 (by decide)) (mi_kpw (mi_kpw (mi_kpw (mi_kpw (mi_kpw mi_kpr (by decide) (Or.inl (by decide))) (by decide) (Or.inl (by decide))) (by decide) (Or.inl (by decide))) (by decide) (Or.inl (by decide))) (by decide) (Or.inl (by decide))) (fun q => absurd q (by decide)) (fun _ d1 D Q1 hd1 hq => mi_enH' hd1 ht hx (T := ov_w T 80 0 t 0) ((rl_wn (by omega)).trans md) ((rl_wn (by omega)).trans ex) ((rl_wn (by omega)).trans (g8 t ht).2.1.symm) ((rl_wn (by omega)).trans e9.1.symm) ((rl_wn (by omega)).trans e9.2.1.symm) ((rl_wn (by omega)).trans tg.symm) ((rl_wn (by omega)).trans g2.symm) (fun _ => hq) (fun n _ => absurd q n) (fun n _ => absurd q n))
        · exact (((rl_wn (by omega)).trans ((rl_wn (by omega)).trans (rl_wn (by omega)))).trans g2).trans ((rl_wn (by omega)).trans ((rl_wn (by omega)).trans ((rl_wn (by omega)).trans ((rl_wn (by omega)).trans (rl_wn (by omega)))))).symm
        · exact ⟨((rl_wn (by omega)).trans (rl_ww _ _ _ _ _)).trans ((rl_wn (by omega)).trans ((rl_wn (by omega)).trans ((rl_wn (by omega)).trans (rl_ww _ _ _ _ _)))).symm, (((rl_wn (by omega)).trans ((rl_wn (by omega)).trans (rl_wn (by omega)))).trans e9.2.1).trans ((rl_wn (by omega)).trans ((rl_wn (by omega)).trans ((rl_wn (by omega)).trans ((rl_wn (by omega)).trans (rl_wn (by omega)))))).symm, (((rl_wn (by omega)).trans ((rl_wn (by omega)).trans (rl_wn (by omega)))).trans e9.2.2).trans ((rl_wn (by omega)).trans ((rl_wn (by omega)).trans ((rl_wn (by omega)).trans ((rl_wn (by omega)).trans (rl_wn (by omega)))))).symm⟩
        · intro y hy
          by_cases ey : y = x
          · subst ey
            exact ⟨(rl_ww _ _ _ _ _).trans ((rl_wn (by omega)).trans (rl_ww _ _ _ _ _)).symm, by rw [show _ = _ from ((rl_wn (by omega)).trans (rl_ww _ _ _ _ _))]; exact (.inl ⟨m', by omega, tg.trans em⟩)⟩
          · exact ⟨(((rl_wn (by omega)).trans ((rl_wn (by omega)).trans (rl_wn (by omega)))).trans (g10 t ht y hy).1).trans ((rl_wn (by omega)).trans ((rl_wn (by omega)).trans ((rl_wn (by omega)).trans ((rl_wn (by omega)).trans (rl_wn (by omega)))))).symm, by rw [show _ = _ from ((rl_wn (by omega)).trans ((rl_wn (by omega)).trans ((rl_wn (by omega)).trans ((rl_wn (by omega)).trans (rl_wn (by omega))))))]; exact (g10 t ht y hy).2⟩
        · refine ⟨(((rl_wn (by omega)).trans ((rl_wn (by omega)).trans (rl_wn (by omega)))).trans e7).trans ((rl_wn (by omega)).trans ((rl_wn (by omega)).trans ((rl_wn (by omega)).trans ((rl_wn (by omega)).trans (rl_wn (by omega)))))).symm, ((rl_wn (by omega)).trans ((rl_wn (by omega)).trans (rl_ww _ _ _ _ _))).trans ((rl_wn (by omega)).trans ((rl_wn (by omega)).trans ((rl_wn (by omega)).trans ((rl_wn (by omega)).trans (rl_ww _ _ _ _ _))))).symm, ⟨0, by decide, ((rl_wn (by omega)).trans ((rl_wn (by omega)).trans ((rl_wn (by omega)).trans ((rl_wn (by omega)).trans (rl_ww _ _ _ _ _)))))⟩, fun _ => (rl_ww _ _ _ _ _), fun q => absurd ((rl_wn (by omega)).trans ((rl_wn (by omega)).trans (rl_ww _ _ _ _ _))) q⟩
        · intro y hy e3
          by_cases ey : y = x
          · subst ey
            exact absurd (((rl_wn (by omega)).trans (rl_ww _ _ _ _ _)).symm.trans e3) (by rw [tg, em]; exact fun z => absurd (zz_inj (b := 3) (by omega) (by decide) z) (by omega))
          · have q := g12 t ht y hy (((rl_wn (by omega)).trans ((rl_wn (by omega)).trans ((rl_wn (by omega)).trans ((rl_wn (by omega)).trans (rl_wn (by omega)))))).symm.trans e3)
            exact absurd (zz_inj (by omega) (by omega) (q.2.symm.trans ex)) ey
        · intro n hn hn30
          obtain ⟨k0, k1, k2⟩ := n13 n hn hn30
          exact ⟨k0, k1, ((rl_wn (by omega)).trans ((rl_wn (by omega)).trans ((rl_wn (by omega)).trans ((rl_wn (by omega)).trans (rl_wn (by omega)))))).trans k2⟩
      · skip
        refine hQ _ (ov_w (ov_w (ov_w (ov_w (ov_w (ov_w T 80 0 t 0) 60 0 t (C.1 6 t 2 + 1)) 79 0 t 0) 14 0 1 (dr_s (C.1 1 0 8))) 62 0 (3 * t + x) (C.1 6 t 11)) 79 0 t 0) (rl_w_3 (t := t) ht hw (fun r i j a b c => ((rl_wn (by omega)).trans ((rl_wn (by omega)).trans ((rl_wn (by omega)).trans (rl_wn (by omega)))))) (fun r j a b c => ((rl_wn (by omega)).trans ((rl_wn (by omega)).trans ((rl_wn (by omega)).trans ((rl_wn (by omega)).trans ((rl_wn (by omega)).trans (rl_wn (by omega)))))))) ?_ ?_ ?_ ?_ ?_ ?_) (mi_kcw (mi_kcw (mi_kcw (mi_kcw mi_kcr t4 (by decide)) t4 (by decide)) (by decide) (by decide)) t34 (by decide)) (mi_kpw (mi_kpw (mi_kpw (mi_kpw (mi_kpw (mi_kpw mi_kpr (by decide) (Or.inl (by decide))) (by decide) (Or.inl (by decide))) (by decide) (Or.inl (by decide))) (by decide) (Or.inr (by decide))) (by decide) (Or.inl (by decide))) (by decide) (Or.inl (by decide))) (fun q => absurd q (by decide)) (fun _ d1 D Q1 hd1 hq => mi_enH' hd1 ht hx (T := ov_w T 80 0 t 0) ((rl_wn (by omega)).trans md) ((rl_wn (by omega)).trans ex) ((rl_wn (by omega)).trans (g8 t ht).2.1.symm) ((rl_wn (by omega)).trans e9.1.symm) ((rl_wn (by omega)).trans e9.2.1.symm) ((rl_wn (by omega)).trans tg.symm) ((rl_wn (by omega)).trans g2.symm) (fun n => absurd n q) (fun _ _ => hq) (fun _ n => absurd q2 n))
        · exact ((rl_wn (by omega)).trans (rl_ww _ _ _ _ _)).trans ((rl_wn (by omega)).trans ((rl_wn (by omega)).trans (rl_ww _ _ _ _ _))).symm
        · exact ⟨((rl_wn (by omega)).trans ((rl_wn (by omega)).trans (rl_ww _ _ _ _ _))).trans ((rl_wn (by omega)).trans ((rl_wn (by omega)).trans ((rl_wn (by omega)).trans ((rl_wn (by omega)).trans (rl_ww _ _ _ _ _))))).symm, (((rl_wn (by omega)).trans ((rl_wn (by omega)).trans ((rl_wn (by omega)).trans (rl_wn (by omega))))).trans e9.2.1).trans ((rl_wn (by omega)).trans ((rl_wn (by omega)).trans ((rl_wn (by omega)).trans ((rl_wn (by omega)).trans ((rl_wn (by omega)).trans (rl_wn (by omega))))))).symm, (((rl_wn (by omega)).trans ((rl_wn (by omega)).trans ((rl_wn (by omega)).trans (rl_wn (by omega))))).trans e9.2.2).trans ((rl_wn (by omega)).trans ((rl_wn (by omega)).trans ((rl_wn (by omega)).trans ((rl_wn (by omega)).trans ((rl_wn (by omega)).trans (rl_wn (by omega))))))).symm⟩
        · intro y hy
          by_cases ey : y = x
          · subst ey
            exact ⟨(rl_ww _ _ _ _ _).trans ((rl_wn (by omega)).trans (rl_ww _ _ _ _ _)).symm, by rw [show _ = _ from ((rl_wn (by omega)).trans (rl_ww _ _ _ _ _))]; exact (.inl ⟨m', by omega, tg.trans em⟩)⟩
          · exact ⟨(((rl_wn (by omega)).trans ((rl_wn (by omega)).trans ((rl_wn (by omega)).trans (rl_wn (by omega))))).trans (g10 t ht y hy).1).trans ((rl_wn (by omega)).trans ((rl_wn (by omega)).trans ((rl_wn (by omega)).trans ((rl_wn (by omega)).trans ((rl_wn (by omega)).trans (rl_wn (by omega))))))).symm, by rw [show _ = _ from ((rl_wn (by omega)).trans ((rl_wn (by omega)).trans ((rl_wn (by omega)).trans ((rl_wn (by omega)).trans ((rl_wn (by omega)).trans (rl_wn (by omega)))))))]; exact (g10 t ht y hy).2⟩
        · refine ⟨(((rl_wn (by omega)).trans ((rl_wn (by omega)).trans ((rl_wn (by omega)).trans (rl_wn (by omega))))).trans e7).trans ((rl_wn (by omega)).trans ((rl_wn (by omega)).trans ((rl_wn (by omega)).trans ((rl_wn (by omega)).trans ((rl_wn (by omega)).trans (rl_wn (by omega))))))).symm, ((rl_wn (by omega)).trans ((rl_wn (by omega)).trans ((rl_wn (by omega)).trans (rl_ww _ _ _ _ _)))).trans ((rl_wn (by omega)).trans ((rl_wn (by omega)).trans ((rl_wn (by omega)).trans ((rl_wn (by omega)).trans ((rl_wn (by omega)).trans (rl_ww _ _ _ _ _)))))).symm, ⟨0, by decide, ((rl_wn (by omega)).trans ((rl_wn (by omega)).trans ((rl_wn (by omega)).trans ((rl_wn (by omega)).trans ((rl_wn (by omega)).trans (rl_ww _ _ _ _ _))))))⟩, fun _ => (rl_ww _ _ _ _ _), fun q => absurd ((rl_wn (by omega)).trans ((rl_wn (by omega)).trans ((rl_wn (by omega)).trans (rl_ww _ _ _ _ _)))) q⟩
        · intro y hy e3
          by_cases ey : y = x
          · subst ey
            exact absurd (((rl_wn (by omega)).trans (rl_ww _ _ _ _ _)).symm.trans e3) (by rw [tg, em]; exact fun z => absurd (zz_inj (b := 3) (by omega) (by decide) z) (by omega))
          · have q := g12 t ht y hy (((rl_wn (by omega)).trans ((rl_wn (by omega)).trans ((rl_wn (by omega)).trans ((rl_wn (by omega)).trans ((rl_wn (by omega)).trans (rl_wn (by omega))))))).symm.trans e3)
            exact absurd (zz_inj (by omega) (by omega) (q.2.symm.trans ex)) ey
        · intro n hn hn30
          obtain ⟨k0, k1, k2⟩ := n13 n hn hn30
          exact ⟨k0, k1, ((rl_wn (by omega)).trans ((rl_wn (by omega)).trans ((rl_wn (by omega)).trans ((rl_wn (by omega)).trans ((rl_wn (by omega)).trans (rl_wn (by omega))))))).trans k2⟩
      · obtain ⟨w, hw9, ew⟩ := dr_b (dr_s (dr_s (C.1 1 0 8))) (k := 9) (by decide) (by decide)
        have ew2 : 10 + dr_v (dr_s (dr_s (C.1 1 0 8))) 9 = nI (10 + w) := by
          rw [show dr_v (dr_s (dr_s (C.1 1 0 8))) 9 = nI w from ew]
          exact nI_add 10 w
        refine hQ _ (ov_w (ov_w (ov_w (ov_w (ov_w (ov_w (ov_w (ov_w T 80 0 t 0) 60 0 t (C.1 6 t 2 + 1)) 79 0 t 0) 14 0 1 (dr_s (C.1 1 0 8))) 61 0 t (C.1 6 t 3 + 1)) 14 0 1 (dr_s (dr_s (C.1 1 0 8)))) 62 0 (3 * t + x) (10 + dr_v (dr_s (dr_s (C.1 1 0 8))) 9)) 79 0 t 0) (rl_w_3 (t := t) ht hw (fun r i j a b c => ((rl_wn (by omega)).trans ((rl_wn (by omega)).trans ((rl_wn (by omega)).trans ((rl_wn (by omega)).trans ((rl_wn (by omega)).trans (rl_wn (by omega)))))))) (fun r j a b c => ((rl_wn (by omega)).trans ((rl_wn (by omega)).trans ((rl_wn (by omega)).trans ((rl_wn (by omega)).trans ((rl_wn (by omega)).trans ((rl_wn (by omega)).trans ((rl_wn (by omega)).trans (rl_wn (by omega)))))))))) ?_ ?_ ?_ ?_ ?_ ?_) (mi_kcw (mi_kcw (mi_kcw (mi_kcw (mi_kcw (mi_kcw mi_kcr t4 (by decide)) t4 (by decide)) (by decide) (by decide)) t4 (by decide)) (by decide) (by decide)) t34 (by decide)) (mi_kpw (mi_kpw (mi_kpw (mi_kpw (mi_kpw (mi_kpw (mi_kpw (mi_kpw mi_kpr (by decide) (Or.inl (by decide))) (by decide) (Or.inl (by decide))) (by decide) (Or.inl (by decide))) (by decide) (Or.inr (by decide))) (by decide) (Or.inl (by decide))) (by decide) (Or.inr (by decide))) (by decide) (Or.inl (by decide))) (by decide) (Or.inl (by decide))) (fun q => absurd q (by decide)) (fun _ d1 D Q1 hd1 hq => mi_enH' hd1 ht hx (T := ov_w T 80 0 t 0) ((rl_wn (by omega)).trans md) ((rl_wn (by omega)).trans ex) ((rl_wn (by omega)).trans (g8 t ht).2.1.symm) ((rl_wn (by omega)).trans e9.1.symm) ((rl_wn (by omega)).trans e9.2.1.symm) ((rl_wn (by omega)).trans tg.symm) ((rl_wn (by omega)).trans g2.symm) (fun n => absurd n q) (fun _ n => absurd n q2) (fun _ _ => hq))
        · exact ((rl_wn (by omega)).trans (rl_ww _ _ _ _ _)).trans ((rl_wn (by omega)).trans ((rl_wn (by omega)).trans (rl_ww _ _ _ _ _))).symm
        · exact ⟨((rl_wn (by omega)).trans ((rl_wn (by omega)).trans ((rl_wn (by omega)).trans ((rl_wn (by omega)).trans (rl_ww _ _ _ _ _))))).trans ((rl_wn (by omega)).trans ((rl_wn (by omega)).trans ((rl_wn (by omega)).trans ((rl_wn (by omega)).trans ((rl_wn (by omega)).trans ((rl_wn (by omega)).trans (rl_ww _ _ _ _ _))))))).symm, ((rl_wn (by omega)).trans ((rl_wn (by omega)).trans (rl_ww _ _ _ _ _))).trans ((rl_wn (by omega)).trans ((rl_wn (by omega)).trans ((rl_wn (by omega)).trans (rl_ww _ _ _ _ _)))).symm, (((rl_wn (by omega)).trans ((rl_wn (by omega)).trans ((rl_wn (by omega)).trans ((rl_wn (by omega)).trans ((rl_wn (by omega)).trans (rl_wn (by omega))))))).trans e9.2.2).trans ((rl_wn (by omega)).trans ((rl_wn (by omega)).trans ((rl_wn (by omega)).trans ((rl_wn (by omega)).trans ((rl_wn (by omega)).trans ((rl_wn (by omega)).trans ((rl_wn (by omega)).trans (rl_wn (by omega))))))))).symm⟩
        · intro y hy
          by_cases ey : y = x
          · subst ey
            exact ⟨(rl_ww _ _ _ _ _).trans ((rl_wn (by omega)).trans (rl_ww _ _ _ _ _)).symm, by rw [show _ = _ from ((rl_wn (by omega)).trans (rl_ww _ _ _ _ _))]; exact (.inr ⟨w, hw9, ew2⟩)⟩
          · exact ⟨(((rl_wn (by omega)).trans ((rl_wn (by omega)).trans ((rl_wn (by omega)).trans ((rl_wn (by omega)).trans ((rl_wn (by omega)).trans (rl_wn (by omega))))))).trans (g10 t ht y hy).1).trans ((rl_wn (by omega)).trans ((rl_wn (by omega)).trans ((rl_wn (by omega)).trans ((rl_wn (by omega)).trans ((rl_wn (by omega)).trans ((rl_wn (by omega)).trans ((rl_wn (by omega)).trans (rl_wn (by omega))))))))).symm, by rw [show _ = _ from ((rl_wn (by omega)).trans ((rl_wn (by omega)).trans ((rl_wn (by omega)).trans ((rl_wn (by omega)).trans ((rl_wn (by omega)).trans ((rl_wn (by omega)).trans ((rl_wn (by omega)).trans (rl_wn (by omega)))))))))]; exact (g10 t ht y hy).2⟩
        · refine ⟨(((rl_wn (by omega)).trans ((rl_wn (by omega)).trans ((rl_wn (by omega)).trans ((rl_wn (by omega)).trans ((rl_wn (by omega)).trans (rl_wn (by omega))))))).trans e7).trans ((rl_wn (by omega)).trans ((rl_wn (by omega)).trans ((rl_wn (by omega)).trans ((rl_wn (by omega)).trans ((rl_wn (by omega)).trans ((rl_wn (by omega)).trans ((rl_wn (by omega)).trans (rl_wn (by omega))))))))).symm, ((rl_wn (by omega)).trans ((rl_wn (by omega)).trans ((rl_wn (by omega)).trans ((rl_wn (by omega)).trans ((rl_wn (by omega)).trans (rl_ww _ _ _ _ _)))))).trans ((rl_wn (by omega)).trans ((rl_wn (by omega)).trans ((rl_wn (by omega)).trans ((rl_wn (by omega)).trans ((rl_wn (by omega)).trans ((rl_wn (by omega)).trans ((rl_wn (by omega)).trans (rl_ww _ _ _ _ _)))))))).symm, ⟨0, by decide, ((rl_wn (by omega)).trans ((rl_wn (by omega)).trans ((rl_wn (by omega)).trans ((rl_wn (by omega)).trans ((rl_wn (by omega)).trans ((rl_wn (by omega)).trans ((rl_wn (by omega)).trans (rl_ww _ _ _ _ _))))))))⟩, fun _ => (rl_ww _ _ _ _ _), fun q => absurd ((rl_wn (by omega)).trans ((rl_wn (by omega)).trans ((rl_wn (by omega)).trans ((rl_wn (by omega)).trans ((rl_wn (by omega)).trans (rl_ww _ _ _ _ _)))))) q⟩
        · intro y hy e3
          by_cases ey : y = x
          · subst ey
            exact absurd (((rl_wn (by omega)).trans (rl_ww _ _ _ _ _)).symm.trans e3) (by rw [ew2]; exact fun z => absurd (zz_inj (b := 3) (by omega) (by decide) z) (by omega))
          · have q := g12 t ht y hy (((rl_wn (by omega)).trans ((rl_wn (by omega)).trans ((rl_wn (by omega)).trans ((rl_wn (by omega)).trans ((rl_wn (by omega)).trans ((rl_wn (by omega)).trans ((rl_wn (by omega)).trans (rl_wn (by omega))))))))).symm.trans e3)
            exact absurd (zz_inj (by omega) (by omega) (q.2.symm.trans ex)) ey
        · intro n hn hn30
          obtain ⟨k0, k1, k2⟩ := n13 n hn hn30
          exact ⟨k0, k1, ((rl_wn (by omega)).trans ((rl_wn (by omega)).trans ((rl_wn (by omega)).trans ((rl_wn (by omega)).trans ((rl_wn (by omega)).trans ((rl_wn (by omega)).trans ((rl_wn (by omega)).trans (rl_wn (by omega))))))))).trans k2⟩
    · refine mi_wkR hd eL dg ?_
      refine hQ _ (ov_w (ov_w T 80 0 t 0) 79 0 t 0) (rl_w_3 (t := t) ht hw (fun r i j a b c => (rl_wn (by omega))) (fun r j a b c => ((rl_wn (by omega)).trans (rl_wn (by omega)))) ?_ ?_ ?_ ?_ ?_ ?_) (mi_kcw mi_kcr t4 (by decide)) (mi_kpw (mi_kpw mi_kpr (by decide) (Or.inl (by decide))) (by decide) (Or.inl (by decide))) (fun q => absurd q (by decide)) (fun _ d1 D Q1 hd1 hq => mi_enR hd1 ht ((rl_wn (by omega)).trans md) hq)
      · exact ((rl_wn (by omega)).trans g2).trans ((rl_wn (by omega)).trans (rl_wn (by omega))).symm
      · exact ⟨((rl_wn (by omega)).trans e9.1).trans ((rl_wn (by omega)).trans (rl_wn (by omega))).symm, ((rl_wn (by omega)).trans e9.2.1).trans ((rl_wn (by omega)).trans (rl_wn (by omega))).symm, ((rl_wn (by omega)).trans e9.2.2).trans ((rl_wn (by omega)).trans (rl_wn (by omega))).symm⟩
      · intro y hy
        exact ⟨((rl_wn (by omega)).trans (g10 t ht y hy).1).trans ((rl_wn (by omega)).trans (rl_wn (by omega))).symm, by rw [show _ = _ from ((rl_wn (by omega)).trans (rl_wn (by omega)))]; exact (g10 t ht y hy).2⟩
      · refine ⟨((rl_wn (by omega)).trans e7).trans ((rl_wn (by omega)).trans (rl_wn (by omega))).symm, (rl_ww _ _ _ _ _).trans ((rl_wn (by omega)).trans (rl_ww _ _ _ _ _)).symm, ⟨0, by decide, ((rl_wn (by omega)).trans (rl_ww _ _ _ _ _))⟩, fun _ => (rl_ww _ _ _ _ _), fun q => absurd (rl_ww _ _ _ _ _) q⟩
      · intro y hy e3
        · have q := g12 t ht y hy (((rl_wn (by omega)).trans (rl_wn (by omega))).symm.trans e3)
          exact absurd (md.symm.trans q.1) (by decide)
      · intro n hn hn30
        obtain ⟨k0, k1, k2⟩ := n13 n hn hn30
        exact ⟨k0, k1, ((rl_wn (by omega)).trans (rl_wn (by omega))).trans k2⟩
    · have ef : mi_first (mi_f (ov_w T 80 0 t 0) t) = mi_first (C.1 34 t) := by
        unfold mi_first mi_busy
        rw [(g10 t ht 0 (by decide)).1, (g10 t ht 1 (by decide)).1, (g10 t ht 2 (by decide)).1]
        rfl
      obtain ⟨w, hw3, ew⟩ := mi_first_m (C.1 34 t)
      refine mi_wkF hd hx eL dg (th.trans ex) (fun q => ?_) (fun q => ?_)
      · skip
        refine hQ _ (ov_w (ov_w (ov_w (ov_w T 80 0 t 0) 79 0 t 0) 62 0 (3 * t + x) (mi_first (C.1 34 t))) 79 0 t 0) (rl_w_3 (t := t) ht hw (fun r i j a b c => ((rl_wn (by omega)).trans (rl_wn (by omega)))) (fun r j a b c => ((rl_wn (by omega)).trans ((rl_wn (by omega)).trans ((rl_wn (by omega)).trans (rl_wn (by omega)))))) ?_ ?_ ?_ ?_ ?_ ?_) (mi_kcw (mi_kcw mi_kcr t4 (by decide)) t34 (by decide)) (mi_kpw (mi_kpw (mi_kpw (mi_kpw mi_kpr (by decide) (Or.inl (by decide))) (by decide) (Or.inl (by decide))) (by decide) (Or.inl (by decide))) (by decide) (Or.inl (by decide))) (fun q => absurd q (by decide)) (fun _ d1 D Q1 hd1 hq => mi_enF' hd1 ht hx (T := ov_w T 80 0 t 0) ((rl_wn (by omega)).trans md) ((rl_wn (by omega)).trans ex) ((rl_wn (by omega)).trans (g10 t ht x hx).1.symm) ((rl_wn (by omega)).trans tg.symm) ef (fun _ => hq) (fun n => absurd q n))
        · exact (((rl_wn (by omega)).trans (rl_wn (by omega))).trans g2).trans ((rl_wn (by omega)).trans ((rl_wn (by omega)).trans ((rl_wn (by omega)).trans (rl_wn (by omega))))).symm
        · exact ⟨(((rl_wn (by omega)).trans (rl_wn (by omega))).trans e9.1).trans ((rl_wn (by omega)).trans ((rl_wn (by omega)).trans ((rl_wn (by omega)).trans (rl_wn (by omega))))).symm, (((rl_wn (by omega)).trans (rl_wn (by omega))).trans e9.2.1).trans ((rl_wn (by omega)).trans ((rl_wn (by omega)).trans ((rl_wn (by omega)).trans (rl_wn (by omega))))).symm, (((rl_wn (by omega)).trans (rl_wn (by omega))).trans e9.2.2).trans ((rl_wn (by omega)).trans ((rl_wn (by omega)).trans ((rl_wn (by omega)).trans (rl_wn (by omega))))).symm⟩
        · intro y hy
          by_cases ey : y = x
          · subst ey
            exact ⟨(rl_ww _ _ _ _ _).trans ((rl_wn (by omega)).trans (rl_ww _ _ _ _ _)).symm, by rw [show _ = _ from ((rl_wn (by omega)).trans (rl_ww _ _ _ _ _))]; exact (.inl ⟨w, by omega, ew⟩)⟩
          · exact ⟨(((rl_wn (by omega)).trans (rl_wn (by omega))).trans (g10 t ht y hy).1).trans ((rl_wn (by omega)).trans ((rl_wn (by omega)).trans ((rl_wn (by omega)).trans (rl_wn (by omega))))).symm, by rw [show _ = _ from ((rl_wn (by omega)).trans ((rl_wn (by omega)).trans ((rl_wn (by omega)).trans (rl_wn (by omega)))))]; exact (g10 t ht y hy).2⟩
        · refine ⟨(((rl_wn (by omega)).trans (rl_wn (by omega))).trans e7).trans ((rl_wn (by omega)).trans ((rl_wn (by omega)).trans ((rl_wn (by omega)).trans (rl_wn (by omega))))).symm, ((rl_wn (by omega)).trans (rl_ww _ _ _ _ _)).trans ((rl_wn (by omega)).trans ((rl_wn (by omega)).trans ((rl_wn (by omega)).trans (rl_ww _ _ _ _ _)))).symm, ⟨0, by decide, ((rl_wn (by omega)).trans ((rl_wn (by omega)).trans ((rl_wn (by omega)).trans (rl_ww _ _ _ _ _))))⟩, fun _ => (rl_ww _ _ _ _ _), fun q => absurd ((rl_wn (by omega)).trans (rl_ww _ _ _ _ _)) q⟩
        · intro y hy e3
          by_cases ey : y = x
          · subst ey
            exact absurd (((rl_wn (by omega)).trans (rl_ww _ _ _ _ _)).symm.trans e3) (by rw [ew]; exact fun z => absurd (zz_inj (b := 3) (by omega) (by decide) z) (by omega))
          · have q := g12 t ht y hy (((rl_wn (by omega)).trans ((rl_wn (by omega)).trans ((rl_wn (by omega)).trans (rl_wn (by omega))))).symm.trans e3)
            exact absurd (md.symm.trans q.1) (by decide)
        · intro n hn hn30
          obtain ⟨k0, k1, k2⟩ := n13 n hn hn30
          exact ⟨k0, k1, ((rl_wn (by omega)).trans ((rl_wn (by omega)).trans ((rl_wn (by omega)).trans (rl_wn (by omega))))).trans k2⟩
      · skip
        refine hQ _ (ov_w (ov_w (ov_w T 80 0 t 0) 79 0 t 0) 79 0 t 0) (rl_w_3 (t := t) ht hw (fun r i j a b c => (rl_wn (by omega))) (fun r j a b c => ((rl_wn (by omega)).trans ((rl_wn (by omega)).trans (rl_wn (by omega))))) ?_ ?_ ?_ ?_ ?_ ?_) (mi_kcw mi_kcr t4 (by decide)) (mi_kpw (mi_kpw (mi_kpw mi_kpr (by decide) (Or.inl (by decide))) (by decide) (Or.inl (by decide))) (by decide) (Or.inl (by decide))) (fun q => absurd q (by decide)) (fun _ d1 D Q1 hd1 hq => mi_enF' hd1 ht hx (T := ov_w T 80 0 t 0) ((rl_wn (by omega)).trans md) ((rl_wn (by omega)).trans ex) ((rl_wn (by omega)).trans (g10 t ht x hx).1.symm) ((rl_wn (by omega)).trans tg.symm) ef (fun n => absurd n q) (fun _ => hq))
        · exact ((rl_wn (by omega)).trans g2).trans ((rl_wn (by omega)).trans ((rl_wn (by omega)).trans (rl_wn (by omega)))).symm
        · exact ⟨((rl_wn (by omega)).trans e9.1).trans ((rl_wn (by omega)).trans ((rl_wn (by omega)).trans (rl_wn (by omega)))).symm, ((rl_wn (by omega)).trans e9.2.1).trans ((rl_wn (by omega)).trans ((rl_wn (by omega)).trans (rl_wn (by omega)))).symm, ((rl_wn (by omega)).trans e9.2.2).trans ((rl_wn (by omega)).trans ((rl_wn (by omega)).trans (rl_wn (by omega)))).symm⟩
        · intro y hy
          exact ⟨((rl_wn (by omega)).trans (g10 t ht y hy).1).trans ((rl_wn (by omega)).trans ((rl_wn (by omega)).trans (rl_wn (by omega)))).symm, by rw [show _ = _ from ((rl_wn (by omega)).trans ((rl_wn (by omega)).trans (rl_wn (by omega))))]; exact (g10 t ht y hy).2⟩
        · refine ⟨((rl_wn (by omega)).trans e7).trans ((rl_wn (by omega)).trans ((rl_wn (by omega)).trans (rl_wn (by omega)))).symm, (rl_ww _ _ _ _ _).trans ((rl_wn (by omega)).trans ((rl_wn (by omega)).trans (rl_ww _ _ _ _ _))).symm, ⟨0, by decide, ((rl_wn (by omega)).trans ((rl_wn (by omega)).trans (rl_ww _ _ _ _ _)))⟩, fun _ => (rl_ww _ _ _ _ _), fun q => absurd (rl_ww _ _ _ _ _) q⟩
        · intro y hy e3
          · have q := g12 t ht y hy (((rl_wn (by omega)).trans ((rl_wn (by omega)).trans (rl_wn (by omega)))).symm.trans e3)
            exact absurd (md.symm.trans q.1) (by decide)
        · intro n hn hn30
          obtain ⟨k0, k1, k2⟩ := n13 n hn hn30
          exact ⟨k0, k1, ((rl_wn (by omega)).trans ((rl_wn (by omega)).trans (rl_wn (by omega)))).trans k2⟩
  · refine mi_wkK hd (by omega) (by omega) eL (hQ _ (ov_w T 80 0 t (nI (k + 1))) (rl_w_3 (t := t) ht hw (fun r i j a b c => (rl_wn (by omega))) (fun r j a b c => (rl_wn (by omega))) ?_ ?_ ?_ ?_ ?_ ?_) (mi_kcw mi_kcr t4 (by decide)) (mi_kpw mi_kpr (by decide) (Or.inl (by decide))) (fun _ => rfl) (fun q => absurd q (by omega)))
    · exact ((rl_wn (by omega)).trans g2).trans (rl_wn (by omega)).symm
    · exact ⟨((rl_wn (by omega)).trans e9.1).trans (rl_wn (by omega)).symm, ((rl_wn (by omega)).trans e9.2.1).trans (rl_wn (by omega)).symm, ((rl_wn (by omega)).trans e9.2.2).trans (rl_wn (by omega)).symm⟩
    · intro y hy
      exact ⟨((rl_wn (by omega)).trans (g10 t ht y hy).1).trans (rl_wn (by omega)).symm, by rw [show _ = _ from (rl_wn (by omega))]; exact (g10 t ht y hy).2⟩
    · refine ⟨((rl_wn (by omega)).trans e7).trans (rl_wn (by omega)).symm, (rl_ww _ _ _ _ _).trans (rl_ww _ _ _ _ _).symm, ⟨k + 1, by omega, rl_ww _ _ _ _ _⟩, fun q => absurd ((rl_ww _ _ _ _ _).symm.trans q) (nI_ne0 (by omega) (by omega)), fun _ => ?_⟩
      have f9 : (ov_w C 6 t 8 (nI (k + 1))).1 6 t 9 = C.1 6 t 9 := rl_wn (by omega)
      have f10 : (ov_w C 6 t 8 (nI (k + 1))).1 6 t 10 = C.1 6 t 10 := rl_wn (by omega)
      have f11 : (ov_w C 6 t 8 (nI (k + 1))).1 6 t 11 = C.1 6 t 11 := rl_wn (by omega)
      rw [f9, f10, f11]
      exact hcase
    · intro y hy e3
      exact g12 t ht y hy e3
    · intro n hn hn30
      exact n13 n hn hn30
