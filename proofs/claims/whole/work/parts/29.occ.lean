theorem mi_bg1 {d : Nat} {D T T' : ov_S} {Q : ov_Q} {t k : Nat} {a b : Int32} (hd : 4 ≤ d) (ht : t < 4) (hk : k ≤ 98) (h1 : 0 < k → T' = ov_w (ov_w (ov_w (ov_w (ov_w T 79 0 t 1) 81 0 t a) 82 0 t b) 80 0 t (nI (k + 1))) 80 0 t (nI k)) (h2 : k = 0 → mi_en t (ov_w (ov_w (ov_w (ov_w (ov_w T 79 0 t 1) 81 0 t a) 82 0 t b) 80 0 t (nI (k + 1))) 80 0 t 0) T') (h : Q none (ov_mix D T')) : ov_V true true d 0 0 mq_Mod_begins 195 [some (.inr (.inr (true, 14, 0))), some (.inl (nI t)), none, none, some (.inl a), some (.inl b), some (.inl (nI (k + 1)))] [.inl 1, .inl (nI t), .inr (.inr (true, 79, 0))] (ov_mix D T) Q := by
  have ib : ov_ib (nI t) 4 := zz_ib ht (by decide)
  have ex : ov_ix (nI t) = t := zz_ix (by omega)
  rw [rl_w2] at h1 h2
  refine r_Mod_begins_195 (by omega) ?_
  rw [ex, nI_pred, mix_m rfl, mix_m rfl, mix_m rfl, mix_m rfl]
  generalize ov_w (ov_w (ov_w T 79 0 t 1) 81 0 t a) 82 0 t b = T2 at h1 h2 ⊢
  have e8 : ov_g (ov_mix D (ov_w T2 80 0 t (nI k))) 80 0 t = nI k := rl_ww T2 80 0 t (nI k)
  rw [e8]
  refine ⟨ib, ib, ib, ib, ib, fun n => r_Mod_begins_236 ?_, fun q => ?_⟩
  · have hk0 : 0 < k := by
      rcases Nat.eq_zero_or_pos k with e | e
      · exact absurd (by rw [e]; rfl) n
      · exact e
    rw [← h1 hk0]
    exact h
  · have hk0 : k = 0 := zz_inj (by omega) (by decide) (b := 0) q
    rw [hk0]
    exact h2 hk0 (d - 1) D _ (by omega) (r_Mod_begins_236 h)
theorem mi_bg3 {d : Nat} {D T T' : ov_S} {Q : ov_Q} {t k : Nat} {a b : Int32} (hd : 4 ≤ d) (ht : t < 4) (hk : k ≤ 98) (h1 : 0 < k → T' = ov_w (ov_w (ov_w (ov_w (ov_w T 79 0 t 3) 81 0 t a) 82 0 t b) 80 0 t (nI (k + 1))) 80 0 t (nI k)) (h2 : k = 0 → mi_en t (ov_w (ov_w (ov_w (ov_w (ov_w T 79 0 t 3) 81 0 t a) 82 0 t b) 80 0 t (nI (k + 1))) 80 0 t 0) T') (h : Q none (ov_mix D T')) : ov_V true true d 0 0 mq_Mod_begins 195 [some (.inr (.inr (true, 14, 0))), some (.inl (nI t)), none, none, some (.inl a), some (.inl b), some (.inl (nI (k + 1)))] [.inl 3, .inl (nI t), .inr (.inr (true, 79, 0))] (ov_mix D T) Q := by
  have ib : ov_ib (nI t) 4 := zz_ib ht (by decide)
  have ex : ov_ix (nI t) = t := zz_ix (by omega)
  rw [rl_w2] at h1 h2
  refine r_Mod_begins_195_2 (by omega) ?_
  rw [ex, nI_pred, mix_m rfl, mix_m rfl, mix_m rfl, mix_m rfl]
  generalize ov_w (ov_w (ov_w T 79 0 t 3) 81 0 t a) 82 0 t b = T2 at h1 h2 ⊢
  have e8 : ov_g (ov_mix D (ov_w T2 80 0 t (nI k))) 80 0 t = nI k := rl_ww T2 80 0 t (nI k)
  rw [e8]
  refine ⟨ib, ib, ib, ib, ib, fun n => r_Mod_begins_236 ?_, fun q => ?_⟩
  · have hk0 : 0 < k := by
      rcases Nat.eq_zero_or_pos k with e | e
      · exact absurd (by rw [e]; rfl) n
      · exact e
    rw [← h1 hk0]
    exact h
  · have hk0 : k = 0 := zz_inj (by omega) (by decide) (b := 0) q
    rw [hk0]
    exact h2 hk0 (d - 1) D _ (by omega) (r_Mod_begins_236 h)
theorem mi_bg2 {d : Nat} {D T T' : ov_S} {Q : ov_Q} {t k : Nat} {a b : Int32} (hd : 4 ≤ d) (ht : t < 4) (hk : k ≤ 98) (h1 : 0 < k → T' = ov_w (ov_w (ov_w (ov_w (ov_w T 79 0 t 2) 81 0 t a) 82 0 t b) 80 0 t (nI (k + 1))) 80 0 t (nI k)) (h2 : k = 0 → mi_en t (ov_w (ov_w (ov_w (ov_w (ov_w T 79 0 t 2) 81 0 t a) 82 0 t b) 80 0 t (nI (k + 1))) 80 0 t 0) T') (h : Q none (ov_mix D T')) : ov_V true true d 0 0 mq_Mod_begins 195 [some (.inr (.inr (true, 14, 0))), some (.inl (nI t)), none, none, some (.inl a), some (.inl b), some (.inl (nI (k + 1)))] [.inl 2, .inl (nI t), .inr (.inr (true, 79, 0))] (ov_mix D T) Q := by
  have ib : ov_ib (nI t) 4 := zz_ib ht (by decide)
  have ex : ov_ix (nI t) = t := zz_ix (by omega)
  rw [rl_w2] at h1 h2
  refine r_Mod_begins_195_3 (by omega) ?_
  rw [ex, nI_pred, mix_m rfl, mix_m rfl, mix_m rfl, mix_m rfl]
  generalize ov_w (ov_w (ov_w T 79 0 t 2) 81 0 t a) 82 0 t b = T2 at h1 h2 ⊢
  have e8 : ov_g (ov_mix D (ov_w T2 80 0 t (nI k))) 80 0 t = nI k := rl_ww T2 80 0 t (nI k)
  rw [e8]
  refine ⟨ib, ib, ib, ib, ib, fun n => r_Mod_begins_236 ?_, fun q => ?_⟩
  · have hk0 : 0 < k := by
      rcases Nat.eq_zero_or_pos k with e | e
      · exact absurd (by rw [e]; rfl) n
      · exact e
    rw [← h1 hk0]
    exact h
  · have hk0 : k = 0 := zz_inj (by omega) (by decide) (b := 0) q
    rw [hk0]
    exact h2 hk0 (d - 1) D _ (by omega) (r_Mod_begins_236 h)
theorem mi_occ {c m lb nz wc : Nat} {C T : ov_S} {t n k l : Nat} {kd th tg z a b : Int32} (ht : t < 4) (hw : rl_w c m lb nz wc C.1 T.1) (e80 : T.1 80 0 t = 0) (eN : T.1 86 0 t = nI n) (hk : k < n) (hn : n ≤ 30) (hl : 1 ≤ l) (hl2 : l ≤ 99) (hdo : rl_do (nI l) kd th tg z a b) : rl_w c m lb nz wc (ov_w (ov_w (ov_w (ov_w (ov_w C 6 t 7 (nI (k + 1))) 6 t 9 kd) 6 t 8 (nI l)) 6 t 10 th) 6 t 11 tg).1 (ov_w (ov_w (ov_w (ov_w (ov_w T 87 0 t (nI (k + 1))) 79 0 t z) 81 0 t a) 82 0 t b) 80 0 t (nI l)).1 ∧ mi_kc C (ov_w (ov_w (ov_w (ov_w (ov_w C 6 t 7 (nI (k + 1))) 6 t 9 kd) 6 t 8 (nI l)) 6 t 10 th) 6 t 11 tg) ∧ mi_kp T (ov_w (ov_w (ov_w (ov_w (ov_w T 87 0 t (nI (k + 1))) 79 0 t z) 81 0 t a) 82 0 t b) 80 0 t (nI l)) := by
  have h := hw
  obtain ⟨g1, g2, g3, g4, g5, g6, g7, g8, g9, g10, g11, g12, g13, g14, g15, g16, g17, g18, g19, g20, g21, g22, g23, g24, g25, g26⟩ := h
  obtain ⟨e7, e8, _, hdo0⟩ := g11 t ht
  have e9 := g9 t ht
  have t4 : t < rl_sh 6 := ht
  have t34 : t < rl_sh 34 := ht
  have h79 : T.1 79 0 t = 0 := hdo0.1 (e8.trans e80)
  refine ⟨rl_w_3 (t := t) ht hw (fun r i j a b c => ((rl_wn (by omega)).trans ((rl_wn (by omega)).trans ((rl_wn (by omega)).trans ((rl_wn (by omega)).trans (rl_wn (by omega))))))) (fun r j a b c => ((rl_wn (by omega)).trans ((rl_wn (by omega)).trans ((rl_wn (by omega)).trans ((rl_wn (by omega)).trans (rl_wn (by omega))))))) ?_ ?_ ?_ ?_ ?_ ?_, (mi_kcw (mi_kcw (mi_kcw (mi_kcw (mi_kcw mi_kcr t4 (by decide)) t4 (by decide)) t4 (by decide)) t4 (by decide)) t4 (by decide)), (mi_kpw (mi_kpw (mi_kpw (mi_kpw (mi_kpw mi_kpr (by decide) (Or.inl (by decide))) (by decide) (Or.inl (by decide))) (by decide) (Or.inl (by decide))) (by decide) (Or.inl (by decide))) (by decide) (Or.inl (by decide)))⟩
  · exact (((rl_wn (by omega)).trans ((rl_wn (by omega)).trans ((rl_wn (by omega)).trans ((rl_wn (by omega)).trans (rl_wn (by omega)))))).trans g2).trans ((rl_wn (by omega)).trans ((rl_wn (by omega)).trans ((rl_wn (by omega)).trans ((rl_wn (by omega)).trans (rl_wn (by omega)))))).symm
  · exact ⟨(((rl_wn (by omega)).trans ((rl_wn (by omega)).trans ((rl_wn (by omega)).trans ((rl_wn (by omega)).trans (rl_wn (by omega)))))).trans e9.1).trans ((rl_wn (by omega)).trans ((rl_wn (by omega)).trans ((rl_wn (by omega)).trans ((rl_wn (by omega)).trans (rl_wn (by omega)))))).symm, (((rl_wn (by omega)).trans ((rl_wn (by omega)).trans ((rl_wn (by omega)).trans ((rl_wn (by omega)).trans (rl_wn (by omega)))))).trans e9.2.1).trans ((rl_wn (by omega)).trans ((rl_wn (by omega)).trans ((rl_wn (by omega)).trans ((rl_wn (by omega)).trans (rl_wn (by omega)))))).symm, (((rl_wn (by omega)).trans ((rl_wn (by omega)).trans ((rl_wn (by omega)).trans ((rl_wn (by omega)).trans (rl_wn (by omega)))))).trans e9.2.2).trans ((rl_wn (by omega)).trans ((rl_wn (by omega)).trans ((rl_wn (by omega)).trans ((rl_wn (by omega)).trans (rl_wn (by omega)))))).symm⟩
  · intro y hy
    exact ⟨(((rl_wn (by omega)).trans ((rl_wn (by omega)).trans ((rl_wn (by omega)).trans ((rl_wn (by omega)).trans (rl_wn (by omega)))))).trans (g10 t ht y hy).1).trans ((rl_wn (by omega)).trans ((rl_wn (by omega)).trans ((rl_wn (by omega)).trans ((rl_wn (by omega)).trans (rl_wn (by omega)))))).symm, by rw [show _ = _ from ((rl_wn (by omega)).trans ((rl_wn (by omega)).trans ((rl_wn (by omega)).trans ((rl_wn (by omega)).trans (rl_wn (by omega))))))]; exact (g10 t ht y hy).2⟩
  · refine ⟨((rl_wn (by omega)).trans ((rl_wn (by omega)).trans ((rl_wn (by omega)).trans ((rl_wn (by omega)).trans (rl_ww _ _ _ _ _))))).trans ((rl_wn (by omega)).trans ((rl_wn (by omega)).trans ((rl_wn (by omega)).trans ((rl_wn (by omega)).trans (rl_ww _ _ _ _ _))))).symm, ((rl_wn (by omega)).trans ((rl_wn (by omega)).trans (rl_ww _ _ _ _ _))).trans (rl_ww _ _ _ _ _).symm, ⟨l, hl2, (rl_ww _ _ _ _ _)⟩, ?_⟩
    rw [show _ = _ from ((rl_wn (by omega)).trans ((rl_wn (by omega)).trans (rl_ww _ _ _ _ _))), show _ = _ from ((rl_wn (by omega)).trans ((rl_wn (by omega)).trans ((rl_wn (by omega)).trans (rl_ww _ _ _ _ _)))), show _ = _ from ((rl_wn (by omega)).trans (rl_ww _ _ _ _ _)), show _ = _ from (rl_ww _ _ _ _ _), show _ = _ from ((rl_wn (by omega)).trans ((rl_wn (by omega)).trans ((rl_wn (by omega)).trans (rl_ww _ _ _ _ _)))), show _ = _ from ((rl_wn (by omega)).trans ((rl_wn (by omega)).trans (rl_ww _ _ _ _ _))), show _ = _ from ((rl_wn (by omega)).trans (rl_ww _ _ _ _ _))]
    exact hdo
  · intro y hy e3
    exact absurd (h79.symm.trans (g12 t ht y hy (((rl_wn (by omega)).trans ((rl_wn (by omega)).trans ((rl_wn (by omega)).trans ((rl_wn (by omega)).trans (rl_wn (by omega)))))).symm.trans e3)).1) (by decide)
  · intro n' hn' hn30
    exact ⟨k + 1, by have := zz_inj (by omega) (by omega) (eN.symm.trans hn'); omega, ((rl_wn (by omega)).trans ((rl_wn (by omega)).trans ((rl_wn (by omega)).trans ((rl_wn (by omega)).trans (rl_ww _ _ _ _ _)))))⟩
theorem mi_occG {c m lb nz wc : Nat} {C T : ov_S} {t n k l : Nat} {kd th tg z a b : Int32} {x : Nat} (hx : x < 3) (hz : z = 1) (ha : a = nI x) (ht : t < 4) (hw : rl_w c m lb nz wc C.1 T.1) (e80 : T.1 80 0 t = 0) (eN : T.1 86 0 t = nI n) (hk : k < n) (hn : n ≤ 30) (hl : 1 ≤ l) (hl2 : l ≤ 99) (hdo : rl_do (nI l) kd th tg z a b) : rl_w c m lb nz wc (ov_w (ov_w (ov_w (ov_w (ov_w (ov_w C 6 t 7 (nI (k + 1))) 34 t x 3) 6 t 9 kd) 6 t 8 (nI l)) 6 t 10 th) 6 t 11 tg).1 (ov_w (ov_w (ov_w (ov_w (ov_w (ov_w T 87 0 t (nI (k + 1))) 62 0 (3 * t + x) 3) 79 0 t z) 81 0 t a) 82 0 t b) 80 0 t (nI l)).1 ∧ mi_kc C (ov_w (ov_w (ov_w (ov_w (ov_w (ov_w C 6 t 7 (nI (k + 1))) 34 t x 3) 6 t 9 kd) 6 t 8 (nI l)) 6 t 10 th) 6 t 11 tg) ∧ mi_kp T (ov_w (ov_w (ov_w (ov_w (ov_w (ov_w T 87 0 t (nI (k + 1))) 62 0 (3 * t + x) 3) 79 0 t z) 81 0 t a) 82 0 t b) 80 0 t (nI l)) := by
  have h := hw
  obtain ⟨g1, g2, g3, g4, g5, g6, g7, g8, g9, g10, g11, g12, g13, g14, g15, g16, g17, g18, g19, g20, g21, g22, g23, g24, g25, g26⟩ := h
  obtain ⟨e7, e8, _, hdo0⟩ := g11 t ht
  have e9 := g9 t ht
  have t4 : t < rl_sh 6 := ht
  have t34 : t < rl_sh 34 := ht
  have h79 : T.1 79 0 t = 0 := hdo0.1 (e8.trans e80)
  refine ⟨rl_w_3 (t := t) ht hw (fun r i j a b c => ((rl_wn (by omega)).trans ((rl_wn (by omega)).trans ((rl_wn (by omega)).trans ((rl_wn (by omega)).trans ((rl_wn (by omega)).trans (rl_wn (by omega)))))))) (fun r j a b c => ((rl_wn (by omega)).trans ((rl_wn (by omega)).trans ((rl_wn (by omega)).trans ((rl_wn (by omega)).trans ((rl_wn (by omega)).trans (rl_wn (by omega)))))))) ?_ ?_ ?_ ?_ ?_ ?_, (mi_kcw (mi_kcw (mi_kcw (mi_kcw (mi_kcw (mi_kcw mi_kcr t4 (by decide)) t34 (by decide)) t4 (by decide)) t4 (by decide)) t4 (by decide)) t4 (by decide)), (mi_kpw (mi_kpw (mi_kpw (mi_kpw (mi_kpw (mi_kpw mi_kpr (by decide) (Or.inl (by decide))) (by decide) (Or.inl (by decide))) (by decide) (Or.inl (by decide))) (by decide) (Or.inl (by decide))) (by decide) (Or.inl (by decide))) (by decide) (Or.inl (by decide)))⟩
  · exact (((rl_wn (by omega)).trans ((rl_wn (by omega)).trans ((rl_wn (by omega)).trans ((rl_wn (by omega)).trans ((rl_wn (by omega)).trans (rl_wn (by omega))))))).trans g2).trans ((rl_wn (by omega)).trans ((rl_wn (by omega)).trans ((rl_wn (by omega)).trans ((rl_wn (by omega)).trans ((rl_wn (by omega)).trans (rl_wn (by omega))))))).symm
  · exact ⟨(((rl_wn (by omega)).trans ((rl_wn (by omega)).trans ((rl_wn (by omega)).trans ((rl_wn (by omega)).trans ((rl_wn (by omega)).trans (rl_wn (by omega))))))).trans e9.1).trans ((rl_wn (by omega)).trans ((rl_wn (by omega)).trans ((rl_wn (by omega)).trans ((rl_wn (by omega)).trans ((rl_wn (by omega)).trans (rl_wn (by omega))))))).symm, (((rl_wn (by omega)).trans ((rl_wn (by omega)).trans ((rl_wn (by omega)).trans ((rl_wn (by omega)).trans ((rl_wn (by omega)).trans (rl_wn (by omega))))))).trans e9.2.1).trans ((rl_wn (by omega)).trans ((rl_wn (by omega)).trans ((rl_wn (by omega)).trans ((rl_wn (by omega)).trans ((rl_wn (by omega)).trans (rl_wn (by omega))))))).symm, (((rl_wn (by omega)).trans ((rl_wn (by omega)).trans ((rl_wn (by omega)).trans ((rl_wn (by omega)).trans ((rl_wn (by omega)).trans (rl_wn (by omega))))))).trans e9.2.2).trans ((rl_wn (by omega)).trans ((rl_wn (by omega)).trans ((rl_wn (by omega)).trans ((rl_wn (by omega)).trans ((rl_wn (by omega)).trans (rl_wn (by omega))))))).symm⟩
  · intro y hy
    by_cases ey : y = x
    · subst ey
      exact ⟨((rl_wn (by omega)).trans ((rl_wn (by omega)).trans ((rl_wn (by omega)).trans ((rl_wn (by omega)).trans (rl_ww _ _ _ _ _))))).trans ((rl_wn (by omega)).trans ((rl_wn (by omega)).trans ((rl_wn (by omega)).trans ((rl_wn (by omega)).trans (rl_ww _ _ _ _ _))))).symm, by rw [show _ = _ from ((rl_wn (by omega)).trans ((rl_wn (by omega)).trans ((rl_wn (by omega)).trans ((rl_wn (by omega)).trans (rl_ww _ _ _ _ _)))))]; exact .inl ⟨3, by decide, rfl⟩⟩
    · exact ⟨(((rl_wn (by omega)).trans ((rl_wn (by omega)).trans ((rl_wn (by omega)).trans ((rl_wn (by omega)).trans ((rl_wn (by omega)).trans (rl_wn (by omega))))))).trans (g10 t ht y hy).1).trans ((rl_wn (by omega)).trans ((rl_wn (by omega)).trans ((rl_wn (by omega)).trans ((rl_wn (by omega)).trans ((rl_wn (by omega)).trans (rl_wn (by omega))))))).symm, by rw [show _ = _ from ((rl_wn (by omega)).trans ((rl_wn (by omega)).trans ((rl_wn (by omega)).trans ((rl_wn (by omega)).trans ((rl_wn (by omega)).trans (rl_wn (by omega)))))))]; exact (g10 t ht y hy).2⟩
  · refine ⟨((rl_wn (by omega)).trans ((rl_wn (by omega)).trans ((rl_wn (by omega)).trans ((rl_wn (by omega)).trans ((rl_wn (by omega)).trans (rl_ww _ _ _ _ _)))))).trans ((rl_wn (by omega)).trans ((rl_wn (by omega)).trans ((rl_wn (by omega)).trans ((rl_wn (by omega)).trans ((rl_wn (by omega)).trans (rl_ww _ _ _ _ _)))))).symm, ((rl_wn (by omega)).trans ((rl_wn (by omega)).trans (rl_ww _ _ _ _ _))).trans (rl_ww _ _ _ _ _).symm, ⟨l, hl2, (rl_ww _ _ _ _ _)⟩, ?_⟩
    rw [show _ = _ from ((rl_wn (by omega)).trans ((rl_wn (by omega)).trans (rl_ww _ _ _ _ _))), show _ = _ from ((rl_wn (by omega)).trans ((rl_wn (by omega)).trans ((rl_wn (by omega)).trans (rl_ww _ _ _ _ _)))), show _ = _ from ((rl_wn (by omega)).trans (rl_ww _ _ _ _ _)), show _ = _ from (rl_ww _ _ _ _ _), show _ = _ from ((rl_wn (by omega)).trans ((rl_wn (by omega)).trans ((rl_wn (by omega)).trans (rl_ww _ _ _ _ _)))), show _ = _ from ((rl_wn (by omega)).trans ((rl_wn (by omega)).trans (rl_ww _ _ _ _ _))), show _ = _ from ((rl_wn (by omega)).trans (rl_ww _ _ _ _ _))]
    exact hdo
  · intro y hy e3
    by_cases ey : y = x
    · subst ey; exact ⟨((rl_wn (by omega)).trans ((rl_wn (by omega)).trans ((rl_wn (by omega)).trans (rl_ww _ _ _ _ _)))).trans hz, ((rl_wn (by omega)).trans ((rl_wn (by omega)).trans (rl_ww _ _ _ _ _))).trans ha⟩
    · exact absurd (h79.symm.trans (g12 t ht y hy (((rl_wn (by omega)).trans ((rl_wn (by omega)).trans ((rl_wn (by omega)).trans ((rl_wn (by omega)).trans ((rl_wn (by omega)).trans (rl_wn (by omega))))))).symm.trans e3)).1) (by decide)
  · intro n' hn' hn30
    exact ⟨k + 1, by have := zz_inj (by omega) (by omega) (eN.symm.trans hn'); omega, ((rl_wn (by omega)).trans ((rl_wn (by omega)).trans ((rl_wn (by omega)).trans ((rl_wn (by omega)).trans ((rl_wn (by omega)).trans (rl_ww _ _ _ _ _))))))⟩
