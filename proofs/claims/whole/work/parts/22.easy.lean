theorem rl_hi_hi {S S' : ov_S} {r i j : Nat} {v : Int32} (h : rl_hi S S') (hr : 45 ≤ r) (h9 : r ≠ 99) : rl_hi S (ov_w S' r i j v) := rl_hi_w h (fun q => by omega) h9 (by omega) (by omega)
theorem rl_hi_14 {S S' : ov_S} {j : Nat} {v : Int32} (h : rl_hi S S') (hj : j ≠ 61) : rl_hi S (ov_w S' 14 0 j v) := rl_hi_w h (fun q => by have := q.2.1; revert this; decide) (by decide) (by decide) (fun _ => hj)
theorem rl_hi_lo {S S' : ov_S} {r i j : Nat} {v : Int32} (h : rl_hi S S') (hr : 0 < r) (hi : i < rl_sh r) (h14 : r ≠ 14) (h9 : r ≠ 99) : rl_hi S (ov_w S' r i j v) := rl_hi_w h (fun q => by have := q.2.1; omega) h9 (by omega) (fun e => absurd e h14)
theorem rl_wr (S : ov_S) (r i j : Nat) (v : Int32) (j' : Nat) : (ov_w S r i j v).1 r i j' = if j' = j then v else S.1 r i j' := by
  show (if r = r ∧ i = i ∧ j' = j then v else S.1 r i j') = _
  by_cases e : j' = j
  · rw [if_pos ⟨rfl, rfl, e⟩, if_pos e]
  · rw [if_neg (fun q => e q.2.2), if_neg e]
theorem rl_wi (S : ov_S) (r i j : Nat) (v : Int32) (i' : Nat) : (ov_w S r i j v).1 r i' j = if i' = i then v else S.1 r i' j := by
  show (if r = r ∧ i' = i ∧ j = j then v else S.1 r i' j) = _
  by_cases e : i' = i
  · rw [if_pos ⟨rfl, e, rfl⟩, if_pos e]
  · rw [if_neg (fun q => e q.2.1), if_neg e]
theorem w_three {S : ov_S} {c : Nat} {v : Int32} (hc : c ≤ 4) (e : S.1 1 0 2 = nI c) : ((0 ≤ v ∧ v ≤ ov_g S 1 0 2 - 1) ∧ v < 4) ↔ ∃ t : Nat, t < c ∧ v = nI t := by
  rw [show ov_g S 1 0 2 = nI c from e]; exact zz_tc hc
theorem w_pers {S : ov_S} {c : Nat} {v : Int32} (hc : c ≤ 4) (e : S.1 1 0 2 = nI c) : ((0 ≤ v ∧ v ≤ 3 * ov_g S 1 0 2 - 1) ∧ v < 12) ↔ ∃ t : Nat, t < 3 * c ∧ v = nI t := by
  rw [show ov_g S 1 0 2 = nI c from e]; exact zz_pc hc
theorem m_three {S : ov_S} {c : Nat} {v : Int32} (hc : c ≤ 4) (e : S.1 14 0 2 = nI c) : (0 ≤ v ∧ v < ov_g S 14 0 2) ↔ ∃ t : Nat, t < c ∧ v = nI t := by
  rw [show ov_g S 14 0 2 = nI c from e]; exact zz_tm hc
theorem m_pers {S : ov_S} {c : Nat} {v : Int32} (hc : c ≤ 4) (e : S.1 14 0 2 = nI c) : (0 ≤ v ∧ v < 3 * ov_g S 14 0 2) ↔ ∃ t : Nat, t < 3 * c ∧ v = nI t := by
  rw [show ov_g S 14 0 2 = nI c from e]; exact zz_pm hc
theorem zz_ti {v w : Int32} {k : Int} (h : v.toInt = k) (hw : w.toInt = k) : v = w := Int32.toInt_inj.mp (h.trans hw.symm)
theorem zz_not {v w : Int32} {a b k : Int} (h : v.toInt < a ∨ b < v.toInt) (hw : w.toInt = k) (h1 : a ≤ k) (h2 : k ≤ b) : ¬ v = w := by
  rintro rfl
  omega

theorem s_state {d : Nat} {S : ov_S} {v1 : Int32} (hd : 0 ≤ d) (h : rl_S S) : rl_2 d mq_Eye_state mq_Mod_state [some (.inr (.inr (true, 0, 0))), some (.inl v1), none] [some (.inr (.inr (true, 14, 0))), some (.inl v1), none] S := by
  unfold rl_2
  obtain ⟨c, m, lb, nz, wc, hw, ho, hi⟩ := id h
  refine r_Eye_state_0 (r_Mod_state_0 ⟨_, rfl, congrArg (fun z => some (Sum.inl z)) hw.2.1.symm, c, m, lb, nz, wc, ?_, ho, rl_i_hi (rl_hi_14 (rl_hi_14 (rl_hi_lo rl_hi_r (by decide) (by decide) (by decide) (by decide)) (by decide)) (by decide)) hi⟩)
  obtain ⟨g1, g2, g3, g4, g5, g6, g7, g8, g9, g10, g11, g12, g13, g14, g15, g16, g17, g18, g19, g20, g21, g22, g23, g24, g25, g26⟩ := hw
  exact ⟨g1, rfl, g3, g4, g5, g6, g7, g8, g9, g10, g11, g12, g13, g14, g15, g16, g17, g18, g19, g20, g21, g22, g23, g24, g25, g26⟩
theorem s_fault {d : Nat} {S : ov_S} {v1 : Int32} (hd : 0 ≤ d) (h : rl_S S) : rl_2 d mq_Eye_fault mq_Mod_fault [some (.inr (.inr (true, 0, 0))), some (.inl v1)] [some (.inr (.inr (true, 14, 0))), some (.inl v1)] S := by
  unfold rl_2
  obtain ⟨c, m, lb, nz, wc, hw, ho, hi⟩ := id h
  refine r_Eye_fault_0 ⟨fun n0 => ⟨fun n1 => r_Mod_fault_0 ⟨fun _ => ⟨fun _ => rl_same h rfl, fun e => absurd e n1⟩, fun e => absurd e n0⟩, fun e1 => r_Mod_fault_0 ⟨fun _ => ⟨fun n1 => absurd e1 n1, fun _ => rl_same h ho.2.2.1.2.symm⟩, fun e => absurd e n0⟩⟩, fun e0 => r_Mod_fault_0 ⟨fun n => absurd e0 n, fun _ => rl_same h ho.2.2.1.1.symm⟩⟩
theorem s_end {d : Nat} {S : ov_S} {v1 : Int32} (hd : 2 ≤ d) (h : rl_S S) : rl_2 d mq_Eye_end mq_Mod_end [some (.inr (.inr (true, 0, 0))), some (.inl v1)] [some (.inr (.inr (true, 14, 0))), some (.inl v1)] S := by
  unfold rl_2
  obtain ⟨c, m, lb, nz, wc, hw, ho, hi⟩ := id h
  obtain ⟨⟨k, hk, ek, em⟩, o2, o3, o4, o5, o6⟩ := ho
  refine r_Eye_end_0 (by omega) ⟨fun q => r_Mod_end_0 (by omega) ⟨fun _ => ?_, fun n => ?_⟩, fun q => r_Mod_end_0 (by omega) ⟨fun y => ?_, fun _ => rl_same h rfl⟩⟩
  · rw [show ov_g S 9 0 1 = nI k from ek] at q
    obtain ⟨n, hn, rfl⟩ := (zz_le (b := k) (nI_toInt (by omega))).1 q
    refine ⟨_, rfl, rfl, c, m, lb, nz, wc, ?_, ⟨⟨n, by omega, rfl, rfl⟩, o2, o3, o4, o5, o6⟩, rl_i_hi (rl_hi_14 (rl_hi_14 (rl_hi_lo rl_hi_r (by decide) (by decide) (by decide) (by decide)) (by decide)) (by decide)) hi⟩
    unfold rl_w at hw ⊢
    exact hw
  · rw [show ov_g S 9 0 1 = nI k from ek] at q
    exact absurd (by rw [show ov_g (ov_w (ov_w S 9 0 1 v1) 14 0 0 0) 14 0 34 = nI k from em]; exact q) n
  · rw [show ov_g (ov_w S 14 0 0 0) 14 0 34 = nI k from em] at y
    exact absurd (by rw [show ov_g S 9 0 1 = nI k from ek]; exact y) q
theorem s_where {d : Nat} {S : ov_S} {v1 : Int32} {v2 : Int32} (hd : 2 ≤ d) (h : rl_S S) : rl_2 d mq_Eye_where mq_Mod_where [some (.inr (.inr (true, 0, 0))), some (.inl v1), some (.inl v2), none] [some (.inr (.inr (true, 14, 0))), some (.inl v1), some (.inl v2)] S := by
  unfold rl_2
  obtain ⟨c, m, lb, nz, wc, hw, ho, hi⟩ := id h
  refine r_Eye_where_0 hd ⟨fun q => ?_, fun q => r_Eye_where_22 (r_Mod_where_0 (by omega) ⟨fun _ => rl_same h rfl, fun y => absurd ((w_three hw.1.1 hw.1.2.1).2 ((m_three hw.1.1 hw.1.2.2).1 y)) q⟩)⟩
  obtain ⟨t, ht, rfl⟩ := (w_three hw.1.1 hw.1.2.1).1 q
  have hc := hw.1.1
  rw [zz_ix (by omega)]
  refine ⟨ho.2.2.2.1 t (by omega), r_Mod_where_0 (by omega) ⟨fun n => absurd ((m_three hw.1.1 hw.1.2.2).2 ⟨t, ht, rfl⟩) n, fun _ => ⟨fun n => rl_same h ?_, fun y => ?_⟩⟩⟩
  · unfold ov_plc
    rw [if_neg (fun p => n ((zz_lt (b := 3) rfl).2 (by obtain ⟨k, hk, e⟩ := (zz_le (b := 2) rfl).1 p; exact ⟨k, by omega, e⟩)))]
  · obtain ⟨x, hx, rfl⟩ := (zz_lt (b := 3) rfl).1 y
    rw [zz_3, zz_ix (by omega)]
    refine ⟨zz_ib (by omega) (by decide), rl_same h ?_⟩
    unfold ov_plc
    rw [if_pos ((zz_le (b := 2) rfl).2 ⟨x, by omega, rfl⟩), zz_ix (by omega), Nat.mul_zero, Nat.zero_add]
    exact ((hw.2.2.2.2.2.2.2.2.2.1 t (by omega) x hx).1).symm
theorem s_knows {d : Nat} {S : ov_S} {v1 : Int32} {v2 : Int32} (hd : 2 ≤ d) (h : rl_S S) : rl_2 d mq_Eye_knows mq_Mod_knows [some (.inr (.inr (true, 0, 0))), some (.inl v1), some (.inl v2), none] [some (.inr (.inr (true, 14, 0))), some (.inl v1), some (.inl v2)] S := by
  unfold rl_2
  obtain ⟨c, m, lb, nz, wc, hw, ho, hi⟩ := id h
  refine r_Eye_knows_0 hd ⟨fun q => ?_, fun q => r_Eye_knows_22 (r_Mod_knows_0 (by omega) ⟨fun _ => rl_same h rfl, fun y => absurd ((w_pers hw.1.1 hw.1.2.1).2 ((m_pers hw.1.1 hw.1.2.2).1 y)) q⟩)⟩
  obtain ⟨t, ht, rfl⟩ := (w_pers hw.1.1 hw.1.2.1).1 q
  have hc := hw.1.1
  rw [zz_ix (by omega)]
  refine ⟨ho.2.2.2.2.1 t (by omega), r_Mod_knows_0 (by omega) ⟨fun n => absurd ((m_pers hw.1.1 hw.1.2.2).2 ⟨t, ht, rfl⟩) n, fun _ => ⟨fun n => rl_same h ?_, fun y => ?_⟩⟩⟩
  · unfold ov_kno
    rw [if_neg (fun p => n ((zz_lt (b := 10) rfl).2 (by obtain ⟨k, hk, e⟩ := (zz_le (b := 9) rfl).1 p; exact ⟨k, by omega, e⟩)))]
  · obtain ⟨x, hx, rfl⟩ := (zz_lt (b := 10) rfl).1 y
    rw [zz_10, zz_ix (by omega)]
    refine ⟨zz_ib (by omega) (by decide), rl_same h ?_⟩
    unfold ov_kno
    rw [if_pos ((zz_le (b := 9) rfl).2 ⟨x, by omega, rfl⟩), zz_ix (by omega), Nat.mul_zero, Nat.zero_add]
    exact ((hw.2.2.2.2.2.2.2.2.2.2.2.2.2.1 t (by omega) x hx).1).symm
theorem s_held {d : Nat} {S : ov_S} {v1 : Int32} {v2 : Int32} (hd : 2 ≤ d) (h : rl_S S) : rl_2 d mq_Eye_held mq_Mod_held [some (.inr (.inr (true, 0, 0))), some (.inl v1), some (.inl v2), none] [some (.inr (.inr (true, 14, 0))), some (.inl v1), some (.inl v2)] S := by
  unfold rl_2
  obtain ⟨c, m, lb, nz, wc, hw, ho, hi⟩ := id h
  refine r_Eye_held_0 hd ⟨fun q => ?_, fun q => r_Mod_held_0 (by omega) ⟨fun _ => rl_same h rfl, fun y => absurd ((w_pers hw.1.1 hw.1.2.1).2 ((m_pers hw.1.1 hw.1.2.2).1 y)) q⟩⟩
  obtain ⟨t, ht, rfl⟩ := (w_pers hw.1.1 hw.1.2.1).1 q
  have hc := hw.1.1
  rw [zz_ix (by omega)]
  refine ⟨ho.2.2.2.2.1 t (by omega), fun p => ?_, fun n => r_Mod_held_0 (by omega) ⟨fun _ => rl_same h rfl, fun _ => ⟨fun _ => rl_same h rfl, fun y => absurd ((zz_le (b := 2) rfl).2 (by obtain ⟨k, hk, e⟩ := (zz_lt (b := 3) rfl).1 y; exact ⟨k, by omega, e⟩)) n⟩⟩⟩
  obtain ⟨x, hx, rfl⟩ := (zz_le (b := 2) rfl).1 p
  refine ⟨zz_ib (by omega) (by decide), r_Mod_held_0 (by omega) ⟨fun n => absurd ((m_pers hw.1.1 hw.1.2.2).2 ⟨t, ht, rfl⟩) n, fun _ => ⟨fun n => absurd ((zz_lt (b := 3) rfl).2 ⟨x, by omega, rfl⟩) n, fun y => ?_⟩⟩⟩
  rw [zz_3, zz_ix (by omega), zz_ix (by omega), Nat.mul_zero, Nat.zero_add]
  exact ⟨zz_ib (by omega) (by decide), rl_same h ((hw.2.2.2.2.2.2.2.2.2.2.2.2.2.2.2.1 t (by omega) x (by omega))).symm⟩
theorem s_heard {d : Nat} {S : ov_S} {v1 : Int32} (hd : 2 ≤ d) (h : rl_S S) : rl_2 d mq_Eye_heard mq_Mod_heard [some (.inr (.inr (true, 0, 0))), some (.inl v1), none] [some (.inr (.inr (true, 14, 0))), some (.inl v1)] S := by
  unfold rl_2
  obtain ⟨c, m, lb, nz, wc, hw, ho, hi⟩ := id h
  refine r_Eye_heard_0 hd ⟨fun q => ?_, fun q => r_Mod_heard_0 (by omega) ⟨fun _ => rl_same h rfl, fun y => absurd ((w_pers hw.1.1 hw.1.2.1).2 ((m_pers hw.1.1 hw.1.2.2).1 y)) q⟩⟩
  obtain ⟨t, ht, rfl⟩ := (w_pers hw.1.1 hw.1.2.1).1 q
  have hc := hw.1.1
  rw [zz_ix (by omega)]
  refine ⟨ho.2.2.2.2.1 t (by omega), r_Mod_heard_0 (by omega) ⟨fun n => absurd ((m_pers hw.1.1 hw.1.2.2).2 ⟨t, ht, rfl⟩) n, fun _ => ⟨zz_ib (by omega) (by decide), ?_⟩⟩⟩
  rw [zz_ix (by omega), Nat.mul_zero, Nat.zero_add]
  exact rl_same h (hw.2.2.2.2.2.2.2.2.2.2.2.2.2.2.2.2.1 t (by omega)).symm
theorem s_look {d : Nat} {S : ov_S} {v1 : Int32} (hd : 2 ≤ d) (h : rl_S S) : rl_2 d mq_Eye_look mq_Mod_look [some (.inr (.inr (true, 0, 0))), some (.inl v1)] [some (.inr (.inr (true, 14, 0))), some (.inl v1)] S := by
  unfold rl_2
  obtain ⟨c, m, lb, nz, wc, hw, ho, hi⟩ := id h
  obtain ⟨g1, g2, g3, g4, g5, g6, g7, g8, g9, g10, g11, g12, g13, g14, g15, g16, g17, g18, g19, g20, g21, g22, g23, g24, g25, g26⟩ := hw
  refine r_Eye_look_0 (by omega) ⟨fun q => ⟨fun n => r_Mod_look_0 (by omega) (⟨fun _ => ⟨fun _ => ⟨fun _ => ⟨fun _ => ⟨fun _ => ⟨fun _ => ⟨fun _ => ⟨fun _ => rl_same h rfl, fun y => absurd y n⟩, fun e => absurd e (zz_not q (w := 6) rfl (by decide) (by decide))⟩, fun e => absurd e (zz_not q (w := 5) rfl (by decide) (by decide))⟩, fun e => absurd e (zz_not q (w := 4) rfl (by decide) (by decide))⟩, fun e => absurd e (zz_not q (w := 3) rfl (by decide) (by decide))⟩, fun e => absurd e (zz_not q (w := 2) rfl (by decide) (by decide))⟩, fun e => absurd e (zz_not q (w := 1) rfl (by decide) (by decide))⟩, fun e => absurd e (zz_not q (w := 0) rfl (by decide) (by decide))⟩), fun y => ?_⟩, fun e => ?_, fun e => ?_, fun e => ?_, fun e => ?_, fun e => ?_, fun e => ?_, fun e => ?_⟩
  · obtain ⟨k, h1, h2, rfl⟩ := (zz_rng (a := 10) (b := 19) rfl rfl).1 y
    have ek : nI k - 10 = nI (k - 10) := pk_sub (b := 10) h1
    rw [ek, zz_ix (by omega)]
    refine ⟨zz_ib (by omega) (by decide), r_Mod_look_0 (by omega) (⟨fun _ => ⟨fun _ => ⟨fun _ => ⟨fun _ => ⟨fun _ => ⟨fun _ => ⟨fun _ => ⟨fun n => absurd y n, fun _ => ?_⟩, fun e => absurd e (zz_not q (w := 6) rfl (by decide) (by decide))⟩, fun e => absurd e (zz_not q (w := 5) rfl (by decide) (by decide))⟩, fun e => absurd e (zz_not q (w := 4) rfl (by decide) (by decide))⟩, fun e => absurd e (zz_not q (w := 3) rfl (by decide) (by decide))⟩, fun e => absurd e (zz_not q (w := 2) rfl (by decide) (by decide))⟩, fun e => absurd e (zz_not q (w := 1) rfl (by decide) (by decide))⟩, fun e => absurd e (zz_not q (w := 0) rfl (by decide) (by decide))⟩)⟩
    rw [ek, zz_ix (by omega)]
    exact ⟨zz_ib (by omega) (by decide), rl_same h (g7 (k - 10) (by omega)).1.symm⟩
  · obtain rfl := zz_ti e (w := 0) rfl
    exact r_Mod_look_0 (by omega) (⟨fun n => absurd rfl n, fun _ => rl_same h (g1.2.2.trans g1.2.1.symm)⟩)
  · obtain rfl := zz_ti e (w := 1) rfl
    exact r_Mod_look_0 (by omega) (⟨fun _ => ⟨fun n => absurd rfl n, fun _ => rl_same h (g3.2.2.trans g3.2.1.symm)⟩, fun e => absurd e (by decide)⟩)
  · obtain rfl := zz_ti e (w := 2) rfl
    exact r_Mod_look_0 (by omega) (⟨fun _ => ⟨fun _ => ⟨fun n => absurd rfl n, fun _ => rl_same h (g19.2.2.trans g19.2.1.symm)⟩, fun e => absurd e (by decide)⟩, fun e => absurd e (by decide)⟩)
  · obtain rfl := zz_ti e (w := 3) rfl
    exact r_Mod_look_0 (by omega) (⟨fun _ => ⟨fun _ => ⟨fun _ => ⟨fun n => absurd rfl n, fun _ => rl_same h (g24.2.2.trans g24.2.1.symm)⟩, fun e => absurd e (by decide)⟩, fun e => absurd e (by decide)⟩, fun e => absurd e (by decide)⟩)
  · obtain rfl := zz_ti e (w := 4) rfl
    exact r_Mod_look_0 (by omega) (⟨fun _ => ⟨fun _ => ⟨fun _ => ⟨fun _ => ⟨fun n => absurd rfl n, fun _ => rl_same h (g2.symm)⟩, fun e => absurd e (by decide)⟩, fun e => absurd e (by decide)⟩, fun e => absurd e (by decide)⟩, fun e => absurd e (by decide)⟩)
  · obtain rfl := zz_ti e (w := 5) rfl
    exact r_Mod_look_0 (by omega) (⟨fun _ => ⟨fun _ => ⟨fun _ => ⟨fun _ => ⟨fun _ => ⟨fun n => absurd rfl n, fun _ => rl_same h (g4.1.symm)⟩, fun e => absurd e (by decide)⟩, fun e => absurd e (by decide)⟩, fun e => absurd e (by decide)⟩, fun e => absurd e (by decide)⟩, fun e => absurd e (by decide)⟩)
  · obtain rfl := zz_ti e (w := 6) rfl
    exact r_Mod_look_0 (by omega) (⟨fun _ => ⟨fun _ => ⟨fun _ => ⟨fun _ => ⟨fun _ => ⟨fun _ => ⟨fun n => absurd rfl n, fun _ => rl_same h (g5.2.2.trans g5.2.1.symm)⟩, fun e => absurd e (by decide)⟩, fun e => absurd e (by decide)⟩, fun e => absurd e (by decide)⟩, fun e => absurd e (by decide)⟩, fun e => absurd e (by decide)⟩, fun e => absurd e (by decide)⟩)
theorem s_of {d : Nat} {S : ov_S} {v1 : Int32} {v2 : Int32} (hd : 2 ≤ d) (h : rl_S S) : rl_2 d mq_Eye_of mq_Mod_of [some (.inr (.inr (true, 0, 0))), some (.inl v1), some (.inl v2), none] [some (.inr (.inr (true, 14, 0))), some (.inl v1), some (.inl v2)] S := by
  unfold rl_2
  obtain ⟨c, m, lb, nz, wc, hw, ho, hi⟩ := id h
  obtain ⟨g1, g2, g3, g4, g5, g6, g7, g8, g9, g10, g11, g12, g13, g14, g15, g16, g17, g18, g19, g20, g21, g22, g23, g24, g25, g26⟩ := hw
  refine r_Eye_of_0 hd ⟨fun q => ?_, fun q => r_Eye_of_22 (r_Mod_of_0 (by omega) ⟨fun y => absurd ((w_three g1.1 g1.2.1).2 ((m_three g1.1 g1.2.2).1 y)) q, fun _ => rl_same h rfl⟩)⟩
  obtain ⟨t, ht, rfl⟩ := (w_three g1.1 g1.2.1).1 q
  have hc := g1.1
  have ht4 : t < 4 := by omega
  have hm := (m_three g1.1 g1.2.2).2 ⟨t, ht, rfl⟩
  obtain ⟨pn, pk, _, _, e8, e86, _, _⟩ := g13 t ht4
  have ib : ov_ib (nI t) 4 := zz_ib ht4 (by decide)
  rw [zz_ix (by omega), Nat.mul_zero, Nat.zero_add]
  refine ⟨ho.2.2.2.1 t (by omega), r_Three_tell_0 ⟨fun q => r_Eye_of_22 (r_Mod_of_0 (by omega) ⟨fun _ => ⟨fun _ => ⟨fun _ => ⟨fun _ => ⟨fun _ => ⟨fun _ => ⟨fun _ => ⟨fun _ => ⟨fun _ => rl_same h rfl, fun e => absurd e (zz_not q (w := 7) rfl (by decide) (by decide))⟩, fun e => absurd e (zz_not q (w := 6) rfl (by decide) (by decide))⟩, fun e => absurd e (zz_not q (w := 5) rfl (by decide) (by decide))⟩, fun e => absurd e (zz_not q (w := 4) rfl (by decide) (by decide))⟩, fun e => absurd e (zz_not q (w := 3) rfl (by decide) (by decide))⟩, fun e => absurd e (zz_not q (w := 2) rfl (by decide) (by decide))⟩, fun e => absurd e (zz_not q (w := 1) rfl (by decide) (by decide))⟩, fun e => absurd e (zz_not q (w := 0) rfl (by decide) (by decide))⟩, fun n => absurd hm n⟩), fun e => ?_, fun e => ?_, fun e => ?_, fun e => ?_, fun e => ?_, fun e => ?_, fun e => ?_, fun e => ?_⟩⟩
  · obtain rfl := zz_ti e (w := 0) rfl
    refine r_Eye_of_22 (r_Mod_of_0 (by omega) ⟨fun _ => ⟨fun n => absurd rfl n, fun _ => ⟨ib, ?_⟩⟩, fun n => absurd hm n⟩)
    rw [zz_ix (by omega)]
    exact rl_same h ((g8 t ht4).1.symm)
  · obtain rfl := zz_ti e (w := 1) rfl
    refine r_Eye_of_22 (r_Mod_of_0 (by omega) ⟨fun _ => ⟨fun _ => ⟨fun n => absurd rfl n, fun _ => ⟨ib, ?_⟩⟩, fun e => absurd e (by decide)⟩, fun n => absurd hm n⟩)
    rw [zz_ix (by omega)]
    exact rl_same h ((g8 t ht4).2.1.symm)
  · obtain rfl := zz_ti e (w := 2) rfl
    refine r_Eye_of_22 (r_Mod_of_0 (by omega) ⟨fun _ => ⟨fun _ => ⟨fun _ => ⟨fun n => absurd rfl n, fun _ => ⟨ib, ?_⟩⟩, fun e => absurd e (by decide)⟩, fun e => absurd e (by decide)⟩, fun n => absurd hm n⟩)
    rw [zz_ix (by omega)]
    exact rl_same h ((g9 t ht4).1.symm)
  · obtain rfl := zz_ti e (w := 3) rfl
    refine r_Eye_of_22 (r_Mod_of_0 (by omega) ⟨fun _ => ⟨fun _ => ⟨fun _ => ⟨fun _ => ⟨fun n => absurd rfl n, fun _ => ⟨ib, ?_⟩⟩, fun e => absurd e (by decide)⟩, fun e => absurd e (by decide)⟩, fun e => absurd e (by decide)⟩, fun n => absurd hm n⟩)
    rw [zz_ix (by omega)]
    exact rl_same h ((g9 t ht4).2.1.symm)
  · obtain rfl := zz_ti e (w := 4) rfl
    refine r_Eye_of_22 (r_Mod_of_0 (by omega) ⟨fun _ => ⟨fun _ => ⟨fun _ => ⟨fun _ => ⟨fun _ => ⟨fun n => absurd rfl n, fun _ => ⟨ib, ?_⟩⟩, fun e => absurd e (by decide)⟩, fun e => absurd e (by decide)⟩, fun e => absurd e (by decide)⟩, fun e => absurd e (by decide)⟩, fun n => absurd hm n⟩)
    rw [zz_ix (by omega)]
    exact rl_same h (e86.trans e8.symm)
  · obtain rfl := zz_ti e (w := 5) rfl
    refine r_Eye_of_22 (r_Mod_of_0 (by omega) ⟨fun _ => ⟨fun _ => ⟨fun _ => ⟨fun _ => ⟨fun _ => ⟨fun _ => ⟨fun n => absurd rfl n, fun _ => ⟨ib, ?_⟩⟩, fun e => absurd e (by decide)⟩, fun e => absurd e (by decide)⟩, fun e => absurd e (by decide)⟩, fun e => absurd e (by decide)⟩, fun e => absurd e (by decide)⟩, fun n => absurd hm n⟩)
    rw [zz_ix (by omega)]
    exact rl_same h ((g11 t ht4).1.symm)
  · obtain rfl := zz_ti e (w := 6) rfl
    refine r_Eye_of_22 (r_Mod_of_0 (by omega) ⟨fun _ => ⟨fun _ => ⟨fun _ => ⟨fun _ => ⟨fun _ => ⟨fun _ => ⟨fun _ => ⟨fun n => absurd rfl n, fun _ => ⟨ib, ?_⟩⟩, fun e => absurd e (by decide)⟩, fun e => absurd e (by decide)⟩, fun e => absurd e (by decide)⟩, fun e => absurd e (by decide)⟩, fun e => absurd e (by decide)⟩, fun e => absurd e (by decide)⟩, fun n => absurd hm n⟩)
    rw [zz_ix (by omega)]
    exact rl_same h ((g11 t ht4).2.1.symm)
  · obtain rfl := zz_ti e (w := 7) rfl
    refine r_Eye_of_22 (r_Mod_of_0 (by omega) ⟨fun _ => ⟨fun _ => ⟨fun _ => ⟨fun _ => ⟨fun _ => ⟨fun _ => ⟨fun _ => ⟨fun _ => ⟨fun n => absurd rfl n, fun _ => ⟨ib, ?_⟩⟩, fun e => absurd e (by decide)⟩, fun e => absurd e (by decide)⟩, fun e => absurd e (by decide)⟩, fun e => absurd e (by decide)⟩, fun e => absurd e (by decide)⟩, fun e => absurd e (by decide)⟩, fun e => absurd e (by decide)⟩, fun n => absurd hm n⟩)
    rw [zz_ix (by omega)]
    exact rl_same h ((g9 t ht4).2.2.symm)
theorem s_book {d : Nat} {S : ov_S} {v1 : Int32} {v2 : Int32} (hd : 2 ≤ d) (h : rl_S S) : rl_2 d mq_Eye_book mq_Mod_book [some (.inr (.inr (true, 0, 0))), some (.inl v1), some (.inl v2)] [some (.inr (.inr (true, 14, 0))), some (.inl v1), some (.inl v2)] S := by
  unfold rl_2
  obtain ⟨c, m, lb, nz, wc, hw, ho, hi⟩ := id h
  obtain ⟨g1, g2, g3, g4, g5, g6, g7, g8, g9, g10, g11, g12, g13, g14, g15, g16, g17, g18, g19, g20, g21, g22, g23, g24, g25, g26⟩ := hw
  obtain ⟨hl, el, em⟩ := g19
  have hE : ∀ v : Int32, (0 ≤ v ∧ v ≤ ov_g S 4 0 5 - 1) ↔ ∃ i : Nat, i < lb ∧ v = nI i := fun v => by
    rw [show ov_g S 4 0 5 = nI lb from el]
    have e0 : (0 : Int32).toInt = 0 := rfl
    have e1 : (nI lb - 1).toInt = (lb : Int) - 1 := pk_sub_toInt (b := 1) (by omega) (by decide)
    constructor
    · rintro ⟨h1, h2⟩
      have h1 := Int32.le_iff_toInt_le.mp h1
      have h2 := Int32.le_iff_toInt_le.mp h2
      exact ⟨v.toInt.toNat, by omega, zz_of (by omega)⟩
    · rintro ⟨k, hk, rfl⟩
      have := nI_toInt (n := k) (by omega)
      exact ⟨Int32.le_iff_toInt_le.mpr (by omega), Int32.le_iff_toInt_le.mpr (by omega)⟩
  have hM : ov_g (ov_w S 14 0 0 0) 14 0 22 = ov_g S 4 0 5 := em.trans el.symm
  refine r_Eye_book_0 (by omega) (r_Book_tell_0 (by omega) ⟨fun n => r_Eye_book_12 (r_Mod_book_0 (by omega) ⟨fun y => absurd (by rw [hM] at y; exact y) n, fun _ => rl_same h rfl⟩), fun y => ⟨fun _ => ?_, fun n => ?_⟩⟩)
  · obtain ⟨i, hi2, rfl⟩ := (hE _).1 y
    have hm : 0 ≤ nI i ∧ nI i ≤ ov_g (ov_w S 14 0 0 0) 14 0 22 - 1 := by rw [hM]; exact y
    have ib : ov_ib (nI i) 99 := zz_ib (by omega) (by decide)
    have hx := g20 i (by omega)
    refine ⟨fun q => r_Eye_book_12 (r_Mod_book_0 (by omega) ⟨fun _ => ⟨fun _ => ⟨fun _ => ⟨fun _ => ⟨fun _ => ⟨fun _ => rl_same h rfl, fun e => absurd e (zz_not q (w := 4) rfl (by decide) (by decide))⟩, fun e => absurd e (zz_not q (w := 3) rfl (by decide) (by decide))⟩, fun e => absurd e (zz_not q (w := 2) rfl (by decide) (by decide))⟩, fun e => absurd e (zz_not q (w := 1) rfl (by decide) (by decide))⟩, fun e => absurd e (zz_not q (w := 0) rfl (by decide) (by decide))⟩, fun n => absurd hm n⟩), fun e => ⟨ib, ?_⟩, fun e => ⟨ib, ?_⟩, fun e => ⟨ib, ?_⟩, fun e => ⟨ib, ?_⟩, fun e => ⟨ib, ?_⟩⟩
    · obtain rfl := zz_ti e (w := 0) rfl
      refine r_Eye_book_12 (r_Mod_book_0 (by omega) ⟨fun _ => ⟨fun n => absurd rfl n, fun _ => ⟨ib, ?_⟩⟩, fun n => absurd hm n⟩)
      rw [zz_ix (by omega)]
      exact rl_same h (hx.1.symm)
    · obtain rfl := zz_ti e (w := 1) rfl
      refine r_Eye_book_12 (r_Mod_book_0 (by omega) ⟨fun _ => ⟨fun _ => ⟨fun n => absurd rfl n, fun _ => ⟨ib, ?_⟩⟩, fun e => absurd e (by decide)⟩, fun n => absurd hm n⟩)
      rw [zz_ix (by omega)]
      exact rl_same h (hx.2.1.symm)
    · obtain rfl := zz_ti e (w := 2) rfl
      refine r_Eye_book_12 (r_Mod_book_0 (by omega) ⟨fun _ => ⟨fun _ => ⟨fun _ => ⟨fun n => absurd rfl n, fun _ => ⟨ib, ?_⟩⟩, fun e => absurd e (by decide)⟩, fun e => absurd e (by decide)⟩, fun n => absurd hm n⟩)
      rw [zz_ix (by omega)]
      exact rl_same h (hx.2.2.1.symm)
    · obtain rfl := zz_ti e (w := 3) rfl
      refine r_Eye_book_12 (r_Mod_book_0 (by omega) ⟨fun _ => ⟨fun _ => ⟨fun _ => ⟨fun _ => ⟨fun n => absurd rfl n, fun _ => ⟨ib, ?_⟩⟩, fun e => absurd e (by decide)⟩, fun e => absurd e (by decide)⟩, fun e => absurd e (by decide)⟩, fun n => absurd hm n⟩)
      rw [zz_ix (by omega)]
      exact rl_same h (hx.2.2.2.1.symm)
    · obtain rfl := zz_ti e (w := 4) rfl
      refine r_Eye_book_12 (r_Mod_book_0 (by omega) ⟨fun _ => ⟨fun _ => ⟨fun _ => ⟨fun _ => ⟨fun _ => ⟨fun n => absurd rfl n, fun _ => ⟨ib, ?_⟩⟩, fun e => absurd e (by decide)⟩, fun e => absurd e (by decide)⟩, fun e => absurd e (by decide)⟩, fun e => absurd e (by decide)⟩, fun n => absurd hm n⟩)
      rw [zz_ix (by omega)]
      exact rl_same h (hx.2.2.2.2.symm)
  · obtain ⟨i, hi2, rfl⟩ := (hE _).1 y
    exact absurd (nI_lt (b := 99) (by omega) (by decide)) n
theorem s_origin {d : Nat} {S : ov_S} {v1 : Int32} {v2 : Int32} {v3 : Int32} (hd : 2 ≤ d) (h : rl_S S) : rl_2 d mq_Eye_origin mq_Mod_origin [some (.inr (.inr (true, 0, 0))), some (.inl v1), some (.inl v2), some (.inl v3), none] [some (.inr (.inr (true, 14, 0))), some (.inl v1), some (.inl v2), some (.inl v3), none] S := by
  unfold rl_2
  obtain ⟨c, m, lb, nz, wc, hw, ho, hi⟩ := id h
  obtain ⟨g1, g2, g3, g4, g5, g6, g7, g8, g9, g10, g11, g12, g13, g14, g15, g16, g17, g18, g19, g20, g21, g22, g23, g24, g25, g26⟩ := hw
  have hc := g1.1
  refine r_Eye_origin_0 hd ⟨fun q => ?_, fun q => r_Eye_origin_26 (r_Mod_origin_0 (by omega) ⟨fun _ => rl_same h rfl, fun y => absurd ((w_pers g1.1 g1.2.1).2 ((m_pers g1.1 g1.2.2).1 y)) q⟩)⟩
  obtain ⟨t, ht, rfl⟩ := (w_pers g1.1 g1.2.1).1 q
  have hm := (m_pers g1.1 g1.2.2).2 ⟨t, ht, rfl⟩
  rw [zz_ix (by omega), Nat.mul_zero, Nat.zero_add]
  refine ⟨ho.2.2.2.2.1 t (by omega), r_Person_originOf_0 (by omega) ⟨fun n => r_Eye_origin_26 (r_Mod_origin_0 (by omega) ⟨fun _ => rl_same h rfl, fun _ => ⟨fun _ => rl_same h rfl, fun y => absurd ((zz_le (b := 9) rfl).2 (by obtain ⟨k, hk, e⟩ := (zz_lt (b := 10) rfl).1 y; exact ⟨k, by omega, e⟩)) n⟩⟩), fun y => ?_⟩⟩
  obtain ⟨x, hx, rfl⟩ := (zz_le (b := 9) rfl).1 y
  have hx10 : x < 10 := by omega
  have hf : 0 ≤ nI x ∧ nI x < 10 := (zz_lt (b := 10) rfl).2 ⟨x, hx10, rfl⟩
  have ib : ov_ib (nI x) 10 := zz_ib (by omega) (by decide)
  have eix : 10 * nI t + nI x = nI (10 * t + x) := zz_10 t x
  have ib2 : ov_ib (10 * nI t + nI x) 120 := by rw [eix]; exact zz_ib (by omega) (by decide)
  have eM : ov_ix (10 * nI t + nI x) = 10 * t + x := by rw [eix]; exact zz_ix (by omega)
  have hk := g14 t (by omega) x hx10
  have ho2 := g15 t (by omega) x hx10
  have e0 : ov_g S 35 t (ov_ix (nI x)) = ov_g (ov_w S 14 0 0 0) 64 0 (ov_ix (10 * nI t + nI x)) := by rw [eM, zz_ix (by omega)]; exact hk.1
  refine ⟨ib, fun nk => ⟨fun q => r_Eye_origin_26 (r_Mod_origin_0 (by omega) ⟨fun n => absurd hm n, fun _ => ⟨fun n => absurd hf n, fun _ => ⟨ib2, fun _ => ⟨fun _ => ⟨fun _ => ⟨fun _ => ⟨fun _ => rl_same h rfl, fun e => absurd e (zz_not q (w := 3) rfl (by decide) (by decide))⟩, fun e => absurd e (zz_not q (w := 2) rfl (by decide) (by decide))⟩, fun e => absurd e (zz_not q (w := 1) rfl (by decide) (by decide))⟩, fun e => absurd e (zz_not q (w := 0) rfl (by decide) (by decide))⟩, fun e => absurd (e0.trans e) nk⟩⟩⟩), fun e => ⟨ib, ?_⟩, fun e => ⟨ib, ?_⟩, fun e => ⟨ib, ?_⟩, fun e => ⟨ib, ?_⟩⟩, fun e => r_Eye_origin_26 (r_Mod_origin_0 (by omega) ⟨fun n => absurd hm n, fun _ => ⟨fun n => absurd hf n, fun _ => ⟨ib2, fun n => absurd (e0.symm.trans e) n, fun _ => rl_same h rfl⟩⟩⟩)⟩
  · obtain rfl := zz_ti e (w := 0) rfl
    refine r_Eye_origin_26 (r_Mod_origin_0 (by omega) ⟨fun n => absurd hm n, fun _ => ⟨fun n => absurd hf n, fun _ => ⟨ib2, fun _ => ⟨fun n => absurd rfl n, fun _ => ⟨ib2, ?_⟩⟩, fun e => absurd (e0.trans e) nk⟩⟩⟩)
    rw [eM, zz_ix (by omega)]
    exact rl_same h (ho2.1.symm)
  · obtain rfl := zz_ti e (w := 1) rfl
    refine r_Eye_origin_26 (r_Mod_origin_0 (by omega) ⟨fun n => absurd hm n, fun _ => ⟨fun n => absurd hf n, fun _ => ⟨ib2, fun _ => ⟨fun _ => ⟨fun n => absurd rfl n, fun _ => ⟨ib2, ?_⟩⟩, fun e => absurd e (by decide)⟩, fun e => absurd (e0.trans e) nk⟩⟩⟩)
    rw [eM, zz_ix (by omega)]
    exact rl_same h (ho2.2.1.symm)
  · obtain rfl := zz_ti e (w := 2) rfl
    refine r_Eye_origin_26 (r_Mod_origin_0 (by omega) ⟨fun n => absurd hm n, fun _ => ⟨fun n => absurd hf n, fun _ => ⟨ib2, fun _ => ⟨fun _ => ⟨fun _ => ⟨fun n => absurd rfl n, fun _ => ⟨ib2, ?_⟩⟩, fun e => absurd e (by decide)⟩, fun e => absurd e (by decide)⟩, fun e => absurd (e0.trans e) nk⟩⟩⟩)
    rw [eM, zz_ix (by omega)]
    exact rl_same h (ho2.2.2.1.symm)
  · obtain rfl := zz_ti e (w := 3) rfl
    refine r_Eye_origin_26 (r_Mod_origin_0 (by omega) ⟨fun n => absurd hm n, fun _ => ⟨fun n => absurd hf n, fun _ => ⟨ib2, fun _ => ⟨fun _ => ⟨fun _ => ⟨fun _ => ⟨fun n => absurd rfl n, fun _ => ⟨ib2, ?_⟩⟩, fun e => absurd e (by decide)⟩, fun e => absurd e (by decide)⟩, fun e => absurd e (by decide)⟩, fun e => absurd (e0.trans e) nk⟩⟩⟩)
    rw [eM, zz_ix (by omega)]
    exact rl_same h (ho2.2.2.2.symm)
