section OVH
variable {l : Launch} {D : va_G} {cA : Nat → ClassId} {z bS tS aS L : Nat} {xs : Nat → Int32} {ZS : State → Prop}
variable {p : Program} {e : Env} {R : Room} {s : State} {m : MethodId} {args : Array Value} {below : List Frame} {meth : Method} {c : Code} {H : Heap} {locs : List Loc} {cells slots : Nat} {Qp : State → Prop}
variable {cc : ByteArray} {pc y1 : Nat} {lsA : Array Slot} {rest : List Value} {ad : Nat → Nat → Nat} {S : ov_S}
/-- a cell that is an array, as the kit has it -/
theorem ov_arr_ws {r i t n q : Nat} {g : Nat → Nat → Nat} (hlv : (r, i) ∈ S.2.2.1) (hsh : ov_sh r = .inr (t, n, q, g)) {w : (Nat → Int32) ⊕ (Nat → Int64) ⊕ (Nat → UInt32) ⊕ (Nat → UInt64) ⊕ (Nat → Option Nat)} (hw : (if t ≤ 1 then .inl (S.1 r i) else if t = 2 then .inr (.inl (S.2.1 r i)) else .inr (.inr (.inr (.inr (fun j => if j < n then (if S.1 r i j = 0 then none else some (ad q (g i j))) else none))))) = w) : ∃ q0 : Nat, S.2.2.1[q0]? = some (r, i) ∧ (ov_ws cA ad S)[q0]? = some (ad r i, .inl (cA t, n, w)) := by
  obtain ⟨q0, hq, h⟩ := ov_at_ws (cA := cA) (ad := ad) hlv
  rw [ov_ce_arr hsh, hw] at h
  exact ⟨q0, hq, h⟩
theorem ov_s_iald (hx : p.tables.exec = Jvm.exec) (hb : c.code = cc) (hK : va_K D vwCl (ov_tys cA) s) (hR : ov_rep D cA z bS tS aS L xs ad S H) {r i n q : Nat} {g : Nat → Nat → Nat} {x : Int32} (hlv : (r, i) ∈ S.2.2.1) (hsh : ov_sh r = .inr (0, n, q, g)) (hin : ov_ib x n) (hdg : decode cc pc = .ok (.iaload, 1))
    (kk : W p l e R s m args below meth c H locs cells slots Qp (F0 m (pc + 1) lsA (.int (S.1 r i (ov_ix x)) :: rest))) : W p l e R s m args below meth c H locs cells slots Qp (F0 m pc lsA (.int x :: .ref (ad r i) :: rest)) := by
  obtain ⟨q0, hq, hw⟩ := ov_arr_ws (cA := cA) (ad := ad) (w := .inl (S.1 r i)) hlv hsh rfl
  exact va_iald hx hb hK hR.1 q0 0 hw rfl (ov_ib_in hin) hdg kk
theorem ov_s_cald (hx : p.tables.exec = Jvm.exec) (hb : c.code = cc) (hK : va_K D vwCl (ov_tys cA) s) (hR : ov_rep D cA z bS tS aS L xs ad S H) {r i n q : Nat} {g : Nat → Nat → Nat} {x : Int32} (hlv : (r, i) ∈ S.2.2.1) (hsh : ov_sh r = .inr (1, n, q, g)) (hin : ov_ib x n) (hdg : decode cc pc = .ok (.caload, 1))
    (kk : W p l e R s m args below meth c H locs cells slots Qp (F0 m (pc + 1) lsA (.int (S.1 r i (ov_ix x)) :: rest))) : W p l e R s m args below meth c H locs cells slots Qp (F0 m pc lsA (.int x :: .ref (ad r i) :: rest)) := by
  obtain ⟨q0, hq, hw⟩ := ov_arr_ws (cA := cA) (ad := ad) (w := .inl (S.1 r i)) hlv hsh rfl
  exact va_cald hx hb hK hR.1 q0 1 hw rfl (ov_ib_in hin) hdg kk
theorem ov_s_lald (hx : p.tables.exec = Jvm.exec) (hb : c.code = cc) (hK : va_K D vwCl (ov_tys cA) s) (hR : ov_rep D cA z bS tS aS L xs ad S H) {r i n q : Nat} {g : Nat → Nat → Nat} {x : Int32} (hlv : (r, i) ∈ S.2.2.1) (hsh : ov_sh r = .inr (2, n, q, g)) (hin : ov_ib x n) (hdg : decode cc pc = .ok (.laload, 1))
    (kk : W p l e R s m args below meth c H locs cells slots Qp (F0 m (pc + 1) lsA (.long (S.2.1 r i (ov_ix x)) :: rest))) : W p l e R s m args below meth c H locs cells slots Qp (F0 m pc lsA (.int x :: .ref (ad r i) :: rest)) := by
  obtain ⟨q0, hq, hw⟩ := ov_arr_ws (cA := cA) (ad := ad) (w := .inr (.inl (S.2.1 r i))) hlv hsh rfl
  exact va_lald hx hb hK hR.1 q0 2 hw rfl (ov_ib_in hin) hdg kk
theorem ov_s_aald (hx : p.tables.exec = Jvm.exec) (hb : c.code = cc) (hK : va_K D vwCl (ov_tys cA) s) (hR : ov_rep D cA z bS tS aS L xs ad S H) {r i t n q : Nat} {g : Nat → Nat → Nat} {x : Int32} (hlv : (r, i) ∈ S.2.2.1) (hsh : ov_sh r = .inr (t, n, q, g)) (ht : t = 3 ∨ t = 4) (hin : ov_ib x n) (hdg : decode cc pc = .ok (.aaload, 1))
    (kk : W p l e R s m args below meth c H locs cells slots Qp (F0 m (pc + 1) lsA (ov_rv ad (.inr (.inr (ov_g S r i (ov_ix x) != 0, q, g i (ov_ix x)))) :: rest))) : W p l e R s m args below meth c H locs cells slots Qp (F0 m pc lsA (.int x :: .ref (ad r i) :: rest)) := by
  have hlt : ov_ix x < n := by
    have h1 := hin.1
    have h2 := hin.2
    show x.toInt.toNat < n
    omega
  have e : va_rf (if ov_ix x < n then (if S.1 r i (ov_ix x) = 0 then none else some (ad q (g i (ov_ix x)))) else none) = ov_rv ad (.inr (.inr (ov_g S r i (ov_ix x) != 0, q, g i (ov_ix x)))) := by
    rw [if_pos hlt]
    by_cases h : S.1 r i (ov_ix x) = 0
    · rw [if_pos h]
      have : (ov_g S r i (ov_ix x) != 0) = false := by simpa [ov_g] using h
      rw [this]
      rfl
    · rw [if_neg h]
      have : (ov_g S r i (ov_ix x) != 0) = true := by simpa [ov_g] using h
      rw [this]
      rfl
  rcases ht with rfl | rfl
  · obtain ⟨q0, hq, hw⟩ := ov_arr_ws (cA := cA) (ad := ad) hlv hsh rfl
    refine va_aldq hx hb hK hR.1 q0 3 (C := "OneEye$Three") hw rfl (ov_ib_in hin) hdg ?_
    rw [e]
    exact kk
  · obtain ⟨q0, hq, hw⟩ := ov_arr_ws (cA := cA) (ad := ad) hlv hsh rfl
    refine va_aldq hx hb hK hR.1 q0 4 (C := "OneEye$Person") hw rfl (ov_ib_in hin) hdg ?_
    rw [e]
    exact kk
theorem ov_wa_s {r i : Nat} {f : Nat → Int32} : (ov_wa S r i f).1 r i = f := by
  show (if r = r ∧ i = i then f else S.1 r i) = f
  simp
theorem ov_w_row {r i j : Nat} {v : Int32} : (ov_w S r i j v).1 r i = upd (S.1 r i) j v := by
  funext k
  rw [ov_w_s]
  rfl
theorem ov_wl_row {r i j : Nat} {v : Int64} : (ov_wl S r i j v).2.1 r i = vp_updL (S.2.1 r i) j v := by
  funext k
  show (if r = r ∧ i = i ∧ k = j then v else S.2.1 r i k) = if k = j then v else S.2.1 r i k
  simp
/-- an array of ints or chars keeps the closure -/
theorem ov_clo_arr {S' : ov_S} {r i t n q : Nat} {g : Nat → Nat → Nat} (h : ov_clo S) (hsh : ov_sh r = .inr (t, n, q, g)) (ht : t ≤ 2) (hl : S'.2.2.1 = S.2.2.1) (ho : ∀ r' i', ¬ (r' = r ∧ i' = i) → ∀ k, S'.1 r' i' k = S.1 r' i' k) : ov_clo S' := by
  refine ov_clo_w (r := r) (i := i) h hl ho ?_ ?_
  · intro c2 f2 k2 fk2 e1
    rw [hsh] at e1
    cases e1
  · intro t2 n2 q2 g2 j e1 e2
    rw [hsh] at e1
    cases e1
    omega
theorem ov_s_iast (hx : p.tables.exec = Jvm.exec) (hb : c.code = cc) (hK : va_K D vwCl (ov_tys cA) s) (hR : ov_rep D cA z bS tS aS L xs ad S H) (hS : va_S (fun q => z ≤ q) s.heap H locs) {r i n q : Nat} {g : Nat → Nat → Nat} {x v : Int32} (hlv : (r, i) ∈ S.2.2.1) (hsh : ov_sh r = .inr (0, n, q, g)) (hin : ov_ib x n) (hdg : decode cc pc = .ok (.iastore, 1))
    (kk : ∀ (H1 : Heap) (locs1 : List Loc), ov_rep D cA z bS tS aS L xs ad (ov_w S r i (ov_ix x) v) H1 → va_S (fun q => z ≤ q) s.heap H1 locs1 → W p l e R s m args below meth c H1 locs1 cells slots Qp (F0 m (pc + 1) lsA rest)) : W p l e R s m args below meth c H locs cells slots Qp (F0 m pc lsA (.int v :: .int x :: .ref (ad r i) :: rest)) := by
  obtain ⟨q0, hq, hw⟩ := ov_arr_ws (cA := cA) (ad := ad) (w := .inl (S.1 r i)) hlv hsh rfl
  refine va_iast hx hb hK hR.1 hR.2.1 hS q0 0 hw rfl (ov_ib_in hin) hdg ?_
  intro H1 locs1 hP1 hD1 hS1
  have e : (.inl (cA 0, n, .inl (upd (S.1 r i) x.toNatClampNeg v)) : va_E) = ov_ce cA ad (ov_w S r i (ov_ix x) v) r i := by
    rw [ov_ce_arr hsh, if_pos (by omega), ov_w_row]
  rw [e] at hP1 hD1
  exact kk H1 locs1 (ov_rep_w hR hq hP1 hD1 rfl (fun r' i' h => ov_w_o h) (ov_clo_arr hR.2.2.1 hsh (by omega) rfl (fun r' i' h => (ov_w_o h).1))) hS1
theorem ov_s_cast (hx : p.tables.exec = Jvm.exec) (hb : c.code = cc) (hK : va_K D vwCl (ov_tys cA) s) (hR : ov_rep D cA z bS tS aS L xs ad S H) (hS : va_S (fun q => z ≤ q) s.heap H locs) {r i n q : Nat} {g : Nat → Nat → Nat} {x v : Int32} (hlv : (r, i) ∈ S.2.2.1) (hsh : ov_sh r = .inr (1, n, q, g)) (hin : ov_ib x n) (hdg : decode cc pc = .ok (.castore, 1))
    (kk : ∀ (H1 : Heap) (locs1 : List Loc), ov_rep D cA z bS tS aS L xs ad (ov_w S r i (ov_ix x) (vp_nar .char v)) H1 → va_S (fun q => z ≤ q) s.heap H1 locs1 → W p l e R s m args below meth c H1 locs1 cells slots Qp (F0 m (pc + 1) lsA rest)) : W p l e R s m args below meth c H locs cells slots Qp (F0 m pc lsA (.int v :: .int x :: .ref (ad r i) :: rest)) := by
  obtain ⟨q0, hq, hw⟩ := ov_arr_ws (cA := cA) (ad := ad) (w := .inl (S.1 r i)) hlv hsh rfl
  refine va_cast hx hb hK hR.1 hR.2.1 hS q0 1 hw rfl (ov_ib_in hin) hdg ?_
  intro H1 locs1 hP1 hD1 hS1
  have e : (.inl (cA 1, n, .inl (upd (S.1 r i) x.toNatClampNeg (vp_nar .char v))) : va_E) = ov_ce cA ad (ov_w S r i (ov_ix x) (vp_nar .char v)) r i := by
    rw [ov_ce_arr hsh, if_pos (by omega), ov_w_row]
  rw [e] at hP1 hD1
  exact kk H1 locs1 (ov_rep_w hR hq hP1 hD1 rfl (fun r' i' h => ov_w_o h) (ov_clo_arr hR.2.2.1 hsh (by omega) rfl (fun r' i' h => (ov_w_o h).1))) hS1
theorem ov_s_last (hx : p.tables.exec = Jvm.exec) (hb : c.code = cc) (hK : va_K D vwCl (ov_tys cA) s) (hR : ov_rep D cA z bS tS aS L xs ad S H) (hS : va_S (fun q => z ≤ q) s.heap H locs) {r i n q : Nat} {g : Nat → Nat → Nat} {x : Int32} {v : Int64} (hlv : (r, i) ∈ S.2.2.1) (hsh : ov_sh r = .inr (2, n, q, g)) (hin : ov_ib x n) (hdg : decode cc pc = .ok (.lastore, 1))
    (kk : ∀ (H1 : Heap) (locs1 : List Loc), ov_rep D cA z bS tS aS L xs ad (ov_wl S r i (ov_ix x) v) H1 → va_S (fun q => z ≤ q) s.heap H1 locs1 → W p l e R s m args below meth c H1 locs1 cells slots Qp (F0 m (pc + 1) lsA rest)) : W p l e R s m args below meth c H locs cells slots Qp (F0 m pc lsA (.long v :: .int x :: .ref (ad r i) :: rest)) := by
  obtain ⟨q0, hq, hw⟩ := ov_arr_ws (cA := cA) (ad := ad) (w := .inr (.inl (S.2.1 r i))) hlv hsh rfl
  refine va_last hx hb hK hR.1 hR.2.1 hS q0 2 hw rfl (ov_ib_in hin) hdg ?_
  intro H1 locs1 hP1 hD1 hS1
  have e : (.inl (cA 2, n, .inr (.inl (vp_updL (S.2.1 r i) x.toNatClampNeg v))) : va_E) = ov_ce cA ad (ov_wl S r i (ov_ix x) v) r i := by
    rw [ov_ce_arr hsh, if_neg (by omega), if_pos rfl, ov_wl_row]
  rw [e] at hP1 hD1
  exact kk H1 locs1 (ov_rep_w hR hq hP1 hD1 rfl (fun r' i' h => ov_wl_o h) (ov_clo_arr hR.2.2.1 hsh (by omega) rfl (fun r' i' h => (ov_wl_o h).1))) hS1
theorem ov_s_aast (hx : p.tables.exec = Jvm.exec) (hb : c.code = cc) (hK : va_K D vwCl (ov_tys cA) s) (hR : ov_rep D cA z bS tS aS L xs ad S H) (hS : va_S (fun q => z ≤ q) s.heap H locs) {r i t n q : Nat} {g : Nat → Nat → Nat} {x : Int32} (hlv : (r, i) ∈ S.2.2.1) (hsh : ov_sh r = .inr (t, n, q, g)) (ht : t = 3 ∨ t = 4) (hin : ov_ib x n) (hlv2 : (q, g i (ov_ix x)) ∈ S.2.2.1) (hdg : decode cc pc = .ok (.aastore, 1))
    (kk : ∀ (H1 : Heap) (locs1 : List Loc), ov_rep D cA z bS tS aS L xs ad (ov_w S r i (ov_ix x) 1) H1 → va_S (fun q => z ≤ q) s.heap H1 locs1 → W p l e R s m args below meth c H1 locs1 cells slots Qp (F0 m (pc + 1) lsA rest)) : W p l e R s m args below meth c H locs cells slots Qp (F0 m pc lsA (.ref (ad q (g i (ov_ix x))) :: .int x :: .ref (ad r i) :: rest)) := by
  have hlt : ov_ix x < n := by
    have h1 := hin.1
    have h2 := hin.2
    show x.toInt.toNat < n
    omega
  have hcl' : ov_clo (ov_w S r i (ov_ix x) 1) := by
    refine ov_clo_w (r := r) (i := i) hR.2.2.1 rfl (fun r' i' h => (ov_w_o h).1) ?_ ?_
    · intro c2 f2 k2 fk2 e1
      rw [hsh] at e1
      cases e1
    · intro t2 n2 q2 g2 j e1 e2 e3 e4
      rw [hsh] at e1
      cases e1
      rw [ov_w_s] at e4
      by_cases e5 : j = ov_ix x
      · subst e5
        exact hlv2
      · rw [if_neg e5] at e4
        exact (hR.2.2.1 r i hlv).2.1 _ _ _ _ j hsh e2 e3 e4
  have key : va_up (fun j => if j < n then (if S.1 r i j = 0 then none else some (ad q (g i j))) else none) x.toNatClampNeg (some (ad q (g i (ov_ix x)))) = fun j => if j < n then (if (ov_w S r i (ov_ix x) 1).1 r i j = 0 then none else some (ad q (g i j))) else none := by
    funext j
    show (if j = x.toNatClampNeg then _ else _) = _
    rw [ov_w_s]
    by_cases e5 : j = ov_ix x
    · subst e5
      rw [if_pos rfl, if_pos hlt, if_pos rfl, if_neg (by decide)]
    · rw [if_neg e5, if_neg e5]
  rcases ht with rfl | rfl
  · obtain ⟨q0, hq, hw⟩ := ov_arr_ws (cA := cA) (ad := ad) hlv hsh rfl
    obtain ⟨fks, hs8⟩ := (ov_arr hsh).2.1 rfl
    obtain ⟨qk, -, hwk⟩ := ov_at_ws (cA := cA) (ad := ad) hlv2
    rw [ov_ce_obj hs8] at hwk
    refine va_astq hx hb hK hR.1 hR.2.1 hS q0 3 qk 8 (r := (RX8, TX8, 12)) hw rfl hwk rfl (ov_ib_in hin) hdg ?_
    intro H1 locs1 hP1 hD1 hS1
    have e : (.inl (cA 3, n, .inr (.inr (.inr (.inr (va_up (fun j => if j < n then (if S.1 r i j = 0 then none else some (ad q (g i j))) else none) x.toNatClampNeg (some (ad q (g i (ov_ix x))))))))) : va_E) = ov_ce cA ad (ov_w S r i (ov_ix x) 1) r i := by
      rw [ov_ce_arr hsh, if_neg (by omega), if_neg (by omega), key]
    rw [e] at hP1 hD1
    exact kk H1 locs1 (ov_rep_w hR hq hP1 hD1 rfl (fun r' i' h => ov_w_o h) hcl') hS1
  · obtain ⟨q0, hq, hw⟩ := ov_arr_ws (cA := cA) (ad := ad) hlv hsh rfl
    obtain ⟨fks, hs8⟩ := (ov_arr hsh).2.2 rfl
    obtain ⟨qk, -, hwk⟩ := ov_at_ws (cA := cA) (ad := ad) hlv2
    rw [ov_ce_obj hs8] at hwk
    refine va_astq hx hb hK hR.1 hR.2.1 hS q0 4 qk 3 (r := (RX3, TX3, 8)) hw rfl hwk rfl (ov_ib_in hin) hdg ?_
    intro H1 locs1 hP1 hD1 hS1
    have e : (.inl (cA 4, n, .inr (.inr (.inr (.inr (va_up (fun j => if j < n then (if S.1 r i j = 0 then none else some (ad q (g i j))) else none) x.toNatClampNeg (some (ad q (g i (ov_ix x))))))))) : va_E) = ov_ce cA ad (ov_w S r i (ov_ix x) 1) r i := by
      rw [ov_ce_arr hsh, if_neg (by omega), if_neg (by omega), key]
    rw [e] at hP1 hD1
    exact kk H1 locs1 (ov_rep_w hR hq hP1 hD1 rfl (fun r' i' h => ov_w_o h) hcl') hS1
theorem ov_s_copy (hx : p.tables.exec = Jvm.exec) (hb : c.code = cc) (hml : c.maxLocals = lsA.size) (hts : ∀ w ∈ ov_T, w.before args s = true) (hown : s.vm.findClass (ov_cn y1) = some m.cls) (hK : va_K D vwCl (ov_tys cA) s) (hR : ov_rep D cA z bS tS aS L xs ad S H) (hS : va_S (fun q => z ≤ q) s.heap H locs) {r i r1 i1 n0 n1 q q1 idx : Nat} {g g1 : Nat → Nat → Nat} {sp dp n : Int32} (hlk : Cond.methodLink (ov_cn y1) idx arraycopyName ∈ ov_T) (hlv : (r, i) ∈ S.2.2.1) (hsh : ov_sh r = .inr (0, n0, q, g)) (hlv1 : (r1, i1) ∈ S.2.2.1) (hsh1 : ov_sh r1 = .inr (0, n1, q1, g1)) (hh : ¬ sp < 0 ∧ ¬ dp < 0 ∧ ¬ n < 0 ∧ ov_ix sp + ov_ix n ≤ n0 ∧ ov_ix dp + ov_ix n ≤ n1) (hfr : 1 ≤ R.frames) (hlo : (rest.map fun v => v.category).sum + 18 ≤ R.locals) (hdg : decode cc pc = .ok (.invokestatic idx, 3))
    (kk : ∀ (H1 : Heap) (locs1 : List Loc), ov_rep D cA z bS tS aS L xs ad (ov_wa S r1 i1 (va_cpy (S.1 r i) (S.1 r1 i1) (ov_ix sp) (ov_ix dp) (ov_ix n))) H1 → va_S (fun q => z ≤ q) s.heap H1 locs1 → W p l e R s m args below meth c H1 locs1 cells slots Qp (F0 m (pc + 3) lsA rest)) : W p l e R s m args below meth c H locs cells slots Qp (F0 m pc lsA (.int n :: .int dp :: .ref (ad r1 i1) :: .int sp :: .ref (ad r i) :: rest)) := by
  obtain ⟨q0, hq, hw⟩ := ov_arr_ws (cA := cA) (ad := ad) (w := .inl (S.1 r i)) hlv hsh rfl
  obtain ⟨qd, hqd, hwd⟩ := ov_arr_ws (cA := cA) (ad := ad) (w := .inl (S.1 r1 i1)) hlv1 hsh1 rfl
  refine va_copyi hx hb hml hown (hts _ hlk) (hts _ ov_w_nt) (hts _ ov_w_st) (hts _ ov_w_sy) hK hR.1 hR.2.1 hS q0 qd 0 0 (ty := .int) hw hwd rfl rfl rfl hh.1 hh.2.1 hh.2.2.1 hh.2.2.2.1 hh.2.2.2.2 (fun _ _ => rfl) hfr (by show _ + (5 + 2 + 11) ≤ _; omega) hdg ?_
  intro H1 locs1 hP1 hD1 hS1
  have e : (.inl (cA 0, n1, .inl (va_cpy (S.1 r i) (S.1 r1 i1) sp.toNatClampNeg dp.toNatClampNeg n.toNatClampNeg)) : va_E) = ov_ce cA ad (ov_wa S r1 i1 (va_cpy (S.1 r i) (S.1 r1 i1) (ov_ix sp) (ov_ix dp) (ov_ix n))) r1 i1 := by
    rw [ov_ce_arr hsh1, if_pos (by omega), ov_wa_s]
  rw [e] at hP1 hD1
  exact kk H1 locs1 (ov_rep_w hR hqd hP1 hD1 rfl (fun r' i' h => ov_wa_o h) (ov_clo_arr hR.2.2.1 hsh1 (by omega) rfl (fun r' i' h => (ov_wa_o h).1))) hS1
/-- behind a call -/
theorem ov_s_run {mo : Bool} {Q' : ov_Q} {av : Array Value} {st0 : List Value} {a' b' : Nat} (hr : va_Run p l e R s m args below meth c H locs cells slots a' b' (F0 m pc lsA st0) rest (ov_qc D cA z bS tS aS L xs ad S mo Q' av) (fun q => z ≤ q)) (hS : va_S (fun q => z ≤ q) s.heap H locs)
    (kk : ∀ (r : Option ov_A) (S' : ov_S) (ad' : Nat → Nat → Nat) (H1 : Heap) (locs1 : List Loc), ov_rep D cA z bS tS aS L xs ad' S' H1 → ov_ext ad S ad' S' → (∀ v, r = some v → ov_av S' v) → (mo = true → ov_full S') → Q' r S' → va_S (fun q => z ≤ q) s.heap H1 locs1 → W p l e R s m args below meth c H1 locs1 (cells + a') (slots + b') Qp (F0 m (pc + 3) lsA ((r.map (ov_rv ad')).toList ++ rest))) : W p l e R s m args below meth c H locs cells slots Qp (F0 m pc lsA st0) := by
  intro T hT X
  obtain ⟨v, st₀, t, T', Lq, h0, X', hL, e1, e2, ⟨⟨r, S', ad', ho, h1, h2, h3, h4, h5⟩, hz, hk⟩, st⟩ := hr T hT X
  cases ho
  rw [h0] at hz hk
  obtain ⟨t2, a1, b1⟩ := kk r S' ad' T'.heap (locs ++ Lq) (by rw [e1]; exact h1) h2 h3 h4 h5
    ⟨Nat.le_trans hS.1 (by rw [e1]; exact hz), fun q g1 g2 => by rw [e1, hk q (Nat.lt_of_lt_of_le g1 hS.1) g2]; exact hS.2.1 q g1 g2, fun q hq => by
      rcases List.mem_append.mp hq with h | h
      · exact hS.2.2 q h
      · exact hL q h⟩ T' rfl X'
  exact ⟨t2, st t2 a1, b1⟩
end OVH
