section OVG
variable {l : Launch} {D : va_G} {cA : Nat → ClassId} {z bS tS aS L : Nat} {xs : Nat → Int32} {ZS : State → Prop}
variable {p : Program} {e : Env} {R : Room} {s : State} {m : MethodId} {args : Array Value} {below : List Frame} {meth : Method} {c : Code} {H : Heap} {locs : List Loc} {cells slots : Nat} {Qp : State → Prop}
variable {cc : ByteArray} {pc y1 : Nat} {lsA : Array Slot} {rest : List Value} {ad : Nat → Nat → Nat} {S : ov_S}
theorem ov_rep_w {S' : ov_S} {H1 : Heap} {q0 r i : Nat} (hR : ov_rep D cA z bS tS aS L xs ad S H) (hq : S.2.2.1[q0]? = some (r, i)) (hP1 : va_P D vwCl ((ov_ws cA ad S).set q0 (ad r i, ov_ce cA ad S' r i)) H1) (hD1 : va_D (fun q => z ≤ q) ((ov_ws cA ad S).set q0 (ad r i, ov_ce cA ad S' r i))) (hl : S'.2.2 = S.2.2) (ho : ∀ r' i', ¬ (r' = r ∧ i' = i) → (∀ k, S'.1 r' i' k = S.1 r' i' k) ∧ ∀ k, S'.2.1 r' i' k = S.2.1 r' i' k) (hc : ov_clo S') : ov_rep D cA z bS tS aS L xs ad S' H1 := by
  obtain ⟨-, h2, -, h4, h5, h6, h7⟩ := hR
  have e := ov_ws_set (S' := S') h2 (by rw [hl]) hq (fun r' i' h => ov_ce_o (ho r' i' h).1 (ho r' i' h).2)
  rw [e] at hP1 hD1
  exact ⟨hP1, hD1, hc, h4, h5, h6, by rw [hl]; exact h7⟩
theorem ov_s_get (hx : p.tables.exec = Jvm.exec) (hb : c.code = cc) (hts : ∀ w ∈ ov_T, w.before args s = true) (hown : s.vm.findClass (ov_cn y1) = some m.cls) (hK : va_K D vwCl (ov_tys cA) s) (hR : ov_rep D cA z bS tS aS L xs ad S H) {r i : Nat} (hlv : (r, i) ∈ S.2.2.1) {c' k idx : Nat} {fks : List (Nat × Nat × (Nat → Nat))} {fk : Nat × Nat × (Nat → Nat)} (hsh : ov_sh r = .inl (c', fks)) (hk : fks[k]? = some fk) (hlf : ov_lf y1 idx = some (c', k)) (hdg : decode cc pc = .ok (.getfield idx, 3))
    (kk : W p l e R s m args below meth c H locs cells slots Qp (F0 m (pc + 3) lsA (ov_fv ad S r i k fk :: rest))) : W p l e R s m args below meth c H locs cells slots Qp (F0 m pc lsA (.ref (ad r i) :: rest)) := by
  obtain ⟨q0, hq, hw⟩ := ov_at_ws (cA := cA) (ad := ad) hlv
  rw [ov_ce_obj hsh] at hw
  obtain ⟨C, T, N, ty, hct, hN, hkd⟩ := ov_obj hsh
  obtain ⟨C2, T2, N2, h1, h2, h3⟩ := ov_lf_ok hlf
  cases h1.symm.trans hct.1
  exact va_get (D := D) (ci := c') (v := ov_fv ad S r i k fk) hx hb hts hct.2.2.1 hown hK hR.1 q0 hw hct.1 k h2 (hts _ h3) (fun _ h => h) (by rw [List.getElem?_mapIdx, hk]; rfl) hdg kk
theorem ov_fset {r i k : Nat} {x : Int32} {fks : List (Nat × Nat × (Nat → Nat))} {fk : Nat × Nat × (Nat → Nat)} (hk : fks[k]? = some fk) : (fks.mapIdx (fun k fk => ov_fv ad S r i k fk)).set k (ov_fv ad (ov_w S r i k x) r i k fk) = fks.mapIdx (fun j fk => ov_fv ad (ov_w S r i k x) r i j fk) := by
  apply ov_mapIdx_set
  · intro a ha
    rw [hk] at ha
    cases ha
    rfl
  · intro j a hj
    refine ov_fv_o ?_
    rw [ov_w_s, if_neg hj]
theorem ov_s_put (hx : p.tables.exec = Jvm.exec) (hb : c.code = cc) (hts : ∀ w ∈ ov_T, w.before args s = true) (hown : s.vm.findClass (ov_cn y1) = some m.cls) (hK : va_K D vwCl (ov_tys cA) s) (hR : ov_rep D cA z bS tS aS L xs ad S H) (hS : va_S (fun q => z ≤ q) s.heap H locs) {r i : Nat} (hlv : (r, i) ∈ S.2.2.1) {c' k idx : Nat} {x : Int32} {fks : List (Nat × Nat × (Nat → Nat))} {fk : Nat × Nat × (Nat → Nat)} (hsh : ov_sh r = .inl (c', fks)) (hk : fks[k]? = some fk) (hlf : ov_lf y1 idx = some (c', k)) (hcl : 2 ≤ fk.1 → x ≠ 0 → (fk.2.1, fk.2.2 i) ∈ S.2.2.1) (hfin : fk.1 = 2 → meth.name = "<init>" ∧ c' = y1)
    (hbo : fk.1 = 1 → x = 0 ∨ x = 1) (hdg : decode cc pc = .ok (.putfield idx, 3))
    (kk : ∀ (H1 : Heap) (locs1 : List Loc), ov_rep D cA z bS tS aS L xs ad (ov_w S r i k x) H1 → va_S (fun q => z ≤ q) s.heap H1 locs1 → W p l e R s m args below meth c H1 locs1 cells slots Qp (F0 m (pc + 3) lsA rest)) : W p l e R s m args below meth c H locs cells slots Qp (F0 m pc lsA (ov_fv ad (ov_w S r i k x) r i k fk :: .ref (ad r i) :: rest)) := by
  obtain ⟨q0, hq, hw⟩ := ov_at_ws (cA := cA) (ad := ad) hlv
  rw [ov_ce_obj hsh] at hw
  obtain ⟨C, T, N, ty, hct, hN, hkd⟩ := ov_obj hsh
  obtain ⟨C2, T2, N2, h1, h2, h3⟩ := ov_lf_ok hlf
  cases h1.symm.trans hct.1
  obtain ⟨hkd, hdc⟩ := hkd k fk hk
  have hcl' : ov_clo (ov_w S r i k x) := by
    refine ov_clo_w (r := r) (i := i) hR.2.2.1 rfl (fun r' i' h => (ov_w_o h).1) ?_ ?_
    · intro c2 f2 k2 fk2 e1 e2 e3 e4
      rw [hsh] at e1
      cases e1
      rw [ov_w_s] at e4
      by_cases e5 : k2 = k
      · subst e5
        rw [hk] at e2
        cases e2
        rw [if_pos rfl] at e4
        exact hcl e3 e4
      · rw [if_neg e5] at e4
        exact (hR.2.2.1 r i hlv).1 _ _ k2 fk2 hsh e2 e3 e4
    · intro t n q g j e1
      rw [hsh] at e1
      cases e1
  have hlen : k < (fks.mapIdx (fun k fk => ov_fv ad S r i k fk)).length := by simpa using (List.getElem?_eq_some_iff.mp hk).1
  have go : ∀ (H1 : Heap) (locs1 : List Loc), va_P D vwCl ((ov_ws cA ad S).set q0 (ad r i, .inr (c', (fks.mapIdx (fun k fk => ov_fv ad S r i k fk)).set k (ov_fv ad (ov_w S r i k x) r i k fk)))) H1 → va_D (fun q => z ≤ q) ((ov_ws cA ad S).set q0 (ad r i, .inr (c', (fks.mapIdx (fun k fk => ov_fv ad S r i k fk)).set k (ov_fv ad (ov_w S r i k x) r i k fk)))) → va_S (fun q => z ≤ q) s.heap H1 locs1 → W p l e R s m args below meth c H1 locs1 cells slots Qp (F0 m (pc + 3) lsA rest) := by
    intro H1 locs1 hP1 hD1 hS1
    have e : (.inr (c', (fks.mapIdx (fun k fk => ov_fv ad S r i k fk)).set k (ov_fv ad (ov_w S r i k x) r i k fk)) : va_E) = ov_ce cA ad (ov_w S r i k x) r i := by rw [ov_ce_obj hsh, ov_fset hk]
    rw [e] at hP1 hD1
    exact kk H1 locs1 (ov_rep_w hR hq hP1 hD1 rfl (fun r' i' h => ov_w_o h) hcl') hS1
  have hty := hct.2.2.2.1 k h2
  have hval : narrow (ty k) (ov_fv ad (ov_w S r i k x) r i k fk) = ov_fv ad (ov_w S r i k x) r i k fk ∧ fits (ty k) (ov_fv ad (ov_w S r i k x) r i k fk) = true := by
    have hv : (ov_w S r i k x).1 r i k = x := by rw [ov_w_s, if_pos rfl]
    unfold ov_fv
    rw [hv]
    obtain ⟨kd, q, g⟩ := fk
    dsimp only at hkd hbo ⊢
    match kd, hkd, hbo with
    | 0, hkd, _ =>
      have e := of_decide_eq_true (Bool.and_eq_true _ _ ▸ hkd : _ ∧ _).1
      rw [e] at hty
      have : ty k = .int := (Option.some.inj hty).symm
      rw [this]
      exact ⟨rfl, rfl⟩
    | 1, hkd, hbo =>
      have e := of_decide_eq_true (Bool.and_eq_true _ _ ▸ hkd : _ ∧ _).1
      rw [e] at hty
      have : ty k = .boolean := (Option.some.inj hty).symm
      rw [this]
      rcases hbo rfl with rfl | rfl <;> exact ⟨rfl, rfl⟩
    | 2, hkd, _ =>
      have e := (Bool.and_eq_true _ _ ▸ hkd : _ ∧ _).2
      rw [hty] at e
      cases hk2 : ty k <;> rw [hk2] at e <;> first | (cases e; done) | (by_cases hz : x = 0 <;> simp [hz, narrow, fits])
    | 3, hkd, _ =>
      have e := (Bool.and_eq_true _ _ ▸ hkd : _ ∧ _).2
      rw [hty] at e
      cases hk2 : ty k <;> rw [hk2] at e <;> first | (cases e; done) | (by_cases hz : x = 0 <;> simp [hz, narrow, fits])
    | n + 4, hkd, _ => cases hkd
  by_cases hf : fk.1 = 2
  · have hfin2 : (T k).2.2.2 = true := by
      rw [hf] at hkd
      exact (Bool.and_eq_true _ _ ▸ hkd : _ ∧ _).1
    exact va_putF (D := D) (ci := c') hx hb hts hct.2.2.1 ty hct.2.2.2.1 hct.2.2.2.2.1 hown hK hR.1 hR.2.1 hS q0 hw hct.1 k h2 (hts _ h3) (fun _ h => h) hfin2 (hfin hf).1 (by rw [hdc, hct.2.1, (hfin hf).2]) hty hval.1 hval.2 hlen hdg go
  · have hfin2 : (T k).2.2.2 = false := by
      obtain ⟨kd, q, g⟩ := fk
      dsimp only at hkd hf
      match kd, hkd, hf with
      | 0, hkd, _ =>
        have h9 : _ ∧ _ := Bool.and_eq_true _ _ ▸ hkd
        simpa using h9.2
      | 1, hkd, _ =>
        have h9 : _ ∧ _ := Bool.and_eq_true _ _ ▸ hkd
        simpa using h9.2
      | 2, _, hf => exact absurd rfl hf
      | 3, hkd, _ =>
        have h9 : _ ∧ _ := Bool.and_eq_true _ _ ▸ hkd
        simpa using h9.1
      | n + 4, hkd, _ => cases hkd
    exact va_put (D := D) (ci := c') hx hb hts hct.2.2.1 ty hct.2.2.2.1 hct.2.2.2.2.1 hown hK hR.1 hR.2.1 hS q0 hw hct.1 k h2 (hts _ h3) (fun _ h => h) hfin2 hty hval.1 hval.2 hlen hdg go
end OVG
