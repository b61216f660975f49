section OVI
variable {l : Launch} {D : va_G} {cA : Nat → ClassId} {z bS tS aS L : Nat} {xs : Nat → Int32} {ZS : State → Prop}
variable {p : Program} {e : Env} {R : Room} {s : State} {m : MethodId} {args : Array Value} {below : List Frame} {meth : Method} {c : Code} {H : Heap} {locs : List Loc} {cells slots : Nat} {Qp : State → Prop}
variable {cc : ByteArray} {pc y1 : Nat} {lsA : Array Slot} {rest : List Value} {ad : Nat → Nat → Nat} {S : ov_S}
/-- a new cell, told -/
theorem ov_rep_n {H1 : Heap} {r i q : Nat} {E : va_E} (hR : ov_rep D cA z bS tS aS L xs ad S H) (hn : (r, i) ∉ S.2.2.1) (hb : ¬ (r = 16 ∨ r = 17 ∨ r = 18)) (ht : ∀ t n q g, ov_sh r = .inr (t, n, q, g) → t ≤ 4) (hE : ov_ce cA (ov_ua ad r i q) (ov_n S r i) r i = E) (hP1 : va_P D vwCl (ov_ws cA ad S ++ [(q, E)]) H1) (hD1 : va_D (fun q => z ≤ q) (ov_ws cA ad S ++ [(q, E)])) : ov_rep D cA z bS tS aS L xs (ov_ua ad r i q) (ov_n S r i) H1 ∧ ov_ext ad S (ov_ua ad r i q) (ov_n S r i) := by
  obtain ⟨-, -, h3, h4, h5, h6, h7⟩ := hR
  have hx := ov_ext_n (ad := ad) (q := q) hn hb
  have e := ov_ws_push (cA := cA) (ad := ad) (q := q) h3 hn
  rw [hE] at e
  rw [← e] at hP1 hD1
  exact ⟨⟨hP1, hD1, ov_clo_n h3 ht, (hx.2 16 0 (Or.inr ⟨rfl, Or.inl rfl⟩)).trans h4, (hx.2 17 0 (Or.inr ⟨rfl, Or.inr (Or.inl rfl)⟩)).trans h5, (hx.2 18 0 (Or.inr ⟨rfl, Or.inr (Or.inr rfl)⟩)).trans h6, h7⟩, hx⟩
theorem ov_s_new (hx : p.tables.exec = Jvm.exec) (hb : c.code = cc) (hts : ∀ w ∈ ov_T, w.before args s = true) (hown : s.vm.findClass (ov_cn y1) = some m.cls) (hK : va_K D vwCl (ov_tys cA) s) (hR : ov_rep D cA z bS tS aS L xs ad S H) (hS : va_S (fun q => z ≤ q) s.heap H locs) (hA : ∀ q, s.heap.size ≤ q → z ≤ q) {r i ci idx : Nat} {fks : List (Nat × Nat × (Nat → Nat))} (hsh : ov_sh r = .inl (ci, fks)) (hn : (r, i) ∉ S.2.2.1) (hln : ov_ln y1 idx = some ci) (hc : cells + 1 ≤ R.cells) (hs : slots + fks.length ≤ R.slots) (hdg : decode cc pc = .ok (.new idx, 3))
    (kk : ∀ (q : Nat) (H1 : Heap), ov_rep D cA z bS tS aS L xs (ov_ua ad r i q) (ov_n S r i) H1 → va_S (fun q => z ≤ q) s.heap H1 locs → ov_ext ad S (ov_ua ad r i q) (ov_n S r i) → W p l e R s m args below meth c H1 locs (cells + 1) (slots + fks.length) Qp (F0 m (pc + 3) lsA (.ref q :: rest))) : W p l e R s m args below meth c H locs cells slots Qp (F0 m pc lsA rest) := by
  obtain ⟨C, T, N, ty, hct, hN, hkd⟩ := ov_obj hsh
  subst hN
  have hcl : (Cond.classLink (ov_cn y1) idx C).before args s = true := by rw [hct.2.1]; exact hts _ (ov_ln_ok hln)
  refine va_new (ci := ci) (fs := fks.mapIdx (fun _ fk => if 2 ≤ fk.1 then .null else .int 0)) hx hb hts hct.2.2.1 ty hct.2.2.2.1 hown hcl (hts _ hct.2.2.2.2.2.1) (hts _ hct.2.2.2.2.2.2) hK hR.1 hR.2.1 hS hA hct.1 ?_ hc hs hdg ?_
  · intro j hj
    have hf : fks[j]? = some fks[j] := List.getElem?_eq_getElem hj
    have hty := hct.2.2.2.1 j hj
    obtain ⟨hkd, -⟩ := hkd j _ hf
    have e1 : vp_V (fks.mapIdx (fun _ fk => if 2 ≤ fk.1 then Value.null else .int 0)) j = if 2 ≤ fks[j].1 then Value.null else .int 0 := by
      simp [vp_V, List.getD, List.getElem?_mapIdx, hf]
    rw [e1]
    generalize fks[j] = fk at hkd ⊢
    obtain ⟨kd, q, g⟩ := fk
    dsimp only at hkd ⊢
    match kd, hkd with
    | 0, hkd =>
      have e := of_decide_eq_true (Bool.and_eq_true _ _ ▸ hkd : _ ∧ _).1
      rw [e] at hty
      have : ty j = .int := (Option.some.inj hty).symm
      rw [this]
      rfl
    | 1, hkd =>
      have e := of_decide_eq_true (Bool.and_eq_true _ _ ▸ hkd : _ ∧ _).1
      rw [e] at hty
      have : ty j = .boolean := (Option.some.inj hty).symm
      rw [this]
      rfl
    | 2, hkd =>
      have e := (Bool.and_eq_true _ _ ▸ hkd : _ ∧ _).2
      rw [hty] at e
      cases hk2 : ty j <;> rw [hk2] at e <;> first | (cases e; done) | rfl
    | 3, hkd =>
      have e := (Bool.and_eq_true _ _ ▸ hkd : _ ∧ _).2
      rw [hty] at e
      cases hk2 : ty j <;> rw [hk2] at e <;> first | (cases e; done) | rfl
    | n + 4, hkd => cases hkd
  · intro q H1 hP1 hD1 hS1
    have hE : ov_ce cA (ov_ua ad r i q) (ov_n S r i) r i = .inr (ci, fks.mapIdx (fun _ fk => if 2 ≤ fk.1 then Value.null else .int 0)) := by
      rw [ov_ce_obj hsh]
      have e9 : (fun (k : Nat) (fk : Nat × Nat × (Nat → Nat)) => ov_fv (ov_ua ad r i q) (ov_n S r i) r i k fk) = fun _ fk => if 2 ≤ fk.1 then Value.null else .int 0 := by
        funext k fk
        unfold ov_fv
        rw [ov_n_s.1 k, if_pos rfl]
      rw [e9]
    obtain ⟨g1, g2⟩ := ov_rep_n hR hn (by rintro (rfl | rfl | rfl) <;> cases hsh) (fun t n q g e => by rw [hsh] at e; cases e) hE hP1 hD1
    exact kk q H1 g1 hS1 g2
theorem ov_nat32 {n : Nat} (h : n ≤ 100000) : ¬ (Int32.ofNat n) < 0 ∧ (Int32.ofNat n).toNatClampNeg = n := ⟨nI_pos (n := n) (by omega), nI_clamp (n := n) (by omega)⟩
theorem ov_s_newI (hx : p.tables.exec = Jvm.exec) (hb : c.code = cc) (hts : ∀ w ∈ ov_T, w.before args s = true) (hK : va_K D vwCl (ov_tys cA) s) (hR : ov_rep D cA z bS tS aS L xs ad S H) (hS : va_S (fun q => z ≤ q) s.heap H locs) (hA : ∀ q, s.heap.size ≤ q → z ≤ q) {r i n q' : Nat} {g : Nat → Nat → Nat} (hsh : ov_sh r = .inr (0, n, q', g)) (hn : (r, i) ∉ S.2.2.1) (hc : cells + 1 ≤ R.cells) (hs : slots + n ≤ R.slots) (hdg : decode cc pc = .ok (.newarray .int, 2))
    (kk : ∀ (q : Nat) (H1 : Heap), ov_rep D cA z bS tS aS L xs (ov_ua ad r i q) (ov_n S r i) H1 → va_S (fun q => z ≤ q) s.heap H1 locs → ov_ext ad S (ov_ua ad r i q) (ov_n S r i) → W p l e R s m args below meth c H1 locs (cells + 1) (slots + n) Qp (F0 m (pc + 2) lsA (.ref q :: rest))) : W p l e R s m args below meth c H locs cells slots Qp (F0 m pc lsA (.int (Int32.ofNat n) :: rest)) := by
  have hle := (ov_arr hsh).1
  refine va_newa (atype := .int) (a0 := (n, .inl (fun _ => 0))) hx hb (hts _ ov_w_ai) rfl hK hR.1 hR.2.1 hS hA (fun _ => rfl) (ov_nat32 hle).1 (ov_nat32 hle).2 (by show n * 4 ≤ _; omega) hc hs hdg ?_
  intro q cN H1 hK1 hP1 hD1 hS1
  have e1 : cN = cA 0 := Option.some.inj ((hK1.2 5 (cN, .int) rfl).2.symm.trans (hK.2 0 (cA 0, .int) rfl).2)
  subst e1
  have hE : ov_ce cA (ov_ua ad r i q) (ov_n S r i) r i = .inl (cA 0, n, .inl (fun _ => 0)) := by
    rw [ov_ce_arr hsh, if_pos (by omega), show (ov_n S r i).1 r i = fun _ => 0 from funext ov_n_s.1]
  obtain ⟨g1, g2⟩ := ov_rep_n hR hn (by rintro (rfl | rfl | rfl) <;> cases hsh) (fun t n q g e => by rw [hsh] at e; cases e; omega) hE hP1 hD1
  exact kk q H1 g1 hS1 g2
theorem ov_s_newC (hx : p.tables.exec = Jvm.exec) (hb : c.code = cc) (hts : ∀ w ∈ ov_T, w.before args s = true) (hK : va_K D vwCl (ov_tys cA) s) (hR : ov_rep D cA z bS tS aS L xs ad S H) (hS : va_S (fun q => z ≤ q) s.heap H locs) (hA : ∀ q, s.heap.size ≤ q → z ≤ q) {r i n q' : Nat} {g : Nat → Nat → Nat} (hsh : ov_sh r = .inr (1, n, q', g)) (hn : (r, i) ∉ S.2.2.1) (hc : cells + 1 ≤ R.cells) (hs : slots + n ≤ R.slots) (hdg : decode cc pc = .ok (.newarray .char, 2))
    (kk : ∀ (q : Nat) (H1 : Heap), ov_rep D cA z bS tS aS L xs (ov_ua ad r i q) (ov_n S r i) H1 → va_S (fun q => z ≤ q) s.heap H1 locs → ov_ext ad S (ov_ua ad r i q) (ov_n S r i) → W p l e R s m args below meth c H1 locs (cells + 1) (slots + n) Qp (F0 m (pc + 2) lsA (.ref q :: rest))) : W p l e R s m args below meth c H locs cells slots Qp (F0 m pc lsA (.int (Int32.ofNat n) :: rest)) := by
  have hle := (ov_arr hsh).1
  refine va_newa (atype := .char) (a0 := (n, .inl (fun _ => 0))) hx hb (hts _ ov_w_ac) rfl hK hR.1 hR.2.1 hS hA (fun _ => rfl) (ov_nat32 hle).1 (ov_nat32 hle).2 (by show n * 2 ≤ _; omega) hc hs hdg ?_
  intro q cN H1 hK1 hP1 hD1 hS1
  have e1 : cN = cA 1 := Option.some.inj ((hK1.2 5 (cN, .char) rfl).2.symm.trans (hK.2 1 (cA 1, .char) rfl).2)
  subst e1
  have hE : ov_ce cA (ov_ua ad r i q) (ov_n S r i) r i = .inl (cA 1, n, .inl (fun _ => 0)) := by
    rw [ov_ce_arr hsh, if_pos (by omega), show (ov_n S r i).1 r i = fun _ => 0 from funext ov_n_s.1]
  obtain ⟨g1, g2⟩ := ov_rep_n hR hn (by rintro (rfl | rfl | rfl) <;> cases hsh) (fun t n q g e => by rw [hsh] at e; cases e; omega) hE hP1 hD1
  exact kk q H1 g1 hS1 g2
theorem ov_s_newL (hx : p.tables.exec = Jvm.exec) (hb : c.code = cc) (hts : ∀ w ∈ ov_T, w.before args s = true) (hK : va_K D vwCl (ov_tys cA) s) (hR : ov_rep D cA z bS tS aS L xs ad S H) (hS : va_S (fun q => z ≤ q) s.heap H locs) (hA : ∀ q, s.heap.size ≤ q → z ≤ q) {r i n q' : Nat} {g : Nat → Nat → Nat} (hsh : ov_sh r = .inr (2, n, q', g)) (hn : (r, i) ∉ S.2.2.1) (hc : cells + 1 ≤ R.cells) (hs : slots + n ≤ R.slots) (hdg : decode cc pc = .ok (.newarray .long, 2))
    (kk : ∀ (q : Nat) (H1 : Heap), ov_rep D cA z bS tS aS L xs (ov_ua ad r i q) (ov_n S r i) H1 → va_S (fun q => z ≤ q) s.heap H1 locs → ov_ext ad S (ov_ua ad r i q) (ov_n S r i) → W p l e R s m args below meth c H1 locs (cells + 1) (slots + n) Qp (F0 m (pc + 2) lsA (.ref q :: rest))) : W p l e R s m args below meth c H locs cells slots Qp (F0 m pc lsA (.int (Int32.ofNat n) :: rest)) := by
  have hle := (ov_arr hsh).1
  refine va_newa (atype := .long) (a0 := (n, .inr (.inl (fun _ => 0)))) hx hb (hts _ ov_w_al) rfl hK hR.1 hR.2.1 hS hA (fun _ => rfl) (ov_nat32 hle).1 (ov_nat32 hle).2 (by show n * 8 ≤ _; omega) hc hs hdg ?_
  intro q cN H1 hK1 hP1 hD1 hS1
  have e1 : cN = cA 2 := Option.some.inj ((hK1.2 5 (cN, .long) rfl).2.symm.trans (hK.2 2 (cA 2, .long) rfl).2)
  subst e1
  have hE : ov_ce cA (ov_ua ad r i q) (ov_n S r i) r i = .inl (cA 2, n, .inr (.inl (fun _ => 0))) := by
    rw [ov_ce_arr hsh, if_neg (by omega), if_pos rfl, show (ov_n S r i).2.1 r i = fun _ => 0 from funext ov_n_s.2]
  obtain ⟨g1, g2⟩ := ov_rep_n hR hn (by rintro (rfl | rfl | rfl) <;> cases hsh) (fun t n q g e => by rw [hsh] at e; cases e; omega) hE hP1 hD1
  exact kk q H1 g1 hS1 g2
theorem ov_s_newQ {t : Nat} {C : String} (hty : (ov_tys cA)[t]? = some (cA t, .object C)) (ht : t = 3 ∨ t = 4) (hx : p.tables.exec = Jvm.exec) (hb : c.code = cc) (hts : ∀ w ∈ ov_T, w.before args s = true) (hown : s.vm.findClass (ov_cn y1) = some m.cls) (hAO : va_AO C s) (hK : va_K D vwCl (ov_tys cA) s) (hR : ov_rep D cA z bS tS aS L xs ad S H) (hS : va_S (fun q => z ≤ q) s.heap H locs) (hA : ∀ q, s.heap.size ≤ q → z ≤ q) {r i n q' idx : Nat} {g : Nat → Nat → Nat} (hsh : ov_sh r = .inr (t, n, q', g)) (hn : (r, i) ∉ S.2.2.1) (hcl : (Cond.classLink (ov_cn y1) idx C).before args s = true) (hc : cells + 1 ≤ R.cells) (hs : slots + n ≤ R.slots) (hdg : decode cc pc = .ok (.anewarray idx, 3))
    (kk : ∀ (q : Nat) (H1 : Heap), ov_rep D cA z bS tS aS L xs (ov_ua ad r i q) (ov_n S r i) H1 → va_S (fun q => z ≤ q) s.heap H1 locs → ov_ext ad S (ov_ua ad r i q) (ov_n S r i) → W p l e R s m args below meth c H1 locs (cells + 1) (slots + n) Qp (F0 m (pc + 3) lsA (.ref q :: rest))) : W p l e R s m args below meth c H locs cells slots Qp (F0 m pc lsA (.int (Int32.ofNat n) :: rest)) := by
  have hle := (ov_arr hsh).1
  refine va_newq hx hb hown hcl hAO hK hR.1 hR.2.1 hS hA (ov_nat32 hle).1 (ov_nat32 hle).2 (by omega) hc hs hdg ?_
  intro q cN H1 hK1 hP1 hD1 hS1
  obtain ⟨-, -, -, -, -, f1⟩ := (hK1.2 5 (cN, .object C) rfl).2
  obtain ⟨-, -, -, -, -, f2⟩ := (hK.2 t (cA t, .object C) hty).2
  have e1 : cN = cA t := Option.some.inj (f1.symm.trans f2)
  subst e1
  have hE : ov_ce cA (ov_ua ad r i q) (ov_n S r i) r i = .inl (cA t, n, .inr (.inr (.inr (.inr (fun _ => none))))) := by
    rw [ov_ce_arr hsh, if_neg (by omega), if_neg (by omega)]
    congr 7
    funext j
    rw [ov_n_s.1 j, if_pos rfl]
    simp
  obtain ⟨g1, g2⟩ := ov_rep_n hR hn (by rintro (rfl | rfl | rfl) <;> (rcases ht with rfl | rfl <;> cases hsh)) (fun t' n q g e => by rw [hsh] at e; cases e; omega) hE hP1 hD1
  exact kk q H1 g1 hS1 g2
end OVI
