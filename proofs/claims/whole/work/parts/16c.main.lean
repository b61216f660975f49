section OVM
variable {l : Launch} {D : va_G} {cA : Nat → ClassId} {z bS tS aS L : Nat} {xs : Nat → Int32} {ZS : State → Prop}
theorem ov_flag {S : ov_S} {r i k : Nat} : (ov_g S r i k != 0) = true ↔ S.1 r i k ≠ 0 := by simp [ov_g]
theorem ov_fv_ref {ad : Nat → Nat → Nat} {S : ov_S} {r i k kd q : Nat} {g : Nat → Nat} (h : 2 ≤ kd) : ov_fv ad S r i k (kd, q, g) = ov_rv ad (.inr (.inr (ov_g S r i k != 0, q, g i))) := by
  unfold ov_fv
  rw [if_pos h]
  by_cases e : S.1 r i k = 0
  · rw [if_pos e]
    have : (ov_g S r i k != 0) = false := by simpa [ov_g] using e
    rw [this]
    rfl
  · rw [if_neg e, (ov_flag.mpr e)]
    rfl
theorem ov_av_ref {S : ov_S} {r i k kd q : Nat} {g : Nat → Nat} {c : Nat} {fks : List (Nat × Nat × (Nat → Nat))} (hc : ov_clo S) (hlv : (r, i) ∈ S.2.2.1) (hsh : ov_sh r = .inl (c, fks)) (hk : fks[k]? = some (kd, q, g)) (h : 2 ≤ kd) : ov_av S (.inr (.inr (ov_g S r i k != 0, q, g i))) := by
  cases hb : (ov_g S r i k != 0)
  · exact trivial
  · exact Or.inl ((hc r i hlv).1 c fks k _ hsh hk h (ov_flag.mp hb))
/-- live cells of a shape that is ours -/
theorem ov_lv_o {S : ov_S} {r i c : Nat} {fks : List (Nat × Nat × (Nat → Nat))} (h : ov_lv S r i) (hsh : ov_sh r = .inl (c, fks)) : (r, i) ∈ S.2.2.1 := by
  rcases h with h | ⟨-, h⟩
  · exact h
  · rcases h with rfl | rfl | rfl <;> cases hsh
theorem ov_lv_a {S : ov_S} {r i t n q : Nat} {g : Nat → Nat → Nat} (h : ov_lv S r i) (hsh : ov_sh r = .inr (t, n, q, g)) (ht : t ≤ 4) : (r, i) ∈ S.2.2.1 := by
  rcases h with h | ⟨-, h⟩
  · exact h
  · rcases h with rfl | rfl | rfl
    · have : t = 10 := by cases hsh; rfl
      omega
    · have : t = 11 := by cases hsh; rfl
      omega
    · have : t = 99 := by cases hsh; rfl
      omega
theorem ov_full_w {S : ov_S} {r i k : Nat} {x : Int32} (h : ov_full S) (hk : ∀ c fks q g, ov_sh r = .inl (c, fks) → fks[k]? = some (2, q, g) → x ≠ 0) : ov_full (ov_w S r i k x) := by
  intro r' i' k' c fks q g h1 h2 h3
  show (ov_w S r i k x).1 r' i' k' ≠ 0
  by_cases e : r' = r ∧ i' = i
  · obtain ⟨rfl, rfl⟩ := e
    rw [ov_w_s]
    by_cases e2 : k' = k
    · subst e2
      rw [if_pos rfl]
      exact hk c fks q g h2 h3
    · rw [if_neg e2]
      exact h r' i' k' c fks q g h1 h2 h3
  · rw [(ov_w_o e).1]
    exact h r' i' k' c fks q g h1 h2 h3
theorem ov_full_arr {S S' : ov_S} {r i t n q : Nat} {g : Nat → Nat → Nat} (h : ov_full S) (hsh : ov_sh r = .inr (t, n, q, g)) (hl : S'.2.2.1 = S.2.2.1) (ho : ∀ r' i', ¬ (r' = r ∧ i' = i) → ∀ k, S'.1 r' i' k = S.1 r' i' k) : ov_full S' := by
  intro r' i' k' c fks q g h1 h2 h3
  rw [hl] at h1
  show S'.1 r' i' k' ≠ 0
  have e : ¬ (r' = r ∧ i' = i) := by
    rintro ⟨rfl, rfl⟩
    rw [hsh] at h2
    cases h2
  rw [ho r' i' e]
  exact h r' i' k' c fks q g h1 h2 h3
theorem ov_stk {ad : Nat → Nat → Nat} {r : Option ov_A} {t : List ov_A} : (r.toList ++ t).map (ov_rv ad) = (r.map (ov_rv ad)).toList ++ t.map (ov_rv ad) := by
  cases r <;> simp
theorem ov_rm_e {m : Nat} {as rest : List ov_A} (h : ov_rm m as rest = true) : (ov_ea as).length ≤ m ∧ (ov_ea rest).length ≤ 8 := by
  rw [ov_rm, Bool.and_eq_true] at h
  exact ⟨Nat.le_of_ble_eq_true h.1, Nat.le_of_ble_eq_true h.2⟩
theorem ov_goodT : ∀ w ∈ ov_T, (w.onTables && w.keeps) = true ∨ ∃ ty, w = .arrayClass ty := fun _ hw => good_of_word (List.mem_filter.mp hw).2
theorem ov_gin {m : ov_M} (hok : ov_okc m) : GoodIn ov_T (Cond.code m.2.1 m.2.2.1 m.2.2.2.1 m.2.2.2.2.1 :: ov_T) := by
  intro w hw
  rcases List.mem_cons.mp hw with rfl | hw
  · exact ⟨hok.2.1, ov_goodT _ hok.2.1⟩
  · exact ⟨hw, ov_goodT _ hw⟩
/-- the four ways of a call, by the callee's meaning: what 'va_Run' gives -/
theorem ov_s_call (hZ : ov_HZ z ZS) {mo : Bool} {d a' b' : Nat} {y k : ov_M} {pc i kd : Nat} {S : ov_S} {Q' : ov_Q} {as t : List ov_A}
    {p : Program} {e : Env} {s : State} {m : MethodId} {args : Array Value} {below : List Frame} {meth : Method} {c : Code} {R : Room} {mc ms : Nat} (hE : ov_E D cA z bS tS L xs ZS y p s m args meth c R d mc ms)
    {H : Heap} {locs : List Loc} {cells slots : Nat} {ad : Nat → Nat → Nat} {lsA : Array Slot} (hS : va_S (fun q => z ≤ q) s.heap H locs) (hR : ov_rep D cA z bS tS aS L xs ad S H) (hF : mo = true → ov_full S) (hsz : lsA.size = y.2.2.2.1) (hd : 0 < d) (hrm : ov_rm k.2.2.2.1 as t = true) (hav : ∀ v ∈ as, ov_av S v) (hc1 : cells + a' ≤ mc) (hs1 : slots + b' ≤ ms)
    (hlm : ov_lm y.1 i = some (kd, k)) (hsem : ov_sem l D cA z bS tS aS L xs ZS mo mo (d - 1) a' b' k 0 (ov_en k.2.2.2.1 as) [] S Q')
    (hkd : (kd = 0 ∨ kd = 3) ∧ decode y.2.2.1 pc = .ok (.invokestatic i, 3) ∧ as.length = ov_na k ∨ (∃ r j bs cc' fks, as = .inr (.inr (true, r, j)) :: bs ∧ bs.length = ov_na k ∧ ov_sh r = .inl (cc', fks) ∧ cc' = k.1 ∧ ((kd = 1 ∨ kd = 4) ∧ decode y.2.2.1 pc = .ok (.invokevirtual i, 3) ∨ (kd = 2 ∨ kd = 5) ∧ decode y.2.2.1 pc = .ok (.invokespecial i, 3)))) :
    va_Run p l e R s m args below meth c H locs cells slots a' b' (F0 m pc lsA ((as.reverse ++ t).map (ov_rv ad))) (t.map (ov_rv ad)) (ov_qc D cA z bS tS aS L xs ad S mo Q' (as.map (ov_rv ad)).toArray) (fun q => z ≤ q) := by
  obtain ⟨hok, hfix, hret, hlk, hnm, hwk, hd1, hd2, hmc, hms⟩ := id hE
  obtain ⟨hx, hb, hml, hown, hts⟩ := id hfix
  obtain ⟨hokc, pq, hchk⟩ := ov_lm_ok hlm
  obtain ⟨hea, hrs⟩ := ov_rm_e hrm
  have hM := ov_met (l := l) (D := D) (cA := cA) (bS := bS) (tS := tS) (aS := aS) (L := L) (xs := xs) (ad := ad) hZ hokc hea hsem hav hF
  have hbl := ov_blind (D := D) (cA := cA) (bS := bS) (tS := tS) (aS := aS) (L := L) (xs := xs) (av := as.map (ov_rv ad)) (ad := ad) (S := S) hZ
  have hpre : ∀ U : State, U.heap = H → s.WarmedH U.vm → va_Pc (as.map (ov_rv ad)) (fun U => ov_wk D cA z bS tS L xs ZS U ∧ ov_rep D cA z bS tS aS L xs ad S U.heap) (as.map (ov_rv ad)).toArray U := fun U hU hW => ⟨rfl, ov_wk_moved hZ hwk hW (by rw [hU]; exact hS), by rw [hU]; exact hR⟩
  have hw8 : 2 * (F0 m pc lsA ((as.reverse ++ t).map (ov_rv ad))).monitorRoom + ((t.map (ov_rv ad)).map fun v => v.category).sum ≤ 8 := lv_room (by rw [ov_words]; exact hrs)
  have hroom : d - 1 + 1 ≤ R.frames ∧ 8 + (k.2.2.2.1 + 11) + 64 * (d - 1) ≤ R.locals := by
    have := hokc.2.2.2.2.2
    omega
  have hini := hts _ hokc.2.2.2.2.1
  have hdd := hokc.2.2.2.1
  have hcr : cells + a' ≤ R.cells ∧ slots + b' ≤ R.slots := ⟨by omega, by omega⟩
  rcases hkd with ⟨hk, hdg, hn⟩ | ⟨r, j, bs, cc', fks, rfl, hn, hsh, hcc, hk⟩
  · have hst : (F0 m pc lsA ((as.reverse ++ t).map (ov_rv ad))).stack = (as.map (ov_rv ad)).reverse ++ t.map (ov_rv ad) := by simp
    rcases hk with rfl | rfl
    · have h2 : (_ ∧ _) := Bool.and_eq_true _ _ ▸ hchk
      exact va_runS (n := ov_na k) hfix hM ⟨callB_of (ov_na k) hts (ov_gin hokc) rfl rfl rfl hini (hts _ (ov_i1_e h2.1)) hdd hroom, hts _ (ov_i1_e h2.2)⟩ ⟨hbl, hpre⟩ rfl (by simpa using hn) hsz hst hw8 hdg hcr
    · have h2 : (_ ∧ _) := Bool.and_eq_true _ _ ▸ hchk
      exact va_runSN (n := ov_na k) (host := "OneEye") hfix hM ⟨va_cnB (ov_na k) hts (ov_gin hokc) rfl rfl rfl (hwk.2.1 _ (ov_i2_e h2.1)) hini hdd hroom, hts _ (ov_i1_e h2.2), trivial⟩ ⟨hbl, hpre⟩ rfl (by simpa using hn) hsz hst hw8 hdg hcr
  · have hlv : (r, j) ∈ S.2.2.1 := ov_lv_o (hav _ List.mem_cons_self) hsh
    have hst : (F0 m pc lsA (((.inr (.inr (true, r, j)) :: bs : List ov_A).reverse ++ t).map (ov_rv ad))).stack = (bs.map (ov_rv ad)).reverse ++ .ref (ad r j) :: t.map (ov_rv ad) := by simp [ov_rv]
    obtain ⟨C, T, N, ty, hct, -, -⟩ := ov_obj hsh
    obtain ⟨q0, hq, hw⟩ := ov_at_ws (cA := cA) (ad := ad) hlv
    rw [ov_ce_obj hsh] at hw
    have hrecv := va_recv hwk.1 hR.1 hct.1 hw
    have hC : C = k.2.1.cls := by rw [hct.2.1, hcc, hokc.1.2]
    subst hC
    have hpre' : ∀ U : State, U.heap = H → s.WarmedH U.vm → va_Pc (((.inr (.inr (true, r, j)) :: bs : List ov_A)).map (ov_rv ad)) (fun U => ov_wk D cA z bS tS L xs ZS U ∧ ov_rep D cA z bS tS aS L xs ad S U.heap) (Value.ref (ad r j) :: bs.map (ov_rv ad)).toArray U := fun U hU hW => ⟨rfl, (hpre U hU hW).2⟩
    rcases hk with ⟨hk, hdg⟩ | ⟨hk, hdg⟩
    · rcases hk with rfl | rfl
      · have h2 : (_ ∧ _) := Bool.and_eq_true _ _ ▸ hchk
        have h3 : (_ ∧ _) := Bool.and_eq_true _ _ ▸ h2.2
        exact va_runV (n := ov_na k) (C := k.2.1.cls) (b := ad r j) (As := bs.map (ov_rv ad)) hfix hM ⟨callB_of (ov_na k) hts (ov_gin hokc) rfl rfl rfl hini (hts _ (ov_i1_e h2.1)) hdd hroom, hts _ (ov_i1_e h3.1), hts _ (ov_i1_e h3.2)⟩ ⟨hbl, hrecv, hpre'⟩ rfl (by simpa using hn) hsz hst hw8 hdg hcr
      · have h2 : (_ ∧ _) := Bool.and_eq_true _ _ ▸ hchk
        have h3 : (_ ∧ _) := Bool.and_eq_true _ _ ▸ h2.2
        exact va_runVN (n := ov_na k) (C := k.2.1.cls) (host := "OneEye") (b := ad r j) (As := bs.map (ov_rv ad)) hfix hM ⟨va_cnB (ov_na k) hts (ov_gin hokc) rfl rfl rfl (hwk.2.1 _ (ov_i2_e h2.1)) hini hdd hroom, hts _ (ov_i1_e h3.1), hts _ (ov_i1_e h3.2)⟩ ⟨hbl, hrecv, hpre'⟩ rfl (by simpa using hn) hsz hst hw8 hdg hcr
    · rcases hk with rfl | rfl
      · have h2 : (_ ∧ _) := Bool.and_eq_true _ _ ▸ hchk
        have h3 : (_ ∧ _) := Bool.and_eq_true _ _ ▸ h2.2
        have h4 : (_ ∧ _) := Bool.and_eq_true _ _ ▸ h3.2
        have hrn : k.2.2.2.2.1 = none := of_decide_eq_true h4.2
        have hM' := hM
        rw [hrn] at hM'
        have hg' := ov_gin hokc
        rw [hrn] at hg'
        exact va_runI (n := ov_na k) (b := ad r j) (As := bs.map (ov_rv ad)) hfix hM' ⟨callB_of (ov_na k) hts hg' rfl rfl rfl hini (hts _ (ov_i1_e h2.1)) hdd hroom, of_decide_eq_true h4.1, hts _ (ov_i1_e h3.1)⟩ ⟨hbl, hpre'⟩ rfl (by simpa using hn) hsz hst hw8 hdg hcr
      · have h2 : (_ ∧ _) := Bool.and_eq_true _ _ ▸ hchk
        have h3 : (_ ∧ _) := Bool.and_eq_true _ _ ▸ h2.2
        have h4 : (_ ∧ _) := Bool.and_eq_true _ _ ▸ h3.2
        have hrn : k.2.2.2.2.1 = none := of_decide_eq_true h4.2
        have hM' := hM
        rw [hrn] at hM'
        have hg' := ov_gin hokc
        rw [hrn] at hg'
        exact va_runIN (n := ov_na k) (host := "OneEye") (b := ad r j) (As := bs.map (ov_rv ad)) hfix hM' ⟨va_cnB (ov_na k) hts hg' rfl rfl rfl (hwk.2.1 _ (ov_i2_e h2.1)) hini hdd hroom, of_decide_eq_true h4.1, hts _ (ov_i1_e h3.1)⟩ ⟨hbl, hpre'⟩ rfl (by simpa using hn) hsz hst hw8 hdg hcr
end OVM
