/-! ===== the start of the law, in the machine's own words ===== -/
theorem st_arrP {args : Array Value} {s : State} {ty : FieldType} (h : (Cond.arrayClass ty).before args s = true) : ∃ c : ClassId, ArrOfT s c ty ∧ s.vm.findClass ("[" ++ ty.toString) = some c := by
  obtain ⟨c, k, comp, h1, h2, h3⟩ := Cond.arrayClass_spec (args := args) (first := s) (o := none) (idx := []) h
  exact ⟨c, fun n z => ⟨fun k h => (by cases h), k, h2, comp, h3⟩, h1⟩
theorem st_arrO {s : State} {C : String} (h : va_AO C s) : ∃ c : ClassId, ArrOfT s c (.object C) ∧ va_RA s c (.object C) := by
  obtain ⟨comp, c, k, f1, f2, f3, f4, f5⟩ := Cond.arrayOver_spec h
  exact ⟨c, fun n z => ⟨fun k h => (by cases h), k, f3, comp, f4⟩, k, comp, f3, f4, f1, f5⟩
theorem st_K {args : Array Value} {s : State} (hts : ∀ w ∈ lw_tbl, w.before args s = true) : ∃ (D : va_G) (cA : Nat → ClassId), va_K D vwCl (ov_tys cA) s := by
  have htT : ∀ w ∈ ov_T, w.before args s = true := fun w hw => hts w (List.mem_filter.mp hw).1
  have h1 : ∀ c : Nat, ∃ q : ClassId × (Nat → Nat), c < 13 → ∀ r : vw_C, vwCl[c]? = some r → u_Kn s r.1 r.2.1 r.2.2 q.1 q.2 := by
    intro c
    by_cases hc : c < 13
    · obtain ⟨C, T, N, ty, k1, k2, k3, k4, k5, k6, k7⟩ := ov_cts c hc
      obtain ⟨cC, iS, hK⟩ := u_known (n := N) htT k3 (htT _ k6)
      exact ⟨(cC, iS), fun _ r hr => by rw [k1] at hr; cases hr; exact hK⟩
    · exact ⟨(0, fun _ => 0), fun h => absurd h hc⟩
  obtain ⟨f, hf⟩ := Classical.axiomOfChoice h1
  obtain ⟨c0, a0, r0⟩ := st_arrP (htT _ ov_w_ai)
  obtain ⟨c1, a1, r1⟩ := st_arrP (htT _ ov_w_ac)
  obtain ⟨c2, a2, r2⟩ := st_arrP (htT _ ov_w_al)
  obtain ⟨c3, a3, r3⟩ := st_arrO (va_AO.of (hts (.arrayOver (.object "OneEye$Three")) (by decide +kernel)))
  obtain ⟨c4, a4, r4⟩ := st_arrO (va_AO.of (hts (.arrayOver (.object "OneEye$Person")) (by decide +kernel)))
  refine ⟨(fun c => (f c).1, fun c => (f c).2), fun t => if t = 0 then c0 else if t = 1 then c1 else if t = 2 then c2 else if t = 3 then c3 else c4, fun c q hq => ?_, fun k q hq => ?_⟩
  · have hc : c < 13 := (List.getElem?_eq_some_iff.mp hq).1
    exact hf c hc q hq
  · match k, hq with
    | 0, hq => cases hq; exact ⟨a0, r0⟩
    | 1, hq => cases hq; exact ⟨a1, r1⟩
    | 2, hq => cases hq; exact ⟨a2, r2⟩
    | 3, hq => cases hq; exact ⟨a3, r3⟩
    | 4, hq => cases hq; exact ⟨a4, r4⟩
    | k + 5, hq => simp [ov_tys] at hq
abbrev st_g : Cond := Jvm.Cond.and given_1 narrow_1
abbrev st_s : Term := .string "OneEye$Reader" 78
theorem st_elS : ∀ j : Nat, j < 50 → Cond.eq (.elem (.field st_s "java/lang/String" "value" "[B") (.int (Int32.ofNat j))) (.int (ov_wd j)) ∈ flatC st_g := by decide +kernel
theorem st_elT : ∀ j : Nat, j < 6 → Cond.eq (.elem (.static "OneEye$Talk" "SETS_WITH" "[J") (.int (Int32.ofNat j))) (.long (ov_sw j)) ∈ flatC st_g := by decide +kernel
theorem st_w1 : Cond.arrayOf (.static "OneEye$Talk" "SETS_WITH" "[J") .long ∈ flatC st_g := by decide +kernel
theorem st_w2 : Cond.eq (.length (.static "OneEye$Talk" "SETS_WITH" "[J")) (.int (Int32.ofNat 6)) ∈ flatC st_g := by decide +kernel
theorem st_w3 : Cond.exactly st_s "java/lang/String" ∈ flatC st_g := by decide +kernel
theorem st_w4 : Cond.eq (.field st_s "java/lang/String" "coder" "B") (.int 0) ∈ flatC st_g := by decide +kernel
theorem st_w5 : Cond.arrayOf (.field st_s "java/lang/String" "value" "[B") .byte ∈ flatC st_g := by decide +kernel
theorem st_w6 : Cond.eq (.length (.field st_s "java/lang/String" "value" "[B")) (.int (Int32.ofNat 50)) ∈ flatC st_g := by decide +kernel
theorem st_w7 : Cond.eq (.static "java/lang/String" "COMPACT_STRINGS" "Z") (.int 1) ∈ flatC st_g := by decide +kernel
theorem st_w8 : Cond.isRef (.static "jdk/internal/util/Preconditions" "SIOOBE_FORMATTER" "Ljava/util/function/BiFunction;") ∈ flatC st_g := by decide +kernel
theorem st_t1 : Cond.laysStatic "OneEye$Talk" "SETS_WITH" "[J" ∈ lw_tbl := by decide +kernel
theorem st_t2 : Cond.initialized "OneEye$Talk" ∈ lw_tbl := by decide +kernel
theorem st_t3 : Cond.laysStatic "java/lang/String" "COMPACT_STRINGS" "Z" ∈ lw_tbl := by decide +kernel
theorem st_t4 : Cond.initialized "java/lang/String" ∈ lw_tbl := by decide +kernel
theorem st_t5 : Cond.laysStatic "jdk/internal/util/Preconditions" "SIOOBE_FORMATTER" "Ljava/util/function/BiFunction;" ∈ lw_tbl := by decide +kernel
theorem st_t6 : Cond.initialized "jdk/internal/util/Preconditions" ∈ lw_tbl := by decide +kernel
theorem st_t7 : Cond.stringRef "OneEye$Reader" 78 sg_tx ∈ lw_tbl := by decide +kernel
theorem st_wk {b L : Nat} {xs : Nat → Int32} {s : State} (hts : ∀ w ∈ lw_tbl, w.before #[Value.ref b] s = true) (hX : va_X b L xs s s.heap) (hbl : b < s.heap.size) (hgv : (Jvm.Cond.and given_1 narrow_1).before #[Value.ref b] s = true) :
    ∃ (D : va_G) (cA : Nat → ClassId) (tS aS aV : Nat) (fm : Value), ov_wk D cA s.heap.size b tS L xs (sg_Z s.heap.size aS aV fm) s := by
  have hs := flat_of_before st_g hgv
  have hA : ∀ a : Nat, a < s.heap.size → ¬ (fun q : Nat => s.heap.size ≤ q) a := fun a h => Nat.not_le.mpr h
  obtain ⟨D, cA, hK⟩ := st_K hts
  obtain ⟨tS, htS, hT⟩ := va_Tof (N := 6) (f := fun j => .long (ov_sw j)) (A := fun q => s.heap.size ≤ q) (by decide) (hs _ st_w1) (va_eqt (hs _ st_w2)) (fun j hj => va_eqtl (hs _ (st_elT j hj))) hA
  obtain ⟨aS, c9, cell9, k9, q1, q2, q3, q4, q5, q6, -⟩ := Cond.exactly_spec (args := #[Value.ref b]) (first := s) (o := none) (s := s) (idx := []) (t := st_s) (cls := "java/lang/String") (hs _ st_w3)
  obtain ⟨aV, hv, hTb⟩ := va_Tof (N := 50) (f := fun j => .int (ov_wd j)) (A := fun q => s.heap.size ≤ q) (by decide) (hs _ st_w5) (va_eqt (hs _ st_w6)) (fun j hj => va_eqt (hs _ (st_elS j hj))) hA
  obtain ⟨fm, hfm, hfr⟩ := Cond.isRef_spec (args := #[Value.ref b]) (first := s) (o := none) (s := s) (idx := []) (hs _ st_w8)
  have hfm2 : fm = .null ∨ ∃ a, fm = .ref a := by
    cases fm with
    | null => exact .inl rfl
    | ref a => exact .inr ⟨a, rfl⟩
    | _ => cases hfr
  refine ⟨D, cA, tS, aS, aV, fm, hK, fun w hw => ?_, va_AO.of (hts (.arrayOver (.object "OneEye$Three")) (by decide +kernel)), va_AO.of (hts (.arrayOver (.object "OneEye$Person")) (by decide +kernel)), va_Zof (hts _ st_t1) (hts _ st_t2) htS hA, hT, hX, hbl, Nat.le_refl _, vk_R.of (hts _ st_t7) q1, ⟨cell9, q3, q5, by rw [q6]; exact q2, hA aS (Array.getElem?_eq_some_iff.mp q3).1⟩, vk_OFof q1 (va_eqt (hs _ st_w4)) hA, vk_OFof q1 hv hA, hTb, va_Zof (hts _ st_t3) (hts _ st_t4) (va_eqt (hs _ st_w7)) hA, va_Zof (hts _ st_t5) (hts _ st_t6) hfm hA, hfm2, Nat.le_refl _⟩
  obtain ⟨h1, h2⟩ := List.mem_filter.mp hw
  cases w <;> first | exact va_Nw.of rfl (hts _ h1) | cases h2
