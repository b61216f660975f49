/-! ===== the one text: the walks ===== -/
theorem sg_coder {l : Launch} {z aS aV : Nat} {fm : Value} : sg_M l z aS aV fm sy_coder prog_17_method_152_code 1 (some .byte) [Value.ref aS] (some (.int 0)) 1 := by
  refine sg_met (by decide +kernel) ?_
  intro p e R s m below meth c hfix hret hlk hz hd1 hd2
  obtain ⟨hx, hb, hml, hown, hts⟩ := id hfix
  obtain ⟨z1, z2, z3, z4, z5, z6, z7, z8, z9⟩ := id hz
  refine va_gets hx hb z6 va_S.rf hown (hts _ sw_f_cs) (fun _ h => h) (by decide +kernel) ?_
  refine lv_if_eq (off := 10) (tgt := 13) hx hb (by decide +kernel) (by decide) (fun h => absurd h (by decide)) (fun _ => ?_)
  refine lv_aload_n (k := 0) hx hb (by decide +kernel) rfl rfl ?_
  refine vk_getf hx hb z3 va_S.rf hown (hts _ sw_f_c) (fun _ h => h) (by decide +kernel) ?_
  refine lv_goto (off := 4) (tgt := 14) hx hb (by decide +kernel) (by decide) ?_
  exact W.zret hx hb hret rfl (fun t ht _ => ⟨rfl, va_S.rf.F ht⟩) (fun _ h => nomatch h) (by decide +kernel) hlk
theorem sg_length {l : Launch} {z aS aV : Nat} {fm : Value} : sg_M l z aS aV fm sy_length prog_17_method_54_code 1 (some .int) [Value.ref aS] (some (.int 50)) 2 := by
  refine sg_met (by decide +kernel) ?_
  intro p e R s m below meth c hfix hret hlk hz hd1 hd2
  obtain ⟨hx, hb, hml, hown, hts⟩ := id hfix
  obtain ⟨z1, z2, z3, z4, z5, z6, z7, z8, z9⟩ := id hz
  refine lv_aload_n (k := 0) hx hb (by decide +kernel) rfl rfl ?_
  refine vk_getf hx hb z4 va_S.rf hown (hts _ sw_f_v) (fun _ h => h) (by decide +kernel) ?_
  refine va_tlen hx hb z5 va_S.rf (v := 50) (by decide) (by decide +kernel) ?_
  refine lv_aload_n (k := 0) hx hb (by decide +kernel) rfl rfl ?_
  refine sg_behind1 (A := fun _ => False) (sg_callV (d := 1) (n := 0) (As := []) (rest := [.int 50]) hfix sg_coder rfl sw_coder (hts _ sw_lk_coder) sw_coder_i sw_coder_s (by decide +kernel) (by decide) hz va_S.rf hd1 hd2 (Nat.zero_le _) (Nat.zero_le _) rfl rfl rfl (by decide) (by decide +kernel)) va_S.rf (fun H1 locs1 hq hz1 hS1 => ?_)
  refine lv_ishr hx hb (by decide +kernel) ?_
  exact W.iret hx hb hret (fun t ht _ => ⟨rfl, hS1.F ht⟩) (fun q h => hS1.2.2 q h) (by decide +kernel) hlk
theorem sg_latin {l : Launch} {z aS aV : Nat} {fm : Value} : sg_M l z aS aV fm sy_isLatin1 prog_17_method_154_code 1 (some .boolean) [Value.ref aS] (some (.int 1)) 1 := by
  refine sg_met (by decide +kernel) ?_
  intro p e R s m below meth c hfix hret hlk hz hd1 hd2
  obtain ⟨hx, hb, hml, hown, hts⟩ := id hfix
  obtain ⟨z1, z2, z3, z4, z5, z6, z7, z8, z9⟩ := id hz
  refine va_gets hx hb z6 va_S.rf hown (hts _ sw_f_cs) (fun _ h => h) (by decide +kernel) ?_
  refine lv_if_eq (off := 14) (tgt := 17) hx hb (by decide +kernel) (by decide) (fun h => absurd h (by decide)) (fun _ => ?_)
  refine lv_aload_n (k := 0) hx hb (by decide +kernel) rfl rfl ?_
  refine vk_getf hx hb z3 va_S.rf hown (hts _ sw_f_c) (fun _ h => h) (by decide +kernel) ?_
  refine lv_if_ne (off := 7) (tgt := 17) hx hb (by decide +kernel) (by decide) (fun h => absurd rfl h) (fun _ => ?_)
  refine lv_iconst (n := 1) (v := 1) hx hb (by decide +kernel) (by decide) ?_
  refine lv_goto (off := 4) (tgt := 18) hx hb (by decide +kernel) (by decide) ?_
  exact W.zret hx hb hret rfl (fun t ht _ => ⟨rfl, va_S.rf.F ht⟩) (fun _ h => nomatch h) (by decide +kernel) hlk
theorem sg_ib {x : Int32} (h : ov_ib x 50) : ¬ x < 0 ∧ x < 50 := by
  obtain ⟨h1, h2⟩ := h
  have e0 : (0 : Int32).toInt = 0 := rfl
  have e5 : (50 : Int32).toInt = 50 := rfl
  exact ⟨fun q => by have := Int32.lt_iff_toInt_lt.mp q; omega, Int32.lt_iff_toInt_lt.mpr (by omega)⟩
theorem sg_pcheck {l : Launch} {z aS aV : Nat} {fm : Value} {x : Int32} (hx50 : ov_ib x 50) (hfm : fm = .null ∨ ∃ a, fm = .ref a) : sg_M l z aS aV fm sy_pcheck prog_22_method_11_code 3 (some .int) [.int x, .int 50, fm] (some (.int x)) 1 := by
  refine sg_met (by decide +kernel) ?_
  intro p e R s m below meth c hfix hret hlk hz hd1 hd2
  obtain ⟨hx, hb, hml, hown, hts⟩ := id hfix
  have hl0 : ((lg_sl [.int x, .int 50, fm] ++ List.replicate (3 - (lg_sl [.int x, .int 50, fm]).length) Slot.unset).toArray)[0]? = some (.val (.int x)) := by rcases hfm with rfl | ⟨a, rfl⟩ <;> rfl
  have hl1 : ((lg_sl [.int x, .int 50, fm] ++ List.replicate (3 - (lg_sl [.int x, .int 50, fm]).length) Slot.unset).toArray)[1]? = some (.val (.int 50)) := by rcases hfm with rfl | ⟨a, rfl⟩ <;> rfl
  obtain ⟨hn, hl⟩ := sg_ib hx50
  refine lv_iload_n (k := 0) hx hb (by decide +kernel) rfl hl0 ?_
  refine lv_if_lt (off := 8) (tgt := 9) hx hb (by decide +kernel) (by decide) (fun h => absurd h hn) (fun _ => ?_)
  refine lv_iload_n (k := 0) hx hb (by decide +kernel) rfl hl0 ?_
  refine lv_iload_n (k := 1) hx hb (by decide +kernel) rfl hl1 ?_
  refine lv_icmp_lt (off := 10) (tgt := 16) hx hb (by decide +kernel) (by decide) (fun _ => ?_) (fun h => absurd hl h)
  refine lv_iload_n (k := 0) hx hb (by decide +kernel) rfl hl0 ?_
  exact W.iret hx hb hret (fun t ht _ => ⟨rfl, va_S.rf.F ht⟩) (fun _ h => nomatch h) (by decide +kernel) hlk
theorem sg_scheck {l : Launch} {z aS aV : Nat} {fm : Value} {x : Int32} (hx50 : ov_ib x 50) : sg_M l z aS aV fm sy_scheck prog_17_method_155_code 2 none [.int x, .int 50] none 2 := by
  refine sg_met (by decide +kernel) ?_
  intro p e R s m below meth c hfix hret hlk hz hd1 hd2
  obtain ⟨hx, hb, hml, hown, hts⟩ := id hfix
  obtain ⟨z1, z2, z3, z4, z5, z6, z7, z8, z9⟩ := id hz
  refine lv_iload_n (k := 0) hx hb (by decide +kernel) rfl rfl ?_
  refine lv_iload_n (k := 1) hx hb (by decide +kernel) rfl rfl ?_
  refine va_gets hx hb z7 va_S.rf hown (hts _ sw_f_p) (fun _ h => h) (by decide +kernel) ?_
  refine sg_behind1 (A := fun _ => False) (sg_callS (d := 1) (n := 3) (As := [.int x, .int 50, fm]) (rest := []) hfix (sg_pcheck hx50 z8) sw_iP sw_pcheck sw_lk_pcheck sw_pcheck_t ⟨by decide, by decide, by decide +kernel⟩ (by decide) hz va_S.rf hd1 hd2 (Nat.zero_le _) (Nat.zero_le _) rfl rfl rfl (by decide) (by decide +kernel)) va_S.rf (fun H1 locs1 hq hz1 hS1 => ?_)
  refine lv_pop hx hb (by decide +kernel) rfl ?_
  exact W.vret hx hb hret (fun t ht _ => ⟨rfl, hS1.F ht⟩) (fun q h => hS1.2.2 q h) (by decide +kernel) hlk
theorem sg_wd : ∀ k, k < 50 → (((ov_wd k) &&& 255).toUInt32 % 65536).toInt32 = ov_wd k ∧ narrow .char (.int (ov_wd k)) = .int (ov_wd k) := by decide +kernel
theorem sg_lchar {l : Launch} {z aS aV : Nat} {fm : Value} {x : Int32} (hx50 : ov_ib x 50) : sg_M l z aS aV fm sy_lcharAt prog_18_method_2_code 2 (some .char) [.ref aV, .int x] (some (.int (ov_wd (ov_ix x)))) 3 := by
  refine sg_met (by decide +kernel) ?_
  intro p e R s m below meth c hfix hret hlk hz hd1 hd2
  obtain ⟨hx, hb, hml, hown, hts⟩ := id hfix
  obtain ⟨z1, z2, z3, z4, z5, z6, z7, z8, z9⟩ := id hz
  have hk : ov_ix x < 50 := by
    obtain ⟨h1, h2⟩ := hx50
    show x.toInt.toNat < 50
    omega
  obtain ⟨hw1, hw2⟩ := sg_wd _ hk
  refine lv_iload_n (k := 1) hx hb (by decide +kernel) rfl rfl ?_
  refine lv_aload_n (k := 0) hx hb (by decide +kernel) rfl rfl ?_
  refine va_tlen hx hb z5 va_S.rf (v := 50) (by decide) (by decide +kernel) ?_
  refine sg_behind0 (A := fun _ => False) (sg_callS (d := 2) (n := 2) (As := [.int x, .int 50]) (rest := []) hfix (sg_scheck hx50) sw_iS sw_scheck sw_lk_scheck sw_scheck_t ⟨by decide, by decide, by decide +kernel⟩ (by decide) hz va_S.rf hd1 hd2 (Nat.zero_le _) (Nat.zero_le _) rfl rfl rfl (by decide) (by decide +kernel)) va_S.rf (fun H1 locs1 hq hz1 hS1 => ?_)
  refine lv_aload_n (k := 0) hx hb (by decide +kernel) rfl rfl ?_
  refine lv_iload_n (k := 1) hx hb (by decide +kernel) rfl rfl ?_
  refine va_tb hx hb z5 (sg_w hS1) (ov_ib_in hx50) rfl (by decide +kernel) ?_
  refine lv_sipush (n := 255) (v := 255) hx hb (by decide +kernel) (by decide) ?_
  refine lv_iand hx hb (by decide +kernel) ?_
  refine lv_i2c (v := ov_wd (ov_ix x)) hx hb (by decide +kernel) hw1 ?_
  exact W.zret hx hb hret hw2 (fun t ht _ => ⟨rfl, hS1.F ht⟩) (fun q h => hS1.2.2 q h) (by decide +kernel) hlk
theorem sg_char {l : Launch} {z aS aV : Nat} {fm : Value} {x : Int32} (hx50 : ov_ib x 50) : sg_M l z aS aV fm sy_charAt prog_17_method_56_code 2 (some .char) [.ref aS, .int x] (some (.int (ov_wd (ov_ix x)))) 4 := by
  refine sg_met (by decide +kernel) ?_
  intro p e R s m below meth c hfix hret hlk hz hd1 hd2
  obtain ⟨hx, hb, hml, hown, hts⟩ := id hfix
  obtain ⟨z1, z2, z3, z4, z5, z6, z7, z8, z9⟩ := id hz
  have hk : ov_ix x < 50 := by
    obtain ⟨h1, h2⟩ := hx50
    show x.toInt.toNat < 50
    omega
  obtain ⟨hw1, hw2⟩ := sg_wd _ hk
  refine lv_aload_n (k := 0) hx hb (by decide +kernel) rfl rfl ?_
  refine sg_behind1 (A := fun _ => False) (sg_callV (d := 1) (n := 0) (As := []) (rest := []) hfix sg_latin rfl sw_isLatin1 (hts _ sw_lk_isLatin1) sw_isLatin1_i sw_isLatin1_s (by decide +kernel) (by decide) hz va_S.rf (by omega) (by omega) (Nat.zero_le _) (Nat.zero_le _) rfl rfl rfl (by decide) (by decide +kernel)) va_S.rf (fun H1 locs1 hq hz1 hS1 => ?_)
  refine lv_if_eq (off := 12) (tgt := 16) hx hb (by decide +kernel) (by decide) (fun h => absurd h (by decide)) (fun _ => ?_)
  refine lv_aload_n (k := 0) hx hb (by decide +kernel) rfl rfl ?_
  refine vk_getf hx hb z4 (sg_w hS1) hown (hts _ sw_f_v) (fun _ h => h) (by decide +kernel) ?_
  refine lv_iload_n (k := 1) hx hb (by decide +kernel) rfl rfl ?_
  refine sg_behind1 (A := fun _ => False) (sg_callS (d := 3) (n := 2) (As := [.ref aV, .int x]) (rest := []) hfix (sg_lchar hx50) sw_iL sw_lcharAt sw_lk_lcharAt sw_lcharAt_t ⟨by decide, by decide, by decide +kernel⟩ (by decide) hz (sg_w hS1) hd1 hd2 (Nat.zero_le _) (Nat.zero_le _) rfl rfl rfl (by decide) (by decide +kernel)) hS1 (fun H2 locs2 hq2 hz2 hS2 => ?_)
  exact W.zret hx hb hret hw2 (fun t ht _ => ⟨rfl, hS2.F ht⟩) (fun q h => hS2.2.2 q h) (by decide +kernel) hlk
/-- the rules that the machine asks for -/
theorem sg_HS {l : Launch} {z aS aV : Nat} {fm : Value} : ov_HS l z aS (sg_Z z aS aV fm) := by
  intro p e R s m args below meth c H locs cells slots Q cc nL pc ls rest hfix hz hS hsz hz0
  obtain ⟨hx, hb, hml, hown, hts⟩ := id hfix
  refine ⟨fun hdg k => va_ldcS hx hb hown hz.1 hdg k, fun i hlk hw h1 h2 h3 h4 hdg k => ?_, fun i x hlk hw h1 h2 h3 h4 hx50 hdg k => ?_⟩
  · exact sg_behind1 (A := fun q => z ≤ q) (sg_callV (d := 2) (n := 0) (As := []) (rest := rest) hfix sg_length rfl sw_length hlk sw_length_i sw_length_s (by decide +kernel) (by decide) hz hS (by omega) (by omega) h3 h4 rfl hsz rfl hw hdg) hS k
  · exact sg_behind1 (A := fun q => z ≤ q) (sg_callV (d := 4) (n := 1) (As := [.int x]) (rest := rest) hfix (sg_char hx50) rfl sw_charAt hlk sw_charAt_i sw_charAt_s (by decide +kernel) (by decide) hz hS (by omega) (by omega) h3 h4 rfl hsz rfl hw hdg) hS k
