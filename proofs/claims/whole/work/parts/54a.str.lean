/-! ===== the one text: String.length, String.charAt ===== -/
abbrev sy_coder : MethodName := ⟨"java/lang/String", "coder", "()B"⟩
set_option maxRecDepth 100000 in
theorem sw_coder : Cond.code sy_coder prog_17_method_152_code 1 (some .byte) ∈ ov_T := ov_inT (List.mem_append_right _ (List.mem_of_getElem? (i := 488) rfl)) (by decide +kernel)
abbrev sy_length : MethodName := ⟨"java/lang/String", "length", "()I"⟩
set_option maxRecDepth 100000 in
theorem sw_length : Cond.code sy_length prog_17_method_54_code 1 (some .int) ∈ ov_T := ov_inT (List.mem_append_right _ (List.mem_of_getElem? (i := 484) rfl)) (by decide +kernel)
abbrev sy_isLatin1 : MethodName := ⟨"java/lang/String", "isLatin1", "()Z"⟩
set_option maxRecDepth 100000 in
theorem sw_isLatin1 : Cond.code sy_isLatin1 prog_17_method_154_code 1 (some .boolean) ∈ ov_T := ov_inT (List.mem_append_right _ (List.mem_of_getElem? (i := 498) rfl)) (by decide +kernel)
abbrev sy_charAt : MethodName := ⟨"java/lang/String", "charAt", "(I)C"⟩
set_option maxRecDepth 100000 in
theorem sw_charAt : Cond.code sy_charAt prog_17_method_56_code 2 (some .char) ∈ ov_T := ov_inT (List.mem_append_right _ (List.mem_of_getElem? (i := 494) rfl)) (by decide +kernel)
abbrev sy_lcharAt : MethodName := ⟨"java/lang/StringLatin1", "charAt", "([BI)C"⟩
set_option maxRecDepth 100000 in
theorem sw_lcharAt : Cond.code sy_lcharAt prog_18_method_2_code 2 (some .char) ∈ ov_T := ov_inT (List.mem_append_right _ (List.mem_of_getElem? (i := 501) rfl)) (by decide +kernel)
abbrev sy_scheck : MethodName := ⟨"java/lang/String", "checkIndex", "(II)V"⟩
set_option maxRecDepth 100000 in
theorem sw_scheck : Cond.code sy_scheck prog_17_method_155_code 2 none ∈ ov_T := ov_inT (List.mem_append_right _ (List.mem_of_getElem? (i := 504) rfl)) (by decide +kernel)
abbrev sy_pcheck : MethodName := ⟨"jdk/internal/util/Preconditions", "checkIndex", "(IILjava/util/function/BiFunction;)I"⟩
set_option maxRecDepth 100000 in
theorem sw_pcheck : Cond.code sy_pcheck prog_22_method_11_code 3 (some .int) ∈ ov_T := ov_inT (List.mem_append_right _ (List.mem_of_getElem? (i := 509) rfl)) (by decide +kernel)
theorem sw_iS : Cond.initialized "java/lang/String" ∈ ov_T := ov_in1_e (by decide +kernel)
theorem sw_iL : Cond.initialized "java/lang/StringLatin1" ∈ ov_T := ov_in1_e (by decide +kernel)
theorem sw_iP : Cond.initialized "jdk/internal/util/Preconditions" ∈ ov_T := ov_in1_e (by decide +kernel)
theorem sw_coder_i : Cond.instanceMethod sy_coder ∈ ov_T := ov_in1_e (by decide +kernel)
theorem sw_coder_s : Cond.selects "java/lang/String" sy_coder sy_coder ∈ ov_T := ov_in1_e (by decide +kernel)
theorem sw_length_i : Cond.instanceMethod sy_length ∈ ov_T := ov_in1_e (by decide +kernel)
theorem sw_length_s : Cond.selects "java/lang/String" sy_length sy_length ∈ ov_T := ov_in1_e (by decide +kernel)
theorem sw_isLatin1_i : Cond.instanceMethod sy_isLatin1 ∈ ov_T := ov_in1_e (by decide +kernel)
theorem sw_isLatin1_s : Cond.selects "java/lang/String" sy_isLatin1 sy_isLatin1 ∈ ov_T := ov_in1_e (by decide +kernel)
theorem sw_charAt_i : Cond.instanceMethod sy_charAt ∈ ov_T := ov_in1_e (by decide +kernel)
theorem sw_charAt_s : Cond.selects "java/lang/String" sy_charAt sy_charAt ∈ ov_T := ov_in1_e (by decide +kernel)
theorem sw_lcharAt_t : Cond.static sy_lcharAt ∈ ov_T := ov_in1_e (by decide +kernel)
theorem sw_scheck_t : Cond.static sy_scheck ∈ ov_T := ov_in1_e (by decide +kernel)
theorem sw_pcheck_t : Cond.static sy_pcheck ∈ ov_T := ov_in1_e (by decide +kernel)
theorem sw_lk_coder : Cond.methodLink "java/lang/String" 335 sy_coder ∈ ov_T := ov_in1_e (by decide +kernel)
theorem sw_lk_isLatin1 : Cond.methodLink "java/lang/String" 492 sy_isLatin1 ∈ ov_T := ov_in1_e (by decide +kernel)
theorem sw_lk_lcharAt : Cond.methodLink "java/lang/String" 495 sy_lcharAt ∈ ov_T := ov_in1_e (by decide +kernel)
theorem sw_lk_scheck : Cond.methodLink "java/lang/StringLatin1" 9 sy_scheck ∈ ov_T := ov_in1_e (by decide +kernel)
theorem sw_lk_pcheck : Cond.methodLink "java/lang/String" 1059 sy_pcheck ∈ ov_T := ov_in1_e (by decide +kernel)
theorem sw_f_cs : Cond.fieldLink "java/lang/String" 38 "java/lang/String" "COMPACT_STRINGS" "Z" ∈ ov_T := ov_in1_e (by decide +kernel)
theorem sw_f_v : Cond.fieldLink "java/lang/String" 9 "java/lang/String" "value" "[B" ∈ ov_T := ov_in1_e (by decide +kernel)
theorem sw_f_c : Cond.fieldLink "java/lang/String" 15 "java/lang/String" "coder" "B" ∈ ov_T := ov_in1_e (by decide +kernel)
theorem sw_f_p : Cond.fieldLink "java/lang/String" 1053 "jdk/internal/util/Preconditions" "SIOOBE_FORMATTER" "Ljava/util/function/BiFunction;" ∈ ov_T := ov_in1_e (by decide +kernel)
def sg_tx : String := "give see  say  lie  rest feel to   eye  ear  mouth"
/-- the text's cells, and the statics that its methods read -/
def sg_Z (z aS aV : Nat) (fm : Value) (U : State) : Prop :=
  vk_R "OneEye$Reader" 78 sg_tx aS U ∧ va_O "java/lang/String" aS (fun q => z ≤ q) U U.heap ∧ va_OF "java/lang/String" "coder" "B" (.int 0) aS (fun q => z ≤ q) U U.heap ∧ va_OF "java/lang/String" "value" "[B" (.ref aV) aS (fun q => z ≤ q) U U.heap ∧ va_T .byte aV 50 (fun j => .int (ov_wd j)) (fun q => z ≤ q) U U.heap ∧ va_Z "java/lang/String" "COMPACT_STRINGS" "Z" (.int 1) (fun q => z ≤ q) U U.heap ∧ va_Z "jdk/internal/util/Preconditions" "SIOOBE_FORMATTER" "Ljava/util/function/BiFunction;" fm (fun q => z ≤ q) U U.heap ∧ (fm = .null ∨ ∃ a, fm = .ref a) ∧ z ≤ U.heap.size
theorem sg_HZ {z aS aV : Nat} {fm : Value} : ov_HZ z (sg_Z z aS aV fm) := by
  intro s U h hW hq
  obtain ⟨h1, h2, h3, h4, h5, h6, h7, h8, h9⟩ := h
  have hq' : ∀ a : Nat, a < s.heap.size → ¬ z ≤ a → U.heap[a]? = s.heap[a]? := fun a _ h => hq a (by omega)
  have h9' : z ≤ U.heap.size := by
    rcases Nat.lt_or_ge U.heap.size z with q | q
    · have e := hq U.heap.size q
      rw [Array.getElem?_eq_none (Nat.le_refl _)] at e
      have := Array.getElem?_eq_none_iff.mp e.symm
      omega
    · exact q
  exact ⟨h1.warm hW, (va_O.moved hW.alike h2).kept hq', (va_OF.moved hW.alike h3).kept hq', (va_OF.moved hW.alike h4).kept hq', (va_T.moved hW.alike h5).kept hq', (va_Z.moved hW.alike h6).kept hq', (va_Z.moved hW.alike h7).kept hq', h8, h9'⟩
/-- what such a method ends with: its answer, and nothing changed -/
def sg_Q (r : Option Value) : Array Value → State → Outcome → State → Prop := fun _ st oc t => oc = .returned r ∧ va_F (fun _ => False) st t
theorem sg_blind {av : List Value} {z aS aV : Nat} {fm : Value} : FrameBlind (va_Pc av (sg_Z z aS aV fm)) := by
  rintro a U g mk ⟨h1, h2⟩
  exact ⟨h1, sg_HZ U (U.calling g mk a) h2 (State.WarmedH.refl U) (fun _ _ => rfl)⟩
theorem sg_w {A : Nat → Prop} {H0 H : Heap} {locs : List Loc} (h : va_S (fun _ => False) H0 H locs) : va_S A H0 H locs := ⟨h.1, fun q h1 _ => h.2.1 q h1 (fun x => x), fun l hl => (h.2.2 l hl).elim⟩
theorem sg_gin {y : MethodName} {bytes : ByteArray} {maxL : Nat} {ret : Option FieldType} (h : Cond.code y bytes maxL ret ∈ ov_T) : GoodIn ov_T (Cond.code y bytes maxL ret :: ov_T) := by
  intro w hw
  rcases List.mem_cons.mp hw with rfl | hw
  · exact ⟨h, ov_goodT _ h⟩
  · exact ⟨hw, ov_goodT _ hw⟩
abbrev sg_M (l : Launch) (z aS aV : Nat) (fm : Value) (y : MethodName) (bytes : ByteArray) (maxL : Nat) (ret : Option FieldType) (av : List Value) (r : Option Value) (d : Nat) : Prop := Met l y (Cond.code y bytes maxL ret :: ov_T) { frames := d, cells := 0, slots := 0, locals := 64 * d } (va_Pc av (sg_Z z aS aV fm)) (sg_Q r) 0 0 (fun _ => False)
theorem sg_met {l : Launch} {z aS aV : Nat} {fm : Value} {y : MethodName} {bytes : ByteArray} {maxL : Nat} {ret : Option FieldType} {av : List Value} {r : Option Value} {d : Nat} (hp : plainName y.cls = true)
    (body : ∀ (p : Program) (e : Env) (R : Room) (s : State) (m : MethodId) (below : List Frame) (meth : Method) (c : Code), CallFix p m c bytes maxL s av.toArray ov_T y.cls → meth.sig.returnType = ret → meth.locks = false → sg_Z z aS aV fm s → d ≤ R.frames → 64 * d ≤ R.locals → W p l e R s m av.toArray below meth c s.heap [] 0 0 (MQ below (sg_Q r) av.toArray s 0 0 (fun _ => False)) (F0 m 0 ((lg_sl av ++ List.replicate (maxL - (lg_sl av).length) Slot.unset).toArray) [])) : sg_M l z aS aV fm y bytes maxL ret av r d := by
  refine Met.ofW (cc := bytes) (maxL := maxL) (ret := ret) hp rfl ?_
  intro p e s m args below meth c s₁ B hml hv
  obtain ⟨rfl, hz⟩ := hv
  have hts := atoms_spec (ws := Cond.code y bytes maxL ret :: ov_T) B.pre
  have hown : s.vm.findClass y.cls = some m.cls := findClass_of_methodNamed B.named
  rw [lg_entry_eq]
  exact body p e _ s m below meth c ⟨B.exec, B.bytes, hml, hown, fun w hw => hts w (List.mem_cons_of_mem _ hw)⟩ B.returns B.notSynchronized hz (Nat.le_refl _) (Nat.le_refl _)
section SGB
variable {p : Program} {l : Launch} {e : Env} {R : Room} {s : State} {m : MethodId} {args : Array Value} {below : List Frame} {meth : Method} {c : Code} {H : Heap} {locs : List Loc} {cells slots : Nat} {Q : State → Prop} {A : Nat → Prop} {pc : Nat} {ls : Array Slot} {st0 rest : List Value} {av : Array Value}
theorem sg_behind {r : Option Value} (hr : va_Run p l e R s m args below meth c H locs cells slots 0 0 (F0 m pc ls st0) rest (sg_Q r av) (fun _ => False)) (hS : va_S A s.heap H locs)
    (kk : ∀ (H1 : Heap) (locs1 : List Loc), (∀ q : Nat, q < H.size → H1[q]? = H[q]?) → H.size ≤ H1.size → va_S A s.heap H1 locs1 → W p l e R s m args below meth c H1 locs1 cells slots Q (F0 m (pc + 3) ls (r.toList ++ rest))) : W p l e R s m args below meth c H locs cells slots Q (F0 m pc ls st0) := by
  intro T hT X
  obtain ⟨v, st₀, t, T', Lq, h0, X', hL, e1, e2, ⟨ho, hz, hk⟩, st⟩ := hr T hT X
  cases ho
  rw [h0] at hz hk
  have hk' : ∀ q : Nat, q < H.size → T'.heap[q]? = H[q]? := fun q hq => by rw [e1]; exact hk q hq (fun h => h)
  have hz' : H.size ≤ T'.heap.size := by rw [e1]; exact hz
  obtain ⟨t2, a1, b1⟩ := kk T'.heap (locs ++ Lq) hk' hz' ⟨Nat.le_trans hS.1 hz', fun q g1 g2 => (hk' q (Nat.lt_of_lt_of_le g1 hS.1)).trans (hS.2.1 q g1 g2), fun q hq => by
      rcases List.mem_append.mp hq with h | h
      · exact hS.2.2 q h
      · exact (hL q h).elim⟩ T' rfl X'
  exact ⟨t2, st t2 a1, b1⟩
theorem sg_behind1 {v : Value} (hr : va_Run p l e R s m args below meth c H locs cells slots 0 0 (F0 m pc ls st0) rest (sg_Q (some v) av) (fun _ => False)) (hS : va_S A s.heap H locs)
    (kk : ∀ (H1 : Heap) (locs1 : List Loc), (∀ q : Nat, q < H.size → H1[q]? = H[q]?) → H.size ≤ H1.size → va_S A s.heap H1 locs1 → W p l e R s m args below meth c H1 locs1 cells slots Q (F0 m (pc + 3) ls (v :: rest))) : W p l e R s m args below meth c H locs cells slots Q (F0 m pc ls st0) := sg_behind hr hS kk
theorem sg_behind0 (hr : va_Run p l e R s m args below meth c H locs cells slots 0 0 (F0 m pc ls st0) rest (sg_Q none av) (fun _ => False)) (hS : va_S A s.heap H locs)
    (kk : ∀ (H1 : Heap) (locs1 : List Loc), (∀ q : Nat, q < H.size → H1[q]? = H[q]?) → H.size ≤ H1.size → va_S A s.heap H1 locs1 → W p l e R s m args below meth c H1 locs1 cells slots Q (F0 m (pc + 3) ls rest)) : W p l e R s m args below meth c H locs cells slots Q (F0 m pc ls st0) := sg_behind hr hS kk
/-- a virtual call on the text -/
theorem sg_callV {z aS aV : Nat} {fm : Value} {own : String} {index nL d n maxL : Nat} {cc bytes : ByteArray} {y : MethodName} {ret : Option FieldType} {As : List Value} {r : Option Value} (hfix : CallFix p m c cc nL s args ov_T own) (hM : sg_M l z aS aV fm y bytes maxL ret (Value.ref aS :: As) r d) (hcl : y.cls = "java/lang/String") (hcode : Cond.code y bytes maxL ret ∈ ov_T) (hl : (Cond.methodLink own index y).before args s = true) (hi : Cond.instanceMethod y ∈ ov_T) (hse : Cond.selects "java/lang/String" y y ∈ ov_T) (hd : (parseMethodDescriptor y.desc).map (fun d => d.parameters.length) = some n) (hmx : maxL ≤ 40)
    (hz : sg_Z z aS aV fm s) (hS : va_S (fun q => z ≤ q) s.heap H locs) (hfr : d + 1 ≤ R.frames) (hlo : 64 * (d + 1) ≤ R.locals) (hc : cells ≤ R.cells) (hs : slots ≤ R.slots) (hn : As.length = n) (hsz : ls.size = nL) (hst : st0 = As.reverse ++ .ref aS :: rest) (hw : (rest.map fun v => v.category).sum ≤ 8) (hdg : decode cc pc = .ok (.invokevirtual index, 3)) :
    va_Run p l e R s m args below meth c H locs cells slots 0 0 (F0 m pc ls st0) rest (sg_Q r (Value.ref aS :: As).toArray) (fun _ => False) := by
  obtain ⟨hx, hb, hml, hown, hts⟩ := id hfix
  have hz0 := hz.2.2.2.2.2.2.2.2
  obtain ⟨cell, g1, g2, g3, -⟩ := hz.2.1.kept hS.2.1
  exact va_runV (n := n) (C := "java/lang/String") (b := aS) (As := As) hfix hM ⟨callB_of n hts (sg_gin hcode) rfl rfl rfl (by rw [hcl]; exact hts _ sw_iS) hl ⟨by rw [hcl]; decide, by rw [hcl]; decide, hd⟩ ⟨hfr, by show 8 + (maxL + 11) + 64 * d ≤ R.locals; omega⟩, hts _ hi, hts _ hse⟩ ⟨sg_blind, ⟨cell, g1, g2, g3⟩, fun U hU hW => ⟨rfl, sg_HZ s U hz hW (fun q hq => by rw [hU]; exact hS.2.1 q (by omega) (by omega))⟩⟩ rfl hn hsz hst (lv_room hw) hdg ⟨hc, hs⟩
/-- a static call -/
theorem sg_callS {z aS aV : Nat} {fm : Value} {own : String} {index nL d n maxL : Nat} {cc bytes : ByteArray} {y : MethodName} {ret : Option FieldType} {As : List Value} {r : Option Value} (hfix : CallFix p m c cc nL s args ov_T own) (hM : sg_M l z aS aV fm y bytes maxL ret As r d) (hini : Cond.initialized y.cls ∈ ov_T) (hcode : Cond.code y bytes maxL ret ∈ ov_T) (hl : Cond.methodLink own index y ∈ ov_T) (hi : Cond.static y ∈ ov_T) (hd : y.cls ≠ "java/lang/invoke/MethodHandle" ∧ y.cls ≠ "java/lang/invoke/VarHandle" ∧ (parseMethodDescriptor y.desc).map (fun d => d.parameters.length) = some n) (hmx : maxL ≤ 40)
    (hz : sg_Z z aS aV fm s) (hS : va_S (fun q => z ≤ q) s.heap H locs) (hfr : d + 1 ≤ R.frames) (hlo : 64 * (d + 1) ≤ R.locals) (hc : cells ≤ R.cells) (hs : slots ≤ R.slots) (hn : As.length = n) (hsz : ls.size = nL) (hst : st0 = As.reverse ++ rest) (hw : (rest.map fun v => v.category).sum ≤ 8) (hdg : decode cc pc = .ok (.invokestatic index, 3)) :
    va_Run p l e R s m args below meth c H locs cells slots 0 0 (F0 m pc ls st0) rest (sg_Q r As.toArray) (fun _ => False) := by
  obtain ⟨hx, hb, hml, hown, hts⟩ := id hfix
  have hz0 := hz.2.2.2.2.2.2.2.2
  exact va_runS (n := n) (As := As) hfix hM ⟨callB_of n hts (sg_gin hcode) rfl rfl rfl (hts _ hini) (hts _ hl) hd ⟨hfr, by show 8 + (maxL + 11) + 64 * d ≤ R.locals; omega⟩, hts _ hi⟩ ⟨sg_blind, fun U hU hW => ⟨rfl, sg_HZ s U hz hW (fun q hq => by rw [hU]; exact hS.2.1 q (by omega) (by omega))⟩⟩ rfl hn hsz hst (lv_room hw) hdg ⟨hc, hs⟩
end SGB
