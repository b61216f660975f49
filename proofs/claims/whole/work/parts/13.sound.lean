section OVF
variable {l : Launch} {D : va_G} {cA : Nat → ClassId} {z bS tS aS L : Nat} {xs : Nat → Int32} {ZS : State → Prop}
/-- String's two methods on the one text, and its loading: rules of the machine -/
def ov_HS (l : Launch) (z aS : Nat) (ZS : State → Prop) : Prop := ∀ (p : Program) (e : Env) (R : Room) (s : State) (m : MethodId) (args : Array Value) (below : List Frame) (meth : Method) (c : Code) (H : Heap) (locs : List Loc) (cells slots : Nat) (Q : State → Prop) (cc : ByteArray) (nL pc : Nat) (ls : Array Slot) (rest : List Value),
  CallFix p m c cc nL s args ov_T "OneEye$Reader" → ZS s → va_S (fun q => z ≤ q) s.heap H locs → ls.size = nL → z ≤ s.heap.size →
  (decode cc pc = .ok (.ldc 78, 2) → W p l e R s m args below meth c H locs cells slots Q (F0 m (pc + 2) ls (.ref aS :: rest)) → W p l e R s m args below meth c H locs cells slots Q (F0 m pc ls rest)) ∧
  (∀ i, (Cond.methodLink "OneEye$Reader" i ⟨"java/lang/String", "length", "()I"⟩).before args s = true → (rest.map fun v => v.category).sum ≤ 8 → 4 ≤ R.frames → 256 ≤ R.locals → cells ≤ R.cells → slots ≤ R.slots → decode cc pc = .ok (.invokevirtual i, 3) → (∀ (H1 : Heap) (locs1 : List Loc), (∀ q : Nat, q < H.size → H1[q]? = H[q]?) → H.size ≤ H1.size → va_S (fun q => z ≤ q) s.heap H1 locs1 → W p l e R s m args below meth c H1 locs1 cells slots Q (F0 m (pc + 3) ls (.int 50 :: rest))) → W p l e R s m args below meth c H locs cells slots Q (F0 m pc ls (.ref aS :: rest))) ∧
  (∀ i (x : Int32), (Cond.methodLink "OneEye$Reader" i ⟨"java/lang/String", "charAt", "(I)C"⟩).before args s = true → (rest.map fun v => v.category).sum ≤ 8 → 7 ≤ R.frames → 448 ≤ R.locals → cells ≤ R.cells → slots ≤ R.slots → ov_ib x 50 → decode cc pc = .ok (.invokevirtual i, 3) → (∀ (H1 : Heap) (locs1 : List Loc), (∀ q : Nat, q < H.size → H1[q]? = H[q]?) → H.size ≤ H1.size → va_S (fun q => z ≤ q) s.heap H1 locs1 → W p l e R s m args below meth c H1 locs1 cells slots Q (F0 m (pc + 3) ls (.int (ov_wd (ov_ix x)) :: rest))) → W p l e R s m args below meth c H locs cells slots Q (F0 m pc ls (.int x :: .ref aS :: rest)))
/-- what the string world is kept by -/
def ov_HZ (z : Nat) (ZS : State → Prop) : Prop := ∀ s U : State, ZS s → s.WarmedH U.vm → (∀ q : Nat, q < z → U.heap[q]? = s.heap[q]?) → ZS U
theorem ov_wk_moved (hZ : ov_HZ z ZS) {s U : State} (h : ov_wk D cA z bS tS L xs ZS s) (hW : s.WarmedH U.vm) {locs : List Loc} (hS : va_S (fun q => z ≤ q) s.heap U.heap locs) : ov_wk D cA z bS tS L xs ZS U := by
  obtain ⟨h1, h2, h3, h4, h5, h6, h7, h8, h9, h10⟩ := h
  have hq : ∀ q : Nat, q < z → U.heap[q]? = s.heap[q]? := fun q hq => hS.2.1 q (by omega) (by simpa using hq)
  refine ⟨va_K.moved hW.alike h1, fun w hw => ?_, h3.moved hW.alike, h4.moved hW.alike, (h5.moved hW.alike).kept (fun a h1 h2 => hS.2.1 a h1 h2), (h6.moved hW.alike).kept (fun a h1 h2 => hS.2.1 a h1 h2), (h7.moved hW.alike).kept (hq bS h8), h8, Nat.le_trans h9 hS.1, hZ s U h10 hW hq⟩
  have h := h2 w hw
  have hn := (List.mem_filter.mp hw).2
  cases w <;> first | exact va_Nw.warmM hW h | cases hn
/-- a callee by its meaning -/
theorem ov_met (hZ : ov_HZ z ZS) {mo : Bool} {d a b : Nat} {y : ov_M} {as : List ov_A} {S : ov_S} {Q : ov_Q} {ad : Nat → Nat → Nat} (hok : ov_okc y) (hea : (ov_ea as).length ≤ y.2.2.2.1) (h : ov_sem l D cA z bS tS aS L xs ZS mo mo d a b y 0 (ov_en y.2.2.2.1 as) [] S Q) (hav : ∀ v ∈ as, ov_av S v) (hF : mo = true → ov_full S) :
    Met l y.2.1 (Cond.code y.2.1 y.2.2.1 y.2.2.2.1 y.2.2.2.2.1 :: ov_T) { frames := d, cells := a, slots := b, locals := 64 * d } (va_Pc (as.map (ov_rv ad)) (fun U => ov_wk D cA z bS tS L xs ZS U ∧ ov_rep D cA z bS tS aS L xs ad S U.heap)) (ov_qc D cA z bS tS aS L xs ad S mo Q) a b (fun q => z ≤ q) := by
  refine Met.ofW (cc := y.2.2.1) (maxL := y.2.2.2.1) (ret := y.2.2.2.2.1) hok.2.2.1 rfl ?_
  intro p e s m args below meth c s₁ B hml hv
  obtain ⟨rfl, hwk, hR⟩ := hv
  have hts := atoms_spec (ws := Cond.code y.2.1 y.2.2.1 y.2.2.2.1 y.2.2.2.2.1 :: ov_T) B.pre
  have hown : s.vm.findClass (ov_cn y.1) = some m.cls := by rw [← hok.1.2]; exact findClass_of_methodNamed B.named
  rw [lg_entry_eq]
  refine h p e s m _ below meth c _ a b ⟨hok.1, ⟨B.exec, B.bytes, hml, hown, fun w hw => hts w (List.mem_cons_of_mem _ hw)⟩, B.returns, B.notSynchronized, (name_of_methodNamed B.named B.method).1, hwk, Nat.le_refl _, Nat.le_refl _, Nat.le_refl _, Nat.le_refl _⟩ s.heap [] 0 0 ad _ va_S.rf hR hF (ov_entry hea) (ov_en_av hav) (fun v hv => by cases hv) (by omega) (by omega)
theorem ov_blind {av : List Value} {ad : Nat → Nat → Nat} {S : ov_S} (hZ : ov_HZ z ZS) : FrameBlind (va_Pc av (fun U => ov_wk D cA z bS tS L xs ZS U ∧ ov_rep D cA z bS tS aS L xs ad S U.heap)) := by
  rintro a U g mk ⟨h1, h2, h3⟩
  refine ⟨h1, ?_, h3⟩
  obtain ⟨k1, k2, k3, k4, k5, k6, k7, k8, k9, k10⟩ := h2
  refine ⟨va_K.moved (u := U) (U := U.calling g mk a) (Vm.Alike.refl U.vm) k1, fun w hw => ?_, k3.moved (U := U.calling g mk a) (Vm.Alike.refl U.vm), k4.moved (U := U.calling g mk a) (Vm.Alike.refl U.vm), k5.moved (U := U.calling g mk a) (Vm.Alike.refl U.vm), k6.moved (U := U.calling g mk a) (Vm.Alike.refl U.vm), k7.moved (U := U.calling g mk a) (Vm.Alike.refl U.vm), k8, k9, hZ U (U.calling g mk a) k10 ?_ (fun _ _ => rfl)⟩
  · have h := k2 w hw
    have hn := (List.mem_filter.mp hw).2
    cases w <;> first | exact va_Nw.same rfl (u := U) (U := U.calling g mk a) rfl h | cases hn
  · exact State.WarmedH.refl U
end OVF
