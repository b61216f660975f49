def ov_T : List Cond := lw_tbl.filter goodWord
def ov_isN : Cond → Bool
  | .methodLinkNest _ _ _ _ => true
  | _ => false
def ov_nw : List Cond := lw_tbl.filter ov_isN
/-- how long an instruction is, but for switches -/
def ov_il : Instr → Option Nat
  | .bipush _ | .ldc _ | .iload _ | .aload _ | .istore _ | .astore _ | .newarray _ => some 2
  | .sipush _ | .ldc_w _ | .ldc2_w _ | .iinc _ _ | .ifCond _ _ | .if_icmp _ _ | .ifnull _ | .ifnonnull _ | .goto _ | .getfield _ | .putfield _ | .getstatic _ | .invokevirtual _ | .invokespecial _ | .invokestatic _ | .new _ | .anewarray _ => some 3
  | .tableswitch _ _ _ _ | .lookupswitch _ _ => none
  | _ => some 1
/-- a switch is as decode gives it -/
def ov_iw : Instr → Bool
  | .tableswitch _ lo hi offs => decide (lo ≤ hi) && decide (offs.size = (hi - lo + 1).toNat)
  | .iconst n => decide (Int32.ofInt n = ov_k n)
  | .iinc _ n => decide (Int32.ofInt n = ov_k n)
  | .bipush n => decide ((Int8.ofInt n).toInt32 = ov_k n)
  | .sipush n => decide ((Int16.ofInt n).toInt32 = ov_k n)
  | .lookupswitch _ ps => (ps.toList.zip (ps.toList.drop 1)).all (fun (a, next) => a.1 < next.1)
  | _ => true
/-- a method's rows are its bytes' -/
def ov_ok0 (y : ov_M) : Prop := (∀ pc i n, ov_lk pc y.2.2.2.2.2 = some (i, n) → decode y.2.2.1 pc = .ok (i, n) ∧ (∀ k, ov_il i = some k → n = k) ∧ ov_iw i = true) ∧ y.2.1.cls = ov_cn y.1
/-- the number of words that a method takes off the stack, its object apart -/
def ov_na (m : ov_M) : Nat := match parseMethodDescriptor m.2.1.desc with
  | some d => d.parameters.length
  | none => 0
def ov_okc (y : ov_M) : Prop := ov_ok0 y ∧ Cond.code y.2.1 y.2.2.1 y.2.2.2.1 y.2.2.2.2.1 ∈ ov_T ∧ plainName y.2.1.cls = true ∧ (y.2.1.cls ≠ "java/lang/invoke/MethodHandle" ∧ y.2.1.cls ≠ "java/lang/invoke/VarHandle" ∧ (parseMethodDescriptor y.2.1.desc).map (fun d => d.parameters.length) = some (ov_na y)) ∧ Cond.initialized y.2.1.cls ∈ ov_T ∧ y.2.2.2.1 ≤ 40
def ov_dec (b : ByteArray) (l : List (Nat × Instr × Nat)) : Bool := l.all (fun q => match decode b q.1 with
  | .ok r => decide (r = q.2) && (ov_iw q.2.1 && match ov_il q.2.1 with
    | some k => Nat.beq q.2.2 k
    | none => true)
  | .error _ => false)
theorem ov_lk_mem {α : Type} {i : Nat} {v : α} : ∀ {l : List (Nat × α)}, ov_lk i l = some v → (i, v) ∈ l
  | [], h => by cases h
  | (k, w) :: l, h => by
    unfold ov_lk at h
    split at h
    · rename_i e
      cases h
      have := Nat.eq_of_beq_eq_true e
      subst this
      exact List.mem_cons_self
    · exact List.mem_cons_of_mem _ (ov_lk_mem h)
theorem ov_dec_ok {b : ByteArray} {l : List (Nat × Instr × Nat)} (h : ov_dec b l = true) (pc : Nat) (i : Instr) (n : Nat) (g : ov_lk pc l = some (i, n)) : decode b pc = .ok (i, n) ∧ (∀ k, ov_il i = some k → n = k) ∧ ov_iw i = true := by
  have h1 := List.all_eq_true.mp h (pc, i, n) (ov_lk_mem g)
  dsimp only at h1
  split at h1
  · rename_i r e
    rw [Bool.and_eq_true, Bool.and_eq_true] at h1
    refine ⟨by rw [e, of_decide_eq_true h1.1], fun k hk => ?_, h1.2.1⟩
    have h2 := h1.2.2
    rw [hk] at h2
    exact Nat.eq_of_beq_eq_true h2
  · cases h1
theorem ov_inT {w : Cond} (h : w ∈ lw_tbl) (g : goodWord w = true) : w ∈ ov_T := List.mem_filter.mpr ⟨h, g⟩
