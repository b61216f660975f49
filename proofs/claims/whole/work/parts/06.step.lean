/-- room for a call's locals and for what stays on the stack below it -/
def ov_rm (m : Nat) (as rest : List ov_A) : Bool := Nat.ble (ov_ea as).length m && Nat.ble (ov_ea rest).length 8
/-- a call: the callee from its entry, then the caller behind it -/
def ov_call (Xc X : ov_X) (mo0 mo : Bool) (d a b : Nat) (y : ov_M) (pc : Nat) (ls : List (Option ov_A)) (S : ov_S) (Q : ov_Q) (m : ov_M) (as rest : List ov_A) : Prop := match ov_rm m.2.2.2.1 as rest with
  | true => 0 < d ∧ match mo with
    | true => Xc true true (d - 1) 0 0 m 0 (ov_en m.2.2.2.1 as) [] S (fun r S' => X mo0 true d a b y (pc + 3) ls (r.toList ++ rest) S' Q)
    | false => ∃ a' b' : Nat, a' ≤ a ∧ b' ≤ b ∧ Xc false false (d - 1) a' b' m 0 (ov_en m.2.2.2.1 as) [] S (fun r S' => X mo0 false d (a - a') (b - b') y (pc + 3) ls (r.toList ++ rest) S' Q)
  | false => False
/-- a call that isn't walked: room for it -/
def ov_rs (rest : List ov_A) (P : Prop) : Prop := match Nat.ble (ov_ea rest).length 8 with
  | true => P
  | false => False
def ov_ret (mo0 mo : Bool) (P : Prop) : Prop := match mo0, mo with
  | true, true => P
  | false, false => P
  | _, _ => False
/-- a field is read -/
def ov_get (mo : Bool) (S : ov_S) (r i ci k : Nat) (K : ov_A → Prop) : Prop := match ov_sh r with
  | .inl (c, fks) => match Nat.beq c ci with
    | true => match fks[k]? with
      | some (0, _, _) => K (.inl (ov_g S r i k))
      | some (1, _, _) => K (.inl (ov_g S r i k))
      | some (2, q, g) => match mo with
        | true => K (.inr (.inr (true, q, g i)))
        | false => K (.inr (.inr (ov_g S r i k != 0, q, g i)))
      | some (3, q, g) => K (.inr (.inr (ov_g S r i k != 0, q, g i)))
      | _ => False
    | false => False
  | .inr _ => False
/-- a field is written -/
def ov_put (mo : Bool) (y : ov_M) (S : ov_S) (r i ci k : Nat) (v : ov_A) (K : ov_S → Prop) : Prop := match ov_sh r with
  | .inl (c, fks) => match Nat.beq c ci with
    | true => match fks[k]?, v with
      | some (0, _, _), .inl x => K (ov_w S r i k x)
      | some (1, _, _), .inl x => (x = 0 ∨ x = 1) ∧ K (ov_w S r i k x)
      | some (2, q, g), .inr (.inr (true, q', j)) => mo = false ∧ y.2.1.name = "<init>" ∧ y.1 = c ∧ q' = q ∧ j = g i ∧ K (ov_w S r i k 1)
      | some (3, q, g), .inr (.inr (true, q', j)) => q' = q ∧ j = g i ∧ K (ov_w S r i k 1)
      | some (3, _, _), .inr (.inr (false, _, _)) => K (ov_w S r i k 0)
      | _, _ => False
    | false => False
  | .inr _ => False
def ov_arI (t : Nat) (S : ov_S) (r : Nat) (x : Int32) (K : Prop) : Prop := match ov_sh r with
  | .inr (t', n, _, _) => match Nat.beq t' t with
    | true => ov_ib x n ∧ K
    | false => False
  | .inl _ => False
def ov_iald (S : ov_S) (r i : Nat) (x : Int32) (K : Int32 → Prop) : Prop := match ov_sh r with
  | .inr (0, n, _, _) => ov_ib x n ∧ K (ov_g S r i (ov_ix x))
  | .inr (10, _, _, _) => i = 0 ∧ ov_ib x S.2.2.2.1 ∧ K (S.2.2.2.2 (ov_ix x))
  | _ => False
def ov_lald (S : ov_S) (r i : Nat) (x : Int32) (K : Int64 → Prop) : Prop := match ov_sh r with
  | .inr (2, n, _, _) => ov_ib x n ∧ K (ov_gl S r i (ov_ix x))
  | .inr (11, _, _, _) => i = 0 ∧ ov_ib x 6 ∧ K (ov_sw (ov_ix x))
  | _ => False
def ov_aald (S : ov_S) (r i : Nat) (x : Int32) (K : ov_A → Prop) : Prop := match ov_sh r with
  | .inr (3, n, q, g) => ov_ib x n ∧ K (.inr (.inr (ov_g S r i (ov_ix x) != 0, q, g i (ov_ix x))))
  | .inr (4, n, q, g) => ov_ib x n ∧ K (.inr (.inr (ov_g S r i (ov_ix x) != 0, q, g i (ov_ix x))))
  | _ => False
def ov_aast (S : ov_S) (r i : Nat) (x : Int32) (q' j : Nat) (K : ov_S → Prop) : Prop := match ov_sh r with
  | .inr (3, n, q, g) => ov_ib x n ∧ q' = q ∧ j = g i (ov_ix x) ∧ K (ov_w S r i (ov_ix x) 1)
  | .inr (4, n, q, g) => ov_ib x n ∧ q' = q ∧ j = g i (ov_ix x) ∧ K (ov_w S r i (ov_ix x) 1)
  | _ => False
def ov_len (S : ov_S) (r : Nat) (K : Int32 → Prop) : Prop := match ov_sh r with
  | .inr (10, _, _, _) => K (Int32.ofNat S.2.2.2.1)
  | .inr (0, n, _, _) => K (Int32.ofNat n)
  | .inr (2, n, _, _) => K (Int32.ofNat n)
  | _ => False
/-- a cell is made: any that isn't there -/
def ov_newO (S : ov_S) (a b ci : Nat) (K : Nat → Nat → Nat → Prop) : Prop := ∃ (r i : Nat) (fks : List (Nat × Nat × (Nat → Nat))), ov_sh r = .inl (ci, fks) ∧ (r, i) ∉ S.2.2.1 ∧ 1 ≤ a ∧ fks.length ≤ b ∧ K r i fks.length
def ov_newA (S : ov_S) (a b t : Nat) (x : Int32) (K : Nat → Nat → Nat → Prop) : Prop := ∃ (r i n q : Nat) (g : Nat → Nat → Nat), ov_sh r = .inr (t, n, q, g) ∧ x = Int32.ofNat n ∧ (r, i) ∉ S.2.2.1 ∧ 1 ≤ a ∧ n ≤ b ∧ K r i n
def ov_copy (S : ov_S) (r i r1 i1 : Nat) (sp dp n : Int32) (K : ov_S → Prop) : Prop := match ov_sh r, ov_sh r1 with
  | .inr (0, n0, _, _), .inr (0, n1, _, _) => (¬ sp < 0 ∧ ¬ dp < 0 ∧ ¬ n < 0 ∧ ov_ix sp + ov_ix n ≤ n0 ∧ ov_ix dp + ov_ix n ≤ n1) ∧ K (ov_wa S r1 i1 (va_cpy (S.1 r i) (S.1 r1 i1) (ov_ix sp) (ov_ix dp) (ov_ix n)))
  | _, _ => False
/-- one instruction: 'Xc' of a callee, 'X' of the same method behind it -/
def ov_F (Xc X : ov_X) (mo0 mo : Bool) (d a b : Nat) (y : ov_M) (pc : Nat) (ls : List (Option ov_A)) (st : List ov_A) (S : ov_S) (Q : ov_Q) : Prop :=
  match ov_lk pc y.2.2.2.2.2 with
  | none => False
  | some (ins, len) => match ins with
    | .iconst n => X mo0 mo d a b y (pc + 1) ls (.inl (ov_k n) :: st) S Q
    | .bipush n => X mo0 mo d a b y (pc + 2) ls (.inl (ov_k n) :: st) S Q
    | .sipush n => X mo0 mo d a b y (pc + 3) ls (.inl (ov_k n) :: st) S Q
    | .lconst n => X mo0 mo d a b y (pc + 1) ls (.inr (.inl (Int64.ofNat n.val)) :: st) S Q
    | .ldc i => match ov_lc y.1 i with
      | some v => X mo0 mo d a b y (pc + 2) ls (.inl v :: st) S Q
      | none => match Nat.beq y.1 5 && Nat.beq i 78 with
        | true => X mo0 mo d a b y (pc + 2) ls (.inr (.inr (true, 18, 0)) :: st) S Q
        | false => False
    | .ldc_w i => match ov_lc y.1 i with
      | some v => X mo0 mo d a b y (pc + 3) ls (.inl v :: st) S Q
      | none => False
    | .ldc2_w i => match ov_lL y.1 i with
      | some v => X mo0 mo d a b y (pc + 3) ls (.inr (.inl v) :: st) S Q
      | none => False
    | .aconst_null => X mo0 mo d a b y (pc + 1) ls (.inr (.inr (false, 0, 0)) :: st) S Q
    | .iload_n k => ov_ldI ls k.val fun x => X mo0 mo d a b y (pc + 1) ls (.inl x :: st) S Q
    | .iload i => ov_ldI ls i fun x => X mo0 mo d a b y (pc + 2) ls (.inl x :: st) S Q
    | .lload_n k => ov_ldL ls k.val fun x => X mo0 mo d a b y (pc + 1) ls (.inr (.inl x) :: st) S Q
    | .aload_n k => ov_ldR ls k.val fun x => X mo0 mo d a b y (pc + 1) ls (.inr (.inr x) :: st) S Q
    | .aload i => ov_ldR ls i fun x => X mo0 mo d a b y (pc + 2) ls (.inr (.inr x) :: st) S Q
    | .istore_n k => ov_pI st fun x t => ov_sto ls k.val (.inl x) fun ls => X mo0 mo d a b y (pc + 1) ls t S Q
    | .istore i => ov_pI st fun x t => ov_sto ls i (.inl x) fun ls => X mo0 mo d a b y (pc + 2) ls t S Q
    | .astore_n k => ov_pN st fun s r i t => ov_sto ls k.val (.inr (.inr (s, r, i))) fun ls => X mo0 mo d a b y (pc + 1) ls t S Q
    | .astore j => ov_pN st fun s r i t => ov_sto ls j (.inr (.inr (s, r, i))) fun ls => X mo0 mo d a b y (pc + 2) ls t S Q
    | .iinc i n => ov_ldI ls i fun x => ov_sto ls i (.inl (x + ov_k n)) fun ls => X mo0 mo d a b y (pc + 3) ls st S Q
    | .iadd => ov_pI st fun w t => ov_pI t fun v t => X mo0 mo d a b y (pc + 1) ls (.inl (v + w) :: t) S Q
    | .isub => ov_pI st fun w t => ov_pI t fun v t => X mo0 mo d a b y (pc + 1) ls (.inl (v - w) :: t) S Q
    | .imul => ov_pI st fun w t => ov_pI t fun v t => X mo0 mo d a b y (pc + 1) ls (.inl (v * w) :: t) S Q
    | .idiv => ov_pI st fun w t => ov_pI t fun v t => (¬ w = 0) ∧ X mo0 mo d a b y (pc + 1) ls (.inl (v / w) :: t) S Q
    | .irem => ov_pI st fun w t => ov_pI t fun v t => (¬ w = 0) ∧ X mo0 mo d a b y (pc + 1) ls (.inl (v - v / w * w) :: t) S Q
    | .iand => ov_pI st fun w t => ov_pI t fun v t => X mo0 mo d a b y (pc + 1) ls (.inl (v &&& w) :: t) S Q
    | .ior => ov_pI st fun w t => ov_pI t fun v t => X mo0 mo d a b y (pc + 1) ls (.inl (v ||| w) :: t) S Q
    | .ixor => ov_pI st fun w t => ov_pI t fun v t => X mo0 mo d a b y (pc + 1) ls (.inl (v ^^^ w) :: t) S Q
    | .ishl => ov_pI st fun w t => ov_pI t fun v t => X mo0 mo d a b y (pc + 1) ls (.inl (v <<< (w &&& 31)) :: t) S Q
    | .ishr => ov_pI st fun w t => ov_pI t fun v t => X mo0 mo d a b y (pc + 1) ls (.inl (v >>> (w &&& 31)) :: t) S Q
    | .iushr => ov_pI st fun w t => ov_pI t fun v t => X mo0 mo d a b y (pc + 1) ls (.inl (v.toUInt32 >>> (w.toUInt32 &&& Int32.toUInt32 31)).toInt32 :: t) S Q
    | .land => ov_pL st fun w t => ov_pL t fun v t => X mo0 mo d a b y (pc + 1) ls (.inr (.inl (v &&& w)) :: t) S Q
    | .lor => ov_pL st fun w t => ov_pL t fun v t => X mo0 mo d a b y (pc + 1) ls (.inr (.inl (v ||| w)) :: t) S Q
    | .lxor => ov_pL st fun w t => ov_pL t fun v t => X mo0 mo d a b y (pc + 1) ls (.inr (.inl (v ^^^ w)) :: t) S Q
    | .lshl => ov_pI st fun w t => ov_pL t fun v t => X mo0 mo d a b y (pc + 1) ls (.inr (.inl (v <<< (w.toInt64 &&& 63))) :: t) S Q
    | .lushr => ov_pI st fun w t => ov_pL t fun v t => X mo0 mo d a b y (pc + 1) ls (.inr (.inl (v.toUInt64 >>> (w.toInt64.toUInt64 &&& Int64.toUInt64 63)).toInt64) :: t) S Q
    | .lcmp => ov_pL st fun w t => ov_pL t fun v t => X mo0 mo d a b y (pc + 1) ls (.inl (lg_cmp v w) :: t) S Q
    | .pop => ov_pI st fun _ t => X mo0 mo d a b y (pc + 1) ls t S Q
    | .dup => match st with
      | .inl x :: t => X mo0 mo d a b y (pc + 1) ls (.inl x :: .inl x :: t) S Q
      | .inr (.inr x) :: t => X mo0 mo d a b y (pc + 1) ls (.inr (.inr x) :: .inr (.inr x) :: t) S Q
      | _ => False
    | .dup2 => match st with
      | .inl x :: .inr (.inr v) :: t => X mo0 mo d a b y (pc + 1) ls (.inl x :: .inr (.inr v) :: .inl x :: .inr (.inr v) :: t) S Q
      | _ => False
    | .ifCond c off => ov_pI st fun x t => match c with
      | .eq => ov_jp pc off fun p => (x = 0 → X mo0 mo d a b y p ls t S Q) ∧ (¬ x = 0 → X mo0 mo d a b y (pc + 3) ls t S Q)
      | .ne => ov_jp pc off fun p => (x ≠ 0 → X mo0 mo d a b y p ls t S Q) ∧ (¬ x ≠ 0 → X mo0 mo d a b y (pc + 3) ls t S Q)
      | .lt => ov_jp pc off fun p => (x < 0 → X mo0 mo d a b y p ls t S Q) ∧ (¬ x < 0 → X mo0 mo d a b y (pc + 3) ls t S Q)
      | .ge => ov_jp pc off fun p => (0 ≤ x → X mo0 mo d a b y p ls t S Q) ∧ (¬ 0 ≤ x → X mo0 mo d a b y (pc + 3) ls t S Q)
      | .gt => ov_jp pc off fun p => (0 < x → X mo0 mo d a b y p ls t S Q) ∧ (¬ 0 < x → X mo0 mo d a b y (pc + 3) ls t S Q)
      | .le => ov_jp pc off fun p => (x ≤ 0 → X mo0 mo d a b y p ls t S Q) ∧ (¬ x ≤ 0 → X mo0 mo d a b y (pc + 3) ls t S Q)
    | .if_icmp c off => ov_pI st fun w t => ov_pI t fun x t => match c with
      | .eq => ov_jp pc off fun p => (x = w → X mo0 mo d a b y p ls t S Q) ∧ (¬ x = w → X mo0 mo d a b y (pc + 3) ls t S Q)
      | .ne => ov_jp pc off fun p => (x ≠ w → X mo0 mo d a b y p ls t S Q) ∧ (¬ x ≠ w → X mo0 mo d a b y (pc + 3) ls t S Q)
      | .lt => ov_jp pc off fun p => (x < w → X mo0 mo d a b y p ls t S Q) ∧ (¬ x < w → X mo0 mo d a b y (pc + 3) ls t S Q)
      | .ge => ov_jp pc off fun p => (w ≤ x → X mo0 mo d a b y p ls t S Q) ∧ (¬ w ≤ x → X mo0 mo d a b y (pc + 3) ls t S Q)
      | .gt => ov_jp pc off fun p => (w < x → X mo0 mo d a b y p ls t S Q) ∧ (¬ w < x → X mo0 mo d a b y (pc + 3) ls t S Q)
      | .le => ov_jp pc off fun p => (x ≤ w → X mo0 mo d a b y p ls t S Q) ∧ (¬ x ≤ w → X mo0 mo d a b y (pc + 3) ls t S Q)
    | .ifnull off => ov_pN st fun s _ _ t => match s with
      | true => X mo0 mo d a b y (pc + 3) ls t S Q
      | false => ov_jp pc off fun p => X mo0 mo d a b y p ls t S Q
    | .ifnonnull off => ov_pN st fun s _ _ t => match s with
      | true => ov_jp pc off fun p => X mo0 mo d a b y p ls t S Q
      | false => X mo0 mo d a b y (pc + 3) ls t S Q
    | .goto off => ov_jp pc off fun p => X mo0 mo d a b y p ls st S Q
    | .tableswitch dflt lo hi offs => ov_pI st fun x t => (x.toInt < lo ∨ hi < x.toInt → ov_jp pc dflt fun p => X mo0 mo d a b y p ls t S Q) ∧ ov_swT x (fun o => ov_jp pc o fun p => X mo0 mo d a b y p ls t S Q) lo offs.toList
    | .lookupswitch dflt ps => ov_pI st fun x t => ov_swL x (fun o => ov_jp pc o fun p => X mo0 mo d a b y p ls t S Q) dflt ps.toList
    | .getfield i => match ov_lf y.1 i with
      | some (ci, k) => ov_pR st fun r j t => ov_get mo S r j ci k fun v => X mo0 mo d a b y (pc + 3) ls (v :: t) S Q
      | none => False
    | .putfield i => match ov_lf y.1 i, st with
      | some (ci, k), v :: t => ov_pR t fun r j t => ov_put mo y S r j ci k v fun S => X mo0 mo d a b y (pc + 3) ls t S Q
      | _, _ => False
    | .getstatic i => match Nat.beq y.1 7 && Nat.beq i 48 with
      | true => X mo0 mo d a b y (pc + 3) ls (.inr (.inr (true, 17, 0)) :: st) S Q
      | false => False
    | .iaload => ov_pI st fun x t => ov_pR t fun r i t => ov_iald S r i x fun v => X mo0 mo d a b y (pc + 1) ls (.inl v :: t) S Q
    | .caload => ov_pI st fun x t => ov_pR t fun r i t => ov_arI 1 S r x (X mo0 mo d a b y (pc + 1) ls (.inl (ov_g S r i (ov_ix x)) :: t) S Q)
    | .laload => ov_pI st fun x t => ov_pR t fun r i t => ov_lald S r i x fun v => X mo0 mo d a b y (pc + 1) ls (.inr (.inl v) :: t) S Q
    | .aaload => ov_pI st fun x t => ov_pR t fun r i t => ov_aald S r i x fun v => X mo0 mo d a b y (pc + 1) ls (v :: t) S Q
    | .iastore => ov_pI st fun v t => ov_pI t fun x t => ov_pR t fun r i t => ov_arI 0 S r x (X mo0 mo d a b y (pc + 1) ls t (ov_w S r i (ov_ix x) v) Q)
    | .castore => ov_pI st fun v t => ov_pI t fun x t => ov_pR t fun r i t => ov_arI 1 S r x (X mo0 mo d a b y (pc + 1) ls t (ov_w S r i (ov_ix x) (vp_nar .char v)) Q)
    | .lastore => ov_pL st fun v t => ov_pI t fun x t => ov_pR t fun r i t => ov_arI 2 S r x (X mo0 mo d a b y (pc + 1) ls t (ov_wl S r i (ov_ix x) v) Q)
    | .aastore => ov_pR st fun q j t => ov_pI t fun x t => ov_pR t fun r i t => ov_aast S r i x q j fun S => X mo0 mo d a b y (pc + 1) ls t S Q
    | .arraylength => ov_pR st fun r _ t => ov_len S r fun v => X mo0 mo d a b y (pc + 1) ls (.inl v :: t) S Q
    | .new i => match mo, ov_ln y.1 i with
      | false, some ci => ov_newO S a b ci fun r j n => X mo0 false d (a - 1) (b - n) y (pc + 3) ls (.inr (.inr (true, r, j)) :: st) (ov_n S r j) Q
      | _, _ => False
    | .newarray t => match mo, t with
      | false, .int => ov_pI st fun x u => ov_newA S a b 0 x fun r j n => X mo0 false d (a - 1) (b - n) y (pc + 2) ls (.inr (.inr (true, r, j)) :: u) (ov_n S r j) Q
      | false, .char => ov_pI st fun x u => ov_newA S a b 1 x fun r j n => X mo0 false d (a - 1) (b - n) y (pc + 2) ls (.inr (.inr (true, r, j)) :: u) (ov_n S r j) Q
      | false, .long => ov_pI st fun x u => ov_newA S a b 2 x fun r j n => X mo0 false d (a - 1) (b - n) y (pc + 2) ls (.inr (.inr (true, r, j)) :: u) (ov_n S r j) Q
      | _, _ => False
    | .anewarray i => match mo, ov_ln y.1 i with
      | false, some 8 => ov_pI st fun x u => ov_newA S a b 3 x fun r j n => X mo0 false d (a - 1) (b - n) y (pc + 3) ls (.inr (.inr (true, r, j)) :: u) (ov_n S r j) Q
      | false, some 3 => ov_pI st fun x u => ov_newA S a b 4 x fun r j n => X mo0 false d (a - 1) (b - n) y (pc + 3) ls (.inr (.inr (true, r, j)) :: u) (ov_n S r j) Q
      | _, _ => False
    | .invokestatic i => match ov_lm y.1 i with
      | some (0, m) => ov_pk (ov_na m) st [] fun as t => ov_call Xc X mo0 mo d a b y pc ls S Q m as t
      | some (3, m) => ov_pk (ov_na m) st [] fun as t => ov_call Xc X mo0 mo d a b y pc ls S Q m as t
      | some (7, _) => ov_pI st fun n t => ov_pI t fun dp t => ov_pR t fun r1 i1 t => ov_pI t fun sp t => ov_pR t fun r i t => ov_rs t (0 < d ∧ ov_copy S r i r1 i1 sp dp n fun S => X mo0 mo d a b y (pc + 3) ls t S Q)
      | some (10, _) => ov_pI st fun w t => ov_pI t fun v t => ov_rs t (0 < d ∧ X mo0 mo d a b y (pc + 3) ls (.inl (if v < w then w else v) :: t) S Q)
      | some (11, _) => ov_pI st fun w t => ov_pI t fun v t => ov_rs t (0 < d ∧ X mo0 mo d a b y (pc + 3) ls (.inl (if w < v then w else v) :: t) S Q)
      | _ => False
    | .invokevirtual i => match ov_lm y.1 i with
      | some (1, m) => ov_pk (ov_na m) st [] fun as t => ov_pR t fun r j t => match ov_sh r with
        | .inl (c, _) => match Nat.beq c m.1 with
          | true => ov_call Xc X mo0 mo d a b y pc ls S Q m (.inr (.inr (true, r, j)) :: as) t
          | false => False
        | .inr _ => False
      | some (4, m) => ov_pk (ov_na m) st [] fun as t => ov_pR t fun r j t => match ov_sh r with
        | .inl (c, _) => match Nat.beq c m.1 with
          | true => ov_call Xc X mo0 mo d a b y pc ls S Q m (.inr (.inr (true, r, j)) :: as) t
          | false => False
        | .inr _ => False
      | some (8, _) => ov_pR st fun r i t => ov_rs t (r = 18 ∧ i = 0 ∧ 3 < d ∧ X mo0 mo d a b y (pc + 3) ls (.inl 50 :: t) S Q)
      | some (9, _) => ov_pI st fun x t => ov_pR t fun r i t => ov_rs t (r = 18 ∧ i = 0 ∧ 6 < d ∧ ov_ib x 50 ∧ X mo0 mo d a b y (pc + 3) ls (.inl (ov_wd (ov_ix x)) :: t) S Q)
      | _ => False
    | .invokespecial i => match ov_lm y.1 i with
      | some (2, m) => ov_pk (ov_na m) st [] fun as t => ov_pR t fun r j t => match ov_sh r with
        | .inl (c, _) => match Nat.beq c m.1 with
          | true => ov_call Xc X mo0 mo d a b y pc ls S Q m (.inr (.inr (true, r, j)) :: as) t
          | false => False
        | .inr _ => False
      | some (5, m) => ov_pk (ov_na m) st [] fun as t => ov_pR t fun r j t => match ov_sh r with
        | .inl (c, _) => match Nat.beq c m.1 with
          | true => ov_call Xc X mo0 mo d a b y pc ls S Q m (.inr (.inr (true, r, j)) :: as) t
          | false => False
        | .inr _ => False
      | some (6, _) => ov_pR st fun _ _ t => ov_rs t (0 < d ∧ X mo0 mo d a b y (pc + 3) ls t S Q)
      | _ => False
    | .ireturn => ov_pI st fun x t => match t with
      | [] => ov_rt y x (ov_ret mo0 mo (Q (some (.inl x)) S))
      | _ => False
    | .areturn => ov_pN st fun s r i t => match t with
      | [] => ov_ra y (ov_ret mo0 mo (Q (some (.inr (.inr (s, r, i)))) S))
      | _ => False
    | .return_ => match st with
      | [] => ov_rn y (ov_ret mo0 mo (Q none S))
      | _ => False
    | _ => False
/-- the cells that there are have all their final references -/
def ov_full (S : ov_S) : Prop := ∀ (r i k c : Nat) (fks : List (Nat × Nat × (Nat → Nat))) (q : Nat) (g : Nat → Nat), (r, i) ∈ S.2.2.1 → ov_sh r = .inl (c, fks) → fks[k]? = some (2, q, g) → ov_g S r i k ≠ 0
/-- fewer locals are known -/
def ov_mk : List Bool → List (Option ov_A) → List (Option ov_A)
  | b :: bs, v :: ls => (match b with
    | true => v
    | false => none) :: ov_mk bs ls
  | [], ls => ls
  | _, [] => []
/-- what is closed under the steps -/
def ov_closed (X : ov_X) : Prop :=
  (∀ mo0 mo d a b y pc ls st S (Q Q' : ov_Q), (∀ r S', Q r S' → Q' r S') → X mo0 mo d a b y pc ls st S Q → X mo0 mo d a b y pc ls st S Q') ∧
  (∀ mo0 mo d a b y pc ls st S Q, ov_F X X mo0 mo d a b y pc ls st S Q → X mo0 mo d a b y pc ls st S Q) ∧
  (∀ mo0 d a b y pc ls st S Q, (ov_full S → X mo0 false d a b y pc ls st S Q) → X mo0 true d a b y pc ls st S Q) ∧
  (∀ mo0 d a b y pc ls st S Q, ov_full S → X mo0 true d a b y pc ls st S Q → X mo0 false d a b y pc ls st S Q) ∧
  (∀ mo0 mo d a b y pc ls st S Q ms, X mo0 mo d a b y pc (ov_mk ms ls) st S Q → X mo0 mo d a b y pc ls st S Q)
def ov_V0 (mo0 mo : Bool) (d a b : Nat) (y : ov_M) (pc : Nat) (ls : List (Option ov_A)) (st : List ov_A) (S : ov_S) (Q : ov_Q) : Prop := ∀ X : ov_X, ov_closed X → X mo0 mo d a b y pc ls st S Q
