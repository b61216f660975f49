/-- what a local or an operand is: an int, a long, a reference (null if the sign is false) to the cell of a region and index -/
abbrev ov_A : Type := Int32 ⊕ (Int64 ⊕ (Bool × Nat × Nat))
/-- a state: ints and longs by region, index, place; the cells that there are; the script -/
abbrev ov_S : Type := (Nat → Nat → Nat → Int32) × (Nat → Nat → Nat → Int64) × List (Nat × Nat) × (Nat × (Nat → Int32))
abbrev ov_Q : Type := Option ov_A → ov_S → Prop
abbrev ov_X : Type := Bool → Bool → Nat → Nat → Nat → ov_M → Nat → List (Option ov_A) → List ov_A → ov_S → ov_Q → Prop
def ov_ib (x : Int32) (n : Nat) : Prop := 0 ≤ x.toInt ∧ x.toInt < (n : Int)
abbrev ov_ix (x : Int32) : Nat := x.toNatClampNeg
def ov_u3 {α : Type} (f : Nat → Nat → Nat → α) (r i j : Nat) (v : α) : Nat → Nat → Nat → α := fun r' i' j' => if r' = r ∧ i' = i ∧ j' = j then v else f r' i' j'
def ov_u2 {α : Type} (f : Nat → Nat → Nat → α) (r i : Nat) (v : Nat → α) : Nat → Nat → Nat → α := fun r' i' => if r' = r ∧ i' = i then v else f r' i'
def ov_g (S : ov_S) (r i j : Nat) : Int32 := S.1 r i j
def ov_gl (S : ov_S) (r i j : Nat) : Int64 := S.2.1 r i j
/-- a place of ints is written -/
def ov_w (S : ov_S) (r i j : Nat) (v : Int32) : ov_S := (ov_u3 S.1 r i j v, S.2)
def ov_wl (S : ov_S) (r i j : Nat) (v : Int64) : ov_S := (S.1, ov_u3 S.2.1 r i j v, S.2.2)
/-- a row of ints is written -/
def ov_wa (S : ov_S) (r i : Nat) (f : Nat → Int32) : ov_S := (ov_u2 S.1 r i f, S.2)
/-- a cell comes, all 0 -/
def ov_n (S : ov_S) (r i : Nat) : ov_S := (ov_u2 S.1 r i (fun _ => 0), ov_u2 S.2.1 r i (fun _ => 0), S.2.2.1 ++ [(r, i)], S.2.2.2)
def ov_sw (k : Nat) : Int64 := ov_nth 0 [-6148914691236517206, -3689348814741910324, -1085102592571150096, -71777214294589696, -281470681808896, -4294967296] k
def ov_wd (k : Nat) : Int32 := ov_nth 0 [103, 105, 118, 101, 32, 115, 101, 101, 32, 32, 115, 97, 121, 32, 32, 108, 105, 101, 32, 32, 114, 101, 115, 116, 32, 102, 101, 101, 108, 32, 116, 111, 32, 32, 32, 101, 121, 101, 32, 32, 101, 97, 114, 32, 32, 109, 111, 117, 116, 104] k
def ov_pI (st : List ov_A) (k : Int32 → List ov_A → Prop) : Prop := match st with
  | .inl x :: r => k x r
  | _ => False
def ov_pL (st : List ov_A) (k : Int64 → List ov_A → Prop) : Prop := match st with
  | .inr (.inl x) :: r => k x r
  | _ => False
/-- a reference that isn't null -/
def ov_pR (st : List ov_A) (k : Nat → Nat → List ov_A → Prop) : Prop := match st with
  | .inr (.inr (true, r, i)) :: t => k r i t
  | _ => False
/-- a reference, null or not -/
def ov_pN (st : List ov_A) (k : Bool → Nat → Nat → List ov_A → Prop) : Prop := match st with
  | .inr (.inr (b, r, i)) :: t => k b r i t
  | _ => False
def ov_pk : Nat → List ov_A → List ov_A → (List ov_A → List ov_A → Prop) → Prop
  | 0, st, as, k => k as st
  | n + 1, st, as, k => match st with
    | v :: r => ov_pk n r (v :: as) k
    | [] => False
def ov_ldI (ls : List (Option ov_A)) (i : Nat) (k : Int32 → Prop) : Prop := match ls[i]? with
  | some (some (.inl x)) => k x
  | _ => False
def ov_ldL (ls : List (Option ov_A)) (i : Nat) (k : Int64 → Prop) : Prop := match ls[i]? with
  | some (some (.inr (.inl x))) => k x
  | _ => False
def ov_ldR (ls : List (Option ov_A)) (i : Nat) (k : (Bool × Nat × Nat) → Prop) : Prop := match ls[i]? with
  | some (some (.inr (.inr x))) => k x
  | _ => False
/-- a place of one word may be written: it is there, and no long is cut -/
def ov_so (ls : List (Option ov_A)) (i : Nat) : Bool := match i with
  | 0 => Nat.blt 0 ls.length
  | j + 1 => match ls[j]? with
    | some (some (.inr (.inl _))) => false
    | _ => Nat.blt (j + 1) ls.length
def ov_sto (ls : List (Option ov_A)) (i : Nat) (v : ov_A) (k : List (Option ov_A) → Prop) : Prop := match ov_so ls i with
  | true => k (ls.set i (some v))
  | false => False
/-- the entry's locals -/
def ov_ea : List ov_A → List (Option ov_A)
  | [] => []
  | .inr (.inl x) :: l => some (.inr (.inl x)) :: none :: ov_ea l
  | v :: l => some v :: ov_ea l
def ov_en (n : Nat) (as : List ov_A) : List (Option ov_A) := ov_ea as ++ List.replicate (n - (ov_ea as).length) none
def ov_jp (pc : Nat) (off : Int) (k : Nat → Prop) : Prop := match (Int.ofNat pc) + off with
  | .ofNat t => k t
  | .negSucc _ => False
def ov_br (c : Prop) (t f : Prop) : Prop := (c → t) ∧ (¬ c → f)
def ov_swT (x : Int32) (k : Int → Prop) : Int → List Int → Prop
  | _, [] => True
  | lo, o :: os => (x.toInt = lo → k o) ∧ ov_swT x k (lo + 1) os
def ov_swL (x : Int32) (k : Int → Prop) (dflt : Int) : List (Int × Int) → Prop
  | [] => k dflt
  | (v, o) :: ps => (x.toInt = v → k o) ∧ (¬ x.toInt = v → ov_swL x k dflt ps)
/-- an int field is put: a boolean's is 0 or 1 -/
def ov_pf (k : Nat) (x : Int32) (P : Prop) : Prop := match k with
  | 0 => P
  | 1 => (x = 0 ∨ x = 1) ∧ P
  | _ => False
def ov_rt (m : ov_M) (x : Int32) (P : Prop) : Prop := match m.2.2.2.2.1 with
  | some .int => P
  | some .boolean => (x = 0 ∨ x = 1) ∧ P
  | _ => False
def ov_ra (m : ov_M) (P : Prop) : Prop := match m.2.2.2.2.1 with
  | some (.object _) => P
  | some (.array _) => P
  | _ => False
def ov_rn (m : ov_M) (P : Prop) : Prop := match m.2.2.2.2.1 with
  | none => P
  | _ => False
