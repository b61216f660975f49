/-! ===== what is in a cell once all is built ===== -/
def cb_l : List cb_O → Nat → Nat → Nat → Int32 → Int32
  | [], _, _, _, v => v
  | (r1, i1, none) :: l, r, i, j, v => cb_l l r i j (match Nat.beq r1 r && Nat.beq i1 i with
    | true => 0
    | false => v)
  | (r1, i1, some (j1, x)) :: l, r, i, j, v => cb_l l r i j (match Nat.beq r1 r && (Nat.beq i1 i && Nat.beq j1 j) with
    | true => x
    | false => v)
theorem cb_n1 {S : ov_S} {r1 i1 r i j : Nat} : (ov_n S r1 i1).1 r i j = (match Nat.beq r1 r && Nat.beq i1 i with
    | true => 0
    | false => S.1 r i j) := by
  show (if r = r1 ∧ i = i1 then (fun _ => 0) else S.1 r i) j = _
  by_cases e : r = r1 ∧ i = i1
  · obtain ⟨rfl, rfl⟩ := e
    rw [if_pos ⟨rfl, rfl⟩, Nat.beq_refl, Nat.beq_refl]
    rfl
  · rw [if_neg e]
    have h : (Nat.beq r1 r && Nat.beq i1 i) = false := by
      rw [Bool.eq_false_iff]
      intro h
      have h := Bool.and_eq_true_iff.mp h
      exact e ⟨(Nat.eq_of_beq_eq_true h.1).symm, (Nat.eq_of_beq_eq_true h.2).symm⟩
    rw [h]
theorem cb_w1 {S : ov_S} {r1 i1 j1 r i j : Nat} {x : Int32} : (ov_w S r1 i1 j1 x).1 r i j = (match Nat.beq r1 r && (Nat.beq i1 i && Nat.beq j1 j) with
    | true => x
    | false => S.1 r i j) := by
  show (if r = r1 ∧ i = i1 ∧ j = j1 then x else S.1 r i j) = _
  by_cases e : r = r1 ∧ i = i1 ∧ j = j1
  · obtain ⟨rfl, rfl, rfl⟩ := e
    rw [if_pos ⟨rfl, rfl, rfl⟩, Nat.beq_refl, Nat.beq_refl, Nat.beq_refl]
    rfl
  · rw [if_neg e]
    have h : (Nat.beq r1 r && (Nat.beq i1 i && Nat.beq j1 j)) = false := by
      rw [Bool.eq_false_iff]
      intro h
      have h := Bool.and_eq_true_iff.mp h
      have h2 := Bool.and_eq_true_iff.mp h.2
      exact e ⟨(Nat.eq_of_beq_eq_true h.1).symm, (Nat.eq_of_beq_eq_true h2.1).symm, (Nat.eq_of_beq_eq_true h2.2).symm⟩
    rw [h]
theorem cb_lk : ∀ (l : List cb_O) (S : ov_S) (r i j : Nat), (cb_a l S).1 r i j = cb_l l r i j (S.1 r i j)
  | [], _, _, _, _ => rfl
  | (r1, i1, none) :: l, S, r, i, j => (cb_lk l (ov_n S r1 i1) r i j).trans (congrArg (cb_l l r i j) cb_n1)
  | (r1, i1, some (j1, x)) :: l, S, r, i, j => (cb_lk l (ov_w S r1 i1 j1 x) r i j).trans (congrArg (cb_l l r i j) cb_w1)
def cb_n : List cb_O → List (Nat × Nat)
  | [] => []
  | (r, i, none) :: l => (r, i) :: cb_n l
  | (_, _, some _) :: l => cb_n l
theorem cb_ln : ∀ (l : List cb_O) (S : ov_S), (cb_a l S).2.2.1 = S.2.2.1 ++ cb_n l
  | [], S => (List.append_nil _).symm
  | (r, i, none) :: l, S => (cb_ln l (ov_n S r i)).trans (by
    show (S.2.2.1 ++ [(r, i)]) ++ cb_n l = S.2.2.1 ++ (r, i) :: cb_n l
    rw [List.append_assoc]
    rfl)
  | (r, i, some (j, x)) :: l, S => cb_ln l (ov_w S r i j x)
theorem cb_sc : ∀ (l : List cb_O) (S : ov_S), (cb_a l S).2.2.2 = S.2.2.2
  | [], _ => rfl
  | (r, i, none) :: l, S => cb_sc l (ov_n S r i)
  | (r, i, some (j, x)) :: l, S => cb_sc l (ov_w S r i j x)
/-- the cells that come are new, each once -/
theorem cb_hn : ∀ (l : List cb_O) (L : List (Nat × Nat)), (∀ x, x ∈ cb_n l → x ∉ L) → (cb_n l).Nodup → cb_h l L
  | [], _, _, _ => trivial
  | (r, i, none) :: l, L, h, hn => by
    have hn : ((r, i) :: cb_n l).Nodup := hn
    obtain ⟨h1, h2⟩ := List.nodup_cons.mp hn
    refine ⟨h (r, i) List.mem_cons_self, cb_hn l (L ++ [(r, i)]) (fun x hx hm => ?_) h2⟩
    rcases List.mem_append.mp hm with q | q
    · exact h x (List.mem_cons_of_mem _ hx) q
    · rw [List.mem_singleton] at q
      rw [q] at hx
      exact h1 hx
  | (r, i, some (j, x)) :: l, L, h, hn => cb_hn l L h hn
/-- a row that no op writes -/
def cb_zc (l : List cb_O) (r i : Nat) : Bool := l.all (fun o => match o with
  | (r1, i1, some _) => !(Nat.beq r1 r && Nat.beq i1 i)
  | _ => true)
theorem cb_z0 : ∀ (l : List cb_O) (r i j : Nat), cb_zc l r i = true → cb_l l r i j 0 = 0
  | [], _, _, _, _ => rfl
  | (r1, i1, none) :: l, r, i, j, h => by
    have h : cb_zc l r i = true := h
    show cb_l l r i j (match Nat.beq r1 r && Nat.beq i1 i with
      | true => 0
      | false => 0) = 0
    have e : (match Nat.beq r1 r && Nat.beq i1 i with
      | true => (0 : Int32)
      | false => 0) = 0 := by cases Nat.beq r1 r && Nat.beq i1 i <;> rfl
    rw [e]
    exact cb_z0 l r i j h
  | (r1, i1, some (j1, x)) :: l, r, i, j, h => by
    have h : (!(Nat.beq r1 r && Nat.beq i1 i) && cb_zc l r i) = true := h
    obtain ⟨h1, h2⟩ := Bool.and_eq_true_iff.mp h
    have h1 : (Nat.beq r1 r && Nat.beq i1 i) = false := by
      cases q : Nat.beq r1 r && Nat.beq i1 i
      · rfl
      · rw [q] at h1; cases h1
    have e : (Nat.beq r1 r && (Nat.beq i1 i && Nat.beq j1 j)) = false := by
      rw [← Bool.and_assoc, h1]
      rfl
    show cb_l l r i j (match Nat.beq r1 r && (Nat.beq i1 i && Nat.beq j1 j) with
      | true => x
      | false => 0) = 0
    rw [e]
    exact cb_z0 l r i j h2
/-- a cell that comes: what was there before doesn't count -/
theorem cb_l_n : ∀ (l : List cb_O) (r i j : Nat) (v v' : Int32), (r, i) ∈ cb_n l → cb_l l r i j v = cb_l l r i j v'
  | [], _, _, _, _, _, h => nomatch h
  | (r1, i1, none) :: l, r, i, j, v, v', h => by
    have h : (r, i) ∈ (r1, i1) :: cb_n l := h
    rcases List.mem_cons.mp h with e | h
    · have e1 : r = r1 := congrArg Prod.fst e
      have e2 : i = i1 := congrArg Prod.snd e
      have e3 : (Nat.beq r1 r && Nat.beq i1 i) = true := by rw [e1, e2, Nat.beq_refl, Nat.beq_refl]; rfl
      show cb_l l r i j (match Nat.beq r1 r && Nat.beq i1 i with
        | true => 0
        | false => v) = cb_l l r i j (match Nat.beq r1 r && Nat.beq i1 i with
        | true => 0
        | false => v')
      rw [e3]
    · exact cb_l_n l r i j _ _ h
  | (r1, i1, some (j1, x)) :: l, r, i, j, v, v', h => cb_l_n l r i j _ _ h
/-- a cell that is neither new nor written -/
def cb_in (x : Nat × Nat) (L : List (Nat × Nat)) : Bool := L.any (fun y => Nat.beq y.1 x.1 && Nat.beq y.2 x.2)
theorem cb_in_m {x : Nat × Nat} {L : List (Nat × Nat)} (h : cb_in x L = true) : x ∈ L := by
  obtain ⟨y, hy, h⟩ := List.any_eq_true.mp h
  obtain ⟨h1, h2⟩ := Bool.and_eq_true_iff.mp h
  have e : y = x := Prod.ext (Nat.eq_of_beq_eq_true h1) (Nat.eq_of_beq_eq_true h2)
  rw [← e]
  exact hy
theorem cb_l_o : ∀ (l : List cb_O) (r i j : Nat) (v : Int32), (∀ r1 i1 w, (r1, i1, w) ∈ l → ¬ (r1 = r ∧ i1 = i)) → cb_l l r i j v = v
  | [], _, _, _, _, _ => rfl
  | (r1, i1, none) :: l, r, i, j, v, h => by
    have e : (Nat.beq r1 r && Nat.beq i1 i) = false := by
      rw [Bool.eq_false_iff]
      intro q
      obtain ⟨h1, h2⟩ := Bool.and_eq_true_iff.mp q
      exact h r1 i1 none List.mem_cons_self ⟨Nat.eq_of_beq_eq_true h1, Nat.eq_of_beq_eq_true h2⟩
    show cb_l l r i j (match Nat.beq r1 r && Nat.beq i1 i with
      | true => 0
      | false => v) = v
    rw [e]
    exact cb_l_o l r i j v (fun r2 i2 w hw => h r2 i2 w (List.mem_cons_of_mem _ hw))
  | (r1, i1, some (j1, x)) :: l, r, i, j, v, h => by
    have e : (Nat.beq r1 r && (Nat.beq i1 i && Nat.beq j1 j)) = false := by
      rw [Bool.eq_false_iff]
      intro q
      obtain ⟨h1, h2⟩ := Bool.and_eq_true_iff.mp q
      obtain ⟨h2, h3⟩ := Bool.and_eq_true_iff.mp h2
      exact h r1 i1 _ List.mem_cons_self ⟨Nat.eq_of_beq_eq_true h1, Nat.eq_of_beq_eq_true h2⟩
    show cb_l l r i j (match Nat.beq r1 r && (Nat.beq i1 i && Nat.beq j1 j) with
      | true => x
      | false => v) = v
    rw [e]
    exact cb_l_o l r i j v (fun r2 i2 w hw => h r2 i2 w (List.mem_cons_of_mem _ hw))
/-- all ops go to new cells -/
def cb_own (l : List cb_O) : Bool := l.all (fun o => cb_in (o.1, o.2.1) (cb_n l))
theorem cb_old {l : List cb_O} (h : cb_own l = true) {r i : Nat} (hn : (r, i) ∉ cb_n l) (S : ov_S) (j : Nat) : (cb_a l S).1 r i j = S.1 r i j := by
  rw [cb_lk]
  refine cb_l_o l r i j _ (fun r1 i1 w hw e => ?_)
  have q := cb_in_m (List.all_eq_true.mp h _ hw)
  have q : (r1, i1) ∈ cb_n l := q
  rw [e.1, e.2] at q
  exact hn q
/-- its final references are set -/
def cb_fc (l : List cb_O) (x : Nat × Nat) : Bool := match ov_sh x.1 with
  | .inl (_, fks) => (List.range fks.length).all (fun k => match fks[k]? with
    | some (2, _, _) => !(decide (cb_l l x.1 x.2 k 0 = 0))
    | _ => true)
  | .inr _ => true
theorem cb_full {l : List cb_O} {S : ov_S} (h0 : ov_full S) (ho : cb_own l = true) (hc : (cb_n l).all (cb_fc l) = true) : ov_full (cb_a l S) := by
  intro r i k c fks q g hm hs hk
  by_cases hn : (r, i) ∈ cb_n l
  · have h := List.all_eq_true.mp hc _ hn
    unfold cb_fc at h
    rw [hs] at h
    have hlt : k < fks.length := (List.getElem?_eq_some_iff.mp hk).1
    have h := List.all_eq_true.mp h k (List.mem_range.mpr hlt)
    rw [hk] at h
    have h : (!(decide (cb_l l r i k 0 = 0))) = true := h
    unfold ov_g
    rw [cb_lk, cb_l_n l r i k _ 0 hn]
    intro e
    rw [e] at h
    simp at h
  · unfold ov_g
    rw [cb_old ho hn]
    rw [cb_ln] at hm
    rcases List.mem_append.mp hm with q1 | q1
    · exact h0 r i k c fks q g q1 hs hk
    · exact absurd q1 hn
