section OVS
variable (l : Launch) (D : va_G) (cA : Nat → ClassId) (z bS tS aS L : Nat) (xs : Nat → Int32) (ZS : State → Prop)
/-- what the machine's tables and its old cells say -/
def ov_wk (U : State) : Prop := va_K D vwCl (ov_tys cA) U ∧ (∀ w ∈ ov_nw, va_Nw w U) ∧ va_AO "OneEye$Three" U ∧ va_AO "OneEye$Person" U ∧ va_Z "OneEye$Talk" "SETS_WITH" "[J" (.ref tS) (fun q => z ≤ q) U U.heap ∧ va_T .long tS 6 (fun j => .long (ov_sw j)) (fun q => z ≤ q) U U.heap ∧ va_X bS L xs U U.heap ∧ bS < z ∧ z ≤ U.heap.size ∧ ZS U
/-- a method's end -/
def ov_qc (ad : Nat → Nat → Nat) (S : ov_S) (mo0 : Bool) (Q : ov_Q) : Array Value → State → Outcome → State → Prop := fun _ st oc t => (∃ (r : Option ov_A) (S' : ov_S) (ad' : Nat → Nat → Nat), oc = .returned (r.map (ov_rv ad')) ∧ ov_rep D cA z bS tS aS L xs ad' S' t.heap ∧ ov_ext ad S ad' S' ∧ (∀ v, r = some v → ov_av S' v) ∧ (mo0 = true → ov_full S') ∧ Q r S') ∧ va_F (fun q => z ≤ q) st t
/-- what holds all through a method -/
def ov_E (y : ov_M) (p : Program) (s : State) (m : MethodId) (args : Array Value) (meth : Method) (c : Code) (R : Room) (d mc ms : Nat) : Prop := ov_ok0 y ∧ CallFix p m c y.2.2.1 y.2.2.2.1 s args ov_T (ov_cn y.1) ∧ meth.sig.returnType = y.2.2.2.2.1 ∧ meth.locks = false ∧ meth.name = y.2.1.name ∧ ov_wk D cA z bS tS L xs ZS s ∧ d ≤ R.frames ∧ 64 * d ≤ R.locals ∧ mc ≤ R.cells ∧ ms ≤ R.slots
/-- what a place of a method means, in the machine's words -/
def ov_sem : ov_X := fun mo0 mo d a b y pc ls st S Q => ∀ (p : Program) (e : Env) (s : State) (m : MethodId) (args : Array Value) (below : List Frame) (meth : Method) (c : Code) (R : Room) (mc ms : Nat), ov_E D cA z bS tS L xs ZS y p s m args meth c R d mc ms →
  ∀ (H : Heap) (locs : List Loc) (cells slots : Nat) (ad : Nat → Nat → Nat) (lsA : Array Slot), va_S (fun q => z ≤ q) s.heap H locs → ov_rep D cA z bS tS aS L xs ad S H → (mo = true → ov_full S) → ov_ls ad lsA y.2.2.2.1 ls → (∀ v, some v ∈ ls → ov_av S v) → (∀ v ∈ st, ov_av S v) → cells + a ≤ mc → slots + b ≤ ms →
  W p l e R s m args below meth c H locs cells slots (MQ below (ov_qc D cA z bS tS aS L xs ad S mo0 Q) args s mc ms (fun q => z ≤ q)) (F0 m pc lsA (st.map (ov_rv ad)))
end OVS
theorem ov_Wm {p : Program} {l : Launch} {e : Env} {R : Room} {s : State} {m : MethodId} {args : Array Value} {below : List Frame} {meth : Method} {c : Code} {H : Heap} {locs : List Loc} {cells slots : Nat} {Q Q' : State → Prop} {g : JFrame} (h : ∀ t, Q t → Q' t) (k : W p l e R s m args below meth c H locs cells slots Q g) : W p l e R s m args below meth c H locs cells slots Q' g := by
  intro T hT X
  obtain ⟨t, a, b⟩ := k T hT X
  exact ⟨t, a, h t b⟩
theorem ov_MQm {below : List Frame} {Qc Qc' : Array Value → State → Outcome → State → Prop} {a : Array Value} {s : State} {mc ms : Nat} {free : Addr → Prop} (h : ∀ o t, Qc a s o t → Qc' a s o t) : ∀ t, MQ below Qc a s mc ms free t → MQ below Qc' a s mc ms free t := by
  rintro t ⟨o, h1, h2, h3, h4⟩
  exact ⟨o, h1, h2, h _ _ h3, h4⟩
theorem ov_pI_e {st : List ov_A} {k : Int32 → List ov_A → Prop} (g : ov_pI st k) : ∃ x t, st = .inl x :: t ∧ k x t := by
  unfold ov_pI at g
  split at g
  · exact ⟨_, _, rfl, g⟩
  · exact g.elim
theorem ov_pL_e {st : List ov_A} {k : Int64 → List ov_A → Prop} (g : ov_pL st k) : ∃ x t, st = .inr (.inl x) :: t ∧ k x t := by
  unfold ov_pL at g
  split at g
  · exact ⟨_, _, rfl, g⟩
  · exact g.elim
theorem ov_pR_e {st : List ov_A} {k : Nat → Nat → List ov_A → Prop} (g : ov_pR st k) : ∃ r i t, st = .inr (.inr (true, r, i)) :: t ∧ k r i t := by
  unfold ov_pR at g
  split at g
  · exact ⟨_, _, _, rfl, g⟩
  · exact g.elim
theorem ov_pN_e {st : List ov_A} {k : Bool → Nat → Nat → List ov_A → Prop} (g : ov_pN st k) : ∃ b r i t, st = .inr (.inr (b, r, i)) :: t ∧ k b r i t := by
  unfold ov_pN at g
  split at g
  · exact ⟨_, _, _, _, rfl, g⟩
  · exact g.elim
theorem ov_pk_e {k : List ov_A → List ov_A → Prop} : ∀ (n : Nat) (st as : List ov_A), ov_pk n st as k → ∃ bs t, bs.length = n ∧ st = bs.reverse ++ t ∧ k (bs ++ as) t
  | 0, st, as, g => ⟨[], st, rfl, rfl, g⟩
  | n + 1, [], as, g => g.elim
  | n + 1, v :: r, as, g => by
    obtain ⟨bs, t, h1, h2, h3⟩ := ov_pk_e n r (v :: as) g
    exact ⟨bs ++ [v], t, by simp [h1], by simp [h2], by simpa using h3⟩
theorem ov_ldI_e {ls : List (Option ov_A)} {i : Nat} {k : Int32 → Prop} (g : ov_ldI ls i k) : ∃ x, ls[i]? = some (some (.inl x)) ∧ k x := by
  unfold ov_ldI at g
  split at g
  · rename_i h
    exact ⟨_, h, g⟩
  · exact g.elim
theorem ov_ldL_e {ls : List (Option ov_A)} {i : Nat} {k : Int64 → Prop} (g : ov_ldL ls i k) : ∃ x, ls[i]? = some (some (.inr (.inl x))) ∧ k x := by
  unfold ov_ldL at g
  split at g
  · rename_i h
    exact ⟨_, h, g⟩
  · exact g.elim
theorem ov_ldR_e {ls : List (Option ov_A)} {i : Nat} {k : (Bool × Nat × Nat) → Prop} (g : ov_ldR ls i k) : ∃ b r j, ls[i]? = some (some (.inr (.inr (b, r, j)))) ∧ k (b, r, j) := by
  unfold ov_ldR at g
  split at g
  · rename_i x h
    obtain ⟨b, r, j⟩ := x
    exact ⟨b, r, j, h, g⟩
  · exact g.elim
theorem ov_sto_e {ls : List (Option ov_A)} {i : Nat} {v : ov_A} {k : List (Option ov_A) → Prop} (g : ov_sto ls i v k) : ov_so ls i = true ∧ k (ls.set i (some v)) := by
  unfold ov_sto at g
  split at g
  · rename_i h
    exact ⟨h, g⟩
  · exact g.elim
theorem ov_jp_e {pc : Nat} {off : Int} {k : Nat → Prop} (g : ov_jp pc off k) : ∃ t : Nat, (pc : Int) + off = (t : Int) ∧ k t := by
  unfold ov_jp at g
  split at g
  · rename_i h
    exact ⟨_, h, g⟩
  · exact g.elim
theorem ov_rs_e {t : List ov_A} {P : Prop} (g : ov_rs t P) : (ov_ea t).length ≤ 8 ∧ P := by
  unfold ov_rs at g
  split at g
  · rename_i h
    exact ⟨Nat.le_of_ble_eq_true h, g⟩
  · exact g.elim
theorem ov_av_t {S : ov_S} {x : ov_A} {t : List ov_A} (h : ∀ v ∈ x :: t, ov_av S v) : ∀ v ∈ t, ov_av S v := fun v hv => h v (List.mem_cons_of_mem _ hv)
theorem ov_av_c {S : ov_S} {x : ov_A} {t : List ov_A} (hx : ov_av S x) (h : ∀ v ∈ t, ov_av S v) : ∀ v ∈ x :: t, ov_av S v := fun v hv => by
  rcases List.mem_cons.mp hv with rfl | hv
  · exact hx
  · exact h v hv
theorem ov_cat (ad : Nat → Nat → Nat) : ∀ v : ov_A, (ov_rv ad v).category = 2 → ∃ x, v = .inr (.inl x)
  | .inl _, h => by simp [ov_rv, Value.category] at h
  | .inr (.inl x), _ => ⟨x, rfl⟩
  | .inr (.inr (true, _, _)), h => by simp [ov_rv, Value.category] at h
  | .inr (.inr (false, _, _)), h => by simp [ov_rv, Value.category] at h
theorem ov_words (ad : Nat → Nat → Nat) : ∀ t : List ov_A, ((t.map (ov_rv ad)).map fun v => v.category).sum = (ov_ea t).length
  | [] => rfl
  | .inl _ :: t => by simpa [ov_ea, ov_rv, Value.category, Nat.add_comm] using ov_words ad t
  | .inr (.inl x) :: t => by
    have := ov_words ad t
    simp only [List.map_cons, List.sum_cons, ov_ea, List.length_cons, this]
    show 2 + _ = _
    omega
  | .inr (.inr (true, _, _)) :: t => by simpa [ov_ea, ov_rv, Value.category, Nat.add_comm] using ov_words ad t
  | .inr (.inr (false, _, _)) :: t => by simpa [ov_ea, ov_rv, Value.category, Nat.add_comm] using ov_words ad t
/-- the known locals as the kit lists them -/
def ov_as (ad : Nat → Nat → Nat) (ls : List (Option ov_A)) : List (Nat × Value) := (List.range ls.length).filterMap (fun j => match ls[j]? with
  | some (some v) => some (j, ov_rv ad v)
  | _ => none)
theorem ov_as_mem {ad : Nat → Nat → Nat} {ls : List (Option ov_A)} {q : Nat × Value} : q ∈ ov_as ad ls ↔ ∃ v, ls[q.1]? = some (some v) ∧ q.2 = ov_rv ad v := by
  unfold ov_as
  rw [List.mem_filterMap]
  constructor
  · rintro ⟨j, hj, h⟩
    split at h
    · rename_i v hv
      cases h
      exact ⟨v, hv, rfl⟩
    · cases h
  · rintro ⟨v, h1, h2⟩
    refine ⟨q.1, List.mem_range.mpr (List.getElem?_eq_some_iff.mp h1).1, ?_⟩
    rw [h1]
    show some (q.1, ov_rv ad v) = some q
    rw [← h2]
theorem ov_ls_has {ad : Nat → Nat → Nat} {lsA : Array Slot} {nL : Nat} {ls : List (Option ov_A)} (h : ov_ls ad lsA nL ls) : lv_has lsA nL (ov_as ad ls) := by
  refine ⟨h.2.1, h.2.2.1, fun q hq => ?_⟩
  obtain ⟨v, h1, h2⟩ := ov_as_mem.mp hq
  rw [h2]
  exact h.2.2.2 _ _ h1
theorem ov_so_lt {ls : List (Option ov_A)} {i : Nat} (h : ov_so ls i = true) : i < ls.length := by
  unfold ov_so at h
  split at h
  · exact Nat.le_of_ble_eq_true h
  · split at h
    · cases h
    · exact Nat.le_of_ble_eq_true h
theorem ov_so_long {ls : List (Option ov_A)} {i j : Nat} {x : Int64} (h : ov_so ls i = true) (e : j + 1 = i) (g : ls[j]? = some (some (.inr (.inl x)))) : False := by
  subst e
  simp [ov_so, g] at h
theorem ov_ls_set {ad : Nat → Nat → Nat} {ls' : Array Slot} {nL i : Nat} {v : ov_A} {ls : List (Option ov_A)} (hn : ls.length = nL) (ho : ov_so ls i = true) (h : lv_has ls' nL ((i, ov_rv ad v) :: (ov_as ad ls).filter (fun q => !(q.1 == i) && !(q.1 + 1 == i && q.2.category == 2)))) : ov_ls ad ls' nL (ls.set i (some v)) := by
  refine ⟨by simp [hn], h.1, h.2.1, fun j w hw => ?_⟩
  rw [List.getElem?_set] at hw
  by_cases e : i = j
  · subst e
    rw [if_pos rfl, if_pos (ov_so_lt ho)] at hw
    cases hw
    exact h.2.2 _ List.mem_cons_self
  · rw [if_neg e] at hw
    refine h.2.2 (j, ov_rv ad w) (List.mem_cons_of_mem _ (List.mem_filter.mpr ⟨ov_as_mem.mpr ⟨w, hw, rfl⟩, ?_⟩))
    have e1 : (j == i) = false := by simpa using fun q => e q.symm
    rw [e1]
    by_cases e2 : j + 1 = i
    · have : ¬ (ov_rv ad w).category = 2 := fun q => by
        obtain ⟨x, rfl⟩ := ov_cat ad w q
        exact ov_so_long ho e2 hw
      simp [e2, this]
    · simp [e2]
theorem ov_al_set {S : ov_S} {i : Nat} {v : ov_A} {ls : List (Option ov_A)} (h : ∀ v, some v ∈ ls → ov_av S v) (hv : ov_av S v) : ∀ w, some w ∈ ls.set i (some v) → ov_av S w := by
  intro w hw
  rcases List.mem_or_eq_of_mem_set hw with h1 | h1
  · exact h w h1
  · cases h1
    exact hv
theorem ov_ib_in {x : Int32} {n : Nat} (h : ov_ib x n) : vp_in x n := vp_in_iff.mpr h
theorem ov_mk_ls {ad : Nat → Nat → Nat} {lsA : Array Slot} {nL : Nat} : ∀ (ms : List Bool) (ls : List (Option ov_A)), (ov_mk ms ls).length = ls.length ∧ ∀ (i : Nat) (v : ov_A), (ov_mk ms ls)[i]? = some (some v) → ls[i]? = some (some v)
  | [], ls => by simp [ov_mk]
  | _ :: _, [] => by simp [ov_mk]
  | b :: bs, v :: ls => by
    obtain ⟨h1, h2⟩ := ov_mk_ls (ad := ad) (lsA := lsA) (nL := nL) bs ls
    refine ⟨by simp [ov_mk, h1], fun i w => ?_⟩
    cases i with
    | zero => cases b <;> simp [ov_mk]
    | succ i => simpa [ov_mk] using h2 i w
/-- the entry -/
theorem ov_en_ea (ad : Nat → Nat → Nat) : ∀ (as : List ov_A) (i j : Nat) (v : ov_A), (ov_ea as)[j]? = some (some v) → (i + j, ov_rv ad v) ∈ lv_args i (as.map (ov_rv ad))
  | [], i, j, v, h => by simp [ov_ea] at h
  | .inl x :: as, i, j, v, h => by
    cases j with
    | zero => simp [ov_ea] at h; subst h; simp [lv_args]
    | succ j =>
      have := ov_en_ea ad as (i + 1) j v (by simpa [ov_ea] using h)
      simp only [List.map_cons, lv_args]
      refine List.mem_cons_of_mem _ ?_
      rw [show i + (j + 1) = i + 1 + j by omega]
      simpa [ov_rv, Value.category] using this
  | .inr (.inl x) :: as, i, j, v, h => by
    match j with
    | 0 => simp [ov_ea] at h; subst h; simp [lv_args]
    | 1 => simp [ov_ea] at h
    | j + 2 =>
      have := ov_en_ea ad as (i + 2) j v (by simpa [ov_ea] using h)
      simp only [List.map_cons, lv_args]
      refine List.mem_cons_of_mem _ ?_
      rw [show i + (j + 2) = i + 2 + j by omega]
      simpa [ov_rv, Value.category] using this
  | .inr (.inr q) :: as, i, j, v, h => by
    cases j with
    | zero => simp [ov_ea] at h; subst h; simp [lv_args]
    | succ j =>
      have := ov_en_ea ad as (i + 1) j v (by simpa [ov_ea] using h)
      simp only [List.map_cons, lv_args]
      refine List.mem_cons_of_mem _ ?_
      rw [show i + (j + 1) = i + 1 + j by omega]
      obtain ⟨b, r, k⟩ := q
      cases b <;> simpa [ov_rv, Value.category] using this
theorem ov_ea_sl (ad : Nat → Nat → Nat) : ∀ as : List ov_A, (lg_sl (as.map (ov_rv ad))).length = (ov_ea as).length
  | [] => rfl
  | .inl x :: as => by
    have e : lg_sl ((.inl x :: as : List ov_A).map (ov_rv ad)) = .val (.int x) :: lg_sl (as.map (ov_rv ad)) := rfl
    rw [e]; simp [ov_ea, ov_ea_sl ad as]
  | .inr (.inl x) :: as => by
    have e : lg_sl ((.inr (.inl x) :: as : List ov_A).map (ov_rv ad)) = .val (.long x) :: .second :: lg_sl (as.map (ov_rv ad)) := rfl
    rw [e]; simp [ov_ea, ov_ea_sl ad as]
  | .inr (.inr (true, r, k)) :: as => by
    have e : lg_sl ((.inr (.inr (true, r, k)) :: as : List ov_A).map (ov_rv ad)) = .val (.ref (ad r k)) :: lg_sl (as.map (ov_rv ad)) := rfl
    rw [e]; simp [ov_ea, ov_ea_sl ad as]
  | .inr (.inr (false, r, k)) :: as => by
    have e : lg_sl ((.inr (.inr (false, r, k)) :: as : List ov_A).map (ov_rv ad)) = .val .null :: lg_sl (as.map (ov_rv ad)) := rfl
    rw [e]; simp [ov_ea, ov_ea_sl ad as]
theorem ov_entry {ad : Nat → Nat → Nat} {as : List ov_A} {n : Nat} (h : (ov_ea as).length ≤ n) : ov_ls ad ((lg_sl (as.map (ov_rv ad)) ++ List.replicate (n - (lg_sl (as.map (ov_rv ad))).length) Slot.unset).toArray) n (ov_en n as) := by
  have hl := lv_entry (as.map (ov_rv ad)) (n := n) (by rw [ov_ea_sl]; exact h)
  refine ⟨?_, hl.1, hl.2.1, fun i v hv => ?_⟩
  · simp only [ov_en, List.length_append, List.length_replicate]; omega
  · have h1 : (ov_ea as)[i]? = some (some v) := by
      unfold ov_en at hv
      by_cases hi : i < (ov_ea as).length
      · rwa [List.getElem?_append_left hi] at hv
      · rw [List.getElem?_append_right (by omega)] at hv
        have h2 := List.mem_of_getElem? hv
        have h3 := (List.mem_replicate.mp h2).2
        cases h3
    have h2 := ov_en_ea ad as 0 i v h1
    rw [Nat.zero_add] at h2
    exact hl.2.2 (i, ov_rv ad v) h2
theorem ov_en_av {S : ov_S} {n : Nat} : ∀ {as : List ov_A}, (∀ v ∈ as, ov_av S v) → ∀ v, some v ∈ ov_en n as → ov_av S v := by
  intro as h v hv
  have key : ∀ (as : List ov_A) (v : ov_A), some v ∈ ov_ea as → v ∈ as := by
    intro as
    induction as with
    | nil => intro v hv; simp [ov_ea] at hv
    | cons x t ih =>
      intro v hv
      rcases x with x | x | x
      · rcases List.mem_cons.mp hv with h | h
        · cases h; exact List.mem_cons_self
        · exact List.mem_cons_of_mem _ (ih v h)
      · rcases List.mem_cons.mp hv with h | h
        · cases h; exact List.mem_cons_self
        · rcases List.mem_cons.mp h with h | h
          · cases h
          · exact List.mem_cons_of_mem _ (ih v h)
      · rcases List.mem_cons.mp hv with h | h
        · cases h; exact List.mem_cons_self
        · exact List.mem_cons_of_mem _ (ih v h)
  rcases List.mem_append.mp hv with h1 | h1
  · exact h v (key as v h1)
  · have := (List.mem_replicate.mp h1).2
    cases this
