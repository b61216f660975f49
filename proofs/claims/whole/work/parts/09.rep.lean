def ov_tys (cA : Nat → ClassId) : List (ClassId × FieldType) := [(cA 0, .int), (cA 1, .char), (cA 2, .long), (cA 3, .object "OneEye$Three"), (cA 4, .object "OneEye$Person")]
/-- what a field holds, in the machine's words -/
def ov_fv (ad : Nat → Nat → Nat) (S : ov_S) (r i k : Nat) (fk : Nat × Nat × (Nat → Nat)) : Value := if 2 ≤ fk.1 then (if S.1 r i k = 0 then .null else .ref (ad fk.2.1 (fk.2.2 i))) else .int (S.1 r i k)
/-- a cell, in the machine's words -/
def ov_ce (cA : Nat → ClassId) (ad : Nat → Nat → Nat) (S : ov_S) (r i : Nat) : va_E := match ov_sh r with
  | .inl (ci, fks) => .inr (ci, fks.mapIdx (fun k fk => ov_fv ad S r i k fk))
  | .inr (t, n, q, g) => .inl (cA t, n, if t ≤ 1 then .inl (S.1 r i) else if t = 2 then .inr (.inl (S.2.1 r i)) else .inr (.inr (.inr (.inr (fun j => if j < n then (if S.1 r i j = 0 then none else some (ad q (g i j))) else none)))))
def ov_ws (cA : Nat → ClassId) (ad : Nat → Nat → Nat) (S : ov_S) : va_W := S.2.2.1.map (fun q => (ad q.1 q.2, ov_ce cA ad S q.1 q.2))
def ov_lv (S : ov_S) (r i : Nat) : Prop := (r, i) ∈ S.2.2.1 ∨ (i = 0 ∧ (r = 16 ∨ r = 17 ∨ r = 18))
/-- references show to cells that there are -/
def ov_clo (S : ov_S) : Prop := ∀ r i, (r, i) ∈ S.2.2.1 →
  (∀ c fks k fk, ov_sh r = .inl (c, fks) → fks[k]? = some fk → 2 ≤ fk.1 → S.1 r i k ≠ 0 → (fk.2.1, fk.2.2 i) ∈ S.2.2.1) ∧
  (∀ t n q g j, ov_sh r = .inr (t, n, q, g) → 3 ≤ t → j < n → S.1 r i j ≠ 0 → (q, g i j) ∈ S.2.2.1) ∧
  (∀ t n q g, ov_sh r = .inr (t, n, q, g) → t ≤ 4)
def ov_rv (ad : Nat → Nat → Nat) : ov_A → Value
  | .inl x => .int x
  | .inr (.inl x) => .long x
  | .inr (.inr (true, r, i)) => .ref (ad r i)
  | .inr (.inr (false, _, _)) => .null
def ov_av (S : ov_S) : ov_A → Prop
  | .inr (.inr (true, r, i)) => ov_lv S r i
  | _ => True
def ov_ls (ad : Nat → Nat → Nat) (lsA : Array Slot) (nL : Nat) (ls : List (Option ov_A)) : Prop := ls.length = nL ∧ lsA.size = nL ∧ lv_wf lsA ∧ ∀ (i : Nat) (v : ov_A), ls[i]? = some (some v) → lsA[i]? = some (.val (ov_rv ad v))
def ov_ext (ad : Nat → Nat → Nat) (S : ov_S) (ad' : Nat → Nat → Nat) (S' : ov_S) : Prop := (∀ r i, (r, i) ∈ S.2.2.1 → (r, i) ∈ S'.2.2.1) ∧ ∀ r i, ov_lv S r i → ad' r i = ad r i
theorem ov_ext_rf {ad : Nat → Nat → Nat} {S S' : ov_S} (h : S'.2.2.1 = S.2.2.1) : ov_ext ad S ad S' := ⟨fun r i q => by rw [h]; exact q, fun _ _ _ => rfl⟩
theorem ov_ext.lv {ad ad' : Nat → Nat → Nat} {S S' : ov_S} (h : ov_ext ad S ad' S') {r i : Nat} (q : ov_lv S r i) : ov_lv S' r i := q.elim (fun q => Or.inl (h.1 r i q)) Or.inr
theorem ov_ext.trans {ad ad' ad'' : Nat → Nat → Nat} {S S' S'' : ov_S} (h : ov_ext ad S ad' S') (g : ov_ext ad' S' ad'' S'') : ov_ext ad S ad'' S'' := ⟨fun r i q => g.1 r i (h.1 r i q), fun r i q => (g.2 r i (h.lv q)).trans (h.2 r i q)⟩
theorem ov_ext.rv {ad ad' : Nat → Nat → Nat} {S S' : ov_S} (h : ov_ext ad S ad' S') : ∀ {v : ov_A}, ov_av S v → ov_rv ad' v = ov_rv ad v
  | .inl _, _ => rfl
  | .inr (.inl _), _ => rfl
  | .inr (.inr (true, r, i)), q => by show Value.ref _ = Value.ref _; rw [h.2 r i q]
  | .inr (.inr (false, _, _)), _ => rfl
theorem ov_ext.av {ad ad' : Nat → Nat → Nat} {S S' : ov_S} (h : ov_ext ad S ad' S') : ∀ {v : ov_A}, ov_av S v → ov_av S' v
  | .inl _, _ => trivial
  | .inr (.inl _), _ => trivial
  | .inr (.inr (true, r, i)), q => h.lv (r := r) (i := i) q
  | .inr (.inr (false, _, _)), _ => trivial
theorem ov_ext.avs {ad ad' : Nat → Nat → Nat} {S S' : ov_S} (h : ov_ext ad S ad' S') {st : List ov_A} (q : ∀ v ∈ st, ov_av S v) : (∀ v ∈ st, ov_av S' v) ∧ st.map (ov_rv ad') = st.map (ov_rv ad) := ⟨fun v hv => h.av (q v hv), List.map_congr_left (fun v hv => h.rv (q v hv))⟩
theorem ov_ext.ls {ad ad' : Nat → Nat → Nat} {S S' : ov_S} (h : ov_ext ad S ad' S') {ls : List (Option ov_A)} {lsA : Array Slot} {nL : Nat} (q : ∀ v, some v ∈ ls → ov_av S v) (g : ov_ls ad lsA nL ls) : ov_ls ad' lsA nL ls := ⟨g.1, g.2.1, g.2.2.1, fun i v hv => by rw [h.rv (q v (List.mem_of_getElem? hv))]; exact g.2.2.2 i v hv⟩
section OVR
variable (D : va_G) (cA : Nat → ClassId) (z bS tS aS L : Nat) (xs : Nat → Int32)
def ov_rep (ad : Nat → Nat → Nat) (S : ov_S) (H : Heap) : Prop := va_P D vwCl (ov_ws cA ad S) H ∧ va_D (fun q => z ≤ q) (ov_ws cA ad S) ∧ ov_clo S ∧ ad 16 0 = bS ∧ ad 17 0 = tS ∧ ad 18 0 = aS ∧ S.2.2.2 = (L, xs)
end OVR
theorem ov_at_ws {cA : Nat → ClassId} {ad : Nat → Nat → Nat} {S : ov_S} {r i : Nat} (h : (r, i) ∈ S.2.2.1) : ∃ q0 : Nat, S.2.2.1[q0]? = some (r, i) ∧ (ov_ws cA ad S)[q0]? = some (ad r i, ov_ce cA ad S r i) := by
  obtain ⟨q0, hq⟩ := List.getElem?_of_mem h
  exact ⟨q0, hq, by simp [ov_ws, List.getElem?_map, hq]⟩
/-- one cell changes -/
theorem ov_ws_set {cA : Nat → ClassId} {ad : Nat → Nat → Nat} {S S' : ov_S} {A : Nat → Prop} {q0 r i : Nat} (hD : va_D A (ov_ws cA ad S)) (hl : S'.2.2.1 = S.2.2.1) (hq : S.2.2.1[q0]? = some (r, i)) (ho : ∀ r' i', ¬ (r' = r ∧ i' = i) → ov_ce cA ad S' r' i' = ov_ce cA ad S r' i') :
    (ov_ws cA ad S).set q0 (ad r i, ov_ce cA ad S' r i) = ov_ws cA ad S' := by
  apply List.ext_getElem?
  intro j
  have hlt : q0 < S.2.2.1.length := (List.getElem?_eq_some_iff.mp hq).1
  rw [List.getElem?_set]
  by_cases e : q0 = j
  · subst e
    have hlt2 : q0 < (ov_ws cA ad S).length := by simpa [ov_ws] using hlt
    rw [if_pos rfl, if_pos hlt2]
    simp only [ov_ws, List.getElem?_map, hl, hq]
    rfl
  · rw [if_neg e]
    simp only [ov_ws, List.getElem?_map, hl]
    cases hj : S.2.2.1[j]? with
    | none => rfl
    | some p =>
      obtain ⟨r', i'⟩ := p
      show some _ = some _
      have hne : ¬ (r' = r ∧ i' = i) := by
        rintro ⟨rfl, rfl⟩
        exact e (hD.1 q0 j (ad r' i', ov_ce cA ad S r' i') (ad r' i', ov_ce cA ad S r' i') (by simp [ov_ws, List.getElem?_map, hq]) (by simp [ov_ws, List.getElem?_map, hj]) rfl)
      dsimp only
      rw [ho r' i' hne]
theorem ov_fv_o {ad : Nat → Nat → Nat} {S S' : ov_S} {r i k : Nat} {fk : Nat × Nat × (Nat → Nat)} (h : S'.1 r i k = S.1 r i k) : ov_fv ad S' r i k fk = ov_fv ad S r i k fk := by
  unfold ov_fv
  rw [h]
theorem ov_ce_o {cA : Nat → ClassId} {ad : Nat → Nat → Nat} {S S' : ov_S} {r i : Nat} (h : ∀ k, S'.1 r i k = S.1 r i k) (h2 : ∀ k, S'.2.1 r i k = S.2.1 r i k) : ov_ce cA ad S' r i = ov_ce cA ad S r i := by
  have e1 : S'.1 r i = S.1 r i := funext h
  have e2 : S'.2.1 r i = S.2.1 r i := funext h2
  have e3 : ∀ k fk, ov_fv ad S' r i k fk = ov_fv ad S r i k fk := fun k fk => ov_fv_o (h k)
  unfold ov_ce
  simp only [e1, e2, e3]
theorem ov_w_o {S : ov_S} {r i j : Nat} {v : Int32} {r' i' : Nat} (h : ¬ (r' = r ∧ i' = i)) : (∀ k, (ov_w S r i j v).1 r' i' k = S.1 r' i' k) ∧ ∀ k, (ov_w S r i j v).2.1 r' i' k = S.2.1 r' i' k := by
  refine ⟨fun k => ?_, fun k => rfl⟩
  show (if r' = r ∧ i' = i ∧ k = j then v else S.1 r' i' k) = _
  rw [if_neg (fun q => h ⟨q.1, q.2.1⟩)]
theorem ov_w_s {S : ov_S} {r i j : Nat} {v : Int32} {k : Nat} : (ov_w S r i j v).1 r i k = if k = j then v else S.1 r i k := by
  show (if r = r ∧ i = i ∧ k = j then v else S.1 r i k) = _
  simp
theorem ov_wl_o {S : ov_S} {r i j : Nat} {v : Int64} {r' i' : Nat} (h : ¬ (r' = r ∧ i' = i)) : (∀ k, (ov_wl S r i j v).1 r' i' k = S.1 r' i' k) ∧ ∀ k, (ov_wl S r i j v).2.1 r' i' k = S.2.1 r' i' k := by
  refine ⟨fun k => rfl, fun k => ?_⟩
  show (if r' = r ∧ i' = i ∧ k = j then v else S.2.1 r' i' k) = _
  rw [if_neg (fun q => h ⟨q.1, q.2.1⟩)]
theorem ov_wa_o {S : ov_S} {r i : Nat} {f : Nat → Int32} {r' i' : Nat} (h : ¬ (r' = r ∧ i' = i)) : (∀ k, (ov_wa S r i f).1 r' i' k = S.1 r' i' k) ∧ ∀ k, (ov_wa S r i f).2.1 r' i' k = S.2.1 r' i' k := by
  refine ⟨fun k => ?_, fun k => rfl⟩
  show (if r' = r ∧ i' = i then f else S.1 r' i') k = _
  rw [if_neg h]
/-- the closure keeps, where no reference is written -/
theorem ov_clo_w {S S' : ov_S} {r i : Nat} (h : ov_clo S) (hl : S'.2.2.1 = S.2.2.1) (ho : ∀ r' i', ¬ (r' = r ∧ i' = i) → ∀ k, S'.1 r' i' k = S.1 r' i' k)
    (h1 : ∀ c fks k fk, ov_sh r = .inl (c, fks) → fks[k]? = some fk → 2 ≤ fk.1 → S'.1 r i k ≠ 0 → (fk.2.1, fk.2.2 i) ∈ S.2.2.1)
    (h2 : ∀ t n q g j, ov_sh r = .inr (t, n, q, g) → 3 ≤ t → j < n → S'.1 r i j ≠ 0 → (q, g i j) ∈ S.2.2.1) : ov_clo S' := by
  intro r' i' hm
  rw [hl] at hm ⊢
  by_cases e : r' = r ∧ i' = i
  · obtain ⟨rfl, rfl⟩ := e
    exact ⟨h1, h2, (h r' i' hm).2.2⟩
  · obtain ⟨a1, a2, a3⟩ := h r' i' hm
    refine ⟨fun c fks k fk e1 e2 e3 e4 => a1 c fks k fk e1 e2 e3 (by rw [← ho r' i' e k]; exact e4), fun t n q g j e1 e2 e3 e4 => a2 t n q g j e1 e2 e3 (by rw [← ho r' i' e j]; exact e4), a3⟩
theorem ov_ce_obj {cA : Nat → ClassId} {ad : Nat → Nat → Nat} {S : ov_S} {r i c : Nat} {fks : List (Nat × Nat × (Nat → Nat))} (h : ov_sh r = .inl (c, fks)) : ov_ce cA ad S r i = .inr (c, fks.mapIdx (fun k fk => ov_fv ad S r i k fk)) := by
  unfold ov_ce; rw [h]
theorem ov_ce_arr {cA : Nat → ClassId} {ad : Nat → Nat → Nat} {S : ov_S} {r i t n q : Nat} {g : Nat → Nat → Nat} (h : ov_sh r = .inr (t, n, q, g)) : ov_ce cA ad S r i = .inl (cA t, n, if t ≤ 1 then .inl (S.1 r i) else if t = 2 then .inr (.inl (S.2.1 r i)) else .inr (.inr (.inr (.inr (fun j => if j < n then (if S.1 r i j = 0 then none else some (ad q (g i j))) else none))))) := by
  unfold ov_ce; rw [h]
/-- a field's new value -/
theorem ov_mapIdx_set {α β : Type} (f f' : Nat → α → β) (l : List α) (k : Nat) (v : β) (hv : ∀ a, l[k]? = some a → f' k a = v) (ho : ∀ j a, j ≠ k → f' j a = f j a) : (l.mapIdx f).set k v = l.mapIdx f' := by
  apply List.ext_getElem?
  intro j
  rw [List.getElem?_set, List.getElem?_mapIdx, List.getElem?_mapIdx]
  by_cases e : k = j
  · subst e
    rw [if_pos rfl]
    cases hk : l[k]? with
    | none =>
      have : ¬ k < (l.mapIdx f).length := by simpa using hk
      rw [if_neg this]
      rfl
    | some a =>
      have hlt : k < (l.mapIdx f).length := by simpa using (List.getElem?_eq_some_iff.mp hk).1
      rw [if_pos hlt]
      simp [hv a hk]
  · rw [if_neg e]
    cases l[j]? with
    | none => rfl
    | some a => simp [ho j a (fun h => e h.symm)]
/-- a cell comes at the address q -/
def ov_ua (ad : Nat → Nat → Nat) (r i q : Nat) : Nat → Nat → Nat := fun r' i' => if r' = r ∧ i' = i then q else ad r' i'
theorem ov_ua_s {ad : Nat → Nat → Nat} {r i q : Nat} : ov_ua ad r i q r i = q := by simp [ov_ua]
theorem ov_ua_o {ad : Nat → Nat → Nat} {r i q r' i' : Nat} (h : ¬ (r' = r ∧ i' = i)) : ov_ua ad r i q r' i' = ad r' i' := by
  show (if r' = r ∧ i' = i then q else ad r' i') = _
  rw [if_neg h]
theorem ov_n_o {S : ov_S} {r i r' i' : Nat} (h : ¬ (r' = r ∧ i' = i)) : (∀ k, (ov_n S r i).1 r' i' k = S.1 r' i' k) ∧ ∀ k, (ov_n S r i).2.1 r' i' k = S.2.1 r' i' k := by
  refine ⟨fun k => ?_, fun k => ?_⟩
  · show (if r' = r ∧ i' = i then (fun _ => (0 : Int32)) else S.1 r' i') k = _
    rw [if_neg h]
  · show (if r' = r ∧ i' = i then (fun _ => (0 : Int64)) else S.2.1 r' i') k = _
    rw [if_neg h]
theorem ov_n_s {S : ov_S} {r i : Nat} : (∀ k, (ov_n S r i).1 r i k = 0) ∧ ∀ k, (ov_n S r i).2.1 r i k = 0 := by
  refine ⟨fun k => ?_, fun k => ?_⟩
  · show (if r = r ∧ i = i then (fun _ => (0 : Int32)) else S.1 r i) k = _
    simp
  · show (if r = r ∧ i = i then (fun _ => (0 : Int64)) else S.2.1 r i) k = _
    simp
theorem ov_ws_push {cA : Nat → ClassId} {ad : Nat → Nat → Nat} {S : ov_S} {r i q : Nat} (hc : ov_clo S) (hn : (r, i) ∉ S.2.2.1) :
    ov_ws cA (ov_ua ad r i q) (ov_n S r i) = ov_ws cA ad S ++ [(q, ov_ce cA (ov_ua ad r i q) (ov_n S r i) r i)] := by
  show (S.2.2.1 ++ [(r, i)]).map _ = _
  rw [List.map_append]
  congr 1
  · apply List.map_congr_left
    rintro ⟨r', i'⟩ hm
    have hne : ¬ (r' = r ∧ i' = i) := by rintro ⟨rfl, rfl⟩; exact hn hm
    obtain ⟨a1, a2, a3⟩ := hc r' i' hm
    have key : ∀ q' j', (q', j') ∈ S.2.2.1 → ov_ua ad r i q q' j' = ad q' j' := fun q' j' h => ov_ua_o (by rintro ⟨rfl, rfl⟩; exact hn h)
    obtain ⟨o1, o2⟩ := ov_n_o (S := S) hne
    dsimp only
    rw [key r' i' hm, ov_ce_o (S := S) o1 o2]
    congr 1
    unfold ov_ce
    cases hsh : ov_sh r' with
    | inl p =>
      obtain ⟨c, fks⟩ := p
      dsimp only
      congr 2
      apply List.ext_getElem?
      intro k
      rw [List.getElem?_mapIdx, List.getElem?_mapIdx]
      cases hk : fks[k]? with
      | none => rfl
      | some fk =>
        show some _ = some _
        congr 1
        unfold ov_fv
        dsimp only
        by_cases h2 : 2 ≤ fk.1
        · rw [if_pos h2, if_pos h2]
          by_cases h3 : S.1 r' i' k = 0
          · rw [if_pos h3, if_pos h3]
          · rw [if_neg h3, if_neg h3, key _ _ (a1 c fks k fk hsh hk h2 h3)]
        · rw [if_neg h2, if_neg h2]
    | inr p =>
      obtain ⟨t, n, q', g⟩ := p
      dsimp only
      congr 2
      by_cases t1 : t ≤ 1
      · rw [if_pos t1, if_pos t1]
      · rw [if_neg t1, if_neg t1]
        by_cases t2 : t = 2
        · rw [if_pos t2, if_pos t2]
        · rw [if_neg t2, if_neg t2]
          congr 5
          funext j
          by_cases hj : j < n
          · rw [if_pos hj, if_pos hj]
            by_cases h3 : S.1 r' i' j = 0
            · rw [if_pos h3, if_pos h3]
            · rw [if_neg h3, if_neg h3, key _ _ (a2 t n q' g j hsh (by omega) hj h3)]
          · rw [if_neg hj, if_neg hj]
  · simp [ov_ua_s]
theorem ov_clo_n {S : ov_S} {r i : Nat} (h : ov_clo S) (ht : ∀ t n q g, ov_sh r = .inr (t, n, q, g) → t ≤ 4) : ov_clo (ov_n S r i) := by
  intro r' i' hm
  have up : ∀ p, p ∈ S.2.2.1 → p ∈ (ov_n S r i).2.2.1 := fun p hp => List.mem_append_left _ hp
  by_cases e : r' = r ∧ i' = i
  · obtain ⟨rfl, rfl⟩ := e
    exact ⟨fun c fks k fk _ _ _ h4 => absurd (ov_n_s.1 k) h4, fun t n q g j _ _ _ h4 => absurd (ov_n_s.1 j) h4, ht⟩
  · have hm' : (r', i') ∈ S.2.2.1 := by
      rcases List.mem_append.mp hm with h1 | h1
      · exact h1
      · have := List.mem_singleton.mp h1
        exact absurd ⟨congrArg Prod.fst this, congrArg Prod.snd this⟩ e
    obtain ⟨a1, a2, a3⟩ := h r' i' hm'
    refine ⟨fun c fks k fk e1 e2 e3 e4 => up _ (a1 c fks k fk e1 e2 e3 (by rw [← (ov_n_o (S := S) e).1 k]; exact e4)), fun t n q g j e1 e2 e3 e4 => up _ (a2 t n q g j e1 e2 e3 (by rw [← (ov_n_o (S := S) e).1 j]; exact e4)), a3⟩
theorem ov_ext_n {ad : Nat → Nat → Nat} {S : ov_S} {r i q : Nat} (hn : (r, i) ∉ S.2.2.1) (hb : ¬ (r = 16 ∨ r = 17 ∨ r = 18)) : ov_ext ad S (ov_ua ad r i q) (ov_n S r i) := by
  refine ⟨fun r' i' h => List.mem_append_left _ h, fun r' i' h => ov_ua_o ?_⟩
  rintro ⟨rfl, rfl⟩
  rcases h with h | ⟨-, h⟩
  · exact hn h
  · exact hb h
