theorem ov_nth_mem {α : Type} (d : α) : ∀ (l : List α) (n : Nat), ov_nth d l n = d ∨ ov_nth d l n ∈ l
  | [], _ => Or.inl rfl
  | a :: l, 0 => Or.inr List.mem_cons_self
  | a :: l, n + 1 => (ov_nth_mem d l n).elim Or.inl (fun h => Or.inr (List.mem_cons_of_mem _ h))
theorem ov_nth_ge {α : Type} (d : α) : ∀ (l : List α) (n : Nat), l.length ≤ n → ov_nth d l n = d
  | [], _, _ => rfl
  | a :: l, 0, h => by simp at h
  | a :: l, n + 1, h => ov_nth_ge d l n (by simpa using h)
/-- a class of ours -/
def ov_ct (c : Nat) (C : String) (T : u_T) (N : Nat) (ty : Nat → FieldType) : Prop := vwCl[c]? = some (C, T, N) ∧ C = ov_cn c ∧ (∀ w ∈ u_ws C T N, w ∈ ov_T) ∧ (∀ k, k < N → parseFieldDescriptor (T k).2.2.1 = some (ty k)) ∧ (∀ a, a < N → ∀ b, b < N → a ≠ b → (T a).2.1 ≠ (T b).2.1) ∧ Cond.instantiable C N ∈ ov_T ∧ Cond.initialized C ∈ ov_T
theorem ov_inTs {ws : List Cond} (h : ∀ w ∈ ws, w ∈ lw_tbl) (g : ∀ w ∈ ws, goodWord w = true) : ∀ w ∈ ws, w ∈ ov_T := fun w hw => ov_inT (h w hw) (g w hw)
set_option maxRecDepth 100000 in
theorem ov_ct0 : ov_ct 0 RX0 TX0 8 tyX0 := ⟨rfl, rfl, ov_inTs (by decide +kernel) (by decide +kernel), tyX0_ok, nmX0, ov_inT (by decide +kernel) (by decide +kernel), ov_inT (by decide +kernel) (by decide +kernel)⟩
set_option maxRecDepth 100000 in
theorem ov_ct1 : ov_ct 1 RX1 TX1 4 tyX1 := ⟨rfl, rfl, ov_inTs (by decide +kernel) (by decide +kernel), tyX1_ok, nmX1, ov_inT (by decide +kernel) (by decide +kernel), ov_inT (by decide +kernel) (by decide +kernel)⟩
set_option maxRecDepth 100000 in
theorem ov_ct2 : ov_ct 2 RX2 TX2 1 tyX2 := ⟨rfl, rfl, ov_inTs (by decide +kernel) (by decide +kernel), tyX2_ok, nmX2, ov_inT (by decide +kernel) (by decide +kernel), ov_inT (by decide +kernel) (by decide +kernel)⟩
set_option maxRecDepth 100000 in
theorem ov_ct3 : ov_ct 3 RX3 TX3 8 tyX3 := ⟨rfl, rfl, ov_inTs (by decide +kernel) (by decide +kernel), tyX3_ok, nmX3, ov_inT (by decide +kernel) (by decide +kernel), ov_inT (by decide +kernel) (by decide +kernel)⟩
set_option maxRecDepth 100000 in
theorem ov_ct4 : ov_ct 4 RX4 TX4 5 tyX4 := ⟨rfl, rfl, ov_inTs (by decide +kernel) (by decide +kernel), tyX4_ok, nmX4, ov_inT (by decide +kernel) (by decide +kernel), ov_inT (by decide +kernel) (by decide +kernel)⟩
set_option maxRecDepth 100000 in
theorem ov_ct5 : ov_ct 5 RX5 TX5 10 tyX5 := ⟨rfl, rfl, ov_inTs (by decide +kernel) (by decide +kernel), tyX5_ok, nmX5, ov_inT (by decide +kernel) (by decide +kernel), ov_inT (by decide +kernel) (by decide +kernel)⟩
set_option maxRecDepth 100000 in
theorem ov_ct6 : ov_ct 6 RX6 TX6 6 tyX6 := ⟨rfl, rfl, ov_inTs (by decide +kernel) (by decide +kernel), tyX6_ok, nmX6, ov_inT (by decide +kernel) (by decide +kernel), ov_inT (by decide +kernel) (by decide +kernel)⟩
set_option maxRecDepth 100000 in
theorem ov_ct7 : ov_ct 7 RX7 TX7 3 tyX7 := ⟨rfl, rfl, ov_inTs (by decide +kernel) (by decide +kernel), tyX7_ok, nmX7, ov_inT (by decide +kernel) (by decide +kernel), ov_inT (by decide +kernel) (by decide +kernel)⟩
set_option maxRecDepth 100000 in
theorem ov_ct8 : ov_ct 8 RX8 TX8 12 tyX8 := ⟨rfl, rfl, ov_inTs (by decide +kernel) (by decide +kernel), tyX8_ok, nmX8, ov_inT (by decide +kernel) (by decide +kernel), ov_inT (by decide +kernel) (by decide +kernel)⟩
set_option maxRecDepth 100000 in
theorem ov_ct9 : ov_ct 9 RX9 TX9 3 tyX9 := ⟨rfl, rfl, ov_inTs (by decide +kernel) (by decide +kernel), tyX9_ok, nmX9, ov_inT (by decide +kernel) (by decide +kernel), ov_inT (by decide +kernel) (by decide +kernel)⟩
set_option maxRecDepth 100000 in
theorem ov_ct10 : ov_ct 10 RX10 TX10 11 tyX10 := ⟨rfl, rfl, ov_inTs (by decide +kernel) (by decide +kernel), tyX10_ok, nmX10, ov_inT (by decide +kernel) (by decide +kernel), ov_inT (by decide +kernel) (by decide +kernel)⟩
set_option maxRecDepth 100000 in
theorem ov_ct11 : ov_ct 11 RX11 TX11 7 tyX11 := ⟨rfl, rfl, ov_inTs (by decide +kernel) (by decide +kernel), tyX11_ok, nmX11, ov_inT (by decide +kernel) (by decide +kernel), ov_inT (by decide +kernel) (by decide +kernel)⟩
set_option maxRecDepth 100000 in
theorem ov_ct12 : ov_ct 12 RX12 TX12 64 tyX12 := ⟨rfl, rfl, ov_inTs (by decide +kernel) (by decide +kernel), tyX12_ok, nmX12, ov_inT (by decide +kernel) (by decide +kernel), ov_inT (by decide +kernel) (by decide +kernel)⟩
theorem ov_cts : ∀ c, c < 13 → ∃ C T N ty, ov_ct c C T N ty
  | 0, _ => ⟨_, _, _, _, ov_ct0⟩
  | 1, _ => ⟨_, _, _, _, ov_ct1⟩
  | 2, _ => ⟨_, _, _, _, ov_ct2⟩
  | 3, _ => ⟨_, _, _, _, ov_ct3⟩
  | 4, _ => ⟨_, _, _, _, ov_ct4⟩
  | 5, _ => ⟨_, _, _, _, ov_ct5⟩
  | 6, _ => ⟨_, _, _, _, ov_ct6⟩
  | 7, _ => ⟨_, _, _, _, ov_ct7⟩
  | 8, _ => ⟨_, _, _, _, ov_ct8⟩
  | 9, _ => ⟨_, _, _, _, ov_ct9⟩
  | 10, _ => ⟨_, _, _, _, ov_ct10⟩
  | 11, _ => ⟨_, _, _, _, ov_ct11⟩
  | 12, _ => ⟨_, _, _, _, ov_ct12⟩
  | n + 13, h => absurd h (by omega)
def ov_kd (T : u_T) (k kind : Nat) : Bool := match kind with
  | 0 => decide ((T k).2.2.1 = "I") && !(T k).2.2.2
  | 1 => decide ((T k).2.2.1 = "Z") && !(T k).2.2.2
  | 2 => (T k).2.2.2 && match parseFieldDescriptor (T k).2.2.1 with
    | some (.object _) => true
    | some (.array _) => true
    | _ => false
  | 3 => !(T k).2.2.2 && match parseFieldDescriptor (T k).2.2.1 with
    | some (.object _) => true
    | some (.array _) => true
    | _ => false
  | _ => false
def ov_chkS : ov_Sh → Bool
  | .inl (c, fks) => (Nat.blt c 13 && fks.all (fun fk => Nat.ble fk.1 1 || (Nat.blt fk.2.1 16 || Nat.blt 18 fk.2.1))) && match vwCl[c]? with
    | some (C, T, N) => Nat.beq fks.length N && (List.range N).all (fun k => match fks[k]? with
      | some fk => ov_kd T k fk.1 && decide ((T k).1 = C)
      | none => false)
    | none => false
  | .inr (t, n, q, _) => Nat.ble n 100000 && match t with
    | 3 => (match ov_sh q with
      | .inl (8, _) => true
      | _ => false)
    | 4 => (match ov_sh q with
      | .inl (3, _) => true
      | _ => false)
    | _ => true
theorem ov_shl_ok : ov_shl.all ov_chkS = true := by decide +kernel
/-- an object's region -/
theorem ov_obj {r c : Nat} {fks : List (Nat × Nat × (Nat → Nat))} (h : ov_sh r = .inl (c, fks)) : ∃ C T N ty, ov_ct c C T N ty ∧ fks.length = N ∧ ∀ k fk, fks[k]? = some fk → ov_kd T k fk.1 = true ∧ (T k).1 = C := by
  rcases ov_nth_mem (.inr (99, 0, 0, fun _ _ => 0)) ov_shl r with e | e
  · rw [show ov_nth (.inr (99, 0, 0, fun _ _ => 0)) ov_shl r = ov_sh r from rfl, h] at e
    cases e
  · rw [show ov_nth (.inr (99, 0, 0, fun _ _ => 0)) ov_shl r = ov_sh r from rfl, h] at e
    have h1 := List.all_eq_true.mp ov_shl_ok _ e
    unfold ov_chkS at h1
    rw [Bool.and_eq_true] at h1
    obtain ⟨h2, h3⟩ := h1
    rw [Bool.and_eq_true] at h2
    obtain ⟨C, T, N, ty, hct⟩ := ov_cts c (Nat.le_of_ble_eq_true h2.1)
    rw [hct.1] at h3
    dsimp only at h3
    rw [Bool.and_eq_true] at h3
    have hN := Nat.eq_of_beq_eq_true h3.1
    refine ⟨C, T, N, ty, hct, hN, fun k fk hk => ?_⟩
    have hlt : k < N := by rw [← hN]; exact (List.getElem?_eq_some_iff.mp hk).1
    have h4 := List.all_eq_true.mp h3.2 k (List.mem_range.mpr hlt)
    rw [hk] at h4
    dsimp only at h4
    rw [Bool.and_eq_true] at h4
    exact ⟨h4.1, of_decide_eq_true h4.2⟩
theorem ov_arr {r t n q : Nat} {g : Nat → Nat → Nat} (h : ov_sh r = .inr (t, n, q, g)) : n ≤ 100000 ∧ (t = 3 → ∃ fks, ov_sh q = .inl (8, fks)) ∧ (t = 4 → ∃ fks, ov_sh q = .inl (3, fks)) := by
  rcases ov_nth_mem (.inr (99, 0, 0, fun _ _ => 0)) ov_shl r with e | e
  · rw [show ov_nth (.inr (99, 0, 0, fun _ _ => 0)) ov_shl r = ov_sh r from rfl, h] at e
    cases e
    exact ⟨by omega, fun h => by omega, fun h => by omega⟩
  · rw [show ov_nth (.inr (99, 0, 0, fun _ _ => 0)) ov_shl r = ov_sh r from rfl, h] at e
    have h1 := List.all_eq_true.mp ov_shl_ok _ e
    unfold ov_chkS at h1
    rw [Bool.and_eq_true] at h1
    obtain ⟨h2, h3⟩ := h1
    refine ⟨Nat.le_of_ble_eq_true h2, ?_, ?_⟩
    · rintro rfl
      have h4 : (match ov_sh q with
        | .inl (8, _) => true
        | _ => false) = true := h3
      split at h4
      · exact ⟨_, by assumption⟩
      · cases h4
    · rintro rfl
      have h4 : (match ov_sh q with
        | .inl (3, _) => true
        | _ => false) = true := h3
      split at h4
      · exact ⟨_, by assumption⟩
      · cases h4
/-- no field shows to the old cells -/
theorem ov_tgt {r c k kd q : Nat} {fks : List (Nat × Nat × (Nat → Nat))} {g : Nat → Nat} (h : ov_sh r = .inl (c, fks)) (hk : fks[k]? = some (kd, q, g)) (h2 : 2 ≤ kd) (hq : q = 16 ∨ q = 17 ∨ q = 18) : False := by
  rcases ov_nth_mem (.inr (99, 0, 0, fun _ _ => 0)) ov_shl r with e | e
  · rw [show ov_nth (.inr (99, 0, 0, fun _ _ => 0)) ov_shl r = ov_sh r from rfl, h] at e
    cases e
  · rw [show ov_nth (.inr (99, 0, 0, fun _ _ => 0)) ov_shl r = ov_sh r from rfl, h] at e
    have h1 := List.all_eq_true.mp ov_shl_ok _ e
    unfold ov_chkS at h1
    rw [Bool.and_eq_true, Bool.and_eq_true] at h1
    have h3 := List.all_eq_true.mp h1.1.2 _ (List.mem_of_getElem? hk)
    rcases hq with rfl | rfl | rfl
    · rcases (Bool.or_eq_true _ _ ▸ h3 : _ ∨ _) with h4 | h4
      · have := Nat.le_of_ble_eq_true h4
        dsimp only at this
        omega
      · cases h4
    · rcases (Bool.or_eq_true _ _ ▸ h3 : _ ∨ _) with h4 | h4
      · have := Nat.le_of_ble_eq_true h4
        dsimp only at this
        omega
      · cases h4
    · rcases (Bool.or_eq_true _ _ ▸ h3 : _ ∨ _) with h4 | h4
      · have := Nat.le_of_ble_eq_true h4
        dsimp only at this
        omega
      · cases h4
def ov_ip (w : Cond) (p : Nat) : Bool := match lw_tbl[p]? with
  | some w' => decide (w = w')
  | none => false
theorem ov_ip_e {w : Cond} {p : Nat} (h : ov_ip w p = true) : w ∈ lw_tbl := by
  unfold ov_ip at h
  split at h
  · rename_i w' e
    rw [of_decide_eq_true h]
    exact List.mem_of_getElem? e
  · cases h
def ov_all2 {α β : Type} (f : α → β → Bool) : List α → List β → Bool
  | [], _ => true
  | _ :: _, [] => false
  | a :: l, b :: k => f a b && ov_all2 f l k
theorem ov_all2_e {α β : Type} {f : α → β → Bool} : ∀ {l : List α} {k : List β}, ov_all2 f l k = true → ∀ a ∈ l, ∃ b, f a b = true
  | [], _, _, a, h => by cases h
  | _ :: _, [], h, _, _ => by cases h
  | x :: l, b :: k, h, a, ha => by
    have h2 : _ ∧ _ := Bool.and_eq_true _ _ ▸ h
    rcases List.mem_cons.mp ha with rfl | ha
    · exact ⟨b, h2.1⟩
    · exact ov_all2_e h2.2 a ha
def ov_chkF (c : Nat) (e : Nat × Nat × Nat) (p : Nat) : Bool := match vwCl[e.2.1]? with
  | some (_, T, N) => Nat.blt e.2.2 N && ov_ip (Cond.fieldLink (ov_cn c) e.1 (T e.2.2).1 (T e.2.2).2.1 (T e.2.2).2.2.1) p
  | none => false
def ov_flp : List (List Nat) := [[140, 141, 142, 143, 144, 147, 148, 145], [458, 462, 463, 460], [448], [291, 292, 293, 294, 295, 296, 302, 299], [212, 214, 216, 218, 220], [372, 375, 379, 381, 382, 383, 373, 377, 384, 385, 224], [176, 178, 180, 182, 186, 184], [413, 414, 415], [246, 248, 236, 238, 240, 242, 244, 251, 253, 255, 257, 259, 223], [430, 434, 432], [322, 323, 326, 328, 330, 332, 339, 324, 333, 336, 337, 237, 239, 254, 252, 250, 222, 213, 217, 215, 219, 247, 304, 256, 241, 260, 243, 258, 298, 301, 245], [473, 474, 475, 476, 477, 478, 479, 335, 327, 303, 374, 325, 376, 249, 221, 378, 380, 338, 300, 297, 329, 331, 177, 433, 431, 179, 181, 185, 183, 461, 459, 187, 146, 340, 334], [1080, 1081, 1082, 1083, 1084, 1085, 1086, 1087, 1088, 1089, 1090, 1091, 1092, 1094, 1096, 1097, 1098, 1100, 1101, 1102, 1103, 1104, 1105, 1106, 1107, 1108, 1109, 1110, 1119, 1120, 1121, 1122, 1123, 1125, 1127, 1128, 1129, 1130, 1131, 1133, 1134, 1135, 1136, 1140, 1077, 1078, 1079, 1111, 1112, 1113, 1114, 1115, 1116, 1117, 1118, 1099, 1093, 1095, 1124, 1126, 1132, 1139, 1137, 1138], [], [], [], []]
set_option maxRecDepth 100000 in
theorem ov_fl_ok : ∀ c, c < 17 → ov_all2 (ov_chkF c) (ov_nth [] ov_fl c) (ov_nth [] ov_flp c) = true := by decide +kernel
theorem ov_lf_ok {c i ci k : Nat} (h : ov_lf c i = some (ci, k)) : ∃ C T N, vwCl[ci]? = some (C, T, N) ∧ k < N ∧ Cond.fieldLink (ov_cn c) i (T k).1 (T k).2.1 (T k).2.2.1 ∈ ov_T := by
  have hm := ov_lk_mem h
  by_cases hc : c < 17
  · obtain ⟨p, h1⟩ := ov_all2_e (ov_fl_ok c hc) _ hm
    unfold ov_chkF at h1
    dsimp only at h1
    split at h1
    · rename_i C T N e
      rw [Bool.and_eq_true] at h1
      exact ⟨C, T, N, e, Nat.le_of_ble_eq_true h1.1, ov_inT (ov_ip_e h1.2) rfl⟩
    · cases h1
  · rw [ov_nth_ge [] ov_fl c (show 17 ≤ c by omega)] at hm
    cases hm
def ov_in1 (w : Cond) : Bool := decide (w ∈ lw_tbl) && goodWord w
theorem ov_in1_e {w : Cond} (h : ov_in1 w = true) : w ∈ ov_T := by
  rw [ov_in1, Bool.and_eq_true] at h
  exact ov_inT (of_decide_eq_true h.1) h.2
def ov_in2 (w : Cond) : Bool := decide (w ∈ lw_tbl) && ov_isN w
theorem ov_in2_e {w : Cond} (h : ov_in2 w = true) : w ∈ ov_nw := by
  rw [ov_in2, Bool.and_eq_true] at h
  exact List.mem_filter.mpr ⟨of_decide_eq_true h.1, h.2⟩
def ov_i1 (w : Cond) (p : Nat) : Bool := ov_ip w p && goodWord w
theorem ov_i1_e {w : Cond} {p : Nat} (h : ov_i1 w p = true) : w ∈ ov_T := by
  rw [ov_i1, Bool.and_eq_true] at h
  exact ov_inT (ov_ip_e h.1) h.2
def ov_i2 (w : Cond) (p : Nat) : Bool := ov_ip w p && ov_isN w
theorem ov_i2_e {w : Cond} {p : Nat} (h : ov_i2 w p = true) : w ∈ ov_nw := by
  rw [ov_i2, Bool.and_eq_true] at h
  exact List.mem_filter.mpr ⟨ov_ip_e h.1, h.2⟩
def ov_chkM (c : Nat) (e : Nat × Nat × ov_M) (p : Nat × Nat × Nat) : Bool := match e.2.1 with
  | 0 => ov_i1 (.methodLink (ov_cn c) e.1 e.2.2.2.1) p.1 && ov_i1 (.static e.2.2.2.1) p.2.1
  | 1 => ov_i1 (.methodLink (ov_cn c) e.1 e.2.2.2.1) p.1 && (ov_i1 (.instanceMethod e.2.2.2.1) p.2.1 && ov_i1 (.selects e.2.2.2.1.cls e.2.2.2.1 e.2.2.2.1) p.2.2)
  | 2 => ov_i1 (.methodLink (ov_cn c) e.1 e.2.2.2.1) p.1 && (ov_i1 (.instanceMethod e.2.2.2.1) p.2.1 && (decide (e.2.2.2.1.name = "<init>") && decide (e.2.2.2.2.2.2.1 = none)))
  | 3 => ov_i2 (.methodLinkNest (ov_cn c) e.1 e.2.2.2.1 "OneEye") p.1 && ov_i1 (.static e.2.2.2.1) p.2.1
  | 4 => ov_i2 (.methodLinkNest (ov_cn c) e.1 e.2.2.2.1 "OneEye") p.1 && (ov_i1 (.instanceMethod e.2.2.2.1) p.2.1 && ov_i1 (.selects e.2.2.2.1.cls e.2.2.2.1 e.2.2.2.1) p.2.2)
  | 5 => ov_i2 (.methodLinkNest (ov_cn c) e.1 e.2.2.2.1 "OneEye") p.1 && (ov_i1 (.instanceMethod e.2.2.2.1) p.2.1 && (decide (e.2.2.2.1.name = "<init>") && decide (e.2.2.2.2.2.2.1 = none)))
  | 6 => ov_i1 (.methodLink (ov_cn c) e.1 objectInit) p.1
  | 7 => ov_i1 (.methodLink (ov_cn c) e.1 arraycopyName) p.1
  | 10 => ov_i1 (.methodLink (ov_cn c) e.1 Lib.Math.max.name) p.1
  | 11 => ov_i1 (.methodLink (ov_cn c) e.1 Lib.Math.min.name) p.1
  | 8 => decide (c = 5) && ov_i1 (.methodLink (ov_cn c) e.1 ⟨"java/lang/String", "length", "()I"⟩) p.1
  | 9 => decide (c = 5) && ov_i1 (.methodLink (ov_cn c) e.1 ⟨"java/lang/String", "charAt", "(I)C"⟩) p.1
  | _ => false
set_option maxRecDepth 100000 in
theorem ov_mlc0 : ov_all2 (ov_chkM 0) ov_ml0 [(139, 0, 0), (1060, 0, 0), (958, 960, 34), (964, 965, 0), (970, 972, 35), (962, 174, 0), (741, 504, 0), (963, 528, 0)] = true := by decide +kernel
set_option maxRecDepth 100000 in
theorem ov_mlc1 : ov_all2 (ov_chkM 1) ov_ml1 [(457, 0, 0), (991, 174, 0), (993, 0, 0), (994, 996, 36), (998, 1000, 37), (1002, 0, 0), (1005, 0, 0)] = true := by decide +kernel
set_option maxRecDepth 100000 in
theorem ov_mlc2 : ov_all2 (ov_chkM 2) ov_ml2 [(447, 0, 0), (937, 174, 0), (938, 940, 32), (943, 945, 33), (947, 0, 0), (949, 528, 0), (942, 743, 0), (948, 504, 0)] = true := by decide +kernel
set_option maxRecDepth 100000 in
theorem ov_mlc3 : ov_all2 (ov_chkM 3) ov_ml3 [(290, 0, 0), (1054, 0, 0), (728, 504, 0)] = true := by decide +kernel
set_option maxRecDepth 100000 in
theorem ov_mlc4 : ov_all2 (ov_chkM 4) ov_ml4 [(211, 0, 0), (671, 0, 0), (662, 504, 0)] = true := by decide +kernel
set_option maxRecDepth 100000 in
theorem ov_mlc5 : ov_all2 (ov_chkM 5) ov_ml5 [(369, 0, 0), (551, 553, 0), (555, 557, 1), (559, 560, 0), (562, 564, 2), (623, 625, 5), (566, 568, 3), (627, 629, 6), (570, 572, 4), (575, 0, 0), (585, 0, 0), (635, 637, 7), (639, 641, 8), (643, 645, 9), (647, 649, 10), (651, 652, 0), (654, 656, 11), (658, 659, 660), (371, 209, 0), (538, 504, 0)] = true := by decide +kernel
set_option maxRecDepth 100000 in
theorem ov_mlc6 : ov_all2 (ov_chkM 6) ov_ml6 [(172, 0, 0), (173, 174, 0), (1065, 0, 0), (1018, 965, 0), (1019, 1021, 38), (1025, 1027, 39), (1029, 1031, 40), (1033, 1035, 41), (982, 504, 0), (1023, 743, 0), (1024, 528, 0)] = true := by decide +kernel
set_option maxRecDepth 100000 in
theorem ov_mlc7 : ov_all2 (ov_chkM 7) ov_ml7 [(412, 0, 0), (865, 866, 0), (868, 870, 24), (873, 875, 25), (877, 879, 26), (881, 883, 27), (864, 504, 0)] = true := by decide +kernel
set_option maxRecDepth 100000 in
theorem ov_mlc8 : ov_all2 (ov_chkM 8) ov_ml8 [(205, 0, 0), (1049, 0, 0), (667, 668, 669), (844, 782, 783), (850, 841, 842), (208, 209, 0), (711, 504, 0), (851, 743, 0)] = true := by decide +kernel
set_option maxRecDepth 100000 in
theorem ov_mlc9 : ov_all2 (ov_chkM 9) ov_ml9 [(429, 0, 0), (902, 0, 0), (905, 174, 0), (906, 908, 28), (920, 922, 31), (910, 912, 29), (914, 916, 30), (919, 892, 0), (918, 504, 0)] = true := by decide +kernel
set_option maxRecDepth 100000 in
theorem ov_mlc10 : ov_all2 (ov_chkM 10) ov_ml10 [(129, 0, 0), (169, 170, 0), (1045, 1046, 1047), (1050, 1051, 1052), (1055, 0, 0), (1056, 1057, 1058), (1061, 1062, 1063), (720, 721, 722), (733, 734, 735), (688, 690, 12), (694, 696, 13), (765, 767, 21), (769, 771, 22), (698, 524, 525), (699, 701, 14), (749, 751, 18), (703, 705, 15), (716, 718, 16), (729, 731, 17), (712, 713, 714), (707, 708, 709), (724, 725, 726), (737, 738, 739), (745, 746, 747), (753, 755, 19), (757, 759, 20), (761, 762, 763), (773, 775, 23), (136, 137, 0), (202, 203, 0), (287, 288, 0), (510, 504, 0), (839, 528, 0), (742, 743, 0)] = true := by decide +kernel
set_option maxRecDepth 100000 in
theorem ov_mlc11 : ov_all2 (ov_chkM 11) ov_ml11 [(121, 0, 0), (126, 127, 0), (503, 504, 0), (506, 507, 508), (519, 520, 521), (523, 524, 525), (527, 528, 0), (534, 535, 536), (547, 548, 549), (631, 632, 633), (663, 664, 665), (684, 685, 686), (781, 782, 783), (789, 734, 735), (794, 795, 796), (802, 803, 804), (819, 820, 821), (827, 828, 829), (835, 836, 837), (840, 841, 842), (845, 743, 0), (846, 847, 848), (856, 857, 858), (860, 861, 862), (891, 892, 0), (898, 899, 900), (932, 933, 934), (954, 955, 956), (978, 979, 980), (987, 988, 989), (1014, 1015, 1016), (1041, 1042, 1043), (366, 367, 0), (409, 410, 0), (426, 427, 0), (444, 445, 0), (454, 455, 0)] = true := by decide +kernel
set_option maxRecDepth 100000 in
theorem ov_mlc12 : ov_all2 (ov_chkM 12) ov_ml12 [(1075, 0, 0), (1279, 1281, 42), (1287, 1289, 43), (1295, 1297, 44), (1299, 1301, 45), (1307, 1309, 46), (1323, 1325, 48), (1327, 1329, 49), (1331, 1333, 50), (1335, 1337, 51), (1343, 1345, 53), (1319, 1321, 47), (1355, 1357, 56), (1351, 1353, 55), (1359, 1361, 57), (1347, 1349, 54), (1339, 1341, 52), (1394, 1396, 63), (1376, 1378, 59), (1386, 1388, 61), (1390, 1392, 62), (1406, 1408, 66), (1402, 1404, 65), (1410, 1412, 67), (1382, 1384, 60), (1398, 1400, 64), (1414, 1416, 68), (1372, 1374, 58), (1422, 1424, 69), (1466, 1468, 72), (1479, 1481, 75), (1483, 1485, 76), (1458, 1460, 70), (1462, 1464, 71), (1475, 1477, 74), (1470, 1472, 73), (1491, 1493, 77), (1495, 1497, 78), (1499, 1501, 79), (1519, 1521, 82), (1511, 1513, 80), (1515, 1517, 81), (1531, 1533, 83), (1539, 1541, 84), (1543, 1545, 85), (1555, 1557, 86), (1559, 1561, 87), (1579, 1581, 90), (1575, 1577, 89), (1571, 1573, 88), (1587, 1589, 91), (1591, 1593, 92), (1595, 1597, 93)] = true := by decide +kernel
set_option maxRecDepth 100000 in
theorem ov_mlc13 : ov_all2 (ov_chkM 13) ov_ml13 [(118, 119, 0), (1072, 1073, 0), (495, 496, 497), (1271, 1272, 1273), (499, 500, 501), (1275, 1276, 1277), (511, 512, 513), (1283, 1284, 1285), (515, 516, 517), (1291, 1292, 1293), (530, 531, 532), (1303, 1304, 1305), (539, 540, 541), (1311, 1312, 1313), (543, 544, 545), (1315, 1316, 1317), (675, 676, 677), (1363, 1364, 1365), (679, 680, 681), (1367, 1368, 1369), (777, 778, 779), (1418, 1419, 1420), (785, 786, 787), (1426, 1427, 1428), (790, 791, 792), (1442, 1443, 1444), (798, 799, 800), (1446, 1447, 1448), (807, 808, 809), (1450, 1451, 1452), (811, 812, 813), (1430, 1431, 1432), (815, 816, 817), (1434, 1435, 1436), (823, 824, 825), (1438, 1439, 1440), (831, 832, 833), (1454, 1455, 1456), (852, 853, 854), (1487, 1488, 1489), (887, 888, 889), (1503, 1504, 1505), (894, 895, 896), (1507, 1508, 1509), (924, 925, 926), (1523, 1524, 1525), (928, 929, 930), (1527, 1528, 1529), (950, 951, 952), (1535, 1536, 1537), (974, 975, 976), (1547, 1548, 1549), (983, 984, 985), (1551, 1552, 1553), (1006, 1007, 1008), (1563, 1564, 1565), (1010, 1011, 1012), (1567, 1568, 1569), (1037, 1038, 1039), (1583, 1584, 1585), (1066, 1067, 1068), (1599, 1600, 1601)] = true := by decide +kernel
set_option maxRecDepth 100000 in
theorem ov_mlc14 : ov_all2 (ov_chkM 14) ov_ml14 [] = true := by decide +kernel
set_option maxRecDepth 100000 in
theorem ov_mlc15 : ov_all2 (ov_chkM 15) ov_ml15 [] = true := by decide +kernel
set_option maxRecDepth 100000 in
theorem ov_mlc16 : ov_all2 (ov_chkM 16) ov_ml16 [] = true := by decide +kernel
set_option maxRecDepth 100000 in
theorem ov_mlo0 : ∀ e ∈ ov_ml0, ov_okc e.2.2 := List.forall_mem_cons.mpr ⟨ok_mq_Eye_init, List.forall_mem_cons.mpr ⟨ok_mq_Eye_init, List.forall_mem_cons.mpr ⟨ok_mq_Book_gatherSayers, List.forall_mem_cons.mpr ⟨ok_mq_Integer_bitCount, List.forall_mem_cons.mpr ⟨ok_mq_Book_agreeWithout, List.forall_mem_cons.mpr ⟨ok_mq_Arrays_fillI, List.forall_mem_cons.mpr ⟨ok_mq_Eye_within, List.forall_mem_cons.mpr ⟨ok_mq_Eye_withBit, fun _ h => absurd h List.not_mem_nil⟩⟩⟩⟩⟩⟩⟩⟩
set_option maxRecDepth 100000 in
theorem ov_mlo1 : ∀ e ∈ ov_ml1, ov_okc e.2.2 := List.forall_mem_cons.mpr ⟨ok_mq_Eye_init, List.forall_mem_cons.mpr ⟨ok_mq_Arrays_fillI, List.forall_mem_cons.mpr ⟨ok_mq_Eye_init, List.forall_mem_cons.mpr ⟨ok_mq_Deal_deal, List.forall_mem_cons.mpr ⟨ok_mq_Deal_compare, List.forall_mem_cons.mpr ⟨ok_mq_Eye_init, List.forall_mem_cons.mpr ⟨ok_mq_Eye_init, fun _ h => absurd h List.not_mem_nil⟩⟩⟩⟩⟩⟩⟩
set_option maxRecDepth 100000 in
theorem ov_mlo2 : ∀ e ∈ ov_ml2, ov_okc e.2.2 := List.forall_mem_cons.mpr ⟨ok_mq_Eye_init, List.forall_mem_cons.mpr ⟨ok_mq_Arrays_fillI, List.forall_mem_cons.mpr ⟨ok_mq_Feelers_worthiestBut, List.forall_mem_cons.mpr ⟨ok_mq_Feelers_dealOut, List.forall_mem_cons.mpr ⟨ok_mq_Eye_init, List.forall_mem_cons.mpr ⟨ok_mq_Eye_withBit, List.forall_mem_cons.mpr ⟨ok_mq_Eye_holdsBit, List.forall_mem_cons.mpr ⟨ok_mq_Eye_within, fun _ h => absurd h List.not_mem_nil⟩⟩⟩⟩⟩⟩⟩⟩
set_option maxRecDepth 100000 in
theorem ov_mlo3 : ∀ e ∈ ov_ml3, ov_okc e.2.2 := List.forall_mem_cons.mpr ⟨ok_mq_Eye_init, List.forall_mem_cons.mpr ⟨ok_mq_Eye_init, List.forall_mem_cons.mpr ⟨ok_mq_Eye_within, fun _ h => absurd h List.not_mem_nil⟩⟩⟩
set_option maxRecDepth 100000 in
theorem ov_mlo4 : ∀ e ∈ ov_ml4, ov_okc e.2.2 := List.forall_mem_cons.mpr ⟨ok_mq_Eye_init, List.forall_mem_cons.mpr ⟨ok_mq_Eye_init, List.forall_mem_cons.mpr ⟨ok_mq_Eye_within, fun _ h => absurd h List.not_mem_nil⟩⟩⟩
set_option maxRecDepth 100000 in
theorem ov_mlo5 : ∀ e ∈ ov_ml5, ov_okc e.2.2 := List.forall_mem_cons.mpr ⟨ok_mq_Eye_init, List.forall_mem_cons.mpr ⟨ok_mq_Reader_endOfRun, List.forall_mem_cons.mpr ⟨ok_mq_Reader_signAt, List.forall_mem_cons.mpr ⟨ok_mq_Reader_sortOf, List.forall_mem_cons.mpr ⟨ok_mq_Reader_takeToken, List.forall_mem_cons.mpr ⟨ok_mq_Reader_keepToken, List.forall_mem_cons.mpr ⟨ok_mq_Reader_wordAt, List.forall_mem_cons.mpr ⟨ok_mq_Reader_valueAt, List.forall_mem_cons.mpr ⟨ok_mq_Reader_isWord, List.forall_mem_cons.mpr ⟨ok_mq_Eye_init, List.forall_mem_cons.mpr ⟨ok_mq_Eye_init, List.forall_mem_cons.mpr ⟨ok_mq_Reader_token, List.forall_mem_cons.mpr ⟨ok_mq_Reader_readStep, List.forall_mem_cons.mpr ⟨ok_mq_Reader_blame, List.forall_mem_cons.mpr ⟨ok_mq_Reader_expect, List.forall_mem_cons.mpr ⟨ok_mq_Reader_mostOf, List.forall_mem_cons.mpr ⟨ok_mq_Reader_expectNumber, List.forall_mem_cons.mpr ⟨ok_mq_Plan_add, List.forall_mem_cons.mpr ⟨ok_mq_Plan_init, List.forall_mem_cons.mpr ⟨ok_mq_Eye_within, fun _ h => absurd h List.not_mem_nil⟩⟩⟩⟩⟩⟩⟩⟩⟩⟩⟩⟩⟩⟩⟩⟩⟩⟩⟩⟩
set_option maxRecDepth 100000 in
theorem ov_mlo6 : ∀ e ∈ ov_ml6, ov_okc e.2.2 := List.forall_mem_cons.mpr ⟨ok_mq_Eye_init, List.forall_mem_cons.mpr ⟨ok_mq_Arrays_fillI, List.forall_mem_cons.mpr ⟨ok_mq_Eye_init, List.forall_mem_cons.mpr ⟨ok_mq_Integer_bitCount, List.forall_mem_cons.mpr ⟨ok_mq_Tables_closes, List.forall_mem_cons.mpr ⟨ok_mq_Tables_goesRound, List.forall_mem_cons.mpr ⟨ok_mq_Tables_wouldLend, List.forall_mem_cons.mpr ⟨ok_mq_Tables_goesOn, List.forall_mem_cons.mpr ⟨ok_mq_Eye_within, List.forall_mem_cons.mpr ⟨ok_mq_Eye_holdsBit, List.forall_mem_cons.mpr ⟨ok_mq_Eye_withBit, fun _ h => absurd h List.not_mem_nil⟩⟩⟩⟩⟩⟩⟩⟩⟩⟩⟩
set_option maxRecDepth 100000 in
theorem ov_mlo7 : ∀ e ∈ ov_ml7, ov_okc e.2.2 := List.forall_mem_cons.mpr ⟨ok_mq_Eye_init, List.forall_mem_cons.mpr ⟨ok_mq_Arrays_fillJ, List.forall_mem_cons.mpr ⟨ok_mq_Talk_moveEdge, List.forall_mem_cons.mpr ⟨ok_mq_Talk_handOverFrom, List.forall_mem_cons.mpr ⟨ok_mq_Talk_sayFrom, List.forall_mem_cons.mpr ⟨ok_mq_Talk_say, List.forall_mem_cons.mpr ⟨ok_mq_Eye_within, fun _ h => absurd h List.not_mem_nil⟩⟩⟩⟩⟩⟩⟩
set_option maxRecDepth 100000 in
theorem ov_mlo8 : ∀ e ∈ ov_ml8, ov_okc e.2.2 := List.forall_mem_cons.mpr ⟨ok_mq_Eye_init, List.forall_mem_cons.mpr ⟨ok_mq_Eye_init, List.forall_mem_cons.mpr ⟨ok_mq_Plan_copyFrom, List.forall_mem_cons.mpr ⟨ok_mq_Three_placeOf, List.forall_mem_cons.mpr ⟨ok_mq_Three_settledPlaceOf, List.forall_mem_cons.mpr ⟨ok_mq_Plan_init, List.forall_mem_cons.mpr ⟨ok_mq_Eye_within, List.forall_mem_cons.mpr ⟨ok_mq_Eye_holdsBit, fun _ h => absurd h List.not_mem_nil⟩⟩⟩⟩⟩⟩⟩⟩
set_option maxRecDepth 100000 in
theorem ov_mlo9 : ∀ e ∈ ov_ml9, ov_okc e.2.2 := List.forall_mem_cons.mpr ⟨ok_mq_Eye_init, List.forall_mem_cons.mpr ⟨ok_mq_Eye_init, List.forall_mem_cons.mpr ⟨ok_mq_Arrays_fillI, List.forall_mem_cons.mpr ⟨ok_mq_Way_weigh, List.forall_mem_cons.mpr ⟨ok_mq_Way_walk, List.forall_mem_cons.mpr ⟨ok_mq_Way_cheapest, List.forall_mem_cons.mpr ⟨ok_mq_Way_costFrom, List.forall_mem_cons.mpr ⟨ok_mq_Eye_dangerAt, List.forall_mem_cons.mpr ⟨ok_mq_Eye_within, fun _ h => absurd h List.not_mem_nil⟩⟩⟩⟩⟩⟩⟩⟩⟩
set_option maxRecDepth 100000 in
theorem ov_mlo10 : ∀ e ∈ ov_ml10, ov_okc e.2.2 := List.forall_mem_cons.mpr ⟨ok_mq_Eye_init, List.forall_mem_cons.mpr ⟨ok_mq_Tables_init, List.forall_mem_cons.mpr ⟨ok_mq_Three_copyFrom, List.forall_mem_cons.mpr ⟨ok_mq_Person_copyFrom, List.forall_mem_cons.mpr ⟨ok_mq_Eye_init, List.forall_mem_cons.mpr ⟨ok_mq_Book_copyFrom, List.forall_mem_cons.mpr ⟨ok_mq_Tables_copyFrom, List.forall_mem_cons.mpr ⟨ok_mq_World_personOf, List.forall_mem_cons.mpr ⟨ok_mq_Person_knowledgeOf, List.forall_mem_cons.mpr ⟨ok_mq_World_draw, List.forall_mem_cons.mpr ⟨ok_mq_World_act, List.forall_mem_cons.mpr ⟨ok_mq_World_noisesNow, List.forall_mem_cons.mpr ⟨ok_mq_World_endMinute, List.forall_mem_cons.mpr ⟨ok_mq_World_threeAt, List.forall_mem_cons.mpr ⟨ok_mq_World_begin, List.forall_mem_cons.mpr ⟨ok_mq_World_workOn, List.forall_mem_cons.mpr ⟨ok_mq_World_give, List.forall_mem_cons.mpr ⟨ok_mq_World_see, List.forall_mem_cons.mpr ⟨ok_mq_World_speak, List.forall_mem_cons.mpr ⟨ok_mq_Three_occupy, List.forall_mem_cons.mpr ⟨ok_mq_Three_holderOf, List.forall_mem_cons.mpr ⟨ok_mq_Person_seeFact, List.forall_mem_cons.mpr ⟨ok_mq_Book_write, List.forall_mem_cons.mpr ⟨ok_mq_Person_believe, List.forall_mem_cons.mpr ⟨ok_mq_World_finishGiving, List.forall_mem_cons.mpr ⟨ok_mq_World_finishFeeling, List.forall_mem_cons.mpr ⟨ok_mq_Three_firstWithEmptyHands, List.forall_mem_cons.mpr ⟨ok_mq_World_hearNoises, List.forall_mem_cons.mpr ⟨ok_mq_Book_init, List.forall_mem_cons.mpr ⟨ok_mq_Three_init, List.forall_mem_cons.mpr ⟨ok_mq_Person_init, List.forall_mem_cons.mpr ⟨ok_mq_Eye_within, List.forall_mem_cons.mpr ⟨ok_mq_Eye_withBit, List.forall_mem_cons.mpr ⟨ok_mq_Eye_holdsBit, fun _ h => absurd h List.not_mem_nil⟩⟩⟩⟩⟩⟩⟩⟩⟩⟩⟩⟩⟩⟩⟩⟩⟩⟩⟩⟩⟩⟩⟩⟩⟩⟩⟩⟩⟩⟩⟩⟩⟩⟩
set_option maxRecDepth 100000 in
theorem ov_mlo11 : ∀ e ∈ ov_ml11, ov_okc e.2.2 := List.forall_mem_cons.mpr ⟨ok_mq_Eye_init, List.forall_mem_cons.mpr ⟨ok_mq_World_init, List.forall_mem_cons.mpr ⟨ok_mq_Eye_within, List.forall_mem_cons.mpr ⟨ok_mq_World_addThree, List.forall_mem_cons.mpr ⟨ok_mq_World_personAt, List.forall_mem_cons.mpr ⟨ok_mq_World_threeAt, List.forall_mem_cons.mpr ⟨ok_mq_Eye_withBit, List.forall_mem_cons.mpr ⟨ok_mq_Reader_append, List.forall_mem_cons.mpr ⟨ok_mq_Reader_takeTape, List.forall_mem_cons.mpr ⟨ok_mq_Reader_readPlan, List.forall_mem_cons.mpr ⟨ok_mq_Three_follow, List.forall_mem_cons.mpr ⟨ok_mq_World_passMinute, List.forall_mem_cons.mpr ⟨ok_mq_Three_placeOf, List.forall_mem_cons.mpr ⟨ok_mq_Person_knowledgeOf, List.forall_mem_cons.mpr ⟨ok_mq_Person_originOf, List.forall_mem_cons.mpr ⟨ok_mq_World_addNoise, List.forall_mem_cons.mpr ⟨ok_mq_Three_tell, List.forall_mem_cons.mpr ⟨ok_mq_Book_tell, List.forall_mem_cons.mpr ⟨ok_mq_World_knowersOf, List.forall_mem_cons.mpr ⟨ok_mq_Three_settledPlaceOf, List.forall_mem_cons.mpr ⟨ok_mq_Eye_holdsBit, List.forall_mem_cons.mpr ⟨ok_mq_Three_sendWord, List.forall_mem_cons.mpr ⟨ok_mq_Three_mouthAndEar, List.forall_mem_cons.mpr ⟨ok_mq_Talk_fewestActs, List.forall_mem_cons.mpr ⟨ok_mq_Eye_dangerAt, List.forall_mem_cons.mpr ⟨ok_mq_Way_find, List.forall_mem_cons.mpr ⟨ok_mq_Feelers_leastSum, List.forall_mem_cons.mpr ⟨ok_mq_Book_fewestLiars, List.forall_mem_cons.mpr ⟨ok_mq_Tables_addWatch, List.forall_mem_cons.mpr ⟨ok_mq_Deal_find, List.forall_mem_cons.mpr ⟨ok_mq_Tables_smallestRing, List.forall_mem_cons.mpr ⟨ok_mq_World_copyFrom, List.forall_mem_cons.mpr ⟨ok_mq_Reader_init, List.forall_mem_cons.mpr ⟨ok_mq_Talk_init, List.forall_mem_cons.mpr ⟨ok_mq_Way_init, List.forall_mem_cons.mpr ⟨ok_mq_Feelers_init, List.forall_mem_cons.mpr ⟨ok_mq_Deal_init, fun _ h => absurd h List.not_mem_nil⟩⟩⟩⟩⟩⟩⟩⟩⟩⟩⟩⟩⟩⟩⟩⟩⟩⟩⟩⟩⟩⟩⟩⟩⟩⟩⟩⟩⟩⟩⟩⟩⟩⟩⟩⟩⟩
set_option maxRecDepth 100000 in
theorem ov_mlo12 : ∀ e ∈ ov_ml12, ov_okc e.2.2 := List.forall_mem_cons.mpr ⟨ok_mq_Eye_init, List.forall_mem_cons.mpr ⟨ok_mq_Mod_isIn, List.forall_mem_cons.mpr ⟨ok_mq_Mod_isFact, List.forall_mem_cons.mpr ⟨ok_mq_Mod_isPerson, List.forall_mem_cons.mpr ⟨ok_mq_Mod_isThree, List.forall_mem_cons.mpr ⟨ok_mq_Mod_puts, List.forall_mem_cons.mpr ⟨ok_mq_Mod_raw, List.forall_mem_cons.mpr ⟨ok_mq_Mod_isLetter, List.forall_mem_cons.mpr ⟨ok_mq_Mod_wordOf, List.forall_mem_cons.mpr ⟨ok_mq_Mod_isDigit, List.forall_mem_cons.mpr ⟨ok_mq_Mod_errs, List.forall_mem_cons.mpr ⟨ok_mq_Mod_reads, List.forall_mem_cons.mpr ⟨ok_mq_Mod_readNumber, List.forall_mem_cons.mpr ⟨ok_mq_Mod_readThing, List.forall_mem_cons.mpr ⟨ok_mq_Mod_readTo, List.forall_mem_cons.mpr ⟨ok_mq_Mod_readStep, List.forall_mem_cons.mpr ⟨ok_mq_Mod_readPlan, List.forall_mem_cons.mpr ⟨ok_mq_Mod_thing, List.forall_mem_cons.mpr ⟨ok_mq_Mod_draw, List.forall_mem_cons.mpr ⟨ok_mq_Mod_handsOver, List.forall_mem_cons.mpr ⟨ok_mq_Mod_feels, List.forall_mem_cons.mpr ⟨ok_mq_Mod_holder, List.forall_mem_cons.mpr ⟨ok_mq_Mod_sees, List.forall_mem_cons.mpr ⟨ok_mq_Mod_says, List.forall_mem_cons.mpr ⟨ok_mq_Mod_ends, List.forall_mem_cons.mpr ⟨ok_mq_Mod_begins, List.forall_mem_cons.mpr ⟨ok_mq_Mod_sounds, List.forall_mem_cons.mpr ⟨ok_mq_Mod_goesBy, List.forall_mem_cons.mpr ⟨ok_mq_Mod_isThing, List.forall_mem_cons.mpr ⟨ok_mq_Mod_memberOf, List.forall_mem_cons.mpr ⟨ok_mq_Mod_movedTo, List.forall_mem_cons.mpr ⟨ok_mq_Mod_comes, List.forall_mem_cons.mpr ⟨ok_mq_Mod_knowersOf, List.forall_mem_cons.mpr ⟨ok_mq_Mod_placesOf, List.forall_mem_cons.mpr ⟨ok_mq_Mod_errandFrom, List.forall_mem_cons.mpr ⟨ok_mq_Mod_findsErrand, List.forall_mem_cons.mpr ⟨ok_mq_Mod_stateOf, List.forall_mem_cons.mpr ⟨ok_mq_Mod_talks, List.forall_mem_cons.mpr ⟨ok_mq_Mod_talkFrom, List.forall_mem_cons.mpr ⟨ok_mq_Mod_tolls, List.forall_mem_cons.mpr ⟨ok_mq_Mod_dangerAt, List.forall_mem_cons.mpr ⟨ok_mq_Mod_behind, List.forall_mem_cons.mpr ⟨ok_mq_Mod_feltBy, List.forall_mem_cons.mpr ⟨ok_mq_Mod_ones, List.forall_mem_cons.mpr ⟨ok_mq_Mod_goTogether, List.forall_mem_cons.mpr ⟨ok_mq_Mod_spread, List.forall_mem_cons.mpr ⟨ok_mq_Mod_watcher, List.forall_mem_cons.mpr ⟨ok_mq_Mod_grows, List.forall_mem_cons.mpr ⟨ok_mq_Mod_isRing, List.forall_mem_cons.mpr ⟨ok_mq_Mod_canRing, List.forall_mem_cons.mpr ⟨ok_mq_Mod_kept, List.forall_mem_cons.mpr ⟨ok_mq_Mod_keepsThrees, List.forall_mem_cons.mpr ⟨ok_mq_Mod_keepsOthers, fun _ h => absurd h List.not_mem_nil⟩⟩⟩⟩⟩⟩⟩⟩⟩⟩⟩⟩⟩⟩⟩⟩⟩⟩⟩⟩⟩⟩⟩⟩⟩⟩⟩⟩⟩⟩⟩⟩⟩⟩⟩⟩⟩⟩⟩⟩⟩⟩⟩⟩⟩⟩⟩⟩⟩⟩⟩⟩⟩
set_option maxRecDepth 100000 in
theorem ov_mlo13 : ∀ e ∈ ov_ml13, ov_okc e.2.2 := List.forall_mem_cons.mpr ⟨ok_mq_Eye_init, List.forall_mem_cons.mpr ⟨ok_mq_Mod_init, List.forall_mem_cons.mpr ⟨ok_mq_Eye_state, List.forall_mem_cons.mpr ⟨ok_mq_Mod_state, List.forall_mem_cons.mpr ⟨ok_mq_Eye_three, List.forall_mem_cons.mpr ⟨ok_mq_Mod_three, List.forall_mem_cons.mpr ⟨ok_mq_Eye_fact, List.forall_mem_cons.mpr ⟨ok_mq_Mod_fact, List.forall_mem_cons.mpr ⟨ok_mq_Eye_trust, List.forall_mem_cons.mpr ⟨ok_mq_Mod_trust, List.forall_mem_cons.mpr ⟨ok_mq_Eye_feed, List.forall_mem_cons.mpr ⟨ok_mq_Mod_feed, List.forall_mem_cons.mpr ⟨ok_mq_Eye_end, List.forall_mem_cons.mpr ⟨ok_mq_Mod_end, List.forall_mem_cons.mpr ⟨ok_mq_Eye_text, List.forall_mem_cons.mpr ⟨ok_mq_Mod_text, List.forall_mem_cons.mpr ⟨ok_mq_Eye_fault, List.forall_mem_cons.mpr ⟨ok_mq_Mod_fault, List.forall_mem_cons.mpr ⟨ok_mq_Eye_minutes, List.forall_mem_cons.mpr ⟨ok_mq_Mod_minutes, List.forall_mem_cons.mpr ⟨ok_mq_Eye_where, List.forall_mem_cons.mpr ⟨ok_mq_Mod_where, List.forall_mem_cons.mpr ⟨ok_mq_Eye_knows, List.forall_mem_cons.mpr ⟨ok_mq_Mod_knows, List.forall_mem_cons.mpr ⟨ok_mq_Eye_origin, List.forall_mem_cons.mpr ⟨ok_mq_Mod_origin, List.forall_mem_cons.mpr ⟨ok_mq_Eye_noise, List.forall_mem_cons.mpr ⟨ok_mq_Mod_noise, List.forall_mem_cons.mpr ⟨ok_mq_Eye_heard, List.forall_mem_cons.mpr ⟨ok_mq_Mod_heard, List.forall_mem_cons.mpr ⟨ok_mq_Eye_held, List.forall_mem_cons.mpr ⟨ok_mq_Mod_held, List.forall_mem_cons.mpr ⟨ok_mq_Eye_of, List.forall_mem_cons.mpr ⟨ok_mq_Mod_of, List.forall_mem_cons.mpr ⟨ok_mq_Eye_book, List.forall_mem_cons.mpr ⟨ok_mq_Mod_book, List.forall_mem_cons.mpr ⟨ok_mq_Eye_errand, List.forall_mem_cons.mpr ⟨ok_mq_Mod_errand, List.forall_mem_cons.mpr ⟨ok_mq_Eye_talk, List.forall_mem_cons.mpr ⟨ok_mq_Mod_talk, List.forall_mem_cons.mpr ⟨ok_mq_Eye_danger, List.forall_mem_cons.mpr ⟨ok_mq_Mod_danger, List.forall_mem_cons.mpr ⟨ok_mq_Eye_way, List.forall_mem_cons.mpr ⟨ok_mq_Mod_way, List.forall_mem_cons.mpr ⟨ok_mq_Eye_spot, List.forall_mem_cons.mpr ⟨ok_mq_Mod_spot, List.forall_mem_cons.mpr ⟨ok_mq_Eye_felt, List.forall_mem_cons.mpr ⟨ok_mq_Mod_felt, List.forall_mem_cons.mpr ⟨ok_mq_Eye_liars, List.forall_mem_cons.mpr ⟨ok_mq_Mod_liars, List.forall_mem_cons.mpr ⟨ok_mq_Eye_watch, List.forall_mem_cons.mpr ⟨ok_mq_Mod_watch, List.forall_mem_cons.mpr ⟨ok_mq_Eye_watches, List.forall_mem_cons.mpr ⟨ok_mq_Mod_watches, List.forall_mem_cons.mpr ⟨ok_mq_Eye_lends, List.forall_mem_cons.mpr ⟨ok_mq_Mod_lends, List.forall_mem_cons.mpr ⟨ok_mq_Eye_ring, List.forall_mem_cons.mpr ⟨ok_mq_Mod_ring, List.forall_mem_cons.mpr ⟨ok_mq_Eye_image, List.forall_mem_cons.mpr ⟨ok_mq_Mod_image, List.forall_mem_cons.mpr ⟨ok_mq_Eye_look, List.forall_mem_cons.mpr ⟨ok_mq_Mod_look, fun _ h => absurd h List.not_mem_nil⟩⟩⟩⟩⟩⟩⟩⟩⟩⟩⟩⟩⟩⟩⟩⟩⟩⟩⟩⟩⟩⟩⟩⟩⟩⟩⟩⟩⟩⟩⟩⟩⟩⟩⟩⟩⟩⟩⟩⟩⟩⟩⟩⟩⟩⟩⟩⟩⟩⟩⟩⟩⟩⟩⟩⟩⟩⟩⟩⟩⟩⟩
set_option maxRecDepth 100000 in
theorem ov_mlo14 : ∀ e ∈ ov_ml14, ov_okc e.2.2 := fun _ h => absurd h List.not_mem_nil
set_option maxRecDepth 100000 in
theorem ov_mlo15 : ∀ e ∈ ov_ml15, ov_okc e.2.2 := fun _ h => absurd h List.not_mem_nil
set_option maxRecDepth 100000 in
theorem ov_mlo16 : ∀ e ∈ ov_ml16, ov_okc e.2.2 := fun _ h => absurd h List.not_mem_nil
theorem ov_mla : ∀ c, (∀ e ∈ ov_nth [] ov_mll c, ov_okc e.2.2) ∧ ∃ ps, ov_all2 (ov_chkM c) (ov_nth [] ov_mll c) ps = true
  | 0 => ⟨ov_mlo0, _, ov_mlc0⟩
  | 1 => ⟨ov_mlo1, _, ov_mlc1⟩
  | 2 => ⟨ov_mlo2, _, ov_mlc2⟩
  | 3 => ⟨ov_mlo3, _, ov_mlc3⟩
  | 4 => ⟨ov_mlo4, _, ov_mlc4⟩
  | 5 => ⟨ov_mlo5, _, ov_mlc5⟩
  | 6 => ⟨ov_mlo6, _, ov_mlc6⟩
  | 7 => ⟨ov_mlo7, _, ov_mlc7⟩
  | 8 => ⟨ov_mlo8, _, ov_mlc8⟩
  | 9 => ⟨ov_mlo9, _, ov_mlc9⟩
  | 10 => ⟨ov_mlo10, _, ov_mlc10⟩
  | 11 => ⟨ov_mlo11, _, ov_mlc11⟩
  | 12 => ⟨ov_mlo12, _, ov_mlc12⟩
  | 13 => ⟨ov_mlo13, _, ov_mlc13⟩
  | 14 => ⟨ov_mlo14, _, ov_mlc14⟩
  | 15 => ⟨ov_mlo15, _, ov_mlc15⟩
  | 16 => ⟨ov_mlo16, _, ov_mlc16⟩
  | n + 17 => by
    rw [ov_nth_ge [] ov_mll (n + 17) (show 17 ≤ n + 17 by omega)]
    exact ⟨fun _ h => absurd h List.not_mem_nil, [], rfl⟩
theorem ov_lm_ok {c i k : Nat} {m : ov_M} (h : ov_lm c i = some (k, m)) : ov_okc m ∧ ∃ p, ov_chkM c (i, k, m) p = true := by
  have hm := ov_lk_mem h
  obtain ⟨h1, ps, h2⟩ := ov_mla c
  exact ⟨h1 _ hm, ov_all2_e h2 _ hm⟩
