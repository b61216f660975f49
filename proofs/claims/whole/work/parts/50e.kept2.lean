/-! ===== IMAGE: the reference goes through its cells ===== -/
theorem kl_T371 {B : ov_S} {d : Nat} {Q : ov_Q} (hd : 2 ≤ d) (hx : ∀ S', kzq B (1245 + 1 * 480) S' → Q none S') : ∀ m k S, k + m = 480 → kzq B (1245 + 1 * k) S → ov_V true true d 0 0 mq_Mod_keepsThrees 371 [some (.inr (.inr (true, 14, 0))), some (.inl (nI k))] [] S Q := by
  intro m
  induction m with
  | zero =>
    intro k S hk hS
    have e : k = 480 := hk
    subst e
    exact r_Mod_keepsThrees_371 (by omega) ⟨fun _ => hx S hS, fun n => absurd (nI_le (a := 480) (b := 480) (by omega) (by decide)) n⟩
  | succ m ih =>
    intro k S hk hS
    refine r_Mod_keepsThrees_371 (by omega) ⟨fun y => absurd y (nI_ge (b := 480) (by omega) (by decide)), fun _ => ⟨zz_ib (by omega) (by decide), ?_⟩⟩
    rw [zz_ix (n := k) (by omega)]
    refine kz_k (r0 := 85) (j0 := k) hS (.inr (.inr (.inr (.inr (.inr (.inr (.inr (.inr (.inr (.inr (.inr (.inl (by omega))))))))))))) rfl (fun x0 S0 q0 => r_Mod_keepsThrees_393 ⟨zz_ib (by omega) (by decide), ?_⟩)
    rw [zz_ix (n := k) (by omega), nI_1]
    refine ih (k + 1) _ (by omega) ?_
    rw [show 1245 + 1 * (k + 1) = 1245 + 1 * k + 1 by omega]
    exact q0
theorem kl_T341 {B : ov_S} {d : Nat} {Q : ov_Q} (hd : 2 ≤ d) (hx : ∀ S', kzq B (1209 + 1 * 36) S' → ov_V true true d 0 0 mq_Mod_keepsThrees 371 [some (.inr (.inr (true, 14, 0))), some (.inl (nI 0))] [] S' Q) : ∀ m k S, k + m = 36 → kzq B (1209 + 1 * k) S → ov_V true true d 0 0 mq_Mod_keepsThrees 341 [some (.inr (.inr (true, 14, 0))), some (.inl (nI k))] [] S Q := by
  intro m
  induction m with
  | zero =>
    intro k S hk hS
    have e : k = 36 := hk
    subst e
    exact r_Mod_keepsThrees_341 (by omega) ⟨fun _ => hx S hS, fun n => absurd (nI_le (a := 36) (b := 36) (by omega) (by decide)) n⟩
  | succ m ih =>
    intro k S hk hS
    refine r_Mod_keepsThrees_341 (by omega) ⟨fun y => absurd y (nI_ge (b := 36) (by omega) (by decide)), fun _ => ⟨zz_ib (by omega) (by decide), ?_⟩⟩
    rw [zz_ix (n := k) (by omega)]
    refine kz_k (r0 := 66) (j0 := k) hS (.inr (.inr (.inr (.inr (.inr (.inr (.inr (.inr (.inr (.inr (.inl (by omega)))))))))))) rfl (fun x0 S0 q0 => r_Mod_keepsThrees_362 ⟨zz_ib (by omega) (by decide), ?_⟩)
    rw [zz_ix (n := k) (by omega), nI_1]
    refine ih (k + 1) _ (by omega) ?_
    rw [show 1209 + 1 * (k + 1) = 1209 + 1 * k + 1 by omega]
    exact q0
theorem kl_T311 {B : ov_S} {d : Nat} {Q : ov_Q} (hd : 2 ≤ d) (hx : ∀ S', kzq B (1161 + 1 * 48) S' → ov_V true true d 0 0 mq_Mod_keepsThrees 341 [some (.inr (.inr (true, 14, 0))), some (.inl (nI 0))] [] S' Q) : ∀ m k S, k + m = 48 → kzq B (1161 + 1 * k) S → ov_V true true d 0 0 mq_Mod_keepsThrees 311 [some (.inr (.inr (true, 14, 0))), some (.inl (nI k))] [] S Q := by
  intro m
  induction m with
  | zero =>
    intro k S hk hS
    have e : k = 48 := hk
    subst e
    exact r_Mod_keepsThrees_311 (by omega) ⟨fun _ => hx S hS, fun n => absurd (nI_le (a := 48) (b := 48) (by omega) (by decide)) n⟩
  | succ m ih =>
    intro k S hk hS
    refine r_Mod_keepsThrees_311 (by omega) ⟨fun y => absurd y (nI_ge (b := 48) (by omega) (by decide)), fun _ => ⟨zz_ib (by omega) (by decide), ?_⟩⟩
    rw [zz_ix (n := k) (by omega)]
    refine kz_k (r0 := 65) (j0 := k) hS (.inr (.inr (.inr (.inr (.inr (.inr (.inr (.inr (.inr (.inl (by omega))))))))))) rfl (fun x0 S0 q0 => r_Mod_keepsThrees_332 ⟨zz_ib (by omega) (by decide), ?_⟩)
    rw [zz_ix (n := k) (by omega), nI_1]
    refine ih (k + 1) _ (by omega) ?_
    rw [show 1161 + 1 * (k + 1) = 1161 + 1 * k + 1 by omega]
    exact q0
theorem kl_T217 {B : ov_S} {d : Nat} {Q : ov_Q} (hd : 2 ≤ d) (hx : ∀ S', kzq B (561 + 5 * 120) S' → ov_V true true d 0 0 mq_Mod_keepsThrees 311 [some (.inr (.inr (true, 14, 0))), some (.inl (nI 0))] [] S' Q) : ∀ m k S, k + m = 120 → kzq B (561 + 5 * k) S → ov_V true true d 0 0 mq_Mod_keepsThrees 217 [some (.inr (.inr (true, 14, 0))), some (.inl (nI k))] [] S Q := by
  intro m
  induction m with
  | zero =>
    intro k S hk hS
    have e : k = 120 := hk
    subst e
    exact r_Mod_keepsThrees_217 (by omega) ⟨fun _ => hx S hS, fun n => absurd (nI_le (a := 120) (b := 120) (by omega) (by decide)) n⟩
  | succ m ih =>
    intro k S hk hS
    refine r_Mod_keepsThrees_217 (by omega) ⟨fun y => absurd y (nI_ge (b := 120) (by omega) (by decide)), fun _ => ⟨zz_ib (by omega) (by decide), ?_⟩⟩
    rw [zz_ix (n := k) (by omega)]
    refine kz_k (r0 := 64) (j0 := k) hS (.inr (.inr (.inr (.inr (.inr (.inr (.inr (.inl (by omega))))))))) rfl (fun x0 S0 q0 => r_Mod_keepsThrees_238 (by omega) ⟨zz_ib (by omega) (by decide), zz_ib (by omega) (by decide), ?_⟩)
    rw [zz_ix (n := k) (by omega)]
    refine kz_k (r0 := 67) (j0 := k) q0 (.inr (.inr (.inr (.inr (.inr (.inr (.inr (.inr (.inl (by omega)))))))))) rfl (fun x1 S1 q1 => r_Mod_keepsThrees_254 (by omega) ⟨zz_ib (by omega) (by decide), zz_ib (by omega) (by decide), ?_⟩)
    rw [zz_ix (n := k) (by omega)]
    refine kz_k (r0 := 68) (j0 := k) q1 (.inr (.inr (.inr (.inr (.inr (.inr (.inr (.inr (.inl (by omega)))))))))) rfl (fun x2 S2 q2 => r_Mod_keepsThrees_270 (by omega) ⟨zz_ib (by omega) (by decide), zz_ib (by omega) (by decide), ?_⟩)
    rw [zz_ix (n := k) (by omega)]
    refine kz_k (r0 := 69) (j0 := k) q2 (.inr (.inr (.inr (.inr (.inr (.inr (.inr (.inr (.inl (by omega)))))))))) rfl (fun x3 S3 q3 => r_Mod_keepsThrees_286 (by omega) ⟨zz_ib (by omega) (by decide), zz_ib (by omega) (by decide), ?_⟩)
    rw [zz_ix (n := k) (by omega)]
    refine kz_k (r0 := 70) (j0 := k) q3 (.inr (.inr (.inr (.inr (.inr (.inr (.inr (.inr (.inl (by omega)))))))))) rfl (fun x4 S4 q4 => r_Mod_keepsThrees_302 ⟨zz_ib (by omega) (by decide), ?_⟩)
    rw [zz_ix (n := k) (by omega), nI_1]
    refine ih (k + 1) _ (by omega) ?_
    rw [show 561 + 5 * (k + 1) = 561 + 5 * k + 5 by omega]
    exact q4
theorem kl_T187 {B : ov_S} {d : Nat} {Q : ov_Q} (hd : 2 ≤ d) (hx : ∀ S', kzq B (549 + 1 * 12) S' → ov_V true true d 0 0 mq_Mod_keepsThrees 217 [some (.inr (.inr (true, 14, 0))), some (.inl (nI 0))] [] S' Q) : ∀ m k S, k + m = 12 → kzq B (549 + 1 * k) S → ov_V true true d 0 0 mq_Mod_keepsThrees 187 [some (.inr (.inr (true, 14, 0))), some (.inl (nI k))] [] S Q := by
  intro m
  induction m with
  | zero =>
    intro k S hk hS
    have e : k = 12 := hk
    subst e
    exact r_Mod_keepsThrees_187 (by omega) ⟨fun _ => hx S hS, fun n => absurd (nI_le (a := 12) (b := 12) (by omega) (by decide)) n⟩
  | succ m ih =>
    intro k S hk hS
    refine r_Mod_keepsThrees_187 (by omega) ⟨fun y => absurd y (nI_ge (b := 12) (by omega) (by decide)), fun _ => ⟨zz_ib (by omega) (by decide), ?_⟩⟩
    rw [zz_ix (n := k) (by omega)]
    refine kz_k (r0 := 62) (j0 := k) hS (.inr (.inr (.inr (.inr (.inr (.inr (.inl (by omega)))))))) rfl (fun x0 S0 q0 => r_Mod_keepsThrees_208 ⟨zz_ib (by omega) (by decide), ?_⟩)
    rw [zz_ix (n := k) (by omega), nI_1]
    refine ih (k + 1) _ (by omega) ?_
    rw [show 549 + 1 * (k + 1) = 549 + 1 * k + 1 by omega]
    exact q0
theorem kl_T14 {B : ov_S} {d : Nat} {Q : ov_Q} (hd : 2 ≤ d) (hx : ∀ S', kzq B (509 + 10 * 4) S' → ov_V true true d 0 0 mq_Mod_keepsThrees 187 [some (.inr (.inr (true, 14, 0))), some (.inl (nI 0))] [] S' Q) : ∀ m k S, k + m = 4 → kzq B (509 + 10 * k) S → ov_V true true d 0 0 mq_Mod_keepsThrees 14 [some (.inr (.inr (true, 14, 0))), some (.inl (nI k))] [] S Q := by
  intro m
  induction m with
  | zero =>
    intro k S hk hS
    have e : k = 4 := hk
    subst e
    exact r_Mod_keepsThrees_14 (by omega) ⟨fun _ => hx S hS, fun n => absurd (nI_le (a := 4) (b := 4) (by omega) (by decide)) n⟩
  | succ m ih =>
    intro k S hk hS
    refine r_Mod_keepsThrees_14 (by omega) ⟨fun y => absurd y (nI_ge (b := 4) (by omega) (by decide)), fun _ => ⟨zz_ib (by omega) (by decide), ?_⟩⟩
    rw [zz_ix (n := k) (by omega)]
    refine kz_k (r0 := 58) (j0 := k) hS (.inr (.inr (.inr (.inl (by omega))))) rfl (fun x0 S0 q0 => r_Mod_keepsThrees_34 (by omega) ⟨zz_ib (by omega) (by decide), zz_ib (by omega) (by decide), ?_⟩)
    rw [zz_ix (n := k) (by omega)]
    refine kz_k (r0 := 59) (j0 := k) q0 (.inr (.inr (.inr (.inl (by omega))))) rfl (fun x1 S1 q1 => r_Mod_keepsThrees_50 (by omega) ⟨zz_ib (by omega) (by decide), zz_ib (by omega) (by decide), ?_⟩)
    rw [zz_ix (n := k) (by omega)]
    refine kz_k (r0 := 60) (j0 := k) q1 (.inr (.inr (.inr (.inl (by omega))))) rfl (fun x2 S2 q2 => r_Mod_keepsThrees_66 (by omega) ⟨zz_ib (by omega) (by decide), zz_ib (by omega) (by decide), ?_⟩)
    rw [zz_ix (n := k) (by omega)]
    refine kz_k (r0 := 61) (j0 := k) q2 (.inr (.inr (.inr (.inl (by omega))))) rfl (fun x3 S3 q3 => r_Mod_keepsThrees_82 (by omega) ⟨zz_ib (by omega) (by decide), zz_ib (by omega) (by decide), ?_⟩)
    rw [zz_ix (n := k) (by omega)]
    refine kz_k (r0 := 79) (j0 := k) q3 (.inr (.inr (.inr (.inr (.inl (by omega)))))) rfl (fun x4 S4 q4 => r_Mod_keepsThrees_98 (by omega) ⟨zz_ib (by omega) (by decide), zz_ib (by omega) (by decide), ?_⟩)
    rw [zz_ix (n := k) (by omega)]
    refine kz_k (r0 := 80) (j0 := k) q4 (.inr (.inr (.inr (.inr (.inl (by omega)))))) rfl (fun x5 S5 q5 => r_Mod_keepsThrees_114 (by omega) ⟨zz_ib (by omega) (by decide), zz_ib (by omega) (by decide), ?_⟩)
    rw [zz_ix (n := k) (by omega)]
    refine kz_k (r0 := 81) (j0 := k) q5 (.inr (.inr (.inr (.inr (.inl (by omega)))))) rfl (fun x6 S6 q6 => r_Mod_keepsThrees_130 (by omega) ⟨zz_ib (by omega) (by decide), zz_ib (by omega) (by decide), ?_⟩)
    rw [zz_ix (n := k) (by omega)]
    refine kz_k (r0 := 82) (j0 := k) q6 (.inr (.inr (.inr (.inr (.inl (by omega)))))) rfl (fun x7 S7 q7 => r_Mod_keepsThrees_146 (by omega) ⟨zz_ib (by omega) (by decide), zz_ib (by omega) (by decide), ?_⟩)
    rw [zz_ix (n := k) (by omega)]
    refine kz_k (r0 := 86) (j0 := k) q7 (.inr (.inr (.inr (.inr (.inr (.inl (by omega))))))) rfl (fun x8 S8 q8 => r_Mod_keepsThrees_162 (by omega) ⟨zz_ib (by omega) (by decide), zz_ib (by omega) (by decide), ?_⟩)
    rw [zz_ix (n := k) (by omega)]
    refine kz_k (r0 := 87) (j0 := k) q8 (.inr (.inr (.inr (.inr (.inr (.inl (by omega))))))) rfl (fun x9 S9 q9 => r_Mod_keepsThrees_178 ⟨zz_ib (by omega) (by decide), ?_⟩)
    rw [zz_ix (n := k) (by omega), nI_1]
    refine ih (k + 1) _ (by omega) ?_
    rw [show 509 + 10 * (k + 1) = 509 + 10 * k + 10 by omega]
    exact q9
theorem kl_T {B S : ov_S} {d : Nat} {Q : ov_Q} (hd : 2 ≤ d) (h : kzq B 508 S) (hQ : ∀ S', kzq B 1725 S' → Q none S') : ov_V true true d 0 0 mq_Mod_keepsThrees 0 [some (.inr (.inr (true, 14, 0))), none] [] S Q :=
  r_Mod_keepsThrees_0 (by omega) (kz_k (r0 := 14) (j0 := 2) h (.inl (⟨rfl, .inr (.inr (.inr (.inl (by omega))))⟩)) rfl (fun x S1 q => r_Mod_keepsThrees_9 (kl_T14 hd (fun S2 q2 => kl_T187 hd (fun S3 q3 => kl_T217 hd (fun S4 q4 => kl_T311 hd (fun S5 q5 => kl_T341 hd (fun S6 q6 => kl_T371 hd (fun S7 q7 => hQ S7 q7) 480 0 S6 rfl q6) 36 0 S5 rfl q5) 48 0 S4 rfl q4) 120 0 S3 rfl q3) 12 0 S2 rfl q2) 4 0 _ rfl q)))
theorem kl_O234 {B : ov_S} {d : Nat} {Q : ov_Q} (hd : 2 ≤ d) (hx : ∀ S', kzq B (1931 + 1 * 4) S' → Q none S') : ∀ m k S, k + m = 4 → kzq B (1931 + 1 * k) S → ov_V true true d 0 0 mq_Mod_keepsOthers 234 [some (.inr (.inr (true, 14, 0))), some (.inl (nI k))] [] S Q := by
  intro m
  induction m with
  | zero =>
    intro k S hk hS
    have e : k = 4 := hk
    subst e
    exact r_Mod_keepsOthers_234 (by omega) ⟨fun _ => hx S hS, fun n => absurd (nI_le (a := 4) (b := 4) (by omega) (by decide)) n⟩
  | succ m ih =>
    intro k S hk hS
    refine r_Mod_keepsOthers_234 (by omega) ⟨fun y => absurd y (nI_ge (b := 4) (by omega) (by decide)), fun _ => ⟨zz_ib (by omega) (by decide), ?_⟩⟩
    rw [zz_ix (n := k) (by omega)]
    refine kz_k (r0 := 73) (j0 := k) hS (.inr (.inr (.inr (.inr (.inr (.inr (.inr (.inr (.inr (.inr (.inr (.inr (.inr (.inr (.inr (.inr (.inr (.inr (by omega))))))))))))))))))) rfl (fun x0 S0 q0 => r_Mod_keepsOthers_254 ⟨zz_ib (by omega) (by decide), ?_⟩)
    rw [zz_ix (n := k) (by omega), nI_1]
    refine ih (k + 1) _ (by omega) ?_
    rw [show 1931 + 1 * (k + 1) = 1931 + 1 * k + 1 by omega]
    exact q0
theorem kl_O204 {B : ov_S} {d : Nat} {Q : ov_Q} (hd : 2 ≤ d) (hx : ∀ S', kzq B (1919 + 1 * 12) S' → ov_V true true d 0 0 mq_Mod_keepsOthers 234 [some (.inr (.inr (true, 14, 0))), some (.inl (nI 0))] [] S' Q) : ∀ m k S, k + m = 12 → kzq B (1919 + 1 * k) S → ov_V true true d 0 0 mq_Mod_keepsOthers 204 [some (.inr (.inr (true, 14, 0))), some (.inl (nI k))] [] S Q := by
  intro m
  induction m with
  | zero =>
    intro k S hk hS
    have e : k = 12 := hk
    subst e
    exact r_Mod_keepsOthers_204 (by omega) ⟨fun _ => hx S hS, fun n => absurd (nI_le (a := 12) (b := 12) (by omega) (by decide)) n⟩
  | succ m ih =>
    intro k S hk hS
    refine r_Mod_keepsOthers_204 (by omega) ⟨fun y => absurd y (nI_ge (b := 12) (by omega) (by decide)), fun _ => ⟨zz_ib (by omega) (by decide), ?_⟩⟩
    rw [zz_ix (n := k) (by omega)]
    refine kz_k (r0 := 72) (j0 := k) hS (.inr (.inr (.inr (.inr (.inr (.inr (.inr (.inr (.inr (.inr (.inr (.inr (.inr (.inr (.inr (.inr (.inr (.inl (by omega))))))))))))))))))) rfl (fun x0 S0 q0 => r_Mod_keepsOthers_225 ⟨zz_ib (by omega) (by decide), ?_⟩)
    rw [zz_ix (n := k) (by omega), nI_1]
    refine ih (k + 1) _ (by omega) ?_
    rw [show 1919 + 1 * (k + 1) = 1919 + 1 * k + 1 by omega]
    exact q0
theorem kl_O174 {B : ov_S} {d : Nat} {Q : ov_Q} (hd : 2 ≤ d) (hx : ∀ S', kzq B (1899 + 1 * 20) S' → ov_V true true d 0 0 mq_Mod_keepsOthers 204 [some (.inr (.inr (true, 14, 0))), some (.inl (nI 0))] [] S' Q) : ∀ m k S, k + m = 20 → kzq B (1899 + 1 * k) S → ov_V true true d 0 0 mq_Mod_keepsOthers 174 [some (.inr (.inr (true, 14, 0))), some (.inl (nI k))] [] S Q := by
  intro m
  induction m with
  | zero =>
    intro k S hk hS
    have e : k = 20 := hk
    subst e
    exact r_Mod_keepsOthers_174 (by omega) ⟨fun _ => hx S hS, fun n => absurd (nI_le (a := 20) (b := 20) (by omega) (by decide)) n⟩
  | succ m ih =>
    intro k S hk hS
    refine r_Mod_keepsOthers_174 (by omega) ⟨fun y => absurd y (nI_ge (b := 20) (by omega) (by decide)), fun _ => ⟨zz_ib (by omega) (by decide), ?_⟩⟩
    rw [zz_ix (n := k) (by omega)]
    refine kz_k (r0 := 71) (j0 := k) hS (.inr (.inr (.inr (.inr (.inr (.inr (.inr (.inr (.inr (.inr (.inr (.inr (.inr (.inr (.inr (.inr (.inl (by omega)))))))))))))))))) rfl (fun x0 S0 q0 => r_Mod_keepsOthers_195 ⟨zz_ib (by omega) (by decide), ?_⟩)
    rw [zz_ix (n := k) (by omega), nI_1]
    refine ih (k + 1) _ (by omega) ?_
    rw [show 1899 + 1 * (k + 1) = 1899 + 1 * k + 1 by omega]
    exact q0
theorem kl_O120 {B : ov_S} {d : Nat} {Q : ov_Q} (hd : 2 ≤ d) (hx : ∀ S', kzq B (1861 + 1 * 36) S' → ov_V true true ((d - 1)) 0 0 mq_Mod_kept 0 [some (.inr (.inr (true, 14, 0))), some (.inl (ov_g S' 14 0 17))] [] S' (fun r S1 => ov_V true true d 0 0 mq_Mod_keepsOthers 157 [some (.inr (.inr (true, 14, 0))), none] (r.toList ++ [.inr (.inr (true, 14, 0))]) S1 Q)) : ∀ m k S, k + m = 36 → kzq B (1861 + 1 * k) S → ov_V true true d 0 0 mq_Mod_keepsOthers 120 [some (.inr (.inr (true, 14, 0))), some (.inl (nI k))] [] S Q := by
  intro m
  induction m with
  | zero =>
    intro k S hk hS
    have e : k = 36 := hk
    subst e
    exact r_Mod_keepsOthers_120 (by omega) ⟨fun _ => hx S hS, fun n => absurd (nI_le (a := 36) (b := 36) (by omega) (by decide)) n⟩
  | succ m ih =>
    intro k S hk hS
    refine r_Mod_keepsOthers_120 (by omega) ⟨fun y => absurd y (nI_ge (b := 36) (by omega) (by decide)), fun _ => ⟨zz_ib (by omega) (by decide), ?_⟩⟩
    rw [zz_ix (n := k) (by omega)]
    refine kz_k (r0 := 97) (j0 := k) hS (.inr (.inr (.inr (.inr (.inr (.inr (.inr (.inr (.inr (.inr (.inr (.inr (.inr (.inr (.inr (.inl (by omega))))))))))))))))) rfl (fun x0 S0 q0 => r_Mod_keepsOthers_141 ⟨zz_ib (by omega) (by decide), ?_⟩)
    rw [zz_ix (n := k) (by omega), nI_1]
    refine ih (k + 1) _ (by omega) ?_
    rw [show 1861 + 1 * (k + 1) = 1861 + 1 * k + 1 by omega]
    exact q0
theorem kl_O90 {B : ov_S} {d : Nat} {Q : ov_Q} (hd : 2 ≤ d) (hx : ∀ S', kzq B (1852 + 1 * 9) S' → ov_V true true d 0 0 mq_Mod_keepsOthers 120 [some (.inr (.inr (true, 14, 0))), some (.inl (nI 0))] [] S' Q) : ∀ m k S, k + m = 9 → kzq B (1852 + 1 * k) S → ov_V true true d 0 0 mq_Mod_keepsOthers 90 [some (.inr (.inr (true, 14, 0))), some (.inl (nI k))] [] S Q := by
  intro m
  induction m with
  | zero =>
    intro k S hk hS
    have e : k = 9 := hk
    subst e
    exact r_Mod_keepsOthers_90 (by omega) ⟨fun _ => hx S hS, fun n => absurd (nI_le (a := 9) (b := 9) (by omega) (by decide)) n⟩
  | succ m ih =>
    intro k S hk hS
    refine r_Mod_keepsOthers_90 (by omega) ⟨fun y => absurd y (nI_ge (b := 9) (by omega) (by decide)), fun _ => ⟨zz_ib (by omega) (by decide), ?_⟩⟩
    rw [zz_ix (n := k) (by omega)]
    refine kz_k (r0 := 95) (j0 := k) hS (.inr (.inr (.inr (.inr (.inr (.inr (.inr (.inr (.inr (.inr (.inr (.inr (.inr (.inr (.inl (by omega)))))))))))))))) rfl (fun x0 S0 q0 => r_Mod_keepsOthers_111 ⟨zz_ib (by omega) (by decide), ?_⟩)
    rw [zz_ix (n := k) (by omega), nI_1]
    refine ih (k + 1) _ (by omega) ?_
    rw [show 1852 + 1 * (k + 1) = 1852 + 1 * k + 1 by omega]
    exact q0
theorem kl_O32 {B : ov_S} {d : Nat} {Q : ov_Q} (hd : 2 ≤ d) (hx : ∀ S', kzq B (1833 + 2 * 9) S' → ov_V true true ((d - 1)) 0 0 mq_Mod_kept 0 [some (.inr (.inr (true, 14, 0))), some (.inl (ov_g S' 14 0 55))] [] S' (fun r S1 => ov_V true true d 0 0 mq_Mod_keepsOthers 85 [some (.inr (.inr (true, 14, 0))), none] (r.toList ++ [.inr (.inr (true, 14, 0))]) S1 Q)) : ∀ m k S, k + m = 9 → kzq B (1833 + 2 * k) S → ov_V true true d 0 0 mq_Mod_keepsOthers 32 [some (.inr (.inr (true, 14, 0))), some (.inl (nI k))] [] S Q := by
  intro m
  induction m with
  | zero =>
    intro k S hk hS
    have e : k = 9 := hk
    subst e
    exact r_Mod_keepsOthers_32 (by omega) ⟨fun _ => hx S hS, fun n => absurd (nI_le (a := 9) (b := 9) (by omega) (by decide)) n⟩
  | succ m ih =>
    intro k S hk hS
    refine r_Mod_keepsOthers_32 (by omega) ⟨fun y => absurd y (nI_ge (b := 9) (by omega) (by decide)), fun _ => ⟨zz_ib (by omega) (by decide), ?_⟩⟩
    rw [zz_ix (n := k) (by omega)]
    refine kz_k (r0 := 92) (j0 := k) hS (.inr (.inr (.inr (.inr (.inr (.inr (.inr (.inr (.inr (.inr (.inr (.inr (.inr (.inl (by omega))))))))))))))) rfl (fun x0 S0 q0 => r_Mod_keepsOthers_53 (by omega) ⟨zz_ib (by omega) (by decide), zz_ib (by omega) (by decide), ?_⟩)
    rw [zz_ix (n := k) (by omega)]
    refine kz_k (r0 := 93) (j0 := k) q0 (.inr (.inr (.inr (.inr (.inr (.inr (.inr (.inr (.inr (.inr (.inr (.inr (.inr (.inl (by omega))))))))))))))) rfl (fun x1 S1 q1 => r_Mod_keepsOthers_69 ⟨zz_ib (by omega) (by decide), ?_⟩)
    rw [zz_ix (n := k) (by omega), nI_1]
    refine ih (k + 1) _ (by omega) ?_
    rw [show 1833 + 2 * (k + 1) = 1833 + 2 * k + 2 by omega]
    exact q1
theorem kl_O2 {B : ov_S} {d : Nat} {Q : ov_Q} (hd : 2 ≤ d) (hx : ∀ S', kzq B (1725 + 1 * 108) S' → ov_V true true d 0 0 mq_Mod_keepsOthers 32 [some (.inr (.inr (true, 14, 0))), some (.inl (nI 0))] [] S' Q) : ∀ m k S, k + m = 108 → kzq B (1725 + 1 * k) S → ov_V true true d 0 0 mq_Mod_keepsOthers 2 [some (.inr (.inr (true, 14, 0))), some (.inl (nI k))] [] S Q := by
  intro m
  induction m with
  | zero =>
    intro k S hk hS
    have e : k = 108 := hk
    subst e
    exact r_Mod_keepsOthers_2 (by omega) ⟨fun _ => hx S hS, fun n => absurd (nI_le (a := 108) (b := 108) (by omega) (by decide)) n⟩
  | succ m ih =>
    intro k S hk hS
    refine r_Mod_keepsOthers_2 (by omega) ⟨fun y => absurd y (nI_ge (b := 108) (by omega) (by decide)), fun _ => ⟨zz_ib (by omega) (by decide), ?_⟩⟩
    rw [zz_ix (n := k) (by omega)]
    refine kz_k (r0 := 90) (j0 := k) hS (.inr (.inr (.inr (.inr (.inr (.inr (.inr (.inr (.inr (.inr (.inr (.inr (.inl (by omega)))))))))))))) rfl (fun x0 S0 q0 => r_Mod_keepsOthers_23 ⟨zz_ib (by omega) (by decide), ?_⟩)
    rw [zz_ix (n := k) (by omega), nI_1]
    refine ih (k + 1) _ (by omega) ?_
    rw [show 1725 + 1 * (k + 1) = 1725 + 1 * k + 1 by omega]
    exact q0
theorem kl_O {B S : ov_S} {d : Nat} {Q : ov_Q} (hd : 2 ≤ d) (h : kzq B 1725 S) (hQ : ∀ S', kzq B 1935 S' → Q none S') : ov_V true true d 0 0 mq_Mod_keepsOthers 0 [some (.inr (.inr (true, 14, 0))), none] [] S Q :=
  r_Mod_keepsOthers_0 (kl_O2 hd (fun S2 q2 => kl_O32 hd (fun S3 q3 => kz_k (r0 := 14) (j0 := 55) q3 (.inl (⟨rfl, .inr (.inr (.inr (.inr (.inl (by omega)))))⟩)) rfl (fun x S4 q4 => r_Mod_keepsOthers_85 (kl_O90 hd (fun S5 q5 => kl_O120 hd (fun S6 q6 => kz_k (r0 := 14) (j0 := 17) q6 (.inl (⟨rfl, .inr (.inr (.inr (.inr (.inr (.inl (by omega))))))⟩)) rfl (fun x S7 q7 => r_Mod_keepsOthers_157 (by omega) (kz_k (r0 := 14) (j0 := 18) q7 (.inl (⟨rfl, .inr (.inr (.inr (.inr (.inr (.inr (by omega))))))⟩)) rfl (fun x S8 q8 => r_Mod_keepsOthers_169 (kl_O174 hd (fun S9 q9 => kl_O204 hd (fun S10 q10 => kl_O234 hd (fun S11 q11 => hQ S11 q11) 4 0 S10 rfl q10) 12 0 S9 rfl q9) 20 0 _ rfl q8))))) 36 0 S5 rfl q5) 9 0 _ rfl q4))) 9 0 S2 rfl q2) 108 0 S rfl h)
theorem kl_I101 {B : ov_S} {d : Nat} {Q : ov_Q} (hd : 2 ≤ d) (hx : ∀ S', kzq B (13 + 5 * 99) S' → ov_V true true ((d - 1)) 0 0 mq_Mod_keepsThrees 0 [some (.inr (.inr (true, 14, 0))), none] [] S' (fun r S1 => ov_V true true d 0 0 mq_Mod_image 197 [some (.inr (.inr (true, 14, 0))), none, none] (r.toList ++ []) S1 Q)) : ∀ m k S, k + m = 99 → kzq B (13 + 5 * k) S → ov_V true true d 0 0 mq_Mod_image 101 [some (.inr (.inr (true, 14, 0))), none, some (.inl (nI k))] [] S Q := by
  intro m
  induction m with
  | zero =>
    intro k S hk hS
    have e : k = 99 := hk
    subst e
    exact r_Mod_image_101 (by omega) ⟨fun _ => hx S hS, fun n => absurd (nI_le (a := 99) (b := 99) (by omega) (by decide)) n⟩
  | succ m ih =>
    intro k S hk hS
    refine r_Mod_image_101 (by omega) ⟨fun y => absurd y (nI_ge (b := 99) (by omega) (by decide)), fun _ => ⟨zz_ib (by omega) (by decide), ?_⟩⟩
    rw [zz_ix (n := k) (by omega)]
    refine kz_k (r0 := 74) (j0 := k) hS (.inr (.inr (.inl (by omega)))) rfl (fun x0 S0 q0 => r_Mod_image_122 (by omega) ⟨zz_ib (by omega) (by decide), zz_ib (by omega) (by decide), ?_⟩)
    rw [zz_ix (n := k) (by omega)]
    refine kz_k (r0 := 75) (j0 := k) q0 (.inr (.inr (.inl (by omega)))) rfl (fun x1 S1 q1 => r_Mod_image_138 (by omega) ⟨zz_ib (by omega) (by decide), zz_ib (by omega) (by decide), ?_⟩)
    rw [zz_ix (n := k) (by omega)]
    refine kz_k (r0 := 76) (j0 := k) q1 (.inr (.inr (.inl (by omega)))) rfl (fun x2 S2 q2 => r_Mod_image_154 (by omega) ⟨zz_ib (by omega) (by decide), zz_ib (by omega) (by decide), ?_⟩)
    rw [zz_ix (n := k) (by omega)]
    refine kz_k (r0 := 77) (j0 := k) q2 (.inr (.inr (.inl (by omega)))) rfl (fun x3 S3 q3 => r_Mod_image_170 (by omega) ⟨zz_ib (by omega) (by decide), zz_ib (by omega) (by decide), ?_⟩)
    rw [zz_ix (n := k) (by omega)]
    refine kz_k (r0 := 78) (j0 := k) q3 (.inr (.inr (.inl (by omega)))) rfl (fun x4 S4 q4 => r_Mod_image_186 ⟨zz_ib (by omega) (by decide), ?_⟩)
    rw [zz_ix (n := k) (by omega), nI_1]
    refine ih (k + 1) _ (by omega) ?_
    rw [show 13 + 5 * (k + 1) = 13 + 5 * k + 5 by omega]
    exact q4
theorem kl_I59 {B : ov_S} {d : Nat} {Q : ov_Q} (hd : 2 ≤ d) (hx : ∀ S', kzq B (2 + 1 * 10) S' → ov_V true true ((d - 1)) 0 0 mq_Mod_kept 0 [some (.inr (.inr (true, 14, 0))), some (.inl (ov_g S' 14 0 22))] [] S' (fun r S1 => ov_V true true d 0 0 mq_Mod_image 96 [some (.inr (.inr (true, 14, 0))), none, none] (r.toList ++ [.inr (.inr (true, 14, 0))]) S1 Q)) : ∀ m k S, k + m = 10 → kzq B (2 + 1 * k) S → ov_V true true d 0 0 mq_Mod_image 59 [some (.inr (.inr (true, 14, 0))), none, some (.inl (nI k))] [] S Q := by
  intro m
  induction m with
  | zero =>
    intro k S hk hS
    have e : k = 10 := hk
    subst e
    exact r_Mod_image_59 (by omega) ⟨fun _ => hx S hS, fun n => absurd (nI_le (a := 10) (b := 10) (by omega) (by decide)) n⟩
  | succ m ih =>
    intro k S hk hS
    refine r_Mod_image_59 (by omega) ⟨fun y => absurd y (nI_ge (b := 10) (by omega) (by decide)), fun _ => ⟨zz_ib (by omega) (by decide), ?_⟩⟩
    rw [zz_ix (n := k) (by omega)]
    refine kz_k (r0 := 63) (j0 := k) hS (.inr (.inl (by omega))) rfl (fun x0 S0 q0 => r_Mod_image_80 ⟨zz_ib (by omega) (by decide), ?_⟩)
    rw [zz_ix (n := k) (by omega), nI_1]
    refine ih (k + 1) _ (by omega) ?_
    rw [show 2 + 1 * (k + 1) = 2 + 1 * k + 1 by omega]
    exact q0
theorem kl_I {S : ov_S} {d : Nat} {Q : ov_Q} {v : Int32} (hd : 3 ≤ d) (hv : v = 0 ∨ v = 1) (hQ : ∀ S', kzq (ov_w (ov_w (ov_w S 14 0 60 v) 14 0 61 1) 14 0 62 0) 1935 S' → Q (some (.inl 1)) S') : ov_V true true d 0 0 mq_Mod_image 18 [some (.inr (.inr (true, 14, 0))), some (.inl v), none] [] S Q := by
  refine r_Mod_image_18 (by omega) ⟨hv, ?_⟩
  have h0 : kzq (ov_w (ov_w (ov_w S 14 0 60 v) 14 0 61 1) 14 0 62 0) 0 (ov_w (ov_w (ov_w S 14 0 60 v) 14 0 61 1) 14 0 62 0) := ⟨rfl, rfl, fun n hn => absurd hn (by omega), fun _ _ _ _ _ _ => rfl, fun _ _ => rfl, fun _ _ _ _ _ _ => rfl⟩
  generalize ov_w (ov_w (ov_w S 14 0 60 v) 14 0 61 1) 14 0 62 0 = B at hQ h0 ⊢
  exact kz_k (r0 := 14) (j0 := 1) h0 (.inl (⟨rfl, .inl (by omega)⟩)) rfl (fun x S1 q1 => r_Mod_image_42 (by omega) (kz_k (r0 := 14) (j0 := 16) q1 (.inl (⟨rfl, .inr (.inl (by omega))⟩)) rfl (fun x S2 q2 => r_Mod_image_54 (kl_I59 (by omega) (fun S3 q3 => kz_k (r0 := 14) (j0 := 22) q3 (.inl (⟨rfl, .inr (.inr (.inl (by omega)))⟩)) rfl (fun x S4 q4 => r_Mod_image_96 (kl_I101 (by omega) (fun S5 q5 => kl_T (by omega) q5 (fun S6 q6 => r_Mod_image_197 (by omega) (kl_O (by omega) q6 (fun S7 q7 => r_Mod_image_201 (hQ S7 q7))))) 99 0 _ rfl q4))) 10 0 _ rfl q2))))
