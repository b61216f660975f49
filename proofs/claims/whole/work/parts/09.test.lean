/-- within -/
theorem tt_within {d a b : Nat} {S : ov_S} {Q : ov_Q} {v l h : Int32} (g : (v < l → Q (some (.inl 0)) S) ∧ (¬ v < l → (h < v → Q (some (.inl 0)) S) ∧ (¬ h < v → Q (some (.inl 1)) S))) : ov_V true true d a b mq_Eye_within 0 [some (.inl v), some (.inl l), some (.inl h)] [] S Q :=
  ov_run [] 20 ⟨fun c => ⟨Or.inl rfl, g.1 c⟩, fun c => ⟨fun c2 => ⟨Or.inl rfl, (g.2 c).1 c2⟩, fun c2 => ⟨Or.inr rfl, (g.2 c).2 c2⟩⟩⟩
theorem tt_state {d a b : Nat} {S : ov_S} {Q : ov_Q} {v : Int32} (g : Q (some (.inl (ov_g S 1 0 8))) (ov_w S 1 0 8 v)) : ov_V true true d a b mq_Eye_state 0 [some (.inr (.inr (true, 0, 0))), some (.inl v), none] [] S Q :=
  ov_run [] 20 g
theorem tt_knows {d a b : Nat} {S : ov_S} {Q : ov_Q} {p f : Int32} (g : 0 < d ∧ ov_V true true (d - 1) 0 0 mq_Mod_isPerson 0 [some (.inr (.inr (true, 14, 0))), some (.inl p)] [] (ov_w S 14 0 0 0) (fun r S' => ov_V true true d a b mq_Mod_knows 10 [some (.inr (.inr (true, 14, 0))), some (.inl p), some (.inl f)] (r.toList ++ []) S' Q)) : ov_V true true d a b mq_Mod_knows 0 [some (.inr (.inr (true, 14, 0))), some (.inl p), some (.inl f)] [] S Q :=
  ov_run [(10, [true, true, true])] 20 g
