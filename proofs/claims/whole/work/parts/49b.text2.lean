/-! ===== TEXT: the class takes its tape apart ===== -/
def xc_k (r i j : Nat) : Bool := cond (Nat.beq r 9) (Nat.beq j 1) (cond (Nat.beq r 14) (!(List.elem j [0, 35, 36, 37, 38, 39, 40, 41, 42])) (cond (Nat.beq r 85) (Nat.blt j 480) (cond (List.elem r [46, 47, 48]) false (cond (List.elem r [8, 41, 42, 43, 44]) (!(Nat.beq i 8)) true))))
def xc (S S' : ov_S) : Prop := S'.2.2.1 = S.2.2.1 ∧ ∀ r i j, xc_k r i j = true → S'.1 r i j = S.1 r i j
theorem xc_r {S : ov_S} : xc S S := ⟨rfl, fun _ _ _ _ => rfl⟩
theorem xc_t {S S1 S2 : ov_S} (h1 : xc S S1) (h2 : xc S1 S2) : xc S S2 := ⟨h2.1.trans h1.1, fun r i j h => (h2.2 r i j h).trans (h1.2 r i j h)⟩
theorem xc_w {S S' : ov_S} {r i j : Nat} {v : Int32} (h : xc S S') (hk : xc_k r i j = false) : xc S (ov_w S' r i j v) := by
  refine xc_t h ⟨rfl, fun r' i' j' h' => rl_wn ?_⟩
  rintro ⟨rfl, rfl, rfl⟩
  rw [hk] at h'
  cases h'
def xE (f : Nat → Nat) (L : Nat) (S : ov_S) : Prop := S.1 9 0 1 = nI L ∧ ∀ j, j < L → S.1 45 0 j = nI (f j)
theorem xE_c {f : Nat → Nat} {L : Nat} {S S' : ov_S} (h : xE f L S) (hc : xc S S') : xE f L S' := ⟨(hc.2 9 0 1 rfl).trans h.1, fun j hj => (hc.2 45 0 j rfl).trans (h.2 j hj)⟩
theorem xE_s {f : Nat → Nat} {L k : Nat} {S : ov_S} (h : xE f L S) (hL : L ≤ 400) (hk : k < L) : ov_sign S (nI k) = nI (f k) := by
  unfold ov_sign
  rw [show ov_g S 9 0 1 = nI L from h.1, if_pos ⟨nI_le (a := 0) (by omega) (by omega), nI_lt hk (by omega), nI_lt (b := 400) (by omega) (by decide)⟩, zz_ix (by omega)]
  exact h.2 k hk
theorem tx_er {f : Nat → Nat} {L q d : Nat} {S : ov_S} {Q : ov_Q} (hd : 2 ≤ d) (hf : ∀ j, f j < 256) (hL : L ≤ 400) (hq : q ≤ 3) (hE : xE f L S) : ∀ n j, j + n = L → Q (some (.inl (nI (tx_e f L q j)))) S → ov_V true true d 0 0 mq_Reader_endOfRun 2 [some (.inr (.inr (true, 9, 0))), none, some (.inl (nI q)), some (.inl (nI j))] [] S Q
  | 0, j, hj, h => by
    rw [tx_eo (by omega)] at h
    refine r_Reader_endOfRun_2 hd ⟨fun _ => h, fun n => absurd ?_ n⟩
    rw [show ov_g S 9 0 1 = nI L from hE.1]
    exact nI_le (by omega) (by omega)
  | n + 1, j, hj, h => by
    refine r_Reader_endOfRun_2 hd ?_
    rw [show ov_g S 9 0 1 = nI L from hE.1, xE_s hE hL (by omega), tx_sort (hf j), nI_1]
    have h3 := tx_so3 (f j)
    refine ⟨fun y => absurd y (nI_ge (by omega) (by omega)), fun _ => ⟨fun y => ?_, fun y => ?_⟩⟩
    · rw [tx_en (fun e => y (by rw [e]))] at h
      exact h
    · have e := zz_inj (by omega) (by omega) y
      rw [tx_ey (by omega) e] at h
      exact tx_er hd hf hL hq hE n (j + 1) (by omega) h
theorem tx_er0 {f : Nat → Nat} {L q d j : Nat} {S : ov_S} {Q : ov_Q} (hd : 2 ≤ d) (hf : ∀ j, f j < 256) (hL : L ≤ 400) (hq : q ≤ 3) (hE : xE f L S) (hj : j ≤ L) (h : Q (some (.inl (nI (tx_e f L q j)))) S) : ov_V true true d 0 0 mq_Reader_endOfRun 0 [some (.inr (.inr (true, 9, 0))), some (.inl (nI j)), some (.inl (nI q)), none] [] S Q := r_Reader_endOfRun_0 (tx_er hd hf hL hq hE (L - j) j (by omega) h)
/-! is it this word -/
def tx_g (f : Nat → Nat) (p e w i : Nat) : Prop := (p + i < e ↔ i < tx_ln w) ∧ (p + i < e → f (p + i) = tx_wt w i)
theorem tx_g_m {f : Nat → Nat} {p e w : Nat} (hw : w < 10) (hpe : p ≤ e) (he : e ≤ p + 5) (h : ∀ i, i < 5 → tx_g f p e w i) : tx_m f p e w := by
  have h5 := (tx_w1 w hw).2.1
  have e1 : e = p + tx_ln w := by
    by_cases q : e - p < 5
    · have h1 := h (e - p) q
      by_cases q2 : tx_ln w < 5
      · have h2 := h (tx_ln w) q2
        have := h1.1
        have := h2.1
        omega
      · have := h1.1
        omega
    · by_cases q2 : tx_ln w < 5
      · have h2 := h (tx_ln w) q2
        have := h2.1
        omega
      · omega
  exact ⟨e1, fun i hi => (h i (by omega)).2 (by omega)⟩
theorem tx_m_g {f : Nat → Nat} {p e w i : Nat} (h : tx_m f p e w) : tx_g f p e w i := by
  have := h.1
  exact ⟨by omega, fun q => h.2 i (by omega)⟩
theorem tx_g_i {f : Nat → Nat} {p e w i : Nat} (hw : w < 10) (hi : i < 5) (hf : ∀ j, f j < 256) (hl : ∀ j, p ≤ j → j < e → ¬ f j = 32) : ov_wd (5 * w + i) = (if e ≤ p + i then nI 32 else nI (f (p + i))) ↔ tx_g f p e w i := by
  obtain ⟨g1, g2⟩ := tx_w2 w hw i hi
  by_cases q : e ≤ p + i
  · rw [if_pos q]
    constructor
    · intro h
      refine ⟨⟨fun y => absurd y (by omega), fun y => ?_⟩, fun y => absurd y (by omega)⟩
      obtain ⟨g3, g4, g5⟩ := g1 y
      rw [g5] at h
      exact absurd (zz_inj (by omega) (by omega) h) g4
    · intro h
      exact g2 (by have := h.1; omega)
  · rw [if_neg q]
    constructor
    · intro h
      by_cases y : i < tx_ln w
      · obtain ⟨g3, g4, g5⟩ := g1 y
        rw [g5] at h
        exact ⟨⟨fun _ => y, fun _ => by omega⟩, fun _ => (zz_inj (by omega) (by have := hf (p + i); omega) h).symm⟩
      · rw [g2 (by omega)] at h
        exact absurd (zz_inj (a := 32) (by omega) (by have := hf (p + i); omega) h).symm (hl _ (by omega) (by omega))
    · intro h
      rw [(g1 (h.1.1 (by omega))).2.2, h.2 (by omega)]
theorem tx_iw {f : Nat → Nat} {L d p e w : Nat} {S : ov_S} {Q : ov_Q} (hd : 7 ≤ d) (hf : ∀ j, f j < 256) (hL : L ≤ 400) (hE : xE f L S) (hw : w < 10) (hpe : p ≤ e) (he : e ≤ p + 5) (heL : e ≤ L) (hl : ∀ j, p ≤ j → j < e → ¬ f j = 32) (hm : tx_m f p e w → Q (some (.inl 1)) S) (hn : ¬ tx_m f p e w → Q (some (.inl 0)) S) : ∀ n i, i + n = 5 → (∀ i', i' < i → tx_g f p e w i') → ov_V true true d 0 0 mq_Reader_isWord 3 [some (.inr (.inr (true, 9, 0))), some (.inl (nI w)), some (.inl (nI p)), some (.inl (nI e)), some (.inl (nI i)), none, none] [] S Q
  | 0, i, hi, hg => by
    refine r_Reader_isWord_3 (by omega) ⟨fun _ => hm (tx_g_m hw hpe he (fun i' h' => hg i' (by omega))), fun n => absurd (nI_le (a := 5) (b := i) (by omega) (by omega)) n⟩
  | n + 1, i, hi, hg => by
    have e5 : (5 * nI w + nI i : Int32) = nI (5 * w + i) := by
      show nI 5 * nI w + nI i = _
      rw [pk_mul, nI_add]
    have go : ∀ s : Int32, s = (if e ≤ p + i then nI 32 else nI (f (p + i))) → ov_V true true d 0 0 mq_Reader_isWord 30 [some (.inr (.inr (true, 9, 0))), some (.inl (nI w)), some (.inl (nI p)), some (.inl (nI e)), some (.inl (nI i)), none, none] [.inl s] S Q := by
      intro s hs
      refine r_Reader_isWord_30_2 (by omega) ?_
      rw [e5]
      refine ⟨fun z => absurd ((zz_le (b := 49) (y := 50 - 1) rfl).2 ⟨_, by omega, rfl⟩) z, fun _ => ⟨zz_ib (by omega) (by decide), ?_⟩⟩
      rw [zz_ix (by omega), hs, nI_1]
      refine ⟨fun y => ?_, fun y => hn (fun m => y ((tx_g_i hw (by omega) hf hl).2 (tx_m_g m)))⟩
      have hgi := (tx_g_i hw (by omega) hf hl).1 y
      refine tx_iw hd hf hL hE hw hpe he heL hl hm hn n (i + 1) (by omega) (fun i' h' => ?_)
      by_cases q : i' = i
      · rw [q]; exact hgi
      · exact hg i' (by omega)
    refine r_Reader_isWord_3 (by omega) ?_
    rw [nI_add]
    refine ⟨fun y => absurd y (nI_ge (b := 5) (by omega) (by decide)), fun _ => ⟨fun y => ?_, fun y => ?_⟩⟩
    · exact go 32 (by rw [if_pos ((nI_leI (by omega) (by omega)).1 y)]; rfl)
    · have hlt : p + i < e := by
        rcases Nat.lt_or_ge (p + i) e with z | z
        · exact z
        · exact absurd (nI_le z (by omega)) y
      exact go _ (by rw [if_neg (by omega)]; exact xE_s hE hL (by omega))
theorem tx_wa {f : Nat → Nat} {L d p e : Nat} {S : ov_S} {Q : ov_Q} (hd : 8 ≤ d) (hf : ∀ j, f j < 256) (hL : L ≤ 400) (hE : xE f L S) (hpe : p ≤ e) (he : e ≤ p + 5) (heL : e ≤ L) (hl : ∀ j, p ≤ j → j < e → ¬ f j = 32) : ∀ n w, n + w = 10 → Q (some (.inl (nI (tx_q f p e n w)))) S → ov_V true true d 0 0 mq_Reader_wordAt 12 [some (.inr (.inr (true, 9, 0))), some (.inl (nI p)), some (.inl (nI e)), some (.inl (nI w))] [] S Q
  | 0, w, hw, h => r_Reader_wordAt_12 (by omega) ⟨fun _ => h, fun n => absurd (nI_le (a := 10) (b := w) (by omega) (by omega)) n⟩
  | n + 1, w, hw, h => by
    refine r_Reader_wordAt_12 (by omega) ⟨fun y => absurd y (nI_ge (b := 10) (by omega) (by decide)), fun _ => r_Reader_isWord_0 (tx_iw (by omega) hf hL hE (by omega) hpe he heL hl (fun m => ?_) (fun m => ?_) 5 0 rfl (fun _ z => absurd z (by omega)))⟩
    · rw [tx_q_y m] at h
      exact r_Reader_wordAt_25 ⟨fun y => absurd y (by decide), fun _ => h⟩
    · rw [tx_q_n m] at h
      refine r_Reader_wordAt_25 ⟨fun _ => ?_, fun y => absurd rfl y⟩
      rw [nI_1]
      exact tx_wa hd hf hL hE hpe he heL hl n (w + 1) (by omega) h
theorem tx_wa0 {f : Nat → Nat} {L d p e : Nat} {S : ov_S} {Q : ov_Q} (hd : 8 ≤ d) (hf : ∀ j, f j < 256) (hL : L ≤ 400) (hE : xE f L S) (hpe : p ≤ e) (heL : e ≤ L) (hl : ∀ j, p ≤ j → j < e → ¬ f j = 32) (h : Q (some (.inl (nI (tx_q f p e 10 0)))) S) : ov_V true true d 0 0 mq_Reader_wordAt 0 [some (.inr (.inr (true, 9, 0))), some (.inl (nI p)), some (.inl (nI e)), none] [] S Q := by
  refine r_Reader_wordAt_0 ?_
  rw [pk_sub hpe]
  refine ⟨fun y => ?_, fun y => ?_⟩
  · exact tx_wa hd hf hL hE hpe (by have := (nI_leI (b := 5) (by omega) (by decide)).1 y; omega) heL hl 10 0 rfl h
  · have hz : p + 5 < e := Nat.lt_of_not_le (fun z => y (nI_le (a := e - p) (b := 5) (by omega) (by decide)))
    rw [tx_q_l hz 10 0 rfl] at h
    exact h
/-! a value -/
theorem tx_va {f : Nat → Nat} {L d p e : Nat} {S : ov_S} {Q : ov_Q} (hd : 1 ≤ d) (hL : L ≤ 400) (hE : xE f L S) (hpe : p ≤ e) (heL : e ≤ L) (hl : ∀ j, p ≤ j → j < e → 48 ≤ f j ∧ f j ≤ 57) (h : Q (some (.inl (nI (tx_v f p (min 4 (e - p)))))) S) : ∀ n i, i + n = min 4 (e - p) → ov_V true true d 0 0 mq_Reader_valueAt 5 [some (.inr (.inr (true, 9, 0))), some (.inl (nI p)), some (.inl (nI e)), some (.inl (nI (tx_v f p i))), some (.inl (nI (p + i)))] [] S Q
  | 0, i, hi => by
    refine r_Reader_valueAt_5 hd ?_
    have e4 : (nI p + 4 : Int32) = nI (p + 4) := nI_add p 4
    have hi' : i = min 4 (e - p) := hi
    rw [e4, hi']
    refine ⟨fun _ => h, fun y => ⟨fun _ => h, fun y2 => ?_⟩⟩
    by_cases q : e ≤ p + min 4 (e - p)
    · exact absurd (nI_le q (by omega)) y
    · exact absurd (nI_le (a := p + 4) (by omega) (by omega)) y2
  | n + 1, i, hi => by
    refine r_Reader_valueAt_5 hd ?_
    have e4 : (nI p + 4 : Int32) = nI (p + 4) := nI_add p 4
    have hd1 := hl (p + i) (by omega) (by omega)
    have ev : ((10 * nI (tx_v f p i)) + nI (f (p + i))) - 48 = nI (tx_v f p (i + 1)) := by
      rw [zz_10]
      exact pk_sub (b := 48) (by omega)
    rw [e4, xE_s hE hL (by omega), ev, nI_1, show p + i + 1 = p + (i + 1) from rfl]
    exact ⟨fun y => absurd y (nI_ge (by omega) (by omega)), fun _ => ⟨fun y => absurd y (nI_ge (by omega) (by omega)), fun _ => tx_va hd hL hE hpe heL hl h n (i + 1) (by omega)⟩⟩
/-! a token is kept -/
def xT (f : Nat → Nat) (L k : Nat) (S : ov_S) : Prop := S.1 9 0 8 = nI k ∧ ∀ i, i < k → S.1 46 0 i = nI (tx_C f L i) ∧ S.1 47 0 i = nI (tx_A f L i) ∧ (tx_C f L i = 10 → S.1 48 0 i = nI (tx_V f L i))
def xB (f : Nat → Nat) (L k : Nat) (S0 S : ov_S) : Prop := xc S0 S ∧ xE f L S ∧ xT f L k S ∧ S.1 9 0 3 = 0 ∧ S.1 9 0 4 = -1 ∧ S.1 9 0 9 = 0
def xK (S : ov_S) (n : Nat) (c a v : Int32) : ov_S := ov_w (ov_w (ov_w (ov_w S 46 0 n c) 47 0 n a) 48 0 n v) 9 0 8 (nI (n + 1))
theorem tx_kt {d n : Nat} {S : ov_S} {Q : ov_Q} {c a v : Int32} (hd : 1 ≤ d) (hn : n ≤ 400) (e : S.1 9 0 8 = nI n) (h : Q none (xK S n c a v)) : ov_V true true d 0 0 mq_Reader_keepToken 0 [some (.inr (.inr (true, 9, 0))), some (.inl c), some (.inl a), some (.inl v)] [] S Q := by
  have e' : ov_g S 9 0 8 = nI n := e
  refine r_Reader_keepToken_0 hd ⟨fun z => absurd ((zz_le (b := 400) rfl).2 ⟨n, hn, e⟩) z, fun _ => ?_⟩
  show ov_ib (ov_g S 9 0 8) 401 ∧ ov_ib (ov_g S 9 0 8) 401 ∧ ov_ib (ov_g S 9 0 8) 401 ∧ Q none (ov_w (ov_w (ov_w (ov_w S 46 0 (ov_ix (ov_g S 9 0 8)) c) 47 0 (ov_ix (ov_g S 9 0 8)) a) 48 0 (ov_ix (ov_g S 9 0 8)) v) 9 0 8 (ov_g S 9 0 8 + 1))
  rw [e', zz_ix (by omega), nI_1]
  exact ⟨zz_ib (by omega) (by decide), zz_ib (by omega) (by decide), zz_ib (by omega) (by decide), h⟩
theorem tx_tK {f : Nat → Nat} {L k : Nat} {S0 S : ov_S} {c a v : Int32} (h : xB f L k S0 S) (hc : c = nI (tx_C f L k)) (ha : a = nI (tx_A f L k)) (hv : tx_C f L k = 10 → v = nI (tx_V f L k)) : xB f L (k + 1) S0 (xK S k c a v) := by
  obtain ⟨h1, h2, h3, h4, h5, h6⟩ := h
  have ht : xc S (xK S k c a v) := xc_w (xc_w (xc_w (xc_w xc_r rfl) rfl) rfl) rfl
  refine ⟨xc_t h1 ht, xE_c h2 ht, ⟨rfl, fun i hi => ?_⟩, h4, h5, h6⟩
  have e1 : (xK S k c a v).1 46 0 i = if i = k then c else S.1 46 0 i := rl_wr S 46 0 k c i
  have e2 : (xK S k c a v).1 47 0 i = if i = k then a else S.1 47 0 i := rl_wr S 47 0 k a i
  have e3 : (xK S k c a v).1 48 0 i = if i = k then v else S.1 48 0 i := rl_wr S 48 0 k v i
  rw [e1, e2, e3]
  by_cases q : i = k
  · subst q
    rw [if_pos rfl, if_pos rfl, if_pos rfl]
    exact ⟨hc, ha, hv⟩
  · rw [if_neg q, if_neg q, if_neg q]
    exact h3.2 i (by omega)
