section OVN
variable {l : Launch} {D : va_G} {cA : Nat → ClassId} {z bS tS aS L : Nat} {xs : Nat → Int32} {ZS : State → Prop}
set_option maxHeartbeats 8000000 in
theorem ov_sem_F (hZ : ov_HZ z ZS) (hHS : ov_HS l z aS ZS) {mo0 mo : Bool} {d a b : Nat} {y : ov_M} {pc : Nat} {ls : List (Option ov_A)} {st : List ov_A} {S : ov_S} {Q : ov_Q} (h : ov_F (ov_sem l D cA z bS tS aS L xs ZS) (ov_sem l D cA z bS tS aS L xs ZS) mo0 mo d a b y pc ls st S Q) : ov_sem l D cA z bS tS aS L xs ZS mo0 mo d a b y pc ls st S Q := by
  intro p e s m args below meth c R mc ms hE H locs cells slots ad lsA hS hR hF hls hal has hc1 hs1
  obtain ⟨hok, hfix, hret, hlk, hnm, hwk, hd1, hd2, hmc, hms⟩ := id hE
  obtain ⟨hx, hb, hml, hown, hts⟩ := id hfix
  have hsz : lsA.size = y.2.2.2.1 := hls.2.1
  have hmlA : c.maxLocals = lsA.size := hml.trans hsz.symm
  -- the next place, nothing changed but locals and stack
  have go : ∀ {pc' : Nat} {ls' : List (Option ov_A)} {st' : List ov_A} {lsA' : Array Slot}, ov_sem l D cA z bS tS aS L xs ZS mo0 mo d a b y pc' ls' st' S Q → ov_ls ad lsA' y.2.2.2.1 ls' → (∀ v, some v ∈ ls' → ov_av S v) → (∀ v ∈ st', ov_av S v) → W p l e R s m args below meth c H locs cells slots (MQ below (ov_qc D cA z bS tS aS L xs ad S mo0 Q) args s mc ms (fun q => z ≤ q)) (F0 m pc' lsA' (st'.map (ov_rv ad))) :=
    fun h h1 h2 h3 => h p e s m args below meth c R mc ms hE H locs cells slots ad _ hS hR hF h1 h2 h3 hc1 hs1
  -- the next place, another state
  have go2 : ∀ {pc' : Nat} {st' : List ov_A} {S' : ov_S} {H1 : Heap} {locs1 : List Loc} {ad' : Nat → Nat → Nat} {a' b' cells' slots' : Nat} {mo' : Bool}, ov_sem l D cA z bS tS aS L xs ZS mo0 mo' d a' b' y pc' ls st' S' Q → va_S (fun q => z ≤ q) s.heap H1 locs1 → ov_rep D cA z bS tS aS L xs ad' S' H1 → (mo' = true → ov_full S') → ov_ext ad S ad' S' → (∀ v ∈ st', ov_av S' v) → cells' + a' ≤ mc → slots' + b' ≤ ms → W p l e R s m args below meth c H1 locs1 cells' slots' (MQ below (ov_qc D cA z bS tS aS L xs ad S mo0 Q) args s mc ms (fun q => z ≤ q)) (F0 m pc' lsA (st'.map (ov_rv ad'))) := by
    intro pc' st' S' H1 locs1 ad' a' b' cells' slots' mo' h g1 g2 g3 g4 g5 g6 g7
    refine ov_Wm (ov_MQm ?_) (h p e s m args below meth c R mc ms hE H1 locs1 cells' slots' ad' _ g1 g2 g3 (g4.ls hal hls) (fun v hv => g4.av (hal v hv)) g5 g6 g7)
    rintro o t ⟨⟨r, S2, ad2, k1, k2, k3, k4⟩, k5⟩
    exact ⟨⟨r, S2, ad2, k1, k2, g4.trans k3, k4⟩, k5⟩
  unfold ov_F at h
  split at h
  · exact h.elim
  rename_i ins len hl
  obtain ⟨hdg, hlen, hiw⟩ := hok.1 pc ins len hl
  cases ins <;> dsimp only at h <;> first
    | exact h.elim
    | skip
  case iconst n =>
    obtain rfl := hlen 1 rfl
    exact lv_iconst hx hb hdg (of_decide_eq_true hiw) (go h hls hal (ov_av_c trivial has))
  case bipush n =>
    obtain rfl := hlen 2 rfl
    exact lv_bipush hx hb hdg (of_decide_eq_true hiw) (go h hls hal (ov_av_c trivial has))
  case sipush n =>
    obtain rfl := hlen 3 rfl
    exact lv_sipush hx hb hdg (of_decide_eq_true hiw) (go h hls hal (ov_av_c trivial has))
  case lconst n =>
    obtain rfl := hlen 1 rfl
    exact lv_lconst hx hb hdg rfl (go h hls hal (ov_av_c trivial has))
  case ldc i =>
    obtain rfl := hlen 2 rfl
    split at h
    · rename_i v hv
      exact lv_ldc hx hb hown (hts _ (ov_lc_ok hv)) hdg (go h hls hal (ov_av_c trivial has))
    · split at h
      · rename_i hb2
        have h2 : _ ∧ _ := Bool.and_eq_true _ _ ▸ hb2
        have e1 := Nat.eq_of_beq_eq_true h2.1
        have e2 := Nat.eq_of_beq_eq_true h2.2
        subst e2
        have hown5 : s.vm.findClass "OneEye$Reader" = some m.cls := by rw [e1] at hown; exact hown
        refine (hHS p e R s m args below meth c H locs cells slots _ _ _ pc lsA _ ⟨hx, hb, hml, hown5, hts⟩ hwk.2.2.2.2.2.2.2.2.2 hS hsz hwk.2.2.2.2.2.2.2.2.1).1 hdg ?_
        have := go h hls hal (ov_av_c (Or.inr ⟨rfl, Or.inr (Or.inr rfl)⟩) has)
        simpa [ov_rv, hR.2.2.2.2.2.1] using this
      · exact h.elim
  case ldc_w i =>
    obtain rfl := hlen 3 rfl
    split at h
    · rename_i v hv
      exact lv_ldcw hx hb hown (hts _ (ov_lc_ok hv)) hdg (go h hls hal (ov_av_c trivial has))
    · exact h.elim
  case ldc2_w i =>
    obtain rfl := hlen 3 rfl
    split at h
    · rename_i v hv
      exact lv_ldc2 hx hb hown (hts _ (ov_lL_ok hv)) hdg (go h hls hal (ov_av_c trivial has))
    · exact h.elim
  case aconst_null =>
    obtain rfl := hlen 1 rfl
    exact lv_null hx hb hdg (go h hls hal (ov_av_c trivial has))
  case iload_n k =>
    obtain rfl := hlen 1 rfl
    replace h := ov_ldI_e h
    obtain ⟨x, hxl, h⟩ := h
    exact lv_iload_n hx hb hdg rfl (hls.2.2.2 _ _ hxl) (go h hls hal (ov_av_c trivial has))
  case iload i =>
    obtain rfl := hlen 2 rfl
    replace h := ov_ldI_e h
    obtain ⟨x, hxl, h⟩ := h
    exact lv_iload hx hb hdg (hls.2.2.2 _ _ hxl) (go h hls hal (ov_av_c trivial has))
  case lload_n k =>
    obtain rfl := hlen 1 rfl
    replace h := ov_ldL_e h
    obtain ⟨x, hxl, h⟩ := h
    exact lv_lload_n hx hb hdg rfl (hls.2.2.2 _ _ hxl) (go h hls hal (ov_av_c trivial has))
  case aload_n k =>
    obtain rfl := hlen 1 rfl
    replace h := ov_ldR_e h
    obtain ⟨b', r, j, hxl, h⟩ := h
    have hv := hal _ (List.mem_of_getElem? hxl)
    cases b'
    · exact lv_aload_nN hx hb hdg rfl (hls.2.2.2 _ _ hxl) (go h hls hal (ov_av_c hv has))
    · exact lv_aload_n hx hb hdg rfl (hls.2.2.2 _ _ hxl) (go h hls hal (ov_av_c hv has))
  case aload i =>
    obtain rfl := hlen 2 rfl
    replace h := ov_ldR_e h
    obtain ⟨b', r, j, hxl, h⟩ := h
    have hv := hal _ (List.mem_of_getElem? hxl)
    cases b'
    · exact lv_aloadN hx hb hdg (hls.2.2.2 _ _ hxl) (go h hls hal (ov_av_c hv has))
    · exact lv_aload hx hb hdg (hls.2.2.2 _ _ hxl) (go h hls hal (ov_av_c hv has))
  case istore_n k =>
    obtain rfl := hlen 1 rfl
    replace h := ov_pI_e h
    obtain ⟨x, t, rfl, h⟩ := h
    replace h := ov_sto_e h
    obtain ⟨ho, h⟩ := h
    exact lv_istore_n hx hb hdg rfl (ov_ls_has hls) (by rw [← hls.1]; exact ov_so_lt ho) rfl (fun ls' hh => go h (ov_ls_set (v := .inl x) hls.1 ho hh) (ov_al_set hal trivial) (ov_av_t has))
  case istore i =>
    obtain rfl := hlen 2 rfl
    replace h := ov_pI_e h
    obtain ⟨x, t, rfl, h⟩ := h
    replace h := ov_sto_e h
    obtain ⟨ho, h⟩ := h
    exact lv_istore hx hb hdg (ov_ls_has hls) (by rw [← hls.1]; exact ov_so_lt ho) rfl (fun ls' hh => go h (ov_ls_set (v := .inl x) hls.1 ho hh) (ov_al_set hal trivial) (ov_av_t has))
  case astore_n k =>
    obtain rfl := hlen 1 rfl
    replace h := ov_pN_e h
    obtain ⟨b', r, j, t, rfl, h⟩ := h
    replace h := ov_sto_e h
    obtain ⟨ho, h⟩ := h
    have hv := has _ List.mem_cons_self
    cases b'
    · exact lv_astore_nN hx hb hdg rfl (ov_ls_has hls) (by rw [← hls.1]; exact ov_so_lt ho) rfl (fun ls' hh => go h (ov_ls_set (v := .inr (.inr (false, r, j))) hls.1 ho hh) (ov_al_set hal hv) (ov_av_t has))
    · exact lv_astore_n hx hb hdg rfl (ov_ls_has hls) (by rw [← hls.1]; exact ov_so_lt ho) rfl (fun ls' hh => go h (ov_ls_set (v := .inr (.inr (true, r, j))) hls.1 ho hh) (ov_al_set hal hv) (ov_av_t has))
  case astore i =>
    obtain rfl := hlen 2 rfl
    replace h := ov_pN_e h
    obtain ⟨b', r, j, t, rfl, h⟩ := h
    replace h := ov_sto_e h
    obtain ⟨ho, h⟩ := h
    have hv := has _ List.mem_cons_self
    cases b'
    · exact lv_astoreN hx hb hdg (ov_ls_has hls) (by rw [← hls.1]; exact ov_so_lt ho) rfl (fun ls' hh => go h (ov_ls_set (v := .inr (.inr (false, r, j))) hls.1 ho hh) (ov_al_set hal hv) (ov_av_t has))
    · exact lv_astore hx hb hdg (ov_ls_has hls) (by rw [← hls.1]; exact ov_so_lt ho) rfl (fun ls' hh => go h (ov_ls_set (v := .inr (.inr (true, r, j))) hls.1 ho hh) (ov_al_set hal hv) (ov_av_t has))
  case iinc i n =>
    obtain rfl := hlen 3 rfl
    replace h := ov_ldI_e h
    obtain ⟨x, hxl, h⟩ := h
    replace h := ov_sto_e h
    obtain ⟨ho, h⟩ := h
    obtain ⟨k, hk⟩ := List.getElem?_of_mem (ov_as_mem (ad := ad) (q := (i, .int x)).mpr ⟨.inl x, hxl, rfl⟩)
    exact lv_iinc hx hb hdg (ov_ls_has hls) hk (by rw [of_decide_eq_true hiw]) (by rw [← hls.1]; exact ov_so_lt ho) rfl (fun ls' hh => go h (ov_ls_set (v := .inl (x + ov_k n)) hls.1 ho hh) (ov_al_set hal trivial) has)
  case iadd =>
    obtain rfl := hlen 1 rfl
    replace h := ov_pI_e h
    obtain ⟨w, t, rfl, h⟩ := h
    replace h := ov_pI_e h
    obtain ⟨v, t, rfl, h⟩ := h
    exact lv_iadd hx hb hdg (go h hls hal (ov_av_c trivial (ov_av_t (ov_av_t has))))
  case isub =>
    obtain rfl := hlen 1 rfl
    replace h := ov_pI_e h
    obtain ⟨w, t, rfl, h⟩ := h
    replace h := ov_pI_e h
    obtain ⟨v, t, rfl, h⟩ := h
    exact lv_isub hx hb hdg (go h hls hal (ov_av_c trivial (ov_av_t (ov_av_t has))))
  case imul =>
    obtain rfl := hlen 1 rfl
    replace h := ov_pI_e h
    obtain ⟨w, t, rfl, h⟩ := h
    replace h := ov_pI_e h
    obtain ⟨v, t, rfl, h⟩ := h
    exact lv_imul hx hb hdg (go h hls hal (ov_av_c trivial (ov_av_t (ov_av_t has))))
  case idiv =>
    obtain rfl := hlen 1 rfl
    replace h := ov_pI_e h
    obtain ⟨w, t, rfl, h⟩ := h
    replace h := ov_pI_e h
    obtain ⟨v, t, rfl, h⟩ := h
    exact lv_idiv hx hb hdg h.1 (go h.2 hls hal (ov_av_c trivial (ov_av_t (ov_av_t has))))
  case irem =>
    obtain rfl := hlen 1 rfl
    replace h := ov_pI_e h
    obtain ⟨w, t, rfl, h⟩ := h
    replace h := ov_pI_e h
    obtain ⟨v, t, rfl, h⟩ := h
    exact lv_irem hx hb hdg h.1 (go h.2 hls hal (ov_av_c trivial (ov_av_t (ov_av_t has))))
  case iand =>
    obtain rfl := hlen 1 rfl
    replace h := ov_pI_e h
    obtain ⟨w, t, rfl, h⟩ := h
    replace h := ov_pI_e h
    obtain ⟨v, t, rfl, h⟩ := h
    exact lv_iand hx hb hdg (go h hls hal (ov_av_c trivial (ov_av_t (ov_av_t has))))
  case ior =>
    obtain rfl := hlen 1 rfl
    replace h := ov_pI_e h
    obtain ⟨w, t, rfl, h⟩ := h
    replace h := ov_pI_e h
    obtain ⟨v, t, rfl, h⟩ := h
    exact lv_ior hx hb hdg (go h hls hal (ov_av_c trivial (ov_av_t (ov_av_t has))))
  case ixor =>
    obtain rfl := hlen 1 rfl
    replace h := ov_pI_e h
    obtain ⟨w, t, rfl, h⟩ := h
    replace h := ov_pI_e h
    obtain ⟨v, t, rfl, h⟩ := h
    exact lv_ixor hx hb hdg (go h hls hal (ov_av_c trivial (ov_av_t (ov_av_t has))))
  case ishl =>
    obtain rfl := hlen 1 rfl
    replace h := ov_pI_e h
    obtain ⟨w, t, rfl, h⟩ := h
    replace h := ov_pI_e h
    obtain ⟨v, t, rfl, h⟩ := h
    exact lv_ishl hx hb hdg (go h hls hal (ov_av_c trivial (ov_av_t (ov_av_t has))))
  case ishr =>
    obtain rfl := hlen 1 rfl
    replace h := ov_pI_e h
    obtain ⟨w, t, rfl, h⟩ := h
    replace h := ov_pI_e h
    obtain ⟨v, t, rfl, h⟩ := h
    exact lv_ishr hx hb hdg (go h hls hal (ov_av_c trivial (ov_av_t (ov_av_t has))))
  case iushr =>
    obtain rfl := hlen 1 rfl
    replace h := ov_pI_e h
    obtain ⟨w, t, rfl, h⟩ := h
    replace h := ov_pI_e h
    obtain ⟨v, t, rfl, h⟩ := h
    exact lv_iushr hx hb hdg rfl (go h hls hal (ov_av_c trivial (ov_av_t (ov_av_t has))))
  case land =>
    obtain rfl := hlen 1 rfl
    replace h := ov_pL_e h
    obtain ⟨w, t, rfl, h⟩ := h
    replace h := ov_pL_e h
    obtain ⟨v, t, rfl, h⟩ := h
    exact lv_land hx hb hdg (go h hls hal (ov_av_c trivial (ov_av_t (ov_av_t has))))
  case lor =>
    obtain rfl := hlen 1 rfl
    replace h := ov_pL_e h
    obtain ⟨w, t, rfl, h⟩ := h
    replace h := ov_pL_e h
    obtain ⟨v, t, rfl, h⟩ := h
    exact lv_lor hx hb hdg (go h hls hal (ov_av_c trivial (ov_av_t (ov_av_t has))))
  case lxor =>
    obtain rfl := hlen 1 rfl
    replace h := ov_pL_e h
    obtain ⟨w, t, rfl, h⟩ := h
    replace h := ov_pL_e h
    obtain ⟨v, t, rfl, h⟩ := h
    exact lv_lxor hx hb hdg (go h hls hal (ov_av_c trivial (ov_av_t (ov_av_t has))))
  case lshl =>
    obtain rfl := hlen 1 rfl
    replace h := ov_pI_e h
    obtain ⟨w, t, rfl, h⟩ := h
    replace h := ov_pL_e h
    obtain ⟨v, t, rfl, h⟩ := h
    exact lv_lshl hx hb hdg rfl (go h hls hal (ov_av_c trivial (ov_av_t (ov_av_t has))))
  case lushr =>
    obtain rfl := hlen 1 rfl
    replace h := ov_pI_e h
    obtain ⟨w, t, rfl, h⟩ := h
    replace h := ov_pL_e h
    obtain ⟨v, t, rfl, h⟩ := h
    exact lv_lushr hx hb hdg rfl (go h hls hal (ov_av_c trivial (ov_av_t (ov_av_t has))))
  case lcmp =>
    obtain rfl := hlen 1 rfl
    replace h := ov_pL_e h
    obtain ⟨w, t, rfl, h⟩ := h
    replace h := ov_pL_e h
    obtain ⟨v, t, rfl, h⟩ := h
    exact W.lcmp hx hb hdg (go h hls hal (ov_av_c trivial (ov_av_t (ov_av_t has))))
  case pop =>
    obtain rfl := hlen 1 rfl
    replace h := ov_pI_e h
    obtain ⟨w, t, rfl, h⟩ := h
    exact lv_pop hx hb hdg rfl (go h hls hal (ov_av_t has))
  case dup =>
    obtain rfl := hlen 1 rfl
    split at h
    · exact lv_dup hx hb hdg rfl (go h hls hal (ov_av_c trivial has))
    · rename_i x t
      obtain ⟨b', r, j⟩ := x
      have hv := has _ List.mem_cons_self
      cases b'
      · exact lv_dup hx hb hdg rfl (go h hls hal (ov_av_c hv has))
      · exact lv_dup hx hb hdg rfl (go h hls hal (ov_av_c hv has))
    · exact h.elim
  case dup2 =>
    obtain rfl := hlen 1 rfl
    split at h
    · rename_i x v t
      obtain ⟨b', r, j⟩ := v
      have hv := has _ (List.mem_cons_of_mem _ List.mem_cons_self)
      cases b'
      · exact lv_dup2_11 hx hb hdg rfl rfl (go h hls hal (ov_av_c trivial (ov_av_c hv has)))
      · exact lv_dup2_11 hx hb hdg rfl rfl (go h hls hal (ov_av_c trivial (ov_av_c hv has)))
    · exact h.elim
  case ifCond cd off =>
    obtain rfl := hlen 3 rfl
    replace h := ov_pI_e h
    obtain ⟨x, t, rfl, h⟩ := h
    have at' := ov_av_t has
    cases cd <;> dsimp only at h <;> replace h := ov_jp_e h <;> obtain ⟨tg, htg, h⟩ := h
    · exact lv_if_eq hx hb hdg htg (fun c1 => go (h.1 c1) hls hal at') (fun c1 => go (h.2 c1) hls hal at')
    · exact lv_if_ne hx hb hdg htg (fun c1 => go (h.1 c1) hls hal at') (fun c1 => go (h.2 (fun q => q c1)) hls hal at')
    · exact lv_if_lt hx hb hdg htg (fun c1 => go (h.1 c1) hls hal at') (fun c1 => go (h.2 c1) hls hal at')
    · exact lv_if_ge hx hb hdg htg (fun c1 => go (h.1 c1) hls hal at') (fun c1 => go (h.2 c1) hls hal at')
    · exact lv_if_gt hx hb hdg htg (fun c1 => go (h.1 c1) hls hal at') (fun c1 => go (h.2 c1) hls hal at')
    · exact lv_if_le hx hb hdg htg (fun c1 => go (h.1 c1) hls hal at') (fun c1 => go (h.2 c1) hls hal at')
  case if_icmp cd off =>
    obtain rfl := hlen 3 rfl
    replace h := ov_pI_e h
    obtain ⟨w, t, rfl, h⟩ := h
    replace h := ov_pI_e h
    obtain ⟨x, t, rfl, h⟩ := h
    have at' := ov_av_t (ov_av_t has)
    cases cd <;> dsimp only at h <;> replace h := ov_jp_e h <;> obtain ⟨tg, htg, h⟩ := h
    · exact lv_icmp_eq hx hb hdg htg (fun c1 => go (h.1 c1) hls hal at') (fun c1 => go (h.2 c1) hls hal at')
    · exact lv_icmp_ne hx hb hdg htg (fun c1 => go (h.1 c1) hls hal at') (fun c1 => go (h.2 (fun q => q c1)) hls hal at')
    · exact lv_icmp_lt hx hb hdg htg (fun c1 => go (h.1 c1) hls hal at') (fun c1 => go (h.2 c1) hls hal at')
    · exact lv_icmp_ge hx hb hdg htg (fun c1 => go (h.1 c1) hls hal at') (fun c1 => go (h.2 c1) hls hal at')
    · exact lv_icmp_gt hx hb hdg htg (fun c1 => go (h.1 c1) hls hal at') (fun c1 => go (h.2 c1) hls hal at')
    · exact lv_icmp_le hx hb hdg htg (fun c1 => go (h.1 c1) hls hal at') (fun c1 => go (h.2 c1) hls hal at')
  case ifnull off =>
    obtain rfl := hlen 3 rfl
    replace h := ov_pN_e h
    obtain ⟨b', r, j, t, rfl, h⟩ := h
    cases b'
    · replace h := ov_jp_e h
      obtain ⟨tg, htg, h⟩ := h
      exact lv_ifnullN hx hb hdg htg (go h hls hal (ov_av_t has))
    · exact lv_ifnull hx hb hdg (go h hls hal (ov_av_t has))
  case ifnonnull off =>
    obtain rfl := hlen 3 rfl
    replace h := ov_pN_e h
    obtain ⟨b', r, j, t, rfl, h⟩ := h
    cases b'
    · exact lv_ifnonnullN hx hb hdg (go h hls hal (ov_av_t has))
    · replace h := ov_jp_e h
      obtain ⟨tg, htg, h⟩ := h
      exact lv_ifnonnull hx hb hdg htg (go h hls hal (ov_av_t has))
  case goto off =>
    obtain rfl := hlen 3 rfl
    replace h := ov_jp_e h
    obtain ⟨tg, htg, h⟩ := h
    exact lv_goto hx hb hdg htg (go h hls hal has)
  case tableswitch dflt lo hi offs =>
    replace h := ov_pI_e h
    obtain ⟨x, t, rfl, h⟩ := h
    by_cases hr : x.toInt < lo ∨ hi < x.toInt
    · obtain ⟨tg, htg, h⟩ := ov_jp_e (h.1 hr)
      exact lv_tableOut hx hb hdg hr htg (go h hls hal (ov_av_t has))
    · have h2 : _ ∧ _ := Bool.and_eq_true _ _ ▸ hiw
      have e1 : lo ≤ hi := of_decide_eq_true h2.1
      have e2 : offs.size = (hi - lo + 1).toNat := of_decide_eq_true h2.2
      have hj : (x.toInt - lo).toNat < offs.size := by omega
      have hg : offs[(x.toInt - lo).toNat]? = some offs[(x.toInt - lo).toNat] := Array.getElem?_eq_getElem hj
      obtain ⟨tg, htg, h⟩ := ov_jp_e (ov_swT_e h.2 (x.toInt - lo).toNat _ (by rw [Array.getElem?_toList]; exact hg) (by omega))
      exact lv_tableIn hx hb hdg (fun q => hr (Or.inl q)) (fun q => hr (Or.inr q)) hg htg (go h hls hal (ov_av_t has))
  case lookupswitch dflt ps =>
    replace h := ov_pI_e h
    obtain ⟨x, t, rfl, h⟩ := h
    obtain ⟨tg, htg, h⟩ := ov_jp_e (ov_swL_e h)
    exact lv_lookup hx hb hdg hiw rfl htg (go h hls hal (ov_av_t has))
  case getfield i =>
    obtain rfl := hlen 3 rfl
    split at h
    · rename_i ci k hlf
      replace h := ov_pR_e h
      obtain ⟨r, j, t, rfl, h⟩ := h
      replace h := ov_get_e h
      obtain ⟨fks, kd, q, g, hsh, hk, h⟩ := h
      have hlv : (r, j) ∈ S.2.2.1 := ov_lv_o (has _ List.mem_cons_self) hsh
      refine ov_s_get hx hb hts hown hwk.1 hR hlv hsh hk hlf hdg ?_
      rcases h with ⟨h1, h⟩ | ⟨rfl, rfl, h⟩ | ⟨h1, h⟩
      · have e1 : ov_fv ad S r j k (kd, q, g) = .int (ov_g S r j k) := by
          unfold ov_fv
          rw [if_neg (by omega)]
          rfl
        rw [e1]
        exact go h hls hal (ov_av_c trivial (ov_av_t has))
      · have hne : S.1 r j k ≠ 0 := hF rfl r j k _ fks q g hlv hsh hk
        have e1 : ov_fv ad S r j k (2, q, g) = .ref (ad q (g j)) := by
          unfold ov_fv
          rw [if_pos (by omega), if_neg hne]
        rw [e1]
        exact go h hls hal (ov_av_c (Or.inl ((hR.2.2.1 r j hlv).1 _ fks k _ hsh hk (by omega) hne)) (ov_av_t has))
      · rw [ov_fv_ref h1]
        exact go h hls hal (ov_av_c (ov_av_ref hR.2.2.1 hlv hsh hk h1) (ov_av_t has))
    · exact h.elim
  case putfield i =>
    obtain rfl := hlen 3 rfl
    split at h
    · rename_i ci k v t hlf
      replace h := ov_pR_e h
      obtain ⟨r, j, t, rfl, h⟩ := h
      replace h := ov_put_e h
      obtain ⟨fks, kd, q, g, x, hsh, hk, h, hv⟩ := h
      have hlv : (r, j) ∈ S.2.2.1 := ov_lv_o (has _ (List.mem_cons_of_mem _ List.mem_cons_self)) hsh
      have hvx : (ov_w S r j k x).1 r j k = x := by rw [ov_w_s, if_pos rfl]
      have e1 : ov_rv ad v = ov_fv ad (ov_w S r j k x) r j k (kd, q, g) := by
        unfold ov_fv
        rw [hvx]
        rcases hv with ⟨h1, rfl, h3⟩ | ⟨h1, rfl, rfl⟩ | ⟨rfl, ⟨q', j', rfl⟩, rfl⟩
        · rw [if_neg (by omega)]
          rfl
        · rw [if_pos (by rcases h1 with h1 | h1 <;> omega), if_neg (by decide)]
          rfl
        · rw [if_pos (by omega), if_pos rfl]
          rfl
      show W p l e R s m args below meth c H locs cells slots _ (F0 m pc lsA (ov_rv ad v :: .ref (ad r j) :: t.map (ov_rv ad)))
      rw [e1]
      refine ov_s_put hx hb hts hown hwk.1 hR hS hlv hsh hk hlf ?_ ?_ ?_ hdg ?_
      · intro h2 hne
        rcases hv with ⟨h1, rfl, h3⟩ | ⟨h1, rfl, rfl⟩ | ⟨rfl, -, rfl⟩
        · dsimp only at h2; omega
        · have h5 : ov_lv S q (g j) := has _ List.mem_cons_self
          rcases h5 with h5 | ⟨h5, h6⟩
          · exact h5
          · exfalso
            obtain ⟨C, T, N, ty, hct, hN, hkd⟩ := ov_obj hsh
            exact ov_tgt hsh hk (by rcases h1 with h1 | h1 <;> omega) h6
        · exact absurd rfl hne
      · intro h2
        dsimp only at h2
        rcases hv with ⟨h1, rfl, h3⟩ | ⟨h1, rfl, rfl⟩ | ⟨rfl, -, rfl⟩
        · omega
        · rcases h1 with ⟨-, h4, h5, h6⟩ | h1
          · exact ⟨by rw [hnm]; exact h5, h6.symm⟩
          · omega
        · omega
      · intro h2
        dsimp only at h2
        rcases hv with ⟨h1, rfl, h3⟩ | ⟨h1, rfl, rfl⟩ | ⟨rfl, -, rfl⟩
        · exact h3 h2
        · exact Or.inr rfl
        · exact Or.inl rfl
      · intro H1 locs1 hR1 hS1
        refine go2 h hS1 hR1 (fun hm => ov_full_w (hF hm) ?_) (ov_ext_rf rfl) (fun v' hv' => (ov_ext_rf (ad := ad) (S' := ov_w S r j k x) rfl).av (ov_av_t (ov_av_t has) v' hv')) hc1 hs1
        intro c2 fks2 q2 g2 e2 e3
        rw [hsh] at e2
        cases e2
        rw [hk] at e3
        cases e3
        rcases hv with ⟨h1, rfl, h3⟩ | ⟨h1, rfl, rfl⟩ | ⟨h1, -, rfl⟩
        · omega
        · decide
        · omega
    · exact h.elim
  case getstatic i =>
    obtain rfl := hlen 3 rfl
    split at h
    · rename_i hb2
      have h2 : _ ∧ _ := Bool.and_eq_true _ _ ▸ hb2
      have e1 := Nat.eq_of_beq_eq_true h2.1
      have e2 := Nat.eq_of_beq_eq_true h2.2
      subst e2
      have hown7 : s.vm.findClass "OneEye$Talk" = some m.cls := by rw [e1] at hown; exact hown
      refine va_gets hx hb hwk.2.2.2.2.1 hS hown7 (hts _ ov_w_sw) (fun _ h => h) hdg ?_
      have := go h hls hal (ov_av_c (Or.inr ⟨rfl, Or.inr (Or.inl rfl)⟩) has)
      simpa [ov_rv, hR.2.2.2.2.1] using this
    · exact h.elim
  case iaload =>
    obtain rfl := hlen 1 rfl
    replace h := ov_pI_e h
    obtain ⟨x, t, rfl, h⟩ := h
    replace h := ov_pR_e h
    obtain ⟨r, j, t, rfl, h⟩ := h
    have hl1 : ov_lv S r j := has _ (List.mem_cons_of_mem _ List.mem_cons_self)
    replace h := ov_iald_e h
    rcases h with ⟨n, q, g, hsh, hin, h⟩ | ⟨n, q, g, hsh, rfl, hin, h⟩
    · exact ov_s_iald hx hb hwk.1 hR (ov_lv_a hl1 hsh (by omega)) hsh hin hdg (go h hls hal (ov_av_c trivial (ov_av_t (ov_av_t has))))
    · have hr16 : r = 16 := by
        rcases hl1 with h5 | ⟨-, h5⟩
        · have := (hR.2.2.1 r 0 h5).2.2 _ _ _ _ hsh
          omega
        · rcases h5 with rfl | rfl | rfl
          · rfl
          · cases hsh
          · cases hsh
      subst hr16
      have hX := hwk.2.2.2.2.2.2.1
      have hsc := hR.2.2.2.2.2.2
      have e1 : S.2.2.2.1 = L := by rw [hsc]
      have e2 : S.2.2.2.2 = xs := by rw [hsc]
      rw [e1] at hin
      rw [e2] at h
      show W p l e R s m args below meth c H locs cells slots _ (F0 m pc lsA (.int x :: .ref (ad 16 0) :: t.map (ov_rv ad)))
      rw [hR.2.2.2.1]
      exact va_sld hx hb hX (Nat.lt_of_lt_of_le hwk.2.2.2.2.2.2.2.1 hwk.2.2.2.2.2.2.2.2.1) (fun q => absurd hwk.2.2.2.2.2.2.2.1 (Nat.not_lt.mpr q)) hS (ov_ib_in hin) hdg (go h hls hal (ov_av_c trivial (ov_av_t (ov_av_t has))))
  case caload =>
    obtain rfl := hlen 1 rfl
    replace h := ov_pI_e h
    obtain ⟨x, t, rfl, h⟩ := h
    replace h := ov_pR_e h
    obtain ⟨r, j, t, rfl, h⟩ := h
    replace h := ov_arI_e h
    obtain ⟨n, q, g, hsh, hin, h⟩ := h
    have hl1 : ov_lv S r j := has _ (List.mem_cons_of_mem _ List.mem_cons_self)
    exact ov_s_cald hx hb hwk.1 hR (ov_lv_a hl1 hsh (by omega)) hsh hin hdg (go h hls hal (ov_av_c trivial (ov_av_t (ov_av_t has))))
  case laload =>
    obtain rfl := hlen 1 rfl
    replace h := ov_pI_e h
    obtain ⟨x, t, rfl, h⟩ := h
    replace h := ov_pR_e h
    obtain ⟨r, j, t, rfl, h⟩ := h
    have hl1 : ov_lv S r j := has _ (List.mem_cons_of_mem _ List.mem_cons_self)
    replace h := ov_lald_e h
    rcases h with ⟨n, q, g, hsh, hin, h⟩ | ⟨n, q, g, hsh, rfl, hin, h⟩
    · exact ov_s_lald hx hb hwk.1 hR (ov_lv_a hl1 hsh (by omega)) hsh hin hdg (go h hls hal (ov_av_c trivial (ov_av_t (ov_av_t has))))
    · have hr17 : r = 17 := by
        rcases hl1 with h5 | ⟨-, h5⟩
        · have := (hR.2.2.1 r 0 h5).2.2 _ _ _ _ hsh
          omega
        · rcases h5 with rfl | rfl | rfl
          · cases hsh
          · rfl
          · cases hsh
      subst hr17
      show W p l e R s m args below meth c H locs cells slots _ (F0 m pc lsA (.int x :: .ref (ad 17 0) :: t.map (ov_rv ad)))
      rw [hR.2.2.2.2.1]
      exact va_tl hx hb hwk.2.2.2.2.2.1 hS (ov_ib_in hin) rfl hdg (go h hls hal (ov_av_c trivial (ov_av_t (ov_av_t has))))
  case aaload =>
    obtain rfl := hlen 1 rfl
    replace h := ov_pI_e h
    obtain ⟨x, t, rfl, h⟩ := h
    replace h := ov_pR_e h
    obtain ⟨r, j, t, rfl, h⟩ := h
    have hl1 : ov_lv S r j := has _ (List.mem_cons_of_mem _ List.mem_cons_self)
    replace h := ov_aald_e h
    obtain ⟨tt, n, q, g, hsh, ht, hin, h⟩ := h
    have hlv := ov_lv_a hl1 hsh (by omega)
    refine ov_s_aald hx hb hwk.1 hR hlv hsh ht hin hdg (go h hls hal (ov_av_c ?_ (ov_av_t (ov_av_t has))))
    cases hb3 : (ov_g S r j (ov_ix x) != 0)
    · exact trivial
    · refine Or.inl ((hR.2.2.1 r j hlv).2.1 tt n q g (ov_ix x) hsh (by omega) ?_ (ov_flag.mp hb3))
      have h1 := hin.1
      have h2 := hin.2
      show x.toInt.toNat < n
      omega
  case iastore =>
    obtain rfl := hlen 1 rfl
    replace h := ov_pI_e h
    obtain ⟨v, t, rfl, h⟩ := h
    replace h := ov_pI_e h
    obtain ⟨x, t, rfl, h⟩ := h
    replace h := ov_pR_e h
    obtain ⟨r, j, t, rfl, h⟩ := h
    replace h := ov_arI_e h
    obtain ⟨n, q, g, hsh, hin, h⟩ := h
    have hl1 : ov_lv S r j := has _ (List.mem_cons_of_mem _ (List.mem_cons_of_mem _ List.mem_cons_self))
    exact ov_s_iast hx hb hwk.1 hR hS (ov_lv_a hl1 hsh (by omega)) hsh hin hdg (fun H1 locs1 hR1 hS1 => go2 h hS1 hR1 (fun hm => ov_full_arr (hF hm) hsh rfl (fun r' i' h => (ov_w_o h).1)) (ov_ext_rf rfl) (fun v' hv' => (ov_ext_rf (ad := ad) (S' := ov_w S r j (ov_ix x) v) rfl).av (ov_av_t (ov_av_t (ov_av_t has)) v' hv')) hc1 hs1)
  case castore =>
    obtain rfl := hlen 1 rfl
    replace h := ov_pI_e h
    obtain ⟨v, t, rfl, h⟩ := h
    replace h := ov_pI_e h
    obtain ⟨x, t, rfl, h⟩ := h
    replace h := ov_pR_e h
    obtain ⟨r, j, t, rfl, h⟩ := h
    replace h := ov_arI_e h
    obtain ⟨n, q, g, hsh, hin, h⟩ := h
    have hl1 : ov_lv S r j := has _ (List.mem_cons_of_mem _ (List.mem_cons_of_mem _ List.mem_cons_self))
    exact ov_s_cast hx hb hwk.1 hR hS (ov_lv_a hl1 hsh (by omega)) hsh hin hdg (fun H1 locs1 hR1 hS1 => go2 h hS1 hR1 (fun hm => ov_full_arr (hF hm) hsh rfl (fun r' i' h => (ov_w_o h).1)) (ov_ext_rf rfl) (fun v' hv' => (ov_ext_rf (ad := ad) (S' := ov_w S r j (ov_ix x) (vp_nar .char v)) rfl).av (ov_av_t (ov_av_t (ov_av_t has)) v' hv')) hc1 hs1)
  case lastore =>
    obtain rfl := hlen 1 rfl
    replace h := ov_pL_e h
    obtain ⟨v, t, rfl, h⟩ := h
    replace h := ov_pI_e h
    obtain ⟨x, t, rfl, h⟩ := h
    replace h := ov_pR_e h
    obtain ⟨r, j, t, rfl, h⟩ := h
    replace h := ov_arI_e h
    obtain ⟨n, q, g, hsh, hin, h⟩ := h
    have hl1 : ov_lv S r j := has _ (List.mem_cons_of_mem _ (List.mem_cons_of_mem _ List.mem_cons_self))
    exact ov_s_last hx hb hwk.1 hR hS (ov_lv_a hl1 hsh (by omega)) hsh hin hdg (fun H1 locs1 hR1 hS1 => go2 h hS1 hR1 (fun hm => ov_full_arr (hF hm) hsh rfl (fun r' i' h => (ov_wl_o h).1)) (ov_ext_rf rfl) (fun v' hv' => (ov_ext_rf (ad := ad) (S' := ov_wl S r j (ov_ix x) v) rfl).av (ov_av_t (ov_av_t (ov_av_t has)) v' hv')) hc1 hs1)
  case aastore =>
    obtain rfl := hlen 1 rfl
    replace h := ov_pR_e h
    obtain ⟨q1, j1, t, rfl, h⟩ := h
    replace h := ov_pI_e h
    obtain ⟨x, t, rfl, h⟩ := h
    replace h := ov_pR_e h
    obtain ⟨r, j, t, rfl, h⟩ := h
    replace h := ov_aast_e h
    obtain ⟨tt, n, q, g, hsh, ht, hin, rfl, rfl, h⟩ := h
    have hl1 : ov_lv S r j := has _ (List.mem_cons_of_mem _ (List.mem_cons_of_mem _ List.mem_cons_self))
    have hl2 : ov_lv S q1 (g j (ov_ix x)) := has _ List.mem_cons_self
    have hl3 : (q1, g j (ov_ix x)) ∈ S.2.2.1 := by
      rcases ht with rfl | rfl
      · obtain ⟨f8, h8⟩ := (ov_arr hsh).2.1 rfl
        exact ov_lv_o hl2 h8
      · obtain ⟨f8, h8⟩ := (ov_arr hsh).2.2 rfl
        exact ov_lv_o hl2 h8
    exact ov_s_aast hx hb hwk.1 hR hS (ov_lv_a hl1 hsh (by omega)) hsh ht hin hl3 hdg (fun H1 locs1 hR1 hS1 => go2 h hS1 hR1 (fun hm => ov_full_arr (hF hm) hsh rfl (fun r' i' h => (ov_w_o h).1)) (ov_ext_rf rfl) (fun v' hv' => (ov_ext_rf (ad := ad) (S' := ov_w S r j (ov_ix x) 1) rfl).av (ov_av_t (ov_av_t (ov_av_t has)) v' hv')) hc1 hs1)
  case arraylength =>
    obtain rfl := hlen 1 rfl
    replace h := ov_pR_e h
    obtain ⟨r, j, t, rfl, h⟩ := h
    have hl1 : ov_lv S r j := has _ List.mem_cons_self
    replace h := ov_len_e h
    rcases h with ⟨n, q, g, hsh, h⟩ | ⟨tt, n, q, g, hsh, ht, h⟩
    · have hr16 : r = 16 ∧ j = 0 := by
        rcases hl1 with h5 | ⟨hj, h5⟩
        · have := (hR.2.2.1 r j h5).2.2 _ _ _ _ hsh
          omega
        · rcases h5 with rfl | rfl | rfl
          · exact ⟨rfl, hj⟩
          · cases hsh
          · cases hsh
      obtain ⟨rfl, rfl⟩ := hr16
      have hX := hwk.2.2.2.2.2.2.1
      have hsc := hR.2.2.2.2.2.2
      have e1 : S.2.2.2.1 = L := by rw [hsc]
      rw [e1] at h
      show W p l e R s m args below meth c H locs cells slots _ (F0 m pc lsA (.ref (ad 16 0) :: t.map (ov_rv ad)))
      rw [hR.2.2.2.1]
      exact va_slen hx hb hX (Nat.lt_of_lt_of_le hwk.2.2.2.2.2.2.2.1 hwk.2.2.2.2.2.2.2.2.1) (fun q => absurd hwk.2.2.2.2.2.2.2.1 (Nat.not_lt.mpr q)) hS hdg (go h hls hal (ov_av_c trivial (ov_av_t has)))
    · obtain ⟨q0, hq, hw⟩ := ov_at_ws (cA := cA) (ad := ad) (ov_lv_a hl1 hsh (by omega))
      rw [ov_ce_arr hsh] at hw
      have hty : ∃ ty, (ov_tys cA)[tt]? = some (cA tt, ty) := by
        rcases (show tt = 0 ∨ tt = 1 ∨ tt = 2 by omega) with rfl | rfl | rfl <;> exact ⟨_, rfl⟩
      obtain ⟨ty, hty⟩ := hty
      exact va_alen hx hb hwk.1 hR.1 q0 tt hw hty rfl hdg (go h hls hal (ov_av_c trivial (ov_av_t has)))
  case invokestatic i =>
    obtain rfl := hlen 3 rfl
    split at h
    · rename_i k hlm
      replace h := ov_pk_e _ _ _ h
      obtain ⟨bs, t, hbn, rfl, h⟩ := h
      rw [List.append_nil] at h
      replace h := ov_call_e h
      obtain ⟨hrm, hd0, a', b', ha', hb', h⟩ := h
      refine ov_s_run (ov_s_call hZ hE hS hR hF hsz hd0 hrm (fun v hv => has v (by simp [hv])) (by omega) (by omega) hlm h (Or.inl ⟨Or.inl rfl, hdg, hbn⟩)) hS ?_
      intro r S' ad' H1 locs1 k1 k2 k3 k4 k5 k6
      have h9 := k2.avs (st := t) (fun v hv => has v (by simp [hv]))
      rw [← h9.2, ← ov_stk]
      refine go2 k5 k6 k1 k4 k2 ?_ (by omega) (by omega)
      intro v hv
      rcases List.mem_append.mp hv with hv | hv
      · exact k3 v (by simpa using hv)
      · exact h9.1 v hv
    · rename_i k hlm
      replace h := ov_pk_e _ _ _ h
      obtain ⟨bs, t, hbn, rfl, h⟩ := h
      rw [List.append_nil] at h
      replace h := ov_call_e h
      obtain ⟨hrm, hd0, a', b', ha', hb', h⟩ := h
      refine ov_s_run (ov_s_call hZ hE hS hR hF hsz hd0 hrm (fun v hv => has v (by simp [hv])) (by omega) (by omega) hlm h (Or.inl ⟨Or.inr rfl, hdg, hbn⟩)) hS ?_
      intro r S' ad' H1 locs1 k1 k2 k3 k4 k5 k6
      have h9 := k2.avs (st := t) (fun v hv => has v (by simp [hv]))
      rw [← h9.2, ← ov_stk]
      refine go2 k5 k6 k1 k4 k2 ?_ (by omega) (by omega)
      intro v hv
      rcases List.mem_append.mp hv with hv | hv
      · exact k3 v (by simpa using hv)
      · exact h9.1 v hv
    · rename_i k hlm
      replace h := ov_pI_e h
      obtain ⟨n, t, rfl, h⟩ := h
      replace h := ov_pI_e h
      obtain ⟨dp, t, rfl, h⟩ := h
      replace h := ov_pR_e h
      obtain ⟨r1, j1, t, rfl, h⟩ := h
      replace h := ov_pI_e h
      obtain ⟨sp, t, rfl, h⟩ := h
      replace h := ov_pR_e h
      obtain ⟨r, j, t, rfl, h⟩ := h
      replace h := ov_rs_e h
      obtain ⟨hrs, hd0, h⟩ := h
      replace h := ov_copy_e h
      obtain ⟨n0, q, g, n1, q1, g1, hsh, hsh1, hh, h⟩ := h
      obtain ⟨-, pq, hchk⟩ := ov_lm_ok hlm
      have hl1 : ov_lv S r1 j1 := has (.inr (.inr (true, r1, j1))) (by simp)
      have hl2 : ov_lv S r j := has (.inr (.inr (true, r, j))) (by simp)
      exact ov_s_copy hx hb hmlA hts hown hwk.1 hR hS (ov_i1_e hchk) (ov_lv_a hl2 hsh (by omega)) hsh (ov_lv_a hl1 hsh1 (by omega)) hsh1 hh (by omega) (by rw [ov_words]; omega) hdg (fun H1 locs1 hR1 hS1 => go2 h hS1 hR1 (fun hm => ov_full_arr (hF hm) hsh1 rfl (fun r' i' h => (ov_wa_o h).1)) (ov_ext_rf rfl) (fun v' hv' => (ov_ext_rf (ad := ad) (S' := ov_wa S r1 j1 (va_cpy (S.1 r j) (S.1 r1 j1) (ov_ix sp) (ov_ix dp) (ov_ix n))) rfl).av (has v' (by simp [hv']))) hc1 hs1)
    · rename_i k hlm
      replace h := ov_pI_e h
      obtain ⟨w, t, rfl, h⟩ := h
      replace h := ov_pI_e h
      obtain ⟨v, t, rfl, h⟩ := h
      replace h := ov_rs_e h
      obtain ⟨hrs, hd0, h⟩ := h
      obtain ⟨-, pq, hchk⟩ := ov_lm_ok hlm
      exact va_mmax hx hb hmlA hown (hts _ (ov_i1_e hchk)) (hts _ ov_w_m1) (hts _ ov_w_m0) (hts _ ov_w_m3) (by omega) (by rw [ov_words]; omega) (by omega) (by omega) hdg (go h hls hal (ov_av_c trivial (ov_av_t (ov_av_t has))))
    · rename_i k hlm
      replace h := ov_pI_e h
      obtain ⟨w, t, rfl, h⟩ := h
      replace h := ov_pI_e h
      obtain ⟨v, t, rfl, h⟩ := h
      replace h := ov_rs_e h
      obtain ⟨hrs, hd0, h⟩ := h
      obtain ⟨-, pq, hchk⟩ := ov_lm_ok hlm
      exact va_mmin hx hb hmlA hown (hts _ (ov_i1_e hchk)) (hts _ ov_w_m2) (hts _ ov_w_m0) (hts _ ov_w_m4) (by omega) (by rw [ov_words]; omega) (by omega) (by omega) hdg (go h hls hal (ov_av_c trivial (ov_av_t (ov_av_t has))))
    · exact h.elim
  case invokevirtual i =>
    obtain rfl := hlen 3 rfl
    split at h
    · rename_i k hlm
      replace h := ov_pk_e _ _ _ h
      obtain ⟨bs, t, hbn, rfl, h⟩ := h
      rw [List.append_nil] at h
      replace h := ov_pR_e h
      obtain ⟨r, j, t, rfl, h⟩ := h
      split at h
      · rename_i c2 f2 hsh
        split at h
        · rename_i e2
          have e2 := Nat.eq_of_beq_eq_true e2
          replace h := ov_call_e h
          obtain ⟨hrm, hd0, a', b', ha', hb', h⟩ := h
          have hrv : ((bs.reverse ++ .inr (.inr (true, r, j)) :: t : List ov_A)).map (ov_rv ad) = (((.inr (.inr (true, r, j)) :: bs : List ov_A)).reverse ++ t).map (ov_rv ad) := by simp
          rw [hrv]
          refine ov_s_run (ov_s_call hZ hE hS hR hF hsz hd0 hrm (fun v hv => has v (by rcases List.mem_cons.mp hv with rfl | hv <;> simp [*])) (by omega) (by omega) hlm h (Or.inr ⟨r, j, bs, c2, f2, rfl, hbn, hsh, e2, Or.inl ⟨Or.inl rfl, hdg⟩⟩)) hS ?_
          intro r2 S' ad' H1 locs1 k1 k2 k3 k4 k5 k6
          have h9 := k2.avs (st := t) (fun v hv => has v (by simp [hv]))
          rw [← h9.2, ← ov_stk]
          refine go2 k5 k6 k1 k4 k2 ?_ (by omega) (by omega)
          intro v hv
          rcases List.mem_append.mp hv with hv | hv
          · exact k3 v (by simpa using hv)
          · exact h9.1 v hv
        · exact h.elim
      · exact h.elim
    · rename_i k hlm
      replace h := ov_pk_e _ _ _ h
      obtain ⟨bs, t, hbn, rfl, h⟩ := h
      rw [List.append_nil] at h
      replace h := ov_pR_e h
      obtain ⟨r, j, t, rfl, h⟩ := h
      split at h
      · rename_i c2 f2 hsh
        split at h
        · rename_i e2
          have e2 := Nat.eq_of_beq_eq_true e2
          replace h := ov_call_e h
          obtain ⟨hrm, hd0, a', b', ha', hb', h⟩ := h
          have hrv : ((bs.reverse ++ .inr (.inr (true, r, j)) :: t : List ov_A)).map (ov_rv ad) = (((.inr (.inr (true, r, j)) :: bs : List ov_A)).reverse ++ t).map (ov_rv ad) := by simp
          rw [hrv]
          refine ov_s_run (ov_s_call hZ hE hS hR hF hsz hd0 hrm (fun v hv => has v (by rcases List.mem_cons.mp hv with rfl | hv <;> simp [*])) (by omega) (by omega) hlm h (Or.inr ⟨r, j, bs, c2, f2, rfl, hbn, hsh, e2, Or.inl ⟨Or.inr rfl, hdg⟩⟩)) hS ?_
          intro r2 S' ad' H1 locs1 k1 k2 k3 k4 k5 k6
          have h9 := k2.avs (st := t) (fun v hv => has v (by simp [hv]))
          rw [← h9.2, ← ov_stk]
          refine go2 k5 k6 k1 k4 k2 ?_ (by omega) (by omega)
          intro v hv
          rcases List.mem_append.mp hv with hv | hv
          · exact k3 v (by simpa using hv)
          · exact h9.1 v hv
        · exact h.elim
      · exact h.elim
    · rename_i k hlm
      replace h := ov_pR_e h
      obtain ⟨r, j, t, rfl, h⟩ := h
      replace h := ov_rs_e h
      obtain ⟨hrs, rfl, rfl, hd0, h⟩ := h
      obtain ⟨-, pq, hchk⟩ := ov_lm_ok hlm
      have h2 : _ ∧ _ := Bool.and_eq_true _ _ ▸ hchk
      have e1 : y.1 = 5 := of_decide_eq_true h2.1
      have hown5 : s.vm.findClass "OneEye$Reader" = some m.cls := by rw [e1] at hown; exact hown
      have hlk5 : (Cond.methodLink "OneEye$Reader" i ⟨"java/lang/String", "length", "()I"⟩).before args s = true := by
        have := hts _ (ov_i1_e h2.2)
        rw [e1] at this
        exact this
      show W p l e R s m args below meth c H locs cells slots _ (F0 m pc lsA (.ref (ad 18 0) :: t.map (ov_rv ad)))
      rw [hR.2.2.2.2.2.1]
      refine (hHS p e R s m args below meth c H locs cells slots _ _ _ pc lsA _ ⟨hx, hb, hml, hown5, hts⟩ hwk.2.2.2.2.2.2.2.2.2 hS hsz hwk.2.2.2.2.2.2.2.2.1).2.1 i hlk5 (by rw [ov_words]; omega) (by omega) (by omega) (by omega) (by omega) hdg ?_
      intro H1 locs1 hq hz hS1
      have hR1 : ov_rep D cA z bS tS aS L xs ad S H1 := ⟨hR.1.kept (fun k q hk => hq _ (hR.1 k q hk).lt), hR.2⟩
      exact go2 (st' := .inl 50 :: t) h hS1 hR1 hF (ov_ext_rf rfl) (ov_av_c trivial (ov_av_t has)) hc1 hs1
    · rename_i k hlm
      replace h := ov_pI_e h
      obtain ⟨x, t, rfl, h⟩ := h
      replace h := ov_pR_e h
      obtain ⟨r, j, t, rfl, h⟩ := h
      replace h := ov_rs_e h
      obtain ⟨hrs, rfl, rfl, hd0, hin, h⟩ := h
      obtain ⟨-, pq, hchk⟩ := ov_lm_ok hlm
      have h2 : _ ∧ _ := Bool.and_eq_true _ _ ▸ hchk
      have e1 : y.1 = 5 := of_decide_eq_true h2.1
      have hown5 : s.vm.findClass "OneEye$Reader" = some m.cls := by rw [e1] at hown; exact hown
      have hlk5 : (Cond.methodLink "OneEye$Reader" i ⟨"java/lang/String", "charAt", "(I)C"⟩).before args s = true := by
        have := hts _ (ov_i1_e h2.2)
        rw [e1] at this
        exact this
      show W p l e R s m args below meth c H locs cells slots _ (F0 m pc lsA (.int x :: .ref (ad 18 0) :: t.map (ov_rv ad)))
      rw [hR.2.2.2.2.2.1]
      refine (hHS p e R s m args below meth c H locs cells slots _ _ _ pc lsA _ ⟨hx, hb, hml, hown5, hts⟩ hwk.2.2.2.2.2.2.2.2.2 hS hsz hwk.2.2.2.2.2.2.2.2.1).2.2 i x hlk5 (by rw [ov_words]; omega) (by omega) (by omega) (by omega) (by omega) hin hdg ?_
      intro H1 locs1 hq hz hS1
      have hR1 : ov_rep D cA z bS tS aS L xs ad S H1 := ⟨hR.1.kept (fun k q hk => hq _ (hR.1 k q hk).lt), hR.2⟩
      exact go2 (st' := .inl (ov_wd (ov_ix x)) :: t) h hS1 hR1 hF (ov_ext_rf rfl) (ov_av_c trivial (ov_av_t (ov_av_t has))) hc1 hs1
    · exact h.elim
  case invokespecial i =>
    obtain rfl := hlen 3 rfl
    split at h
    · rename_i k hlm
      replace h := ov_pk_e _ _ _ h
      obtain ⟨bs, t, hbn, rfl, h⟩ := h
      rw [List.append_nil] at h
      replace h := ov_pR_e h
      obtain ⟨r, j, t, rfl, h⟩ := h
      split at h
      · rename_i c2 f2 hsh
        split at h
        · rename_i e2
          have e2 := Nat.eq_of_beq_eq_true e2
          replace h := ov_call_e h
          obtain ⟨hrm, hd0, a', b', ha', hb', h⟩ := h
          have hrv : ((bs.reverse ++ .inr (.inr (true, r, j)) :: t : List ov_A)).map (ov_rv ad) = (((.inr (.inr (true, r, j)) :: bs : List ov_A)).reverse ++ t).map (ov_rv ad) := by simp
          rw [hrv]
          refine ov_s_run (ov_s_call hZ hE hS hR hF hsz hd0 hrm (fun v hv => has v (by rcases List.mem_cons.mp hv with rfl | hv <;> simp [*])) (by omega) (by omega) hlm h (Or.inr ⟨r, j, bs, c2, f2, rfl, hbn, hsh, e2, Or.inr ⟨Or.inl rfl, hdg⟩⟩)) hS ?_
          intro r2 S' ad' H1 locs1 k1 k2 k3 k4 k5 k6
          have h9 := k2.avs (st := t) (fun v hv => has v (by simp [hv]))
          rw [← h9.2, ← ov_stk]
          refine go2 k5 k6 k1 k4 k2 ?_ (by omega) (by omega)
          intro v hv
          rcases List.mem_append.mp hv with hv | hv
          · exact k3 v (by simpa using hv)
          · exact h9.1 v hv
        · exact h.elim
      · exact h.elim
    · rename_i k hlm
      replace h := ov_pk_e _ _ _ h
      obtain ⟨bs, t, hbn, rfl, h⟩ := h
      rw [List.append_nil] at h
      replace h := ov_pR_e h
      obtain ⟨r, j, t, rfl, h⟩ := h
      split at h
      · rename_i c2 f2 hsh
        split at h
        · rename_i e2
          have e2 := Nat.eq_of_beq_eq_true e2
          replace h := ov_call_e h
          obtain ⟨hrm, hd0, a', b', ha', hb', h⟩ := h
          have hrv : ((bs.reverse ++ .inr (.inr (true, r, j)) :: t : List ov_A)).map (ov_rv ad) = (((.inr (.inr (true, r, j)) :: bs : List ov_A)).reverse ++ t).map (ov_rv ad) := by simp
          rw [hrv]
          refine ov_s_run (ov_s_call hZ hE hS hR hF hsz hd0 hrm (fun v hv => has v (by rcases List.mem_cons.mp hv with rfl | hv <;> simp [*])) (by omega) (by omega) hlm h (Or.inr ⟨r, j, bs, c2, f2, rfl, hbn, hsh, e2, Or.inr ⟨Or.inr rfl, hdg⟩⟩)) hS ?_
          intro r2 S' ad' H1 locs1 k1 k2 k3 k4 k5 k6
          have h9 := k2.avs (st := t) (fun v hv => has v (by simp [hv]))
          rw [← h9.2, ← ov_stk]
          refine go2 k5 k6 k1 k4 k2 ?_ (by omega) (by omega)
          intro v hv
          rcases List.mem_append.mp hv with hv | hv
          · exact k3 v (by simpa using hv)
          · exact h9.1 v hv
        · exact h.elim
      · exact h.elim
    · rename_i k hlm
      replace h := ov_pR_e h
      obtain ⟨r, j, t, rfl, h⟩ := h
      replace h := ov_rs_e h
      obtain ⟨hrs, hd0, h⟩ := h
      obtain ⟨-, pq, hchk⟩ := ov_lm_ok hlm
      refine W.objInit hx hb hown (hts _ (ov_i1_e hchk)) (hts _ ov_w_oi) (hts _ ov_w_oc) rfl (by rw [hml]; exact hsz) rfl hdg (by omega) ?_ (go h hls hal (ov_av_t has))
      have h8 : ((t.map (ov_rv ad)).map fun v => v.category).sum ≤ 8 := by rw [ov_words]; exact hrs
      show 2 * 0 + _ + 12 ≤ _
      omega
    · exact h.elim
  case ireturn =>
    obtain rfl := hlen 1 rfl
    replace h := ov_pI_e h
    obtain ⟨x, t, rfl, h⟩ := h
    split at h
    · replace h := ov_rt_e h
      obtain ⟨hr, h⟩ := h
      replace h := ov_ret_e h
      obtain ⟨rfl, h⟩ := h
      refine W.widen (k := mc) (n := ms) (by omega) (by omega) ?_
      rcases hr with hr | ⟨hr, hx01⟩
      · exact W.iret hx hb (hret.trans hr) (fun t ht hW => ⟨⟨some (.inl x), S, ad, rfl, by rw [ht]; exact hR, ov_ext_rf rfl, fun v hv => by cases hv; trivial, hF, h⟩, hS.F ht⟩) hS.2.2 hdg hlk
      · exact W.zret hx hb (hret.trans hr) (by rcases hx01 with rfl | rfl <;> rfl) (fun t ht hW => ⟨⟨some (.inl x), S, ad, rfl, by rw [ht]; exact hR, ov_ext_rf rfl, fun v hv => by cases hv; trivial, hF, h⟩, hS.F ht⟩) hS.2.2 hdg hlk
    · exact h.elim
  case areturn =>
    obtain rfl := hlen 1 rfl
    replace h := ov_pN_e h
    obtain ⟨b', r, j, t, rfl, h⟩ := h
    split at h
    · replace h := ov_ra_e h
      obtain ⟨hro, rfl, h⟩ := h
      refine W.widen (k := mc) (n := ms) (by omega) (by omega) ?_
      obtain ⟨ty, hty, hobj⟩ := hro
      have hvv : ov_rv ad (.inr (.inr (b', r, j))) = .null ∨ ∃ a, ov_rv ad (.inr (.inr (b', r, j))) = .ref a := by
        cases b'
        · exact Or.inl rfl
        · exact Or.inr ⟨_, rfl⟩
      exact W.aret hx hb (hret.trans hty) hobj hvv (fun t ht hW => ⟨⟨some (.inr (.inr (b', r, j))), S, ad, rfl, by rw [ht]; exact hR, ov_ext_rf rfl, fun v hv => by cases hv; exact has _ List.mem_cons_self, hF, h⟩, hS.F ht⟩) hS.2.2 hdg hlk
    · exact h.elim
  case return_ =>
    obtain rfl := hlen 1 rfl
    split at h
    · replace h := ov_rn_e h
      obtain ⟨hr, rfl, h⟩ := h
      refine W.widen (k := mc) (n := ms) (by omega) (by omega) ?_
      exact W.vret hx hb (hret.trans hr) (fun t ht hW => ⟨⟨none, S, ad, rfl, by rw [ht]; exact hR, ov_ext_rf rfl, (fun v hv => by cases hv), hF, h⟩, hS.F ht⟩) hS.2.2 hdg hlk
    · exact h.elim
  case new i =>
    obtain rfl := hlen 3 rfl
    split at h
    · rename_i ci hln
      obtain ⟨r, j, fks, hsh, hn, ha1, hb1, h⟩ := h
      exact ov_s_new hx hb hts hown hwk.1 hR hS (fun q hq => Nat.le_trans hwk.2.2.2.2.2.2.2.2.1 hq) hsh hn hln (by omega) (by omega) hdg (fun q H1 hR1 hS1 he => by
        have h9 := he.avs has
        rw [← h9.2]
        have e9 : Value.ref q = ov_rv (ov_ua ad r j q) (.inr (.inr (true, r, j))) := by show Value.ref q = Value.ref (ov_ua ad r j q r j); rw [ov_ua_s]
        rw [e9]
        exact go2 (st' := .inr (.inr (true, r, j)) :: st) h hS1 hR1 (fun hm => by cases hm) he (ov_av_c (Or.inl (List.mem_append_right _ List.mem_cons_self)) h9.1) (by omega) (by omega))
    · exact h.elim
  case newarray t0 =>
    obtain rfl := hlen 2 rfl
    split at h
    · replace h := ov_pI_e h
      obtain ⟨x, u, rfl, h⟩ := h
      obtain ⟨r, j, n, q, g, hsh, rfl, hn, ha1, hb1, h⟩ := h
      exact ov_s_newI hx hb hts hwk.1 hR hS (fun q hq => Nat.le_trans hwk.2.2.2.2.2.2.2.2.1 hq) hsh hn (by omega) (by omega) hdg (fun q H1 hR1 hS1 he => by
        have h9 := he.avs (ov_av_t has)
        rw [← h9.2]
        have e9 : Value.ref q = ov_rv (ov_ua ad r j q) (.inr (.inr (true, r, j))) := by show Value.ref q = Value.ref (ov_ua ad r j q r j); rw [ov_ua_s]
        rw [e9]
        exact go2 (st' := .inr (.inr (true, r, j)) :: u) h hS1 hR1 (fun hm => by cases hm) he (ov_av_c (Or.inl (List.mem_append_right _ List.mem_cons_self)) h9.1) (by omega) (by omega))
    · replace h := ov_pI_e h
      obtain ⟨x, u, rfl, h⟩ := h
      obtain ⟨r, j, n, q, g, hsh, rfl, hn, ha1, hb1, h⟩ := h
      exact ov_s_newC hx hb hts hwk.1 hR hS (fun q hq => Nat.le_trans hwk.2.2.2.2.2.2.2.2.1 hq) hsh hn (by omega) (by omega) hdg (fun q H1 hR1 hS1 he => by
        have h9 := he.avs (ov_av_t has)
        rw [← h9.2]
        have e9 : Value.ref q = ov_rv (ov_ua ad r j q) (.inr (.inr (true, r, j))) := by show Value.ref q = Value.ref (ov_ua ad r j q r j); rw [ov_ua_s]
        rw [e9]
        exact go2 (st' := .inr (.inr (true, r, j)) :: u) h hS1 hR1 (fun hm => by cases hm) he (ov_av_c (Or.inl (List.mem_append_right _ List.mem_cons_self)) h9.1) (by omega) (by omega))
    · replace h := ov_pI_e h
      obtain ⟨x, u, rfl, h⟩ := h
      obtain ⟨r, j, n, q, g, hsh, rfl, hn, ha1, hb1, h⟩ := h
      exact ov_s_newL hx hb hts hwk.1 hR hS (fun q hq => Nat.le_trans hwk.2.2.2.2.2.2.2.2.1 hq) hsh hn (by omega) (by omega) hdg (fun q H1 hR1 hS1 he => by
        have h9 := he.avs (ov_av_t has)
        rw [← h9.2]
        have e9 : Value.ref q = ov_rv (ov_ua ad r j q) (.inr (.inr (true, r, j))) := by show Value.ref q = Value.ref (ov_ua ad r j q r j); rw [ov_ua_s]
        rw [e9]
        exact go2 (st' := .inr (.inr (true, r, j)) :: u) h hS1 hR1 (fun hm => by cases hm) he (ov_av_c (Or.inl (List.mem_append_right _ List.mem_cons_self)) h9.1) (by omega) (by omega))
    · exact h.elim
  case anewarray i =>
    obtain rfl := hlen 3 rfl
    split at h
    · rename_i hln
      replace h := ov_pI_e h
      obtain ⟨x, u, rfl, h⟩ := h
      obtain ⟨r, j, n, q, g, hsh, rfl, hn, ha1, hb1, h⟩ := h
      exact ov_s_newQ (t := 3) (C := "OneEye$Three") rfl (Or.inl rfl) hx hb hts hown hwk.2.2.1 hwk.1 hR hS (fun q hq => Nat.le_trans hwk.2.2.2.2.2.2.2.2.1 hq) hsh hn (hts _ (ov_ln_ok hln)) (by omega) (by omega) hdg (fun q H1 hR1 hS1 he => by
        have h9 := he.avs (ov_av_t has)
        rw [← h9.2]
        have e9 : Value.ref q = ov_rv (ov_ua ad r j q) (.inr (.inr (true, r, j))) := by show Value.ref q = Value.ref (ov_ua ad r j q r j); rw [ov_ua_s]
        rw [e9]
        exact go2 (st' := .inr (.inr (true, r, j)) :: u) h hS1 hR1 (fun hm => by cases hm) he (ov_av_c (Or.inl (List.mem_append_right _ List.mem_cons_self)) h9.1) (by omega) (by omega))
    · rename_i hln
      replace h := ov_pI_e h
      obtain ⟨x, u, rfl, h⟩ := h
      obtain ⟨r, j, n, q, g, hsh, rfl, hn, ha1, hb1, h⟩ := h
      exact ov_s_newQ (t := 4) (C := "OneEye$Person") rfl (Or.inr rfl) hx hb hts hown hwk.2.2.2.1 hwk.1 hR hS (fun q hq => Nat.le_trans hwk.2.2.2.2.2.2.2.2.1 hq) hsh hn (hts _ (ov_ln_ok hln)) (by omega) (by omega) hdg (fun q H1 hR1 hS1 he => by
        have h9 := he.avs (ov_av_t has)
        rw [← h9.2]
        have e9 : Value.ref q = ov_rv (ov_ua ad r j q) (.inr (.inr (true, r, j))) := by show Value.ref q = Value.ref (ov_ua ad r j q r j); rw [ov_ua_s]
        rw [e9]
        exact go2 (st' := .inr (.inr (true, r, j)) :: u) h hS1 hR1 (fun hm => by cases hm) he (ov_av_c (Or.inl (List.mem_append_right _ List.mem_cons_self)) h9.1) (by omega) (by omega))
    · exact h.elim
theorem ov_sem_cl (hZ : ov_HZ z ZS) (hHS : ov_HS l z aS ZS) : ov_closed (ov_sem l D cA z bS tS aS L xs ZS) := by
  refine ⟨?_, ?_, ?_, ?_, ?_⟩
  · intro mo0 mo d a b y pc ls st S Q Q' hq h p e s m args below meth c R mc ms hE H locs cells slots ad lsA g1 g2 g3 g4 g5 g6 g7 g8
    refine ov_Wm (ov_MQm ?_) (h p e s m args below meth c R mc ms hE H locs cells slots ad lsA g1 g2 g3 g4 g5 g6 g7 g8)
    rintro o t ⟨⟨r, S2, ad2, k1, k2, k3, k4, k5, k6⟩, k7⟩
    exact ⟨⟨r, S2, ad2, k1, k2, k3, k4, k5, hq _ _ k6⟩, k7⟩
  · intro mo0 mo d a b y pc ls st S Q h
    exact ov_sem_F hZ hHS h
  · intro mo0 d a b y pc ls st S Q h p e s m args below meth c R mc ms hE H locs cells slots ad lsA g1 g2 g3 g4 g5 g6 g7 g8
    exact h (g3 rfl) p e s m args below meth c R mc ms hE H locs cells slots ad lsA g1 g2 (fun q => by cases q) g4 g5 g6 g7 g8
  · intro mo0 d a b y pc ls st S Q hf h p e s m args below meth c R mc ms hE H locs cells slots ad lsA g1 g2 g3 g4 g5 g6 g7 g8
    exact h p e s m args below meth c R mc ms hE H locs cells slots ad lsA g1 g2 (fun _ => hf) g4 g5 g6 g7 g8
  · intro mo0 mo d a b y pc ls st S Q mk h p e s m args below meth c R mc ms hE H locs cells slots ad lsA g1 g2 g3 g4 g5 g6 g7 g8
    obtain ⟨q1, q2⟩ := ov_mk_ls (ad := ad) (lsA := lsA) (nL := 0) mk ls
    refine h p e s m args below meth c R mc ms hE H locs cells slots ad lsA g1 g2 g3 ⟨q1.trans g4.1, g4.2.1, g4.2.2.1, fun i v hv => g4.2.2.2 i v (q2 i v hv)⟩ (fun v hv => ?_) g6 g7 g8
    obtain ⟨i, hi⟩ := List.getElem?_of_mem hv
    exact g5 v (List.mem_of_getElem? (q2 i v hi))
end OVN
