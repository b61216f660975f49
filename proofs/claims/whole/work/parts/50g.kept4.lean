/-! ===== IMAGE: two states beside one image ===== -/
theorem kz_eu {G : Nat → Int32} {u u' : Nat → Nat → Nat → Int32} (h1 : rl_im G u) (h2 : rl_im G u') : rl_eu u u' := by
  obtain ⟨a1, b1, c1, d1, e1, f1, g1, h1, i1, k1, l1, m1, n1, o1, p1, q1⟩ := h1
  obtain ⟨a2, b2, c2, d2, e2, f2, g2, h2, i2, k2, l2, m2, n2, o2, p2, q2⟩ := h2
  constructor
  · intro r J hm j hj
    simp [rl_ua] at hm
    rcases hm with ⟨e1, e2⟩ | ⟨e1, e2⟩ | ⟨e1, e2⟩ | ⟨e1, e2⟩ | ⟨e1, e2⟩ | ⟨e1, e2⟩ | ⟨e1, e2⟩ | ⟨e1, e2⟩ | ⟨e1, e2⟩ | ⟨e1, e2⟩ | ⟨e1, e2⟩ | ⟨e1, e2⟩ | ⟨e1, e2⟩ | ⟨e1, e2⟩ | ⟨e1, e2⟩ | ⟨e1, e2⟩ | ⟨e1, e2⟩ | ⟨e1, e2⟩ | ⟨e1, e2⟩ | ⟨e1, e2⟩ | ⟨e1, e2⟩ | ⟨e1, e2⟩ | ⟨e1, e2⟩ | ⟨e1, e2⟩ | ⟨e1, e2⟩ | ⟨e1, e2⟩ | ⟨e1, e2⟩ | ⟨e1, e2⟩ | ⟨e1, e2⟩ | ⟨e1, e2⟩ | ⟨e1, e2⟩ | ⟨e1, e2⟩ | ⟨e1, e2⟩
    all_goals subst e1
    all_goals subst e2
    · exact (d2 j hj).1.symm.trans (d1 j hj).1
    · exact (d2 j hj).2.1.symm.trans (d1 j hj).2.1
    · exact (d2 j hj).2.2.1.symm.trans (d1 j hj).2.2.1
    · exact (d2 j hj).2.2.2.1.symm.trans (d1 j hj).2.2.2.1
    · exact (q2 j hj).symm.trans (q1 j hj)
    · exact (d2 j hj).2.2.2.2.1.symm.trans (d1 j hj).2.2.2.2.1
    · exact (d2 j hj).2.2.2.2.2.1.symm.trans (d1 j hj).2.2.2.2.2.1
    · exact (d2 j hj).2.2.2.2.2.2.1.symm.trans (d1 j hj).2.2.2.2.2.2.1
    · exact (d2 j hj).2.2.2.2.2.2.2.1.symm.trans (d1 j hj).2.2.2.2.2.2.2.1
    · exact (d2 j hj).2.2.2.2.2.2.2.2.1.symm.trans (d1 j hj).2.2.2.2.2.2.2.2.1
    · exact (d2 j hj).2.2.2.2.2.2.2.2.2.symm.trans (d1 j hj).2.2.2.2.2.2.2.2.2
    · exact (e2 j hj).symm.trans (e1 j hj)
    · exact (b2 j hj).symm.trans (b1 j hj)
    · exact (f2 j hj).1.symm.trans (f1 j hj).1
    · exact (f2 j hj).2.1.symm.trans (f1 j hj).2.1
    · exact (f2 j hj).2.2.1.symm.trans (f1 j hj).2.2.1
    · exact (f2 j hj).2.2.2.1.symm.trans (f1 j hj).2.2.2.1
    · exact (f2 j hj).2.2.2.2.symm.trans (f1 j hj).2.2.2.2
    · exact (g2 j hj).symm.trans (g1 j hj)
    · exact (h2 j hj).symm.trans (h1 j hj)
    · exact (o2 j hj).symm.trans (o1 j hj)
    · exact (p2 j hj).symm.trans (p1 j hj)
    · exact (c2 j hj).1.symm.trans (c1 j hj).1
    · exact (c2 j hj).2.1.symm.trans (c1 j hj).2.1
    · exact (c2 j hj).2.2.1.symm.trans (c1 j hj).2.2.1
    · exact (c2 j hj).2.2.2.1.symm.trans (c1 j hj).2.2.2.1
    · exact (c2 j hj).2.2.2.2.symm.trans (c1 j hj).2.2.2.2
    · exact (i2 j hj).symm.trans (i1 j hj)
    · exact (k2 j hj).symm.trans (k1 j hj)
    · exact (l2 j hj).1.symm.trans (l1 j hj).1
    · exact (l2 j hj).2.symm.trans (l1 j hj).2
    · exact (m2 j hj).symm.trans (m1 j hj)
    · exact (n2 j hj).symm.trans (n1 j hj)
  · intro j hj
    simp [rl_us] at hj
    rcases hj with e1 | e1 | e1 | e1 | e1 | e1 | e1
    all_goals subst e1
    · exact a2.1.symm.trans a1.1
    · exact a2.2.2.2.1.symm.trans a1.2.2.2.1
    · exact a2.2.1.symm.trans a1.2.1
    · exact a2.2.2.2.2.2.1.symm.trans a1.2.2.2.2.2.1
    · exact a2.2.2.2.2.2.2.symm.trans a1.2.2.2.2.2.2
    · exact a2.2.2.1.symm.trans a1.2.2.1
    · exact a2.2.2.2.2.1.symm.trans a1.2.2.2.2.1
