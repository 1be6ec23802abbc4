theorem n10 : ¬ (1 : Int32) = 0 := by decide
theorem OKphone : OK_phone INV := by
  intro σ τ x y hinv
  have hinv2 : INV σ (sg τ 0 0) := hinv
  unfold m_X12_phone m_X11_phone
  generalize sg τ 0 0 = τ at hinv2 ⊢
  obtain ⟨d, hR, hN⟩ := INV_iff.mp hinv2
  have hR0 := hR
  obtain ⟨hb, hc, hm, -⟩ := hR0
  have h5 : d.1 0 ≤ 5 := hb.1
  rcases iph hb hc hm x with ⟨k, hk, rfl, e1, e2⟩ | ⟨e1, e2⟩
  · simp only [e1, e2, bs, if_neg n10]
    obtain ⟨f1, f2⟩ := hc.2.1 k hk
    obtain ⟨g1, g2⟩ := hm.2.1 k hk
    obtain ⟨o, ho, ho1, ho2⟩ := hN.on
    have ho2 : σ.1 15 = nI o := ho2
    obtain ⟨-, ⟨t, -, -, b3⟩, -⟩ := hN
    obtain ⟨v, c, -, -, z3, z4, z5, z6⟩ := b3 k hk
    rw [cN_lv _ (by omega)] at z4
    rw [cN_to] at z6
    have l17 : ldA cLn σ 17 (nI k) = some (σ.2.2.1 17 k) := ldk (n := 5) rfl (by omega) (by decide)
    have l1 : ldA cLn σ 1 (nI k) = some (σ.2.2.1 1 k) := ldk (n := 5) rfl (by omega) (by decide)
    have l2 : ldA cLn σ 2 (nI k) = some (σ.2.2.1 2 k) := ldk (n := 5) rfl (by omega) (by decide)
    have l18 : ldA cLn σ 18 (nI k) = some (σ.2.2.1 18 k) := ldk (n := 5) rfl (by omega) (by decide)
    have m9 : ldA mLn τ 4 (9 + nI k) = some (τ.2.2.1 4 (9 + k)) := by
      rw [show (9 : Int32) + nI k = nI (9 + k) from nI_add 9 k]; exact ldk (n := 14) rfl (by omega) (by decide)
    have m4 : ldA mLn τ 4 (4 + nI k) = some (τ.2.2.1 4 (4 + k)) := by
      rw [show (4 : Int32) + nI k = nI (4 + k) from nI_add 4 k]; exact ldk (n := 14) rfl (by omega) (by decide)
    have m1 : ldA mLn τ 4 1 = some (τ.2.2.1 4 1) := ldk (k := 1) (n := 14) rfl (by decide) (by decide)
    have m31 : ldA mLn τ 1 (3 * nI k + 1) = some (τ.2.2.1 1 (3 * k + 1)) := by
      rw [show (3 : Int32) * nI k = nI (3 * k) from pk_mul 3 k, show nI (3 * k) + (1 : Int32) = nI (3 * k + 1) from nI_add _ 1]; exact ldk (n := 30) rfl (by omega) (by decide)
    have m32 : ldA mLn τ 1 (3 * nI k + 2) = some (τ.2.2.1 1 (3 * k + 2)) := by
      rw [show (3 : Int32) * nI k = nI (3 * k) from pk_mul 3 k, show nI (3 * k) + (2 : Int32) = nI (3 * k + 2) from nI_add _ 2]; exact ldk (n := 30) rfl (by omega) (by decide)
    by_cases c0 : y = 0
    · subst c0; exact ⟨nI v, τ, by simp [l17, z4], by simp [m_X12_in, m4, z3], hinv2⟩
    by_cases c1 : y = 1
    · subst c1; exact ⟨nI (d.2 0 k), τ, by simp [l1, f1], by simp [m_X12_in, m31, g1], hinv2⟩
    by_cases c2 : y = 2
    · subst c2; exact ⟨nI (d.2 1 k), τ, by simp [l2, f2], by simp [m_X12_in, m32, g2], hinv2⟩
    by_cases c3 : y = 3
    · subst c3; exact ⟨nI c, τ, by simp [l18, z6], by simp [m_X12_in, m9, z5], hinv2⟩
    by_cases c4 : y = 4
    · subst c4
      have hbk := bitk ⟨o, by have := pow5 h5; omega⟩ ⟨k, by omega⟩
      dsimp only at hbk
      refine ⟨nI (o / 2 ^ k % 2), τ, ?_, by simp [m_X12_in, m1, ho1, hbk], hinv2⟩
      have hon : m_X4_isOn σ (nI k) = some (nI (o / 2 ^ k % 2)) := by
        unfold m_X4_isOn
        rw [ho2, hbk]
        rcases (show o / 2 ^ k % 2 = 0 ∨ o / 2 ^ k % 2 = 1 by omega) with q | q <;> rw [q] <;> rfl
      simp only [hon, bs]
      rcases (show o / 2 ^ k % 2 = 0 ∨ o / 2 ^ k % 2 = 1 by omega) with q | q <;> rw [q] <;> rfl
    · have q2 : m_X12_in y 0 4 = some 0 := by
        rcases wl y 4 (by decide) with ⟨j, hj, rfl, -, -⟩ | ⟨-, q2⟩
        · rcases (show j = 0 ∨ j = 1 ∨ j = 2 ∨ j = 3 ∨ j = 4 by omega) with rfl | rfl | rfl | rfl | rfl
          · exact absurd rfl c0
          · exact absurd rfl c1
          · exact absurd rfl c2
          · exact absurd rfl c3
          · exact absurd rfl c4
        · exact q2
      exact ⟨-1, τ, by simp [c0, c1, c2, c3, c4], by simp [q2], hinv2⟩
  · exact ⟨-1, τ, by simp [e1], by simp [e2], hinv2⟩
theorem OKcall : OK_call INV := by
  intro σ τ x y hinv
  have hinv2 : INV σ (sg τ 0 0) := hinv
  unfold m_X12_call m_X11_call
  generalize sg τ 0 0 = τ at hinv2 ⊢
  obtain ⟨d, hR, hN⟩ := INV_iff.mp hinv2
  obtain ⟨hb, hc, hm, -⟩ := hR
  have h8 : d.1 2 ≤ 8 := hb.2.2.1
  rw [hc.1.2.2.1, hm.1.2.2.1]
  rcases wj x (nI_m1 (d.1 2) (by omega)) (by omega) with ⟨k, hk, rfl, e1, e2⟩ | ⟨e1, e2⟩
  · simp only [e1, e2, bs, if_neg n10]
    obtain ⟨f1, f2, f3⟩ := hc.2.2.1 k hk
    obtain ⟨g1, g2, g3⟩ := hm.2.2.1 k hk
    have l3 : ldA cLn σ 3 (nI k) = some (σ.2.2.1 3 k) := ldk (n := 8) rfl (by omega) (by decide)
    have l4 : ldA cLn σ 4 (nI k) = some (σ.2.2.1 4 k) := ldk (n := 8) rfl (by omega) (by decide)
    have l5 : ldA cLn σ 5 (nI k) = some (σ.2.2.1 5 k) := ldk (n := 8) rfl (by omega) (by decide)
    have mm : ∀ j, j < 3 → ldA mLn τ 2 (3 * nI k + nI j) = some (τ.2.2.1 2 (3 * k + j)) := fun j hj => by
      rw [show (3 : Int32) * nI k = nI (3 * k) from pk_mul 3 k, nI_add]; exact ldk (n := 48) rfl (by omega) (by decide)
    have m0 := mm 0 (by decide)
    have m1 : ldA mLn τ 2 (3 * nI k + 1) = _ := mm 1 (by decide)
    have m2 : ldA mLn τ 2 (3 * nI k + 2) = _ := mm 2 (by decide)
    by_cases c0 : y = 0
    · subst c0
      have m0 : ldA mLn τ 2 (3 * nI k + 0) = _ := m0
      rw [Int32.add_zero] at m0
      exact ⟨_, τ, by simp [l3, f1]; rfl, by simp [m_X12_in, m0, g1], hinv2⟩
    by_cases c1 : y = 1
    · subst c1; exact ⟨_, τ, by simp [l4, f2]; rfl, by simp [m_X12_in, m1, g2], hinv2⟩
    by_cases c2 : y = 2
    · subst c2; exact ⟨_, τ, by simp [l5, f3]; rfl, by simp [m_X12_in, m2, g3], hinv2⟩
    · have q2 : m_X12_in y 0 2 = some 0 := by
        rcases wl y 2 (by decide) with ⟨j, hj, rfl, -, -⟩ | ⟨-, q2⟩
        · rcases (show j = 0 ∨ j = 1 ∨ j = 2 by omega) with rfl | rfl | rfl
          · exact absurd rfl c0
          · exact absurd rfl c1
          · exact absurd rfl c2
        · exact q2
      exact ⟨-1, τ, by simp [c0, c1, c2], by simp [q2], hinv2⟩
  · exact ⟨-1, τ, by simp [e1], by simp [e2], hinv2⟩
theorem OKlends : OK_lends INV := by
  intro σ τ x y hinv
  have hinv2 : INV σ (sg τ 0 0) := hinv
  unfold m_X12_lends m_X11_lends
  generalize sg τ 0 0 = τ at hinv2 ⊢
  obtain ⟨d, hR, hN⟩ := INV_iff.mp hinv2
  have hR0 := hR
  obtain ⟨hb, hc, hm, -⟩ := hR0
  have h5 : d.1 0 ≤ 5 := hb.1
  rcases iph hb hc hm x with ⟨k, hk, rfl, e1, e2⟩ | ⟨e1, e2⟩
  · simp only [e1, e2, bs, if_neg n10]
    rcases wr y 1 50 (by decide) (by decide) with ⟨n, hn1, hn2, rfl, q1, q2⟩ | ⟨q1, q2⟩
    · have q1 : m_X11_isWithin (nI n) 1 50 = some 1 := q1
      have q2 : m_X12_in (nI n) 1 50 = some 1 := q2
      simp only [q1, q2, bs, if_neg n10]
      obtain ⟨v, c, hv, -, z3, z4, -, -⟩ := hN.2.1.choose_spec.2.2 k hk
      rw [cN_lv _ (by omega)] at z4
      have lc : ∀ σ : Sx, ldA cLn σ 17 (nI k) = some (σ.2.2.1 17 k) := fun σ => ldk (n := 5) rfl (by omega) (by decide)
      have lm : ∀ τ : Sx, ldA mLn τ 4 (4 + nI k) = some (τ.2.2.1 4 (4 + k)) := fun τ => by
        rw [show (4 : Int32) + nI k = nI (4 + k) from nI_add 4 k]; exact ldk (n := 14) rfl (by omega) (by decide)
      have sc : ∀ (σ : Sx) x, stA cLn σ 17 (nI k) x = some (sr σ 17 (upd (σ.2.2.1 17) k x)) := fun σ x => stk (n := 5) rfl (by omega) (by decide)
      have sm_ : ∀ (τ : Sx) x, stA mLn τ 4 (4 + nI k) x = some (sr τ 4 (upd (τ.2.2.1 4) (4 + k) x)) := fun τ x => by
        rw [show (4 : Int32) + nI k = nI (4 + k) from nI_add 4 k]; exact stk (n := 14) rfl (by omega) (by decide)
      rw [lc, bs, lm, bs, z3, z4]
      by_cases hle : n ≤ v
      · obtain ⟨σ1, τ1, w1, w2, hR1, hN1, ⟨s1, s2⟩, t1, t2⟩ := note_ok hR hN
        rw [if_pos (nI_le hle (by omega)), w1, bs, lc, bs, sc, bs, lc, bs, if_pos (nI_le hle (by omega)), w2, bs, lm, bs, sm_, bs, lm, bs]
        have a1 : σ1.2.2.1 17 k = nI v := by rw [s2 17 (by decide)]; exact z4
        have a2 : τ1.2.2.1 4 (4 + k) = nI v := by rw [t2 4 (by decide)]; exact z3
        rw [a1, a2, pk_sub hle]
        refine ⟨nI (v - n), sr σ1 17 (upd (σ1.2.2.1 17) k (nI (v - n))), sr τ1 4 (upd (τ1.2.2.1 4) (4 + k) (nI (v - n))), ?_, ?_, INV_now hR1 ⟨fun i hi => rfl, rfl, fun j hj => sr_ne (by omega)⟩ ⟨⟨rfl, rfl, rfl, rfl, rfl, rfl, rfl⟩, rfl, fun j hj => sr_ne (by omega)⟩ ?_⟩
        · show some (upd (σ1.2.2.1 17) k (nI (v - n)) k, _) = _
          rw [upd_s]
        · show some (upd (τ1.2.2.1 4) (4 + k) (nI (v - n)) (4 + k), _) = _
          rw [upd_s]
        · obtain ⟨p1, ⟨t, b1, b2, b3⟩, o2, c1, c2⟩ := hN1
          refine ⟨fun i hi => ?_, ⟨t, b1, ?_, fun j hj => ?_⟩, o2, c1, ?_⟩
          · show _ = upd (τ1.2.2.1 4) (4 + k) (nI (v - n)) i
            rw [upd_n _ _ (by omega), ← p1 i hi]
            rcases (show i = 0 ∨ i = 1 ∨ i = 2 ∨ i = 3 by omega) with rfl | rfl | rfl | rfl <;> rfl
          · show upd (τ1.2.2.1 4) (4 + k) (nI (v - n)) 0 = _
            rw [upd_n _ _ (by omega)]; exact b2
          · obtain ⟨v', c', y1, y2, y3, y4, y5, y6⟩ := b3 j hj
            rw [cN_lv _ (by omega)] at y4
            rw [cN_to] at y6
            by_cases ejk : j = k
            · subst ejk
              refine ⟨v - n, c', by omega, y2, ?_, ?_, ?_, ?_⟩
              · exact upd_s _ _ _
              · rw [cN_lv _ (by omega)]; exact upd_s _ _ _
              · show upd (τ1.2.2.1 4) (4 + j) (nI (v - n)) (9 + j) = _
                rw [upd_n _ _ (by omega)]; exact y5
              · rw [cN_to]; exact y6
            · refine ⟨v', c', y1, y2, ?_, ?_, ?_, ?_⟩
              · show upd (τ1.2.2.1 4) (4 + k) (nI (v - n)) (4 + j) = _
                rw [upd_n _ _ (by omega)]; exact y3
              · rw [cN_lv _ (by omega)]
                show upd (σ1.2.2.1 17) k (nI (v - n)) j = _
                rw [upd_n _ _ ejk]; exact y4
              · show upd (τ1.2.2.1 4) (4 + k) (nI (v - n)) (9 + j) = _
                rw [upd_n _ _ (by omega)]; exact y5
              · rw [cN_to]; exact y6
          · show upd (τ1.2.2.1 4) (4 + k) (nI (v - n)) 1 = _
            rw [upd_n _ _ (by omega)]; exact c2
      · rw [if_neg (nI_ge (by omega) (by omega)), if_neg (nI_ge (by omega) (by omega))]
        exact ⟨_, _, _, rfl, rfl, hinv2⟩
    · have q1 : m_X11_isWithin y 1 50 = some 0 := q1
      have q2 : m_X12_in y 1 50 = some 0 := q2
      exact ⟨-1, σ, τ, by simp [q1], by simp [q2], hinv2⟩
  · exact ⟨-1, σ, τ, by simp [e1], by simp [e2], hinv2⟩
