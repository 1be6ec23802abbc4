theorem OKtype : OK_type INV := by
  intro σ τ x hinv
  obtain ⟨d, hb, hc, hm, hn, hk, hi, hs, ⟨n, h1, h2, h3, h4⟩, htr⟩ := hinv
  rcases wl x 255 (by decide) with ⟨c, hcc, rfl, -, e2⟩ | ⟨e1, e2⟩
  · have e2 : m_X12_in (nI c) 0 255 = some 1 := e2
    have a1 : ¬ nI c < 0 := nI_pos (by omega)
    have a2 : nI c ≤ 255 := nI_le hcc (by decide)
    by_cases hf : n = 200
    · subst hf
      have a3 : ¬ nI 200 < 200 := by decide
      have a4 : nI 200 = 200 := rfl
      refine ⟨-3, σ, sg τ 0 0, by simp [m_X11_type, m_X7_add, a1, a2, h2, a3], by simp [m_X12_type, e2, sg_1, h3, a4], ?_⟩
      exact ⟨d, hb, hc, hm, hn, hk, hi, hs, ⟨200, h1, h2, h3, h4⟩, htr⟩
    · have a3 : nI n < 200 := nI_lt (show n < 200 by omega) (by decide)
      have a4 : ¬ nI n = 200 := fun q => hf ((nI_eq (by omega) (by decide)).mp q)
      have b1 : ∀ x, stA cLn σ 16 (nI n) x = some (sr σ 16 (upd (σ.2.2.1 16) n x)) := fun x => stk (n := 200) rfl (show n < 200 by omega) (by decide)
      have b2 : ∀ x, stA mLn (sg τ 0 0) 0 (nI n) x = some (sr (sg τ 0 0) 0 (upd (τ.2.2.1 0) n x)) := fun x => stk (n := 200) rfl (show n < 200 by omega) (by decide)
      refine ⟨nI (n + 1), sg (sr σ 16 (upd (σ.2.2.1 16) n (nI c))) 8 (nI (n + 1)), sg (sr (sg τ 0 0) 0 (upd (τ.2.2.1 0) n (nI c))) 1 (nI (n + 1)), by simp [m_X11_type, m_X7_add, a1, a2, h2, a3, b1, sr_1, sg_1, nI_1], by simp [m_X12_type, e2, sg_1, h3, a4, b2, sr_1, nI_1], ?_⟩
      refine ⟨d, hb, hc, hm, hn, hk.keep rfl rfl rfl (fun j _ _ => sr_ne (by omega)) rfl, hi.keep rfl rfl (fun j _ _ => sr_ne (by omega)) rfl, hs, ⟨n + 1, by omega, rfl, rfl, fun j hj => ?_⟩, htr⟩
      show ∃ c', c' ≤ 255 ∧ upd (σ.2.2.1 16) n (nI c) j = nI c' ∧ upd (τ.2.2.1 0) n (nI c) j = nI c'
      by_cases e : j = n
      · subst e; exact ⟨c, hcc, upd_s _ _ _, upd_s _ _ _⟩
      · rw [upd_n _ _ e, upd_n _ _ e]; exact h4 j (by omega)
  · have e2 : m_X12_in x 0 255 = some 0 := e2
    refine ⟨-1, σ, sg τ 0 0, ?_, by simp [m_X12_type, e2], ⟨d, hb, hc, hm, hn, hk, hi, hs, ⟨n, h1, h2, h3, h4⟩, htr⟩⟩
    unfold m_X12_in at e2
    unfold m_X11_type
    by_cases q0 : x < 0
    · rw [if_pos q0]
    · rw [if_neg q0]
      rw [if_neg q0] at e2
      by_cases q1 : (255 : Int32) < x
      · rw [if_neg (show ¬ x ≤ 255 from fun q => i32_le_of q1 q)]
      · rw [if_neg q1] at e2; cases e2
theorem OKclear : OK_clear INV := by
  intro σ τ hinv
  obtain ⟨d, hb, hc, hm, hn, hk, hi, hs, ⟨n, h1, h2, h3, h4⟩, htr⟩ := hinv
  refine ⟨nI n, sg σ 8 0, sg (sg τ 0 0) 1 0, by simp [m_X11_clear, h2], by simp [m_X12_clear, sg_1, h3], ⟨d, hb, hc, hm, hn, hk, hi, hs, ⟨0, by decide, rfl, rfl, fun j h => absurd h (by simp)⟩, htr⟩⟩
theorem OKtrace : OK_trace INV := by
  intro σ τ hinv
  refine ⟨σ.2.1, sg τ 0 0, rfl, ?_, hinv⟩
  obtain ⟨d, hb, hc, hm, hn, hk, hi, hs, ht, htr⟩ := hinv
  rw [htr]; rfl
theorem OKforget : OK_forget INV := by
  intro σ τ hinv
  obtain ⟨d, hb, hc, hm, hn, hk, hi, ⟨n, h1, h2, h3, h4⟩, ht, htr⟩ := hinv
  exact ⟨nI n, sg σ 23 0, sg (sg τ 0 0) 16 0, by simp [m_X11_forget, h2], by simp [m_X12_forget, sg_1, h3], ⟨d, hb, hc, hm, hn, hk, hi, ⟨0, by decide, rfl, rfl, fun j h => absurd h (by simp)⟩, ht, htr⟩⟩
theorem OKcount : OK_count INV := by
  intro σ τ x hinv
  have hinv2 := hinv
  obtain ⟨d, hb, hc, hm, hn, hk, hi, ⟨n, h1, h2, h3, h4⟩, ⟨t, g1, g2, g3, g4⟩, htr⟩ := hinv
  have q0 := hc.1.1
  have q1 := hc.1.2.1
  have q2 := hc.1.2.2.1
  have q3 := hc.1.2.2.2
  have r0 := hm.1.1
  have r1 := hm.1.2.1
  have r2 := hm.1.2.2.1
  have r3 := hm.1.2.2.2
  by_cases c0 : x = 0
  · subst c0; exact ⟨_, sg τ 0 0, by simp [m_X11_count, q0]; rfl, by simp [m_X12_count, sg_1, r0], hinv2⟩
  by_cases c1 : x = 1
  · subst c1; exact ⟨_, sg τ 0 0, by simp [m_X11_count, q1]; rfl, by simp [m_X12_count, sg_1, r1], hinv2⟩
  by_cases c2 : x = 2
  · subst c2; exact ⟨_, sg τ 0 0, by simp [m_X11_count, q2]; rfl, by simp [m_X12_count, sg_1, r2], hinv2⟩
  by_cases c3 : x = 3
  · subst c3; exact ⟨_, sg τ 0 0, by simp [m_X11_count, q3]; rfl, by simp [m_X12_count, sg_1, r3], hinv2⟩
  by_cases c4 : x = 4
  · subst c4; exact ⟨_, sg τ 0 0, by simp [m_X11_count, h2]; rfl, by simp [m_X12_count, sg_1, h3], hinv2⟩
  by_cases c5 : x = 5
  · subst c5; exact ⟨_, sg τ 0 0, by simp [m_X11_count, g2]; rfl, by simp [m_X12_count, sg_1, g3], hinv2⟩
  exact ⟨-1, sg τ 0 0, by simp [m_X11_count, c0, c1, c2, c3, c4, c5], by simp [m_X12_count, c0, c1, c2, c3, c4, c5], hinv2⟩
