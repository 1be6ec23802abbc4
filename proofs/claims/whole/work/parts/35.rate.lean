theorem OKrate : OK_rate INV := by
  intro σ τ x y hinv
  have hinv2 : INV σ (sg τ 0 0) := hinv
  unfold m_X12_rate m_X11_rate
  generalize sg τ 0 0 = τ at hinv2 ⊢
  obtain ⟨d, hR, hN⟩ := INV_iff.mp hinv2
  have hR0 := hR
  obtain ⟨hb, hc, hm, a4, a5, a6, a7, a8⟩ := hR0
  have h5 : d.1 0 ≤ 5 := hb.1
  have h8 : d.1 2 ≤ 8 := hb.2.2.1
  rcases wl x 5 (by decide) with ⟨w, hw, rfl, e1, e2⟩ | ⟨e1, e2⟩
  · have e1 : m_X11_isWithin (nI w) 0 5 = some 1 := e1
    have e2 : m_X12_in (nI w) 0 5 = some 1 := e2
    rcases iph hb hc hm y with ⟨k, hk, rfl, f1, f2⟩ | ⟨f1, f2⟩
    · obtain ⟨t, o, v, c, t99, ho, ⟨n1, n2⟩, ⟨n3, n4⟩, n5, n6, hbd, ⟨hv, hcc⟩, hvm, hcm⟩ := hN.num h5
      have lc : ∀ z : Int64, ldA cLn (sl σ z) 17 (nI k) = some (nI (v k)) := fun z => by
        rw [ldk (n := 5) rfl (by omega) (by decide)]; exact congrArg some (hv k hk)
      have l2 : ∀ z : Int64, ldA cLn (sl σ z) 2 (nI k) = some (nI (d.2 1 k)) := fun z => by
        rw [ldk (n := 5) rfl (by omega) (by decide)]; exact congrArg some (hc.2.1 k hk).2
      have l18 : ∀ z : Int64, ldA cLn (sl σ z) 18 (nI k) = some (nI (c k)) := fun z => by
        rw [ldk (n := 5) rfl (by omega) (by decide)]; exact congrArg some (hcc k hk)
      have lcal : ∀ z : Int64, m_X10_callsOf (sl σ z) (nI k) = some (nI (cof d k (d.1 2) 0 0)) := fun z => by
        have hc2 : cT (sl σ z) d := hc
        have h := ccof hb hc2 (k := k) (by omega) (d.1 2) FU 0 0 (by omega) (by unfold FU; omega)
        have h : m_X10_callsOf_L4 (sl σ z) FU (nI k) 0 0 = _ := h
        unfold m_X10_callsOf
        rw [h, bs]
      have m4 : ldA mLn τ 4 (4 + nI k) = some (nI (v k)) := by
        rw [show (4 : Int32) + nI k = nI (4 + k) from nI_add 4 k, ldk (n := 14) rfl (by omega) (by decide)]; exact congrArg some (hvm k hk)
      have m9 : ∀ z : Int64, ldA mLn (sl τ z) 4 (9 + nI k) = some (nI (c k)) := fun z => by
        rw [show (9 : Int32) + nI k = nI (9 + k) from nI_add 9 k, ldk (n := 14) rfl (by omega) (by decide)]; exact congrArg some (hcm k hk)
      have m32 : ldA mLn τ 1 (3 * nI k + 2) = some (nI (d.2 1 k)) := by
        rw [show (3 : Int32) * nI k = nI (3 * k) from pk_mul 3 k, show nI (3 * k) + (2 : Int32) = nI (3 * k + 2) from nI_add _ 2, ldk (n := 30) rfl (by omega) (by decide)]; exact congrArg some (hm.2.1 k hk).2
      have mr : m_X12_rate_L40 FU (nI w) (nI k) (nI (v k)) (nI (v k)) 0 τ = some (nI w, nI k, nI (v k), nI (v k) + nI (cof d k (d.1 2) 0 0), τ) := by
        have h := mcof hb hm (k := k) (by omega) (nI w) (nI (v k)) (d.1 2) FU 0 0 (nI (v k)) (by omega) (by unfold FU; omega)
        rw [show nI (v k) + nI 0 = nI (v k) from Int32.add_zero _] at h
        exact h
      have key : ∀ z z' : Int64, z = z' → INV (sl σ z) (sl τ z') := fun z z' h => INV_iff.mpr ⟨d, ⟨hb, hc, hm, a4, a5, a6, a7, h⟩, hN⟩
      simp only [e1, e2, f1, f2, bs, if_neg n10, m4, mr, m32]
      rcases (show w = 0 ∨ w = 1 ∨ w = 2 ∨ w = 3 ∨ w = 4 ∨ w = 5 by omega) with rfl | rfl | rfl | rfl | rfl | rfl
      · refine ⟨nI (v k), sl σ (σ.2.1 + 1), sl τ (τ.2.1 + 1), ?_, ?_, key _ _ (by rw [a8])⟩
        · have : nI 0 = (0 : Int32) := rfl
          simp [this, m_X9_worth_7, lc]
        · have : nI 0 = (0 : Int32) := rfl
          simp [this, m_X12_rate_J152]
      · refine ⟨nI (v k) + nI (cof d k (d.1 2) 0 0), sl σ (σ.2.1 + 10 + 1), sl τ (τ.2.1 + 11), ?_, ?_, key _ _ (by rw [a8, Int64.add_assoc]; rfl)⟩
        · have : nI 1 = (1 : Int32) := rfl
          have z : ∀ a b : Int64, sl (sl σ a) b = sl σ b := fun a b => rfl
          simp [this, m_X0_worth_8, m_X9_worth_8, lc, lcal, z, sl_21]
        · have : nI 1 = (1 : Int32) := rfl
          simp [this, m_X12_rate_J152]
      · refine ⟨nI (v k) - nI (d.2 1 k), sl σ (σ.2.1 + 100 + 1), sl τ (τ.2.1 + 101), ?_, ?_, key _ _ (by rw [a8, Int64.add_assoc]; rfl)⟩
        · have : nI 2 = (2 : Int32) := rfl
          have z : ∀ a b : Int64, sl (sl σ a) b = sl σ b := fun a b => rfl
          simp [this, m_X3_worth_9, m_X9_worth_9, lc, l2, z, sl_21]
        · have : nI 2 = (2 : Int32) := rfl
          simp [this, m_X12_rate_J152]
      · refine ⟨2 * (nI (v k) + nI (cof d k (d.1 2) 0 0)), sl σ (σ.2.1 + 1000 + 10 + 1), sl τ (τ.2.1 + 1011), ?_, ?_, key _ _ (by rw [a8, Int64.add_assoc, Int64.add_assoc]; rfl)⟩
        · have : nI 3 = (3 : Int32) := rfl
          have z : ∀ a b : Int64, sl (sl σ a) b = sl σ b := fun a b => rfl
          simp [this, m_X1_worth, m_X0_worth_10, m_X9_worth_10, lc, lcal, z, sl_21]
        · have : nI 3 = (3 : Int32) := rfl
          simp [this, m_X12_rate_J152]
      · refine ⟨nI (v k) - nI (d.2 1 k) + nI k, sl σ (σ.2.1 + 10000 + 100 + 1), sl τ (τ.2.1 + 10101), ?_, ?_, key _ _ (by rw [a8, Int64.add_assoc, Int64.add_assoc]; rfl)⟩
        · have : nI 4 = (4 : Int32) := rfl
          have z : ∀ a b : Int64, sl (sl σ a) b = sl σ b := fun a b => rfl
          simp [this, m_X6_worth, m_X3_worth_11, m_X9_worth_11, lc, l2, z, sl_21]
        · have : nI 4 = (4 : Int32) := rfl
          simp [this, m_X12_rate_J152]
      · refine ⟨nI (v k) + nI (c k), sl σ (σ.2.1 + 100000 + 1), sl τ (τ.2.1 + 100001), ?_, ?_, key _ _ (by rw [a8, Int64.add_assoc]; rfl)⟩
        · have : nI 5 = (5 : Int32) := rfl
          have z : ∀ a b : Int64, sl (sl σ a) b = sl σ b := fun a b => rfl
          simp [this, m_X8_worth, m_X9_worth_12, lc, l18, z, sl_21]
        · have : nI 5 = (5 : Int32) := rfl
          simp [this, m_X12_rate_J152, m9]
    · exact ⟨-1000000, σ, τ, by simp [e1, f1], by simp [e2, f2], hinv2⟩
  · have e1 : m_X11_isWithin x 0 5 = some 0 := e1
    have e2 : m_X12_in x 0 5 = some 0 := e2
    exact ⟨-1000000, σ, τ, by simp [e1], by simp [e2], hinv2⟩
