/-- the class's state behind copyFrom -/
def cpF (σ : Sx) (r f g : Nat → Int32) : Sx := sr (sr (sg (sg (sg (sg σ 14 (r 0)) 15 (r 1)) 16 (r 2)) 17 (r 3)) 17 f) 18 g
theorem cpF_cN {σ : Sx} {r f g : Nat → Int32} (hf : ∀ k, k < 5 → f k = r (4 + k)) (hg : ∀ k, k < 5 → g k = r (9 + k)) : ∀ i, i < 14 → cN (cpF σ r f g) i = r i := by
  intro i hi
  by_cases h4 : i < 4
  · rcases (show i = 0 ∨ i = 1 ∨ i = 2 ∨ i = 3 by omega) with rfl | rfl | rfl | rfl <;> rfl
  · by_cases h9 : i < 9
    · obtain ⟨k, rfl⟩ : ∃ k, i = 4 + k := ⟨i - 4, by omega⟩
      rw [cN_lv _ (by omega)]
      exact hf k (by omega)
    · obtain ⟨k, rfl⟩ : ∃ k, i = 9 + k := ⟨i - 9, by omega⟩
      rw [cN_to]
      exact hg k (by omega)
theorem cpF_1 (σ : Sx) (r f g : Nat → Int32) {i : Nat} (h : i < 14 ∨ 18 ≤ i) : (cpF σ r f g).1 i = σ.1 i := by
  show (if i = 17 then _ else (if i = 16 then _ else (if i = 15 then _ else (if i = 14 then _ else σ.1 i)))) = _
  rw [if_neg (by omega), if_neg (by omega), if_neg (by omega), if_neg (by omega)]
theorem cpF_A (σ : Sx) (r f g : Nat → Int32) {j : Nat} (h : j ≠ 17) (h2 : j ≠ 18) : (cpF σ r f g).2.2.1 j = σ.2.2.1 j := by
  show (sr (sr _ 17 f) 18 g).2.2.1 j = _
  rw [sr_ne h2, sr_ne h]
  rfl
theorem OKundo : OK_undo INV := by
  intro σ τ hinv
  have hinv2 : INV σ (sg τ 0 0) := hinv
  unfold m_X12_undo m_X11_undo
  generalize sg τ 0 0 = τ at hinv2 ⊢
  obtain ⟨d, hR, hN⟩ := INV_iff.mp hinv2
  obtain ⟨a1, a2, a3, ⟨u, w, b1, b2, b3, b4, b5, b6⟩, a5, a6, a7, a8⟩ := hR
  have h5 : d.1 0 ≤ 5 := a1.1
  rw [b3, b4]
  by_cases h0 : u = 0
  · subst h0
    exact ⟨-2, σ, τ, rfl, rfl, hinv2⟩
  · have hne : ¬ nI u = 0 := nI_ne0 (by omega) (by omega)
    rw [if_neg hne, if_neg hne]
    have hrow := b6 0 (by omega)
    rw [show (w + 10 - 0) % 10 = w by omega] at hrow
    obtain ⟨f, g, hcf, hf, hg⟩ := copyFrom_ok σ (j := 25 + w) (by omega) (by omega)
    have hcf : m_X4_copyFrom σ (25 + w) = some (cpF σ (σ.2.2.1 (25 + w)) f g) := hcf
    have e1 : ixq (nI w) 10 = some w := by
      unfold ixq
      rw [if_pos (inb_nI b2 (by decide)), nI_clamp (by omega)]
    have q18 : (cpF σ (σ.2.2.1 (25 + w)) f g).1 18 = nI w := b5
    have q19 : (cpF σ (σ.2.2.1 (25 + w)) f g).1 19 = nI u := b3
    have e2 : rmI (nI w + 10 - 1) 10 = some (nI ((w + 9) % 10)) := by
      have z : nI w + 10 - 1 = nI (w + 9) := by
        rw [show nI w + (10 : Int32) = nI (w + 10) from nI_add w 10]
        exact nI_pred (w + 9)
      unfold rmI
      rw [if_neg (by decide), z]
      exact congrArg some (pk_rem (a := w + 9) (d := 10) (by omega) (by decide) (by decide))
    have e3 : nI u - 1 = nI (u - 1) := by
      obtain ⟨z, rfl⟩ : ∃ z, u = z + 1 := ⟨u - 1, by omega⟩
      exact nI_pred z
    unfold m_X2_takeBack
    rw [b5, e1, bs, hcf, bs, q18, e2, bs, bs]
    have q19' : (sg (cpF σ (σ.2.2.1 (25 + w)) f g) 18 (nI ((w + 9) % 10))).1 19 = nI u := q19
    rw [q19', e3]
    have hl := mcp27 (τ := sg τ 15 (nI (u - 1))) (u := u - 1) rfl (by omega) 14 FU 0 (by decide) (by decide)
    rw [pt_0, sr_self] at hl
    rw [show (0 : Int32) = nI 0 from rfl, hl, bs]
    refine ⟨nI (u - 1), sg (sg (cpF σ (σ.2.2.1 (25 + w)) f g) 18 (nI ((w + 9) % 10))) 19 (nI (u - 1)), sr (sg τ 15 (nI (u - 1))) 4 (pt (τ.2.2.1 4) (fun k => τ.2.2.1 7 (14 * (u - 1) + k)) 0 14), rfl, rfl, INV_iff.mpr ⟨d, ⟨a1, a2.keep (fun i hi => ?_) (fun j h1 h2 => cpF_A _ _ _ _ (by omega) (by omega)), a3, ⟨u - 1, (w + 9) % 10, by omega, by omega, rfl, rfl, rfl, fun j hj => ?_⟩, a5.keep (cpF_A _ _ _ _ (by decide) (by decide)) rfl (fun j h1 h2 => cpF_A _ _ _ _ (by omega) (by omega)) rfl, a6.keep rfl rfl (fun j h1 h2 => cpF_A _ _ _ _ (by omega) (by omega)) rfl, a7.keep rfl rfl (cpF_A _ _ _ _ (by decide) (by decide)) rfl, a8⟩, ?_⟩⟩
    · show (if i = 19 then _ else (if i = 18 then _ else (cpF σ (σ.2.2.1 (25 + w)) f g).1 i)) = _
      rw [if_neg (by omega), if_neg (by omega)]
      exact cpF_1 _ _ _ _ (by omega)
    · have h := b6 (j + 1) (by omega)
      have er : ((w + 9) % 10 + 10 - j) % 10 = (w + 10 - (j + 1)) % 10 := by omega
      refine SN.congr h5 h (fun i hi => ?_) (fun i hi => ?_)
      · rw [er]
        exact congrFun (cpF_A _ _ _ _ (by omega) (by omega)) i
      · show τ.2.2.1 7 (14 * (u - 1 - 1 - j) + i) = _
        rw [show u - 1 - 1 - j = u - 1 - (j + 1) by omega]
    · refine SN.congr h5 hrow (fun i hi => ?_) (fun i hi => ?_)
      · exact cpF_cN hf hg i hi
      · show pt (τ.2.2.1 4) (fun k => τ.2.2.1 7 (14 * (u - 1) + k)) 0 14 i = _
        have := pt_in (g := τ.2.2.1 4) (f := fun k => τ.2.2.1 7 (14 * (u - 1) + k)) (a := 0) (n := 14) hi
        rw [Nat.zero_add] at this
        rw [this]
        rfl
theorem OKkeep : OK_keep INV := by
  intro σ τ x hinv
  have hinv2 : INV σ (sg τ 0 0) := hinv
  unfold m_X12_keep m_X11_keep
  generalize sg τ 0 0 = τ at hinv2 ⊢
  obtain ⟨d, hR, hN⟩ := INV_iff.mp hinv2
  have hR0 := hR
  obtain ⟨a1, a2, a3, a4, a5, a6, a7, a8⟩ := hR
  have h5 : d.1 0 ≤ 5 := a1.1
  rcases wl x 1 (by decide) with ⟨m, hm, rfl, e1, e2⟩ | ⟨e1, e2⟩
  · have e1 : m_X11_isWithin (nI m) 0 1 = some 1 := e1
    have e2 : m_X12_in (nI m) 0 1 = some 1 := e2
    obtain ⟨f, hf, hf2⟩ := copyTo_ok σ (j := 35 + m) (by omega) (by omega)
    have e3 : ixq (nI m) 2 = some m := by
      unfold ixq
      rw [if_pos (inb_nI (by omega) (by decide)), nI_clamp (by omega)]
    have hl := mcp18 (τ := τ) (u := m) hm 14 FU 0 (by decide) (by decide)
    rw [pt_0, sr_self] at hl
    have hl : m_X12_keep_L18 FU (nI m) 0 τ = _ := hl
    have l0 : ∀ τ : Sx, ldA mLn τ 4 0 = some (τ.2.2.1 4 0) := fun τ => ldk (k := 0) (n := 14) rfl (by decide) (by decide)
    simp only [e1, e2, bs, if_neg n10, e3, hf, stzk (show m < 2 by omega), hl, l0]
    have hn1 : vp_nar .boolean 1 = 1 := rfl
    rw [hn1]
    refine ⟨σ.1 14, sr (sr σ (35 + m) f) 47 (upd (σ.2.2.1 47) m 1), sr (sr τ 6 (pt (τ.2.2.1 6) (τ.2.2.1 4) (14 * m) 14)) 12 (upd (τ.2.2.1 12) m 1), ?_, ?_, INV_iff.mpr ⟨d, ⟨a1, a2.keep (fun i hi => rfl) (fun j h1 h2 => by rw [sr_ne (by omega), sr_ne (by omega)]), a3, a4.keep rfl rfl rfl (fun j h1 h2 => by rw [sr_ne (by omega), sr_ne (by omega)]) rfl, fun m' hm' => ?_, a6.keep rfl rfl (fun j h1 h2 => by rw [sr_ne (by omega), sr_ne (by omega)]) rfl, a7.keep rfl rfl (by rw [sr_ne (by omega), sr_ne (by omega)]) rfl, a8⟩, ?_⟩⟩
    · have : (sr σ (35 + m) f).2.2.1 47 = σ.2.2.1 47 := sr_ne (by omega)
      rw [this]
      rfl
    · have : σ.1 14 = τ.2.2.1 4 0 := hN.1 0 (by decide)
      rw [this]
      rfl
    · by_cases em : m' = m
      · subst em
        right
        refine ⟨upd_s _ _ _, upd_s _ _ _, SN.congr h5 hN (fun i hi => ?_) (fun i hi => ?_)⟩
        · have : (sr (sr σ (35 + m') f) 47 (upd (σ.2.2.1 47) m' 1)).2.2.1 (35 + m') = f := by
            rw [sr_ne (by omega)]; exact if_pos rfl
          rw [this]; exact hf2 i hi
        · exact pt_in hi
      · have k1 : (sr (sr σ (35 + m) f) 47 (upd (σ.2.2.1 47) m 1)).2.2.1 47 m' = σ.2.2.1 47 m' := upd_n _ _ em
        have k2 : (sr (sr τ 6 (pt (τ.2.2.1 6) (τ.2.2.1 4) (14 * m) 14)) 12 (upd (τ.2.2.1 12) m 1)).2.2.1 12 m' = τ.2.2.1 12 m' := upd_n _ _ em
        have k3 : (sr (sr σ (35 + m) f) 47 (upd (σ.2.2.1 47) m 1)).2.2.1 (35 + m') = σ.2.2.1 (35 + m') := by
          rw [sr_ne (by omega), sr_ne (by omega)]
        rw [k1, k2, k3]
        rcases a5 m' hm' with h | ⟨h1, h2, h3⟩
        · exact Or.inl h
        · refine Or.inr ⟨h1, h2, SN.congr h5 h3 (fun i hi => rfl) (fun i hi => ?_)⟩
          exact pt_out (by omega)
    · have ec : cN (sr (sr σ (35 + m) f) 47 (upd (σ.2.2.1 47) m 1)) = cN σ := by
        funext i
        unfold cN
        have e17 : (sr (sr σ (35 + m) f) 47 (upd (σ.2.2.1 47) m 1)).2.2.1 17 = σ.2.2.1 17 := by rw [sr_ne (by omega), sr_ne (by omega)]
        have e18 : (sr (sr σ (35 + m) f) 47 (upd (σ.2.2.1 47) m 1)).2.2.1 18 = σ.2.2.1 18 := by rw [sr_ne (by omega), sr_ne (by omega)]
        rw [e17, e18]
        rfl
      show SN (d.1 0) (cN _) _
      rw [ec]
      exact hN
  · have e1 : m_X11_isWithin x 0 1 = some 0 := e1
    have e2 : m_X12_in x 0 1 = some 0 := e2
    exact ⟨-1, σ, τ, by simp [e1], by simp [e2], hinv2⟩
theorem OKback : OK_back INV := by
  intro σ τ x hinv
  have hinv2 : INV σ (sg τ 0 0) := hinv
  unfold m_X12_back m_X11_back
  generalize sg τ 0 0 = τ at hinv2 ⊢
  obtain ⟨d, hR, hN⟩ := INV_iff.mp hinv2
  have hR0 := hR
  obtain ⟨a1, a2, a3, a4, a5, a6, a7, a8⟩ := hR
  have h5 : d.1 0 ≤ 5 := a1.1
  rcases wl x 1 (by decide) with ⟨m, hm, rfl, e1, e2⟩ | ⟨e1, e2⟩
  · have e1 : m_X11_isWithin (nI m) 0 1 = some 1 := e1
    have e2 : m_X12_in (nI m) 0 1 = some 1 := e2
    rcases a5 m (by omega) with ⟨h1, h2⟩ | ⟨h1, h2, hrow⟩
    · exact ⟨-2, σ, τ, by simp [e1, ldzk (show m < 2 by omega), h1], by simp [e2, ldzk (show m < 2 by omega), h2], hinv2⟩
    · obtain ⟨f, g, hcf, hf, hg⟩ := copyFrom_ok σ (j := 35 + m) (by omega) (by omega)
      have hcf : m_X4_copyFrom σ (35 + m) = some (cpF σ (σ.2.2.1 (35 + m)) f g) := hcf
      have e3 : ixq (nI m) 2 = some m := by
        unfold ixq
        rw [if_pos (inb_nI (by omega) (by decide)), nI_clamp (by omega)]
      have hl := mcp30 (τ := τ) (u := m) hm 14 FU 0 (by decide) (by decide)
      rw [pt_0, sr_self] at hl
      have hl : m_X12_back_L30 FU (nI m) 0 τ = _ := hl
      have l0 : ∀ τ : Sx, ldA mLn τ 4 0 = some (τ.2.2.1 4 0) := fun τ => ldk (k := 0) (n := 14) rfl (by decide) (by decide)
      simp only [e1, e2, bs, if_neg n10, ldzk (show m < 2 by omega), h1, h2, e3, hcf, hl, l0]
      have hq : ∀ i, i < 14 → pt (τ.2.2.1 4) (fun k => τ.2.2.1 6 (14 * m + k)) 0 14 i = τ.2.2.1 6 (14 * m + i) := fun i hi => by
        have := pt_in (g := τ.2.2.1 4) (f := fun k => τ.2.2.1 6 (14 * m + k)) (a := 0) (n := 14) hi
        rw [Nat.zero_add] at this
        exact this
      refine ⟨σ.2.2.1 (35 + m) 0, sg (cpF σ (σ.2.2.1 (35 + m)) f g) 19 0, sg (sr τ 4 (pt (τ.2.2.1 4) (fun k => τ.2.2.1 6 (14 * m + k)) 0 14)) 15 0, rfl, ?_, INV_iff.mpr ⟨d, ⟨a1, a2.keep (fun i hi => ?_) (fun j h1 h2 => cpF_A _ _ _ _ (by omega) (by omega)), a3, ?_, a5.keep (cpF_A _ _ _ _ (by decide) (by decide)) rfl (fun j h1 h2 => cpF_A _ _ _ _ (by omega) (by omega)) rfl, a6.keep rfl rfl (fun j h1 h2 => cpF_A _ _ _ _ (by omega) (by omega)) rfl, a7.keep rfl rfl (cpF_A _ _ _ _ (by decide) (by decide)) rfl, a8⟩, ?_⟩⟩
      · have : σ.2.2.1 (35 + m) 0 = τ.2.2.1 6 (14 * m + 0) := hrow.1 0 (by decide)
        rw [this]
        show some (pt (τ.2.2.1 4) (fun k => τ.2.2.1 6 (14 * m + k)) 0 14 0, _) = _
        rw [hq 0 (by decide)]
      · show (if i = 19 then _ else (cpF σ (σ.2.2.1 (35 + m)) f g).1 i) = _
        rw [if_neg (by omega)]
        exact cpF_1 _ _ _ _ (by omega)
      · obtain ⟨u, w, b1, b2, b3, b4, b5, b6⟩ := a4
        exact ⟨0, w, by omega, b2, rfl, rfl, b5, fun j hj => absurd hj (by omega)⟩
      · exact SN.congr h5 hrow (fun i hi => cpF_cN hf hg i hi) (fun i hi => hq i hi)
  · have e1 : m_X11_isWithin x 0 1 = some 0 := e1
    have e2 : m_X12_in x 0 1 = some 0 := e2
    exact ⟨-1, σ, τ, by simp [e1], by simp [e2], hinv2⟩
theorem OKsays : OK_says INV := by
  intro σ τ x y z w hinv
  have hinv2 : INV σ (sg τ 0 0) := hinv
  unfold m_X12_says m_X11_says
  generalize sg τ 0 0 = τ at hinv2 ⊢
  obtain ⟨d, hR, hN⟩ := INV_iff.mp hinv2
  obtain ⟨a1, a2, a3, a4, a5, ⟨n, b1, b2, b3, b4⟩, a7, a8⟩ := hR
  rcases iph a1 a2 a3 x with ⟨k, hk, rfl, e1, e2⟩ | ⟨e1, e2⟩
  · rcases wl y 100 (by decide) with ⟨a, ha, rfl, f1, f2⟩ | ⟨f1, f2⟩
    · have f1 : m_X11_isWithin (nI a) 0 100 = some 1 := f1
      have f2 : m_X12_in (nI a) 0 100 = some 1 := f2
      rcases wr z 1 20 (by decide) (by decide) with ⟨t, ht1, ht2, rfl, g1, g2⟩ | ⟨g1, g2⟩
      · have g1 : m_X11_isWithin (nI t) 1 20 = some 1 := g1
        have g2 : m_X12_in (nI t) 1 20 = some 1 := g2
        rcases wl w 100 (by decide) with ⟨v, hv, rfl, h1, h2⟩ | ⟨h1, h2⟩
        · have h1 : m_X11_isWithin (nI v) 0 100 = some 1 := h1
          have h2 : m_X12_in (nI v) 0 100 = some 1 := h2
          simp only [e1, e2, f1, f2, g1, g2, h1, h2, bs, if_neg n10, b2, b3]
          by_cases q : n = 6
          · subst q
            exact ⟨-3, σ, τ, rfl, rfl, hinv2⟩
          · have c1 : nI n < 6 := nI_lt (show n < 6 by omega) (by decide)
            have c2 : ¬ nI n = 6 := fun e => q ((nI_eq (by omega) (by decide)).mp e)
            have s19 : ∀ (σ : Sx) x, stA cLn σ 19 (nI n) x = some (sr σ 19 (upd (σ.2.2.1 19) n x)) := fun σ x => stk (n := 6) rfl (by omega) (by decide)
            have s20 : ∀ (σ : Sx) x, stA cLn σ 20 (nI n) x = some (sr σ 20 (upd (σ.2.2.1 20) n x)) := fun σ x => stk (n := 6) rfl (by omega) (by decide)
            have s21 : ∀ (σ : Sx) x, stA cLn σ 21 (nI n) x = some (sr σ 21 (upd (σ.2.2.1 21) n x)) := fun σ x => stk (n := 6) rfl (by omega) (by decide)
            have s22 : ∀ (σ : Sx) x, stA cLn σ 22 (nI n) x = some (sr σ 22 (upd (σ.2.2.1 22) n x)) := fun σ x => stk (n := 6) rfl (by omega) (by decide)
            have e4 : (4 : Int32) * nI n = nI (4 * n) := pk_mul 4 n
            have e5 : nI (4 * n) + 1 = nI (4 * n + 1) := nI_add _ 1
            have e6 : nI (4 * n) + 2 = nI (4 * n + 2) := nI_add _ 2
            have e7 : nI (4 * n) + 3 = nI (4 * n + 3) := nI_add _ 3
            have m0 : ∀ (τ : Sx) (i : Nat) x, i < 24 → stA mLn τ 8 (nI i) x = some (sr τ 8 (upd (τ.2.2.1 8) i x)) := fun τ i x hi => stk (n := 24) rfl hi (by decide)
            rw [if_pos c1, if_neg c2, s19, bs, e4, e5, e6, e7, m0 _ _ _ (by omega), bs, m0 _ _ _ (by omega), bs, m0 _ _ _ (by omega), bs, m0 _ _ _ (by omega), bs]
            simp only [sr_1, b2, b3, s20, s21, s22, bs, sr_sr, nI_1]
            refine ⟨_, _, _, rfl, rfl, INV_iff.mpr ⟨d, ⟨a1, a2.keep (fun i hi => ?_) (fun j h1 h2 => ?_), a3, a4.keep rfl rfl rfl (fun j h1 h2 => ?_) rfl, a5.keep rfl rfl (fun j h1 h2 => ?_) rfl, ⟨n + 1, by omega, rfl, rfl, fun j hj => ?_⟩, a7, a8⟩, hN⟩⟩
            · show (if i = 23 then _ else σ.1 i) = _
              rw [if_neg (by omega)]
            · show (sr (sr (sr (sr σ 19 _) 20 _) 21 _) 22 _).2.2.1 j = _
              rw [sr_ne (by omega), sr_ne (by omega), sr_ne (by omega), sr_ne (by omega)]
            · show (sr (sr (sr (sr σ 19 _) 20 _) 21 _) 22 _).2.2.1 j = _
              rw [sr_ne (by omega), sr_ne (by omega), sr_ne (by omega), sr_ne (by omega)]
            · show (sr (sr (sr (sr σ 19 _) 20 _) 21 _) 22 _).2.2.1 j = _
              rw [sr_ne (by omega), sr_ne (by omega), sr_ne (by omega), sr_ne (by omega)]
            · show ∃ k' a' t' v', k' < d.1 0 ∧ a' ≤ 100 ∧ t' ≤ 20 ∧ v' ≤ 100 ∧ (upd (σ.2.2.1 19) n (nI k) j = nI k' ∧ upd (σ.2.2.1 20) n (nI a) j = nI a' ∧ upd (σ.2.2.1 21) n (nI t) j = nI t' ∧ upd (σ.2.2.1 22) n (nI v) j = nI v') ∧ (upd (upd (upd (upd (τ.2.2.1 8) (4 * n) (nI k)) (4 * n + 1) (nI a)) (4 * n + 2) (nI t)) (4 * n + 3) (nI v) (4 * j) = nI k' ∧ upd (upd (upd (upd (τ.2.2.1 8) (4 * n) (nI k)) (4 * n + 1) (nI a)) (4 * n + 2) (nI t)) (4 * n + 3) (nI v) (4 * j + 1) = nI a' ∧ upd (upd (upd (upd (τ.2.2.1 8) (4 * n) (nI k)) (4 * n + 1) (nI a)) (4 * n + 2) (nI t)) (4 * n + 3) (nI v) (4 * j + 2) = nI t' ∧ upd (upd (upd (upd (τ.2.2.1 8) (4 * n) (nI k)) (4 * n + 1) (nI a)) (4 * n + 2) (nI t)) (4 * n + 3) (nI v) (4 * j + 3) = nI v')
              by_cases ej : j = n
              · subst ej
                refine ⟨k, a, t, v, hk, ha, ht2, hv, ⟨upd_s _ _ _, upd_s _ _ _, upd_s _ _ _, upd_s _ _ _⟩, ?_, ?_, ?_, upd_s _ _ _⟩
                · rw [upd_n _ _ (by omega), upd_n _ _ (by omega), upd_n _ _ (by omega), upd_s]
                · rw [upd_n _ _ (by omega), upd_n _ _ (by omega), upd_s]
                · rw [upd_n _ _ (by omega), upd_s]
              · rw [upd_n _ _ ej, upd_n _ _ ej, upd_n _ _ ej, upd_n _ _ ej]
                have o4 : ∀ i, i < 4 → upd (upd (upd (upd (τ.2.2.1 8) (4 * n) (nI k)) (4 * n + 1) (nI a)) (4 * n + 2) (nI t)) (4 * n + 3) (nI v) (4 * j + i) = τ.2.2.1 8 (4 * j + i) := fun i hi => by
                  rw [upd_n _ _ (by omega), upd_n _ _ (by omega), upd_n _ _ (by omega), upd_n _ _ (by omega)]
                have o40 : upd (upd (upd (upd (τ.2.2.1 8) (4 * n) (nI k)) (4 * n + 1) (nI a)) (4 * n + 2) (nI t)) (4 * n + 3) (nI v) (4 * j) = τ.2.2.1 8 (4 * j) := o4 0 (by decide)
                rw [o40, o4 1 (by decide), o4 2 (by decide), o4 3 (by decide)]
                exact b4 j (by omega)
        · have h1 : m_X11_isWithin w 0 100 = some 0 := h1
          have h2 : m_X12_in w 0 100 = some 0 := h2
          exact ⟨-1, σ, τ, by simp [e1, f1, g1, h1], by simp [e2, f2, g2, h2], hinv2⟩
      · have g1 : m_X11_isWithin z 1 20 = some 0 := g1
        have g2 : m_X12_in z 1 20 = some 0 := g2
        exact ⟨-1, σ, τ, by simp [e1, f1, g1], by simp [e2, f2, g2], hinv2⟩
    · have f1 : m_X11_isWithin y 0 100 = some 0 := f1
      have f2 : m_X12_in y 0 100 = some 0 := f2
      exact ⟨-1, σ, τ, by simp [e1, f1], by simp [e2, f2], hinv2⟩
  · exact ⟨-1, σ, τ, by simp [e1], by simp [e2], hinv2⟩
