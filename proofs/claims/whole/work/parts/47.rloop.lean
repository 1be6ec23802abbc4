/-! all items -/
theorem j93 (rec : Int32 → Sx → Option (Int32 × Sx)) (x : Int32) (τ : Sx) : m_X12_room_J93 rec x τ = (endT τ).bind (fun q => rec (x + 1) q) := by
  unfold m_X12_room_J93 m_X12_room_J107 endT
  rw [Option.bind_assoc]
  by_cases h : τ.1 3 = 3
  · rw [if_pos h, if_pos h]; rfl
  · rw [if_neg h, if_neg h]; rfl
theorem l42f {τ : Sx} {q f : Nat} (h : τ.1 6 = nI q) (hq : q ≤ 200) (x : Int32) : m_X12_room_L42 (f + 1) x τ = some (x, τ) := by
  rw [m_X12_room_L42, m_X12_isWell, h, if_pos (nI_pos' (by omega)), bs, if_pos rfl]
theorem mbad {τ : Sx} {q f : Nat} (h6 : τ.1 6 = -1) (h4 : τ.1 4 = nI q) (hq : q ≤ 200) (x : Int32) : m_X12_room_J76 (m_X12_room_L42 (f + 1)) x τ = some (x + 1, sg τ 6 (nI q)) := by
  unfold m_X12_room_J76 m_X12_room_J77
  rw [tk0 h6, bs, h4]
  dsimp only
  have e : (sg τ 6 (nI q)).1 6 = nI q := rfl
  rw [m_X12_isWell, e, if_pos (nI_pos' (by omega)), bs, if_pos rfl, j93]
  unfold endT
  rw [tkf e hq, bs, bs, l42f e hq]
def Res (σ0 τ0 : Sx) (c : Option (Sum (Int32 × Sx) Sx)) (m : Option (Int32 × Sx)) : Prop := (∃ it σ' τ', c = some (.inl (nI it, σ')) ∧ m = some (nI it, τ') ∧ it ≤ 200 ∧ τ'.1 6 = -1 ∧ ce σ0 σ' ∧ me τ0 τ' ∧ Gd σ' τ') ∨ (∃ σ' x τ' q, c = some (.inl (-3, σ')) ∧ m = some (x, τ') ∧ σ'.1 9 = nI q ∧ τ'.1 6 = nI q ∧ q ≤ 200 ∧ ce σ0 σ' ∧ me τ0 τ')
theorem rloop {n : Nat} {ch : Nat → Nat} {σ0 τ0 : Sx} (hn : n ≤ 200) (hch : ∀ j, j < n → ch j ≤ 255) : ∀ (r f p it : Nat) (σ τ : Sx), n < p + r → p ≤ n → it ≤ p → r < f → Cx n ch σ → σ.1 10 = nI p → Mw n ch τ p → ce σ0 σ → me τ0 τ → Gd σ τ → Res σ0 τ0 (m_X7_readInto_L16 f (nI it) σ) (m_X12_room_L42 f (nI it) τ) := by
  intro r
  induction r with
  | zero => intro f p it σ τ h1 h2; omega
  | succ r ih =>
    intro f p it σ τ h1 hp hit hf hx h10 hw hc hm hG
    obtain ⟨f, rfl⟩ : ∃ k, f = k + 2 := ⟨f - 2, by omega⟩
    obtain ⟨σ1, a1, a2, a3, a4, a5, a6⟩ := cnx hn hch hx h10 hp
    obtain ⟨t1, t2, t3, t4, t5, t6, t7⟩ := tk_b hch hp
    have hw0 := hw
    obtain ⟨hmx, h6, c1, c2, c3, c4⟩ := hw0
    obtain ⟨d, lv, hD⟩ := hG
    have hq : (tk n ch p).2.2.1 ≤ 200 := by omega
    have bad : ∀ x, Res σ0 τ0 (some (.inl (-3, σ1))) (m_X12_room_J76 (m_X12_room_L42 (f + 1)) x τ) := fun x => by
      right
      rw [mbad h6 c3 hq]
      exact ⟨σ1, _, _, _, rfl, rfl, a3, rfl, hq, hc.tr a2.ce, hm.tr (me.sg (by decide))⟩
    have fin : ∀ (c : Option (Int32 × Sx)) (m : Option Sx), Out n ch σ0 τ0 (tk n ch p).2.2.2 Gd c m → (tk n ch p).1 ≠ 0 → Res σ0 τ0 (c.bind (fun q => if q.1 = 0 then some (.inl (-3, q.2)) else m_X7_readInto_L16 (f + 1) (nI it + 1) q.2)) (m.bind (fun q => m_X12_room_L42 (f + 1) (nI it + 1) q)) := fun c m ho hk => by
      have := t3 hk
      rcases ho with ⟨σ', τ', p', e1, e2, e3, e4, e5, e6, e7, e8, e9, e10⟩ | ⟨σ', τ', q, e1, e2, e3, e4, e5, e6, e7⟩
      · rw [e1, e2, bs, bs]
        dsimp only
        rw [if_neg n10, nI_1]
        exact ih (f + 1) p' (it + 1) σ' τ' (by omega) e4 (by omega) (by omega) e5 e6 e7 e8 e9 e10
      · rw [e1, e2, bs, bs]
        dsimp only
        rw [if_pos rfl]
        right
        exact ⟨σ', _, τ', q, rfl, l42f e5 e4 _, e3, e5, e4, e6, e7⟩
    obtain ⟨τ1, u1, u2, u3⟩ := tk1 hn hch hp hw
    have u6 : τ1.1 6 = -1 := u3.2.1
    have hx1 := hx.keep a2
    have hD1 : Dr d lv σ1 τ1 := hD.keep a2 u2
    have hc1 := hc.tr a2.ce
    have hm1 := hm.tr u2.me
    have hDs := hD.2.2.1
    have g4 : σ1.1 4 = nI (d.1 0) := hD1.2.2.1.1.1
    have g6 : σ1.1 6 = nI (d.1 2) := hD1.2.2.1.1.2.1
    have g7 : σ1.1 7 = nI (d.1 3) := hD1.2.2.1.1.2.2
    have hbb := hD.1
    have hP5 : d.1 0 ≤ 5 := hbb.1
    have hC8 : d.1 2 ≤ 8 := hbb.2.2.1
    have hD2 : d.1 3 ≤ 2 := hbb.2.2.2.1
    rw [m_X7_readInto_L16, if_neg (show ¬ (200 : Int32) < nI it from nI_nlt (a := 200) (by omega) (by decide)), a1, bs, a5, m_X12_room_L42, m_X12_isWell, h6, if_neg (show ¬ (0 : Int32) ≤ -1 by decide), bs, if_neg n10, c2]
    unfold m_X7_readInto_J156 m_X7_readInto_J157 m_X7_readInto_J181 m_X7_readInto_J182 m_X7_readInto_J130 m_X7_readInto_J131 m_X7_readInto_J106 m_X7_readInto_J107 m_X7_readInto_J186
    simp only [if_true, if_neg n10]
    rcases cd8 hch hp with ⟨k, e⟩ | ⟨k, kv, e⟩ | ⟨k, kv, e⟩ | ⟨k, kv, e⟩ | ⟨k, kv, e⟩ | ⟨k, e⟩ | ⟨k, e⟩ | ⟨k, e⟩
    · rw [e, k, if_pos rfl, if_pos (show nI 0 = 0 from rfl)]
      left
      exact ⟨it, σ1, τ, rfl, rfl, by omega, h6, hc1, hm, d, lv, hD.keep a2 (mfr.rf τ)⟩
    · have v5 : τ.1 5 = 116 := by rw [c4 (Or.inl k), kv]; rfl
      rw [e, k, if_neg (by decide), if_neg (by decide), if_neg (by decide), if_neg (by decide), if_pos rfl, if_neg (show ¬ nI 1 = 0 by decide), if_pos (show nI 1 = 1 from rfl), g4]
      unfold m_X12_mayBegin
      rw [v5, if_pos rfl, hDs.2.1]
      by_cases q : d.1 0 < 5
      · rw [if_neg (show ¬ (5 : Int32) ≤ nI (d.1 0) from nI_ge (b := 5) q (by decide)), if_neg (show ¬ (5 : Int32) ≤ nI (d.1 0) from nI_ge (b := 5) q (by decide)), bs, if_neg n10]
        unfold m_X12_room_J77
        rw [u1, bs]
        dsimp only
        rw [m_X12_isWell, u6, if_neg (show ¬ (0 : Int32) ≤ -1 by decide), bs, if_neg n10, v5]
        have h := fin _ _ (itPhone hn hch t2 hx1 a4 u3 hc1 hm1 hD1 q) (by omega)
        rw [Option.bind_assoc] at h
        simp only [j93]
        exact h
      · rw [if_pos (show (5 : Int32) ≤ nI (d.1 0) from nI_le (a := 5) (by omega) (by omega)), if_pos (show (5 : Int32) ≤ nI (d.1 0) from nI_le (a := 5) (by omega) (by omega)), bs, if_pos rfl]
        exact bad _
    · have v5 : τ.1 5 = 104 := by rw [c4 (Or.inl k), kv]; rfl
      rw [e, k, if_neg (by decide), if_neg (by decide), if_neg (by decide), if_pos rfl, if_neg (show ¬ nI 1 = 0 by decide), if_pos (show nI 1 = 1 from rfl)]
      have mb : m_X12_mayBegin τ = (if τ.1 14 = -9 then some 1 else some 0) := by
        unfold m_X12_mayBegin
        rw [v5, if_neg (by decide), if_pos rfl]
      rw [mb]
      rcases hD.2.2.2.1 with ⟨w1, w2, w3, w4⟩ | ⟨w1, w2, w3⟩
      · rw [show σ1.1 13 = 0 from (a2.1 13 (by omega)).trans w1, if_pos rfl, w3, if_pos rfl, bs, if_neg n10]
        unfold m_X12_room_J77
        rw [u1, bs]
        dsimp only
        rw [m_X12_isWell, u6, if_neg (show ¬ (0 : Int32) ≤ -1 by decide), bs, if_neg n10, v5]
        have h := fin _ _ (itHoles hn hch t2 hx1 a4 u3 hc1 hm1 hD1) (by omega)
        rw [Option.bind_assoc] at h
        simp only [j93]
        exact h
      · have hh : d.1 1 = 1 ∨ d.1 1 = 2 := hbb.2.1
        rw [show σ1.1 13 = 1 from (a2.1 13 (by omega)).trans w1, if_neg n10, w3, if_neg (show ¬ nI (d.1 1) = -9 from nI_n9 (by omega)), bs, if_pos rfl]
        exact bad _
    · have v5 : τ.1 5 = 99 := by rw [c4 (Or.inl k), kv]; rfl
      rw [e, k, if_neg (by decide), if_pos rfl, if_neg (show ¬ nI 1 = 0 by decide), if_pos (show nI 1 = 1 from rfl), g6]
      have mb : m_X12_mayBegin τ = (if 8 ≤ τ.1 12 then some 0 else some 1) := by
        unfold m_X12_mayBegin
        rw [v5, if_neg (by decide), if_neg (by decide), if_pos rfl]
      rw [mb, hDs.2.2.1]
      by_cases q : d.1 2 < 8
      · rw [if_neg (show ¬ (8 : Int32) ≤ nI (d.1 2) from nI_ge (b := 8) q (by decide)), if_neg (show ¬ (8 : Int32) ≤ nI (d.1 2) from nI_ge (b := 8) q (by decide)), bs, if_neg n10]
        unfold m_X12_room_J77
        rw [u1, bs]
        dsimp only
        rw [m_X12_isWell, u6, if_neg (show ¬ (0 : Int32) ≤ -1 by decide), bs, if_neg n10, v5]
        have h := fin _ _ (itCall hn hch t2 hx1 a4 u3 hc1 hm1 hD1 q) (by omega)
        rw [Option.bind_assoc] at h
        simp only [j93]
        exact h
      · rw [if_pos (show (8 : Int32) ≤ nI (d.1 2) from nI_le (a := 8) (by omega) (by omega)), if_pos (show (8 : Int32) ≤ nI (d.1 2) from nI_le (a := 8) (by omega) (by omega)), bs, if_pos rfl]
        exact bad _
    · have v5 : τ.1 5 = 100 := by rw [c4 (Or.inl k), kv]; rfl
      rw [e, k, if_neg (by decide), if_neg (by decide), if_pos rfl, if_neg (show ¬ nI 1 = 0 by decide), if_pos (show nI 1 = 1 from rfl), g7]
      have mb : m_X12_mayBegin τ = (if 2 ≤ τ.1 13 then some 0 else some 1) := by
        unfold m_X12_mayBegin
        rw [v5, if_neg (by decide), if_neg (by decide), if_neg (by decide)]
      rw [mb, hDs.2.2.2]
      by_cases q : d.1 3 < 2
      · rw [if_neg (show ¬ (2 : Int32) ≤ nI (d.1 3) from nI_ge (b := 2) q (by decide)), if_neg (show ¬ (2 : Int32) ≤ nI (d.1 3) from nI_ge (b := 2) q (by decide)), bs, if_neg n10]
        unfold m_X12_room_J77
        rw [u1, bs]
        dsimp only
        rw [m_X12_isWell, u6, if_neg (show ¬ (0 : Int32) ≤ -1 by decide), bs, if_neg n10, v5]
        have h := fin _ _ (itDark hn hch t2 hx1 a4 u3 hc1 hm1 hD1 q) (by omega)
        rw [Option.bind_assoc] at h
        simp only [j93]
        exact h
      · rw [if_pos (show (2 : Int32) ≤ nI (d.1 3) from nI_le (a := 2) (by omega) (by omega)), if_pos (show (2 : Int32) ≤ nI (d.1 3) from nI_le (a := 2) (by omega) (by omega)), bs, if_pos rfl]
        exact bad _
    · rw [e, k, if_neg (by decide), if_neg (by decide), if_neg (by decide), if_neg (by decide), if_neg (by decide), if_neg (show ¬ nI 2 = 0 by decide), if_neg (show ¬ nI 2 = 1 by decide)]
      exact bad _
    · rw [e, k, if_neg (by decide), if_neg (by decide), if_neg (by decide), if_neg (by decide), if_neg (by decide), if_neg (show ¬ nI 3 = 0 by decide), if_neg (show ¬ nI 3 = 1 by decide)]
      exact bad _
    · rw [e, k, if_neg (by decide), if_neg (by decide), if_neg (by decide), if_neg (by decide), if_neg (by decide), if_neg (show ¬ nI 4 = 0 by decide), if_neg (show ¬ nI 4 = 1 by decide)]
      exact bad _
