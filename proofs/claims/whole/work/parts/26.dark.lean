/-! DARK -/
def dkF (d : TD) (t : Nat) : Nat → Nat → Bool
  | 0, _ => false
  | r + 1, i => (decide (d.2 5 i ≤ t) && decide (t ≤ d.2 6 i)) || dkF d t r (i + 1)
def dkN (d : TD) (t : Nat) : Bool := dkF d t (d.1 3) 0
theorem cdk {σ : Sx} {d : TD} (hb : bT d) (hc : cT σ d) {t : Nat} (ht : t < 2 ^ 31) : ∀ (r n i : Nat), i + r = d.1 3 → r < n → m_X10_isDark_L2 σ n (nI t) (nI i) = some (if dkF d t r i = true then .inl 1 else .inr ()) := by
  obtain ⟨-, -, -, hD, -, -, hd⟩ := hb
  obtain ⟨⟨-, -, -, c3⟩, -, -, cd⟩ := hc
  intro r
  induction r with
  | zero =>
    intro n i hi hn
    obtain ⟨n, rfl⟩ : ∃ k, n = k + 1 := ⟨n - 1, by omega⟩
    rw [m_X10_isDark_L2, c3, if_pos (nI_le (by omega) (by omega))]
    rfl
  | succ r ih =>
    intro n i hi hn
    obtain ⟨n, rfl⟩ : ∃ k, n = k + 1 := ⟨n - 1, by omega⟩
    have hlt : i < d.1 3 := by omega
    obtain ⟨b1, b2⟩ := hd i hlt
    rw [m_X10_isDark_L2, c3, if_neg (nI_ge (by omega) (by omega)), ldk (n := 2) rfl (by omega) (by decide), bs, (cd i hlt).1, ldk (n := 2) rfl (by omega) (by decide), bs, (cd i hlt).2, nI_1, ih n (i + 1) (by omega) (by omega)]
    rw [dkF]
    by_cases h1 : t < d.2 5 i
    · rw [if_pos (nI_lt h1 (by omega))]
      have : ¬ d.2 5 i ≤ t := by omega
      simp [this]
    · rw [if_neg (nI_nlt (by omega) ht)]
      by_cases h2 : d.2 6 i < t
      · rw [if_pos (nI_lt h2 ht)]
        have : ¬ t ≤ d.2 6 i := by omega
        simp [this]
      · rw [if_neg (nI_nlt (by omega) (by omega))]
        have q1 : d.2 5 i ≤ t := by omega
        have q2 : t ≤ d.2 6 i := by omega
        simp [q1, q2]
theorem cdark {σ : Sx} {d : TD} (hb : bT d) (hc : cT σ d) {t : Nat} (ht : t < 2 ^ 31) : m_X10_isDark σ (nI t) = some (if dkN d t = true then 1 else 0) := by
  have hD := hb.2.2.2.1
  unfold m_X10_isDark
  rw [show (0 : Int32) = nI 0 from rfl, cdk hb hc ht (d.1 3) FU 0 (by omega) (by unfold FU; omega), bs]
  unfold dkN
  split <;> rfl
theorem min_ {a b c : Int32} : m_X12_in a b c = some (if ¬ a < b ∧ ¬ c < a then 1 else 0) := by
  unfold m_X12_in
  by_cases h1 : a < b
  · simp [h1]
  · by_cases h2 : c < a <;> simp [h1, h2]
theorem mdk {τ : Sx} {d : TD} (hb : bT d) (hm : mT τ d) {t : Nat} (ht : t < 2 ^ 31) : ∀ (r n i : Nat) (x : Bool), i + r = d.1 3 → r < n → m_X12_isDark_L4 τ n (nI t) (if x = true then 1 else 0) (nI i) = some (if (x || dkF d t r i) = true then 1 else 0) := by
  obtain ⟨-, -, -, hD, -, -, hd⟩ := hb
  obtain ⟨⟨-, -, -, c3⟩, -, -, cd⟩ := hm
  intro r
  induction r with
  | zero =>
    intro n i x hi hn
    obtain ⟨n, rfl⟩ : ∃ k, n = k + 1 := ⟨n - 1, by omega⟩
    rw [m_X12_isDark_L4, c3, if_pos (nI_le (by omega) (by omega))]
    simp [dkF]
  | succ r ih =>
    intro n i x hi hn
    obtain ⟨n, rfl⟩ : ∃ k, n = k + 1 := ⟨n - 1, by omega⟩
    have hlt : i < d.1 3 := by omega
    obtain ⟨b1, b2⟩ := hd i hlt
    have i1 := ih n (i + 1) true (by omega) (by omega)
    have i0 := ih n (i + 1) false (by omega) (by omega)
    rw [m_X12_isDark_L4, c3, if_neg (nI_ge (by omega) (by omega)), nI_1]
    cases x with
    | true =>
      rw [if_neg (by decide)]
      simpa using i1
    | false =>
      have e1 : (2 : Int32) * nI i = nI (2 * i) := pk_mul 2 i
      rw [if_pos (by decide), e1, nI_1, ldk (n := 8) rfl (by omega) (by decide), bs, (cd i hlt).1, ldk (n := 8) rfl (by omega) (by decide), bs, (cd i hlt).2, min_, bs]
      rw [dkF]
      have z1 : nI t < nI (d.2 5 i) ↔ t < d.2 5 i := nI_ltI (by omega) (by omega)
      have z2 : nI (d.2 6 i) < nI t ↔ d.2 6 i < t := nI_ltI (by omega) (by omega)
      by_cases h1 : t < d.2 5 i
      · have : ¬ d.2 5 i ≤ t := by omega
        simpa [z1, z2, h1, this] using i0
      · by_cases h2 : d.2 6 i < t
        · have : ¬ t ≤ d.2 6 i := by omega
          simpa [z1, z2, h1, h2, this] using i0
        · have q1 : d.2 5 i ≤ t := by omega
          have q2 : t ≤ d.2 6 i := by omega
          simpa [z1, z2, h1, h2, q1, q2] using i1
theorem mdark {τ : Sx} {d : TD} (hb : bT d) (hm : mT τ d) {t : Nat} (ht : t < 2 ^ 31) : m_X12_isDark τ (nI t) = some (if dkN d t = true then 1 else 0) := by
  have hD := hb.2.2.2.1
  have h := mdk hb hm ht (d.1 3) FU 0 false (by omega) (by unfold FU; omega)
  unfold m_X12_isDark
  have h : m_X12_isDark_L4 τ FU (nI t) 0 0 = some (if (false || dkN d t) = true then 1 else 0) := h
  rw [h, bs, Bool.false_or]
  split <;> rfl
theorem OKdark : OK_dark INV := by
  intro σ τ x hinv
  have hinv2 := hinv
  obtain ⟨d, hb, hc, hm, hn, hk, hi, hs, ht, htr⟩ := hinv
  rcases wl x 160 (by decide) with ⟨c, hcc, rfl, e1, e2⟩ | ⟨e1, e2⟩
  · have e1 : m_X11_isWithin (nI c) 0 160 = some 1 := e1
    have e2 : m_X12_in (nI c) 0 160 = some 1 := e2
    have hm2 : mT (sg τ 0 0) d := hm
    have f1 := cdark hb hc (t := c) (by omega)
    have f2 := mdark hb hm2 (t := c) (by omega)
    cases hdk : dkN d c with
    | true =>
      rw [hdk] at f1 f2
      exact ⟨1, sg τ 0 0, by simp [m_X11_dark, e1, f1], by simp [m_X12_dark, e2, f2], hinv2⟩
    | false =>
      rw [hdk] at f1 f2
      exact ⟨0, sg τ 0 0, by simp [m_X11_dark, e1, f1], by simp [m_X12_dark, e2, f2], hinv2⟩
  · have e1 : m_X11_isWithin x 0 160 = some 0 := e1
    have e2 : m_X12_in x 0 160 = some 0 := e2
    exact ⟨-1, sg τ 0 0, by simp [m_X11_dark, e1], by simp [m_X12_dark, e2], hinv2⟩
