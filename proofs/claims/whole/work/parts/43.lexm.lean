/-! the reference's side -/
def mfr (τ τ' : Sx) : Prop := (∀ i, i < 2 ∨ 6 ≤ i → τ'.1 i = τ.1 i) ∧ τ'.2 = τ.2
theorem mfr.rf (τ : Sx) : mfr τ τ := ⟨fun _ _ => rfl, rfl⟩
theorem mfr.tr {a b c : Sx} (h : mfr a b) (k : mfr b c) : mfr a c := ⟨fun i hi => (k.1 i hi).trans (h.1 i hi), k.2.trans h.2⟩
theorem mfr.sg {τ : Sx} {i : Nat} {x : Int32} (h : 2 ≤ i ∧ i < 6) : mfr τ (sg τ i x) := ⟨fun j hj => if_neg (by omega), rfl⟩
def Mx (n : Nat) (ch : Nat → Nat) (τ : Sx) : Prop := τ.1 1 = nI n ∧ ∀ j, j < n → τ.2.2.1 0 j = nI (ch j)
theorem Mx.keep {n : Nat} {ch : Nat → Nat} {τ τ' : Sx} (h : Mx n ch τ) (k : mfr τ τ') : Mx n ch τ' := ⟨(k.1 1 (by omega)).trans h.1, fun j hj => by rw [k.2]; exact h.2 j hj⟩
theorem Mx.lt {n : Nat} {ch : Nat → Nat} {τ : Sx} (h : Mx n ch τ) (hn : n ≤ 200) {p : Nat} (hp : p < n) : m_X12_letterAt τ (nI p) = some (nI (ch p)) := by
  unfold m_X12_letterAt
  rw [h.1, if_neg (nI_ge hp (by omega)), ldk (n := 200) rfl (by omega) (by decide), h.2 p hp]
  rfl
theorem Mx.ge {n : Nat} {ch : Nat → Nat} {τ : Sx} (h : Mx n ch τ) {p : Nat} (hp : n ≤ p) (h2 : p < 2 ^ 31) : m_X12_letterAt τ (nI p) = some (-1) := by
  unfold m_X12_letterAt
  rw [h.1, if_pos (nI_le hp h2)]
theorem mdig {c : Nat} (h : c ≤ 255) : m_X12_in (nI c) 48 57 = some (if dgB c = true then 1 else 0) := cdig h
theorem msk {ch : Nat → Nat} {n : Nat} (hn : n ≤ 200) (hch : ∀ j, j < n → ch j ≤ 255) : ∀ (r f p : Nat) (τ : Sx), Mx n ch τ → τ.1 2 = nI p → p + r = n → r < f → ∃ τ', m_X12_advances_L0 f τ = some τ' ∧ τ'.1 2 = nI (skF ch r p) ∧ mfr τ τ' := by
  intro r
  induction r with
  | zero =>
    intro f p τ hx h10 hp hf
    obtain ⟨f, rfl⟩ : ∃ k, f = k + 1 := ⟨f - 1, by omega⟩
    exact ⟨τ, by rw [m_X12_advances_L0, h10, hx.ge (by omega) (by omega), bs, if_neg (by decide)], h10, mfr.rf τ⟩
  | succ r ih =>
    intro f p τ hx h10 hp hf
    obtain ⟨f, rfl⟩ : ∃ k, f = k + 1 := ⟨f - 1, by omega⟩
    have hc := hch p (by omega)
    rw [m_X12_advances_L0, h10, hx.lt hn (by omega), bs, skF, nI_1]
    by_cases q : ch p = 32
    · rw [if_pos (show nI (ch p) = 32 by rw [q]; rfl), if_pos q]
      obtain ⟨τ', p1, p2, p3⟩ := ih f (p + 1) (sg τ 2 (nI (p + 1))) (hx.keep (mfr.sg (by decide))) rfl (by omega) (by omega)
      exact ⟨τ', p1, p2, (mfr.sg (by decide)).tr p3⟩
    · rw [if_neg (show ¬ nI (ch p) = 32 from fun z => q ((nI_lit (k := 32) hc (by decide)).mp z)), if_neg q]
      exact ⟨τ, rfl, h10, mfr.rf τ⟩
theorem msc {ch : Nat → Nat} {n : Nat} (hn : n ≤ 200) (hch : ∀ j, j < n → ch j ≤ 255) (x1 : Int32) : ∀ (r f p m : Nat) (τ : Sx), Mx n ch τ → τ.1 2 = nI p → τ.1 5 = nI m → m ≤ 1010 → p + r = n → r < f → ∃ τ', m_X12_advances_L71 f x1 τ = some (x1, τ') ∧ τ'.1 2 = nI (dgF ch r p m).2 ∧ τ'.1 5 = nI (dgF ch r p m).1 ∧ τ'.1 4 = τ.1 4 ∧ mfr τ τ' := by
  intro r
  induction r with
  | zero =>
    intro f p m τ hx h10 h12 hm hp hf
    obtain ⟨f, rfl⟩ : ∃ k, f = k + 1 := ⟨f - 1, by omega⟩
    exact ⟨τ, by rw [m_X12_advances_L71, h10, hx.ge (by omega) (by omega), bs]; rfl, h10, h12, rfl, mfr.rf τ⟩
  | succ r ih =>
    intro f p m τ hx h10 h12 hm hp hf
    obtain ⟨f, rfl⟩ : ∃ k, f = k + 1 := ⟨f - 1, by omega⟩
    have hc := hch p (by omega)
    rw [m_X12_advances_L71, h10, hx.lt hn (by omega), bs, mdig hc, bs, dgF]
    by_cases q : dgB (ch p) = true
    · have q' : 48 ≤ ch p ∧ ch p ≤ 57 := by
        unfold dgB at q
        rw [Bool.and_eq_true, decide_eq_true_eq, decide_eq_true_eq] at q
        exact q
      rw [if_pos q, if_pos q, if_neg n10, bs, h12]
      unfold m_X12_advances_J125
      have go : ∀ x : Nat, x = (if 100 < m then m else 10 * m + ch p - 48) → ∃ τ', m_X12_advances_L71 f x1 (sg (sg τ 5 (nI x)) 2 ((sg τ 5 (nI x)).1 2 + 1)) = some (x1, τ') ∧ τ'.1 2 = nI (dgF ch r (p + 1) (if 100 < m then m else 10 * m + ch p - 48)).2 ∧ τ'.1 5 = nI (dgF ch r (p + 1) (if 100 < m then m else 10 * m + ch p - 48)).1 ∧ τ'.1 4 = τ.1 4 ∧ mfr τ τ' := fun x ex => by
        rw [← ex]
        have e2 : (sg τ 5 (nI x)).1 2 + 1 = nI (p + 1) := by
          show τ.1 2 + 1 = _
          rw [h10, nI_1]
        rw [e2]
        have k1 : mfr τ (sg (sg τ 5 (nI x)) 2 (nI (p + 1))) := (mfr.sg (by decide)).tr (mfr.sg (by decide))
        obtain ⟨τ', p1, p2, p3, p4, p5⟩ := ih f (p + 1) x _ (hx.keep k1) rfl rfl (by split at ex <;> omega) (by omega) (by omega)
        exact ⟨τ', p1, p2, p3, p4, k1.tr p5⟩
      by_cases q2 : m ≤ 100
      · rw [if_pos (show nI m ≤ 100 from nI_le (b := 100) q2 (by decide)), show (10 : Int32) * nI m = nI (10 * m) from pk_mul 10 m, nI_add, show nI (10 * m + ch p) - 48 = nI (10 * m + ch p - 48) from pk_sub (b := 48) (by omega)]
        exact go _ (by rw [if_neg (by omega)])
      · rw [if_neg (show ¬ nI m ≤ 100 from nI_ge (a := 100) (by omega) (by omega))]
        exact go _ (by rw [if_pos (by omega)])
    · rw [if_neg q, if_neg q, if_pos rfl]
      exact ⟨τ, rfl, h10, h12, rfl, mfr.rf τ⟩
/-- the token at p lies before -/
def Mt (n : Nat) (ch : Nat → Nat) (τ : Sx) (p : Nat) : Prop := τ.1 2 = nI (tk n ch p).2.2.2 ∧ τ.1 3 = nI (tk n ch p).1 ∧ τ.1 4 = nI (tk n ch p).2.2.1 ∧ ((tk n ch p).1 = 1 ∨ (tk n ch p).1 = 2 → τ.1 5 = nI (tk n ch p).2.1)
theorem mnx {ch : Nat → Nat} {n p : Nat} {τ : Sx} (hn : n ≤ 200) (hch : ∀ j, j < n → ch j ≤ 255) (hx : Mx n ch τ) (h10 : τ.1 2 = nI p) (hp : p ≤ n) : ∃ τ', m_X12_advances τ = some τ' ∧ mfr τ τ' ∧ Mt n ch τ' p := by
  obtain ⟨τ1, a1, a2, a3⟩ := msk hn hch (n - p) FU p τ hx h10 (by omega) (by unfold FU; omega)
  have hq := skF_b ch (n - p) p
  unfold m_X12_advances
  rw [a1, bs]
  unfold Mt tk
  generalize skF ch (n - p) p = q at hq a2
  have hx1 := hx.keep a3
  have k2 : mfr τ (sg τ1 4 (nI q)) := a3.tr (mfr.sg (by decide))
  rw [a2]
  generalize hτ2 : sg τ1 4 (nI q) = τ2 at k2
  have b2 : τ2.1 2 = nI q := by rw [← hτ2]; exact a2
  have b4 : τ2.1 4 = nI q := by rw [← hτ2]; rfl
  have hx2 := hx.keep k2
  rw [b2]
  unfold tkQ
  by_cases h1 : n ≤ q
  · rw [hx2.ge h1 (by omega), bs, if_neg (by decide), if_pos h1]
    exact ⟨_, rfl, k2.tr (mfr.sg (by decide)), b2, rfl, b4, fun z => absurd (show (0 : Nat) = 1 ∨ (0 : Nat) = 2 from z) (by decide)⟩
  · have hc := hch q (by omega)
    rw [hx2.lt hn (by omega), bs, if_pos (nI_pos' (by omega)), if_neg h1, mdig hc, bs]
    by_cases h2 : dgB (ch q) = true
    · rw [if_pos h2, if_neg n10, if_pos h2]
      have k3 : mfr τ (sg τ2 5 0) := k2.tr (mfr.sg (by decide))
      obtain ⟨τ3, d1, d2, d3, d4, d5⟩ := msc hn hch (nI (ch q)) (n - q) FU q 0 (sg τ2 5 0) (hx.keep k3) b2 rfl (by decide) (by omega) (by unfold FU; omega)
      have hb := dgF_b hch (n - q) q 0 (by omega) (by omega)
      have k4 := k3.tr d5
      have d9 : τ3.1 4 = nI q := d4.trans b4
      rw [d1, bs]
      unfold tkD
      generalize (dgF ch (n - q) q 0).1 = v at d2 d3 hb
      generalize (dgF ch (n - q) q 0).2 = e at d2 d3 hb
      dsimp only
      rw [d9, d2, pk_sub (by omega), d3]
      have good : ¬ (100 < v ∨ (ch q = 48 ∧ 1 < e - q)) → ∃ τ', some (sg τ3 3 2) = some τ' ∧ mfr τ τ' ∧ τ'.1 2 = nI e ∧ τ'.1 3 = nI (if 100 < v ∨ (ch q = 48 ∧ 1 < e - q) then 4 else 2) ∧ τ'.1 4 = nI q ∧ ((if 100 < v ∨ (ch q = 48 ∧ 1 < e - q) then 4 else 2) = 1 ∨ (if 100 < v ∨ (ch q = 48 ∧ 1 < e - q) then 4 else 2) = 2 → τ'.1 5 = nI v) := fun hz => by
        rw [if_neg hz]
        exact ⟨_, rfl, k4.tr (mfr.sg (by decide)), d2, rfl, d9, fun _ => d3⟩
      have bad : (100 < v ∨ (ch q = 48 ∧ 1 < e - q)) → ∃ τ', some (sg τ3 3 4) = some τ' ∧ mfr τ τ' ∧ τ'.1 2 = nI e ∧ τ'.1 3 = nI (if 100 < v ∨ (ch q = 48 ∧ 1 < e - q) then 4 else 2) ∧ τ'.1 4 = nI q ∧ ((if 100 < v ∨ (ch q = 48 ∧ 1 < e - q) then 4 else 2) = 1 ∨ (if 100 < v ∨ (ch q = 48 ∧ 1 < e - q) then 4 else 2) = 2 → τ'.1 5 = nI v) := fun hz => by
        rw [if_pos hz]
        exact ⟨_, rfl, k4.tr (mfr.sg (by decide)), d2, rfl, d9, fun z => absurd z (by decide)⟩
      by_cases hv : 100 < v
      · rw [if_pos (show (100 : Int32) < nI v from nI_lt (a := 100) hv (by omega))]
        exact bad (Or.inl hv)
      · rw [if_neg (show ¬ (100 : Int32) < nI v from nI_nlt (a := 100) (by omega) (by decide))]
        by_cases h3 : ch q = 48
        · rw [if_pos (show nI (ch q) = 48 by rw [h3]; rfl)]
          by_cases h4 : e - q ≤ 1
          · rw [if_pos (show nI (e - q) ≤ 1 from nI_le (b := 1) h4 (by decide))]
            exact good (fun z => by omega)
          · rw [if_neg (show ¬ nI (e - q) ≤ 1 from nI_ge (a := 1) (by omega) (by omega))]
            exact bad (Or.inr ⟨h3, by omega⟩)
        · rw [if_neg (show ¬ nI (ch q) = 48 from fun z => h3 ((nI_lit (k := 48) hc (by decide)).mp z))]
          exact good (fun z => by omega)
    · rw [if_neg h2, if_pos rfl, if_neg h2]
      have fin : ∀ (kk : Nat), ∃ τ', some (sg (sg (sg τ2 2 (nI q + 1)) 5 (nI (ch q))) 3 (nI kk)) = some τ' ∧ mfr τ τ' ∧ τ'.1 2 = nI (q + 1) ∧ τ'.1 3 = nI kk ∧ τ'.1 4 = nI q ∧ (kk = 1 ∨ kk = 2 → τ'.1 5 = nI (ch q)) := fun kk => by
        refine ⟨_, rfl, ((k2.tr (mfr.sg (by decide))).tr (mfr.sg (by decide))).tr (mfr.sg (by decide)), ?_, rfl, b4, fun _ => rfl⟩
        show nI q + 1 = _
        rw [nI_1]
      by_cases h5 : ch q = 59
      · rw [if_pos (show nI (ch q) = 59 by rw [h5]; rfl), if_pos h5]
        exact fin 3
      · rw [if_neg (show ¬ nI (ch q) = 59 from fun z => h5 ((nI_lit (k := 59) hc (by decide)).mp z)), if_neg h5]
        by_cases c1 : ch q = 116
        · rw [if_pos (show nI (ch q) = 116 by rw [c1]; rfl), if_pos (show sgB (ch q) = true by rw [c1]; rfl)]
          exact fin 1
        · rw [if_neg (show ¬ nI (ch q) = 116 from fun z => c1 ((nI_lit (k := 116) hc (by decide)).mp z))]
          by_cases c2 : ch q = 104
          · rw [if_pos (show nI (ch q) = 104 by rw [c2]; rfl), if_pos (show sgB (ch q) = true by rw [c2]; rfl)]
            exact fin 1
          · rw [if_neg (show ¬ nI (ch q) = 104 from fun z => c2 ((nI_lit (k := 104) hc (by decide)).mp z))]
            by_cases c3 : ch q = 99
            · rw [if_pos (show nI (ch q) = 99 by rw [c3]; rfl), if_pos (show sgB (ch q) = true by rw [c3]; rfl)]
              exact fin 1
            · rw [if_neg (show ¬ nI (ch q) = 99 from fun z => c3 ((nI_lit (k := 99) hc (by decide)).mp z))]
              by_cases c4 : ch q = 100
              · rw [if_pos (show nI (ch q) = 100 by rw [c4]; rfl), if_pos (show sgB (ch q) = true by rw [c4]; rfl)]
                exact fin 1
              · rw [if_neg (show ¬ nI (ch q) = 100 from fun z => c4 ((nI_lit (k := 100) hc (by decide)).mp z)), if_neg (show ¬ sgB (ch q) = true by unfold sgB; simp [c1, c2, c3, c4])]
                exact fin 4
