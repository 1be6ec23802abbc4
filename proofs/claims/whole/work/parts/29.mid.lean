theorem cN_lv (σ : Sx) {k : Nat} (h : k < 5) : cN σ (4 + k) = σ.2.2.1 17 k := by
  unfold cN
  rw [if_neg (by omega), if_neg (by omega), if_neg (by omega), if_neg (by omega), if_pos (by omega), show 4 + k - 4 = k by omega]
theorem cN_to (σ : Sx) (k : Nat) : cN σ (9 + k) = σ.2.2.1 18 k := by
  unfold cN
  rw [if_neg (by omega), if_neg (by omega), if_neg (by omega), if_neg (by omega), if_neg (by omega), show 9 + k - 9 = k by omega]
/-! bits of small sets -/
def pcN (k : Nat) : Nat := k % 2 + k / 2 % 2 + k / 4 % 2 + k / 8 % 2 + k / 16 % 2
theorem bc32 : ∀ k : Fin 32, m_J6_bitCount_0f7a4 (nI k.val) = some (nI (pcN k.val)) := by decide +kernel
theorem on32 : ∀ k : Fin 32, (((((0 + ((nI k.val >>> ((0 : Int32) &&& 31)) &&& 1)) + ((nI k.val >>> ((0 + 1 : Int32) &&& 31)) &&& 1)) + ((nI k.val >>> ((0 + 1 + 1 : Int32) &&& 31)) &&& 1)) + ((nI k.val >>> ((0 + 1 + 1 + 1 : Int32) &&& 31)) &&& 1)) + ((nI k.val >>> ((0 + 1 + 1 + 1 + 1 : Int32) &&& 31)) &&& 1)) = nI (pcN k.val) := by decide +kernel
theorem bitk : ∀ (o : Fin 32) (k : Fin 5), ((nI o.val >>> (nI k.val &&& 31)) &&& 1) = nI (o.val / 2 ^ k.val % 2) := by decide +kernel
theorem shl1 : ∀ P : Fin 6, ((1 : Int32) <<< (nI P.val &&& 31)) = nI (2 ^ P.val) := by decide +kernel
theorem ones_ok {k : Nat} (h : k < 32) : m_X12_ones (nI k) = some (nI (pcN k)) := by
  have hx := on32 ⟨k, h⟩
  dsimp only at hx
  unfold m_X12_ones
  rw [show FU = 99994 + 6 from rfl]
  rw [m_X12_ones_L4, if_neg (by decide), m_X12_ones_L4, if_neg (by decide), m_X12_ones_L4, if_neg (by decide), m_X12_ones_L4, if_neg (by decide), m_X12_ones_L4, if_neg (by decide), m_X12_ones_L4, if_pos (by decide), bs, hx]
theorem pow5 {P : Nat} (h : P ≤ 5) : 2 ^ P ≤ 32 := by
  rcases (show P = 0 ∨ P = 1 ∨ P = 2 ∨ P = 3 ∨ P = 4 ∨ P = 5 by omega) with rfl | rfl | rfl | rfl | rfl | rfl <;> decide
def okS (d : TD) (k : Nat) : Bool := decide (pcN k ≤ d.1 1)
theorem cbo {σ : Sx} {d : TD} (hb : bT d) (hc : cT σ d) {k : Nat} (hk : k < 2 ^ d.1 0) : m_X10_canBeOn σ (nI k) = some (if okS d k = true then 1 else 0) := by
  have hP := hb.1
  have h32 := pow5 hP
  unfold m_X10_canBeOn okS
  have e := shl1 ⟨d.1 0, by omega⟩
  dsimp only at e
  have hp : pcN k ≤ 5 := by unfold pcN; omega
  have hH : d.1 1 ≤ 2 := by rcases hb.2.1 with h | h <;> omega
  have f := bc32 ⟨k, by omega⟩
  dsimp only at f
  rw [if_neg (nI_pos (by omega)), hc.1.1, e, if_neg (nI_ge hk (by omega)), f, bs, hc.1.2.1]
  by_cases q : d.1 1 < pcN k
  · rw [if_pos (nI_lt q (by omega))]
    have : ¬ pcN k ≤ d.1 1 := by omega
    simp [this]
  · rw [if_neg (nI_nlt (by omega) (by omega))]
    have : pcN k ≤ d.1 1 := by omega
    simp [this]
theorem mis {τ : Sx} {d : TD} (hb : bT d) (hm : mT τ d) {k : Nat} (hk : k < 2 ^ d.1 0) : m_X12_isSet τ (nI k) = some (if okS d k = true then 1 else 0) := by
  have hP := hb.1
  have h32 := pow5 hP
  unfold m_X12_isSet okS
  have e := shl1 ⟨d.1 0, by omega⟩
  dsimp only at e
  have hp : pcN k ≤ 5 := by unfold pcN; omega
  have hH : d.1 1 ≤ 2 := by rcases hb.2.1 with h | h <;> omega
  rw [hm.1.1, e, min_]
  have z1 : ¬ nI k < 0 := nI_pos (by omega)
  have z2 : ¬ nI (2 ^ d.1 0) - 1 < nI k := by
    rw [Int32.lt_iff_toInt_lt, nI_m1 _ (by omega), nI_toInt (by omega)]
    omega
  rw [if_pos ⟨z1, z2⟩, bs, if_neg (by decide), ones_ok (by omega), bs, hm.1.2.1]
  by_cases q : d.1 1 < pcN k
  · rw [if_pos (nI_lt q (by omega))]
    have : ¬ pcN k ≤ d.1 1 := by omega
    simp [this]
  · rw [if_neg (nI_nlt (by omega) (by omega))]
    have : pcN k ≤ d.1 1 := by omega
    simp [this]
theorem setc {σ τ : Sx} {d : TD} (hb : bT d) (hc : cT σ d) (hm : mT τ d) (x : Int32) : (∃ k, k < 2 ^ d.1 0 ∧ x = nI k ∧ okS d k = true ∧ m_X10_canBeOn σ x = some 1 ∧ m_X12_isSet τ x = some 1) ∨ (m_X10_canBeOn σ x = some 0 ∧ m_X12_isSet τ x = some 0) := by
  have hP := hb.1
  have h32 := pow5 hP
  have e := shl1 ⟨d.1 0, by omega⟩
  dsimp only at e
  by_cases h0 : x < 0
  · right
    unfold m_X10_canBeOn m_X12_isSet
    rw [if_pos h0, min_, if_neg (fun z => z.1 h0), bs, if_pos rfl]
    exact ⟨rfl, rfl⟩
  · obtain ⟨k, hk, rfl⟩ := nI_of h0
    by_cases h1 : k < 2 ^ d.1 0
    · cases ho : okS d k with
      | true =>
        left
        refine ⟨k, h1, rfl, ho, ?_, ?_⟩
        · rw [cbo hb hc h1, ho]; rfl
        · rw [mis hb hm h1, ho]; rfl
      | false =>
        right
        refine ⟨?_, ?_⟩
        · rw [cbo hb hc h1, ho]; rfl
        · rw [mis hb hm h1, ho]; rfl
    · right
      unfold m_X10_canBeOn m_X12_isSet
      rw [if_neg h0, hc.1.1, e, if_pos (nI_le (by omega) hk), hm.1.1, e, min_, if_neg (fun z => z.2 (by rw [Int32.lt_iff_toInt_lt, nI_m1 _ (by omega), nI_toInt hk]; omega)), bs, if_pos rfl]
      exact ⟨rfl, rfl⟩
theorem SN.on {P : Nat} {f g : Nat → Int32} (h : SN P f g) : ∃ o, o < 2 ^ P ∧ g 1 = nI o ∧ f 1 = nI o := by
  obtain ⟨a, -, o, h1, h2⟩ := h
  exact ⟨o, h1, h2, (a 1 (by decide)).trans h2⟩
/-- a new NOW on both sides, all else as it was -/
theorem INV_now {d : TD} {σ τ σ' τ' : Sx} (hR : Rst d σ τ) (hc : fc σ σ') (hm : fm τ τ') (hN : iNow (d.1 0) σ' τ') : INV σ' τ' := INV_iff.mpr ⟨d, hR.keep hc hm, hN⟩
theorem INV_th {σ τ : Sx} (h : INV σ τ) : INV σ (sg τ 0 0) := h
theorem OKputs : OK_puts INV := by
  intro σ τ x hinv
  have hinv2 : INV σ (sg τ 0 0) := hinv
  unfold m_X12_puts m_X11_puts
  generalize sg τ 0 0 = τ at hinv2 ⊢
  obtain ⟨d, hR, hN⟩ := INV_iff.mp hinv2
  have hR0 := hR
  obtain ⟨hb, hc, hm, -⟩ := hR0
  rcases setc hb hc hm x with ⟨k, hk, rfl, -, e1, e2⟩ | ⟨e1, e2⟩
  · obtain ⟨σ1, τ1, w1, w2, hR1, hN1, ⟨s1, s2⟩, t1, t2⟩ := note_ok hR hN
    have h5 : d.1 0 ≤ 5 := hb.1
    obtain ⟨o, ho, hg1, hf1⟩ := hN1.on
    have hf1 : σ1.1 15 = nI o := hf1
    have hup : σ1.1 16 = τ1.2.2.1 4 2 := hN1.1 2 (by decide)
    have l1 : ldA mLn τ1 4 2 = some (τ1.2.2.1 4 2) := ldk (k := 2) (n := 14) rfl (by decide) (by decide)
    have l2 : ldA mLn τ1 4 1 = some (τ1.2.2.1 4 1) := ldk (k := 1) (n := 14) rfl (by decide) (by decide)
    have st2 : ∀ (τ : Sx) x, stA mLn τ 4 2 x = some (sr τ 4 (upd (τ.2.2.1 4) 2 x)) := fun τ x => stk (k := 2) (n := 14) rfl (by decide) (by decide)
    have st1 : ∀ (τ : Sx) x, stA mLn τ 4 1 x = some (sr τ 4 (upd (τ.2.2.1 4) 1 x)) := fun τ x => stk (k := 1) (n := 14) rfl (by decide) (by decide)
    have l3 : ∀ τ : Sx, ldA mLn τ 4 2 = some (τ.2.2.1 4 2) := fun τ => ldk (k := 2) (n := 14) rfl (by decide) (by decide)
    rw [e1, e2, bs, bs, if_neg (by decide), if_neg (by decide), w1, w2, bs, bs]
    unfold m_X12_sets_s m_X12_sets_s_J16
    rw [l1, l2, bs, bs, hf1, hg1]
    by_cases hko : k = o
    · subst hko
      rw [if_pos rfl, if_pos rfl, st2, bs, st1, bs, sr_sr, bs, l3, bs]
      refine ⟨σ1.1 16, σ1, sr τ1 4 (upd (upd (τ1.2.2.1 4) 2 (τ1.2.2.1 4 2 + 0)) 1 (nI k)), rfl, ?_, INV_now hR1 (fc.rf _) ⟨⟨rfl, rfl, rfl, rfl, rfl, rfl, rfl⟩, rfl, fun j hj => ?_⟩ ?_⟩
      · rw [hup]
        show some (τ1.2.2.1 4 2 + 0, _) = _
        rw [Int32.add_zero]
        rfl
      · exact sr_ne (by omega)
      · refine hN1.congr h5 (fun i hi => rfl) (fun i hi => ?_)
        show upd (upd (τ1.2.2.1 4) 2 (τ1.2.2.1 4 2 + 0)) 1 (nI k) i = τ1.2.2.1 4 i
        unfold upd
        by_cases q1 : i = 1
        · rw [if_pos q1, q1]; exact hg1.symm
        · rw [if_neg q1]
          by_cases q2 : i = 2
          · rw [if_pos q2, q2]; exact Int32.add_zero _
          · rw [if_neg q2]
    · rw [if_neg (fun z => hko ((nI_eq (by have := pow5 h5; omega) (by have := pow5 h5; omega)).mp z)), if_neg (fun z => hko ((nI_eq (by have := pow5 h5; omega) (by have := pow5 h5; omega)).mp z).symm), st2, bs, st1, bs, sr_sr, bs, l3, bs]
      refine ⟨σ1.1 16 + 1, sg (sg σ1 15 (nI k)) 16 ((sg σ1 15 (nI k)).1 16 + 1), sr τ1 4 (upd (upd (τ1.2.2.1 4) 2 (τ1.2.2.1 4 2 + 1)) 1 (nI k)), rfl, ?_, INV_now hR1 ⟨fun i hi => ?_, rfl, fun j hj => rfl⟩ ⟨⟨rfl, rfl, rfl, rfl, rfl, rfl, rfl⟩, rfl, fun j hj => ?_⟩ ?_⟩
      · rw [hup]
        rfl
      · show (if i = 16 then _ else (if i = 15 then _ else σ1.1 i)) = _
        rw [if_neg (by omega), if_neg (by omega)]
      · exact sr_ne (by omega)
      · obtain ⟨q1, ⟨t, b1, b2, b3⟩, o2, c1, c2⟩ := hN1
        refine ⟨fun i hi => ?_, ⟨t, b1, b2, fun j hj => ?_⟩, k, hk, rfl⟩
        · rcases (show i = 0 ∨ i = 1 ∨ i = 2 ∨ i = 3 by omega) with rfl | rfl | rfl | rfl
          · exact q1 0 (by decide)
          · rfl
          · show σ1.1 16 + 1 = τ1.2.2.1 4 2 + 1
            rw [hup]
          · exact q1 3 (by decide)
        · obtain ⟨v, c, z1, z2, z3, z4, z5, z6⟩ := b3 j hj
          refine ⟨v, c, z1, z2, ?_, ?_, ?_, ?_⟩
          · show upd (upd (τ1.2.2.1 4) 2 _) 1 _ (4 + j) = _
            rw [upd_n _ _ (by omega), upd_n _ _ (by omega)]; exact z3
          · rw [cN_lv _ (by omega)]; rw [cN_lv _ (by omega)] at z4; exact z4
          · show upd (upd (τ1.2.2.1 4) 2 _) 1 _ (9 + j) = _
            rw [upd_n _ _ (by omega), upd_n _ _ (by omega)]; exact z5
          · rw [cN_to]; rw [cN_to] at z6; exact z6
  · rw [e1, e2, bs, bs, if_pos rfl, if_pos rfl]
    exact ⟨_, _, _, rfl, rfl, hinv2⟩
