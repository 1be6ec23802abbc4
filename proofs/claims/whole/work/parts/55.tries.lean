/-! the reference tries its ways -/
theorem mow {τ : Sx} {P : Nat} {v : Nat → Nat} (hP : P ≤ 5) (hm : τ.1 7 = nI P) (hv : hvM P 5 τ v) (hb : ∀ k, k < P → v k ≤ 100) : ∀ (r n i a : Nat), i + r = P → r < n → a < 2 ^ i → m_X12_outOnes_w_L4 τ n (nI a) (nI i) = some (nI (oF v r i a)) := by
  intro r
  induction r with
  | zero =>
    intro n i a hi hn ha
    obtain ⟨n, rfl⟩ : ∃ k, n = k + 1 := ⟨n - 1, by omega⟩
    rw [m_X12_outOnes_w_L4, hm, if_pos (nI_le (by omega) (by omega))]
    rfl
  | succ r ih =>
    intro n i a hi hn ha
    obtain ⟨n, rfl⟩ : ∃ k, n = k + 1 := ⟨n - 1, by omega⟩
    obtain ⟨p1, p2⟩ := pw5 ⟨i, by omega⟩
    dsimp only at p1 p2
    have ho := or5 ⟨a, by omega⟩ ⟨i, by omega⟩ ha
    dsimp only at ho
    have hz0 : nI a ||| 0 = nI a := Int32.or_zero
    rw [m_X12_outOnes_w_L4, hm, if_neg (nI_ge (by omega) (by omega)), show (4 : Int32) + nI i = nI (4 + i) from nI_add 4 i, ldk (n := 14) rfl (by omega) (by decide), bs, hv i (by omega), ho, nI_1, hz0, oF]
    by_cases hz : v i = 0
    · rw [if_pos hz, if_pos (by rw [hz]; rfl)]
      exact ih n (i + 1) _ (by omega) (by omega) (by rw [p2]; omega)
    · have := hb i (by omega)
      rw [if_neg hz, if_neg (nI_ne0 (by omega) (by omega))]
      exact ih n (i + 1) _ (by omega) (by omega) (by rw [p2]; omega)
theorem mowN {τ : Sx} {P : Nat} {v : Nat → Nat} (hP : P ≤ 5) (hm : τ.1 7 = nI P) (hv : hvM P 5 τ v) (hb : ∀ k, k < P → v k ≤ 100) : m_X12_outOnes_w τ = some (nI (oF v P 0 0)) := by
  have h := mow hP hm hv hb P FU 0 0 (by omega) (by unfold FU; omega) (by decide)
  have h : m_X12_outOnes_w_L4 τ FU 0 0 = _ := h
  unfold m_X12_outOnes_w
  rw [h, bs]
theorem mwo {τ : Sx} {P : Nat} {v : Nat → Nat} (hP : P ≤ 5) (hm : τ.1 7 = nI P) (hv : hvM P 5 τ v) (hb : ∀ k, k < P → v k ≤ 100) : (m_X12_outOnes_w τ).bind (fun x => m_X12_ones x) = some (nI (outN v P)) := by
  have ol := oF_lt v P 0 0 (by omega) (by decide)
  rw [Nat.zero_add] at ol
  have h32 := pow5 hP
  have e := pc_oF v P 0 0 (by omega) (by decide)
  rw [mowN hP hm hv hb, bs, ones_ok (by omega), e]
  show some (nI (pcN 0 + outN v P)) = _
  rw [show pcN 0 = 0 from rfl, Nat.zero_add]
theorem mpw {c N : Nat} (hN : N ≤ 4) : ∀ (r f k : Nat), k + r = N → r < f → m_X12_power_L4 f (nI c) (nI N) (nI (c ^ k)) (nI k) = some (nI (c ^ N)) := by
  intro r
  induction r with
  | zero =>
    intro f k hk hf
    obtain ⟨f, rfl⟩ : ∃ k, f = k + 1 := ⟨f - 1, by omega⟩
    obtain rfl : k = N := by omega
    rw [m_X12_power_L4, if_pos (nI_le (by omega) (by omega))]
  | succ r ih =>
    intro f k hk hf
    obtain ⟨f, rfl⟩ : ∃ k, f = k + 1 := ⟨f - 1, by omega⟩
    rw [m_X12_power_L4, if_neg (nI_ge (by omega) (by omega)), pk_mul, ← Nat.pow_succ, nI_1]
    exact ih f (k + 1) (by omega) (by omega)
theorem mpwN {c N : Nat} (hN : N ≤ 4) : m_X12_power (nI c) (nI N) = some (nI (c ^ N)) := by
  have h := mpw (c := c) hN N FU 0 (by omega) (by unfold FU; omega)
  have h : m_X12_power_L4 FU (nI c) (nI N) 1 0 = _ := h
  unfold m_X12_power
  rw [h, bs]
def qf (τ τ' : Sx) : Prop := (∀ i, i < 17 → τ'.1 i = τ.1 i) ∧ τ'.2.1 = τ.2.1 ∧ ∀ a, a ≠ 5 → a ≠ 9 → a ≠ 10 → a ≠ 11 → τ'.2.2.1 a = τ.2.2.1 a
theorem qf.rf (τ : Sx) : qf τ τ := ⟨fun _ _ => rfl, rfl, fun _ _ _ _ _ => rfl⟩
theorem qf.tr {a b c : Sx} (h : qf a b) (k : qf b c) : qf a c := ⟨fun i hi => (k.1 i hi).trans (h.1 i hi), k.2.1.trans h.2.1, fun x h1 h2 h3 h4 => (k.2.2 x h1 h2 h3 h4).trans (h.2.2 x h1 h2 h3 h4)⟩
theorem qf.mt {τ τ' : Sx} {d : TD} (h : qf τ τ') (k : mT τ d) : mT τ' d := k.keep ⟨h.1 7 (by omega), h.1 10 (by omega), h.1 8 (by omega), h.1 9 (by omega)⟩ (fun j h1 h2 => h.2.2 j (by omega) (by omega) (by omega) (by omega))
theorem mch {d : TD} (hb : bT d) : ∀ (m f s c : Nat) (τ : Sx), mT τ d → τ.1 17 = nI c → c + (cl (d.1 1) m s).length ≤ 16 → s + m = 2 ^ d.1 0 → m < f → ∃ τ', m_X12_choose_L7 f (nI s) τ = some τ' ∧ qf τ τ' ∧ τ'.1 17 = nI (c + (cl (d.1 1) m s).length) ∧ (∀ i, i < c → τ'.2.2.1 11 i = τ.2.2.1 11 i) ∧ ∀ i, i < (cl (d.1 1) m s).length → τ'.2.2.1 11 (c + i) = nI ((cl (d.1 1) m s).getD i 0) := by
  have h5 : d.1 0 ≤ 5 := hb.1
  have h32 := pow5 h5
  intro m
  induction m with
  | zero =>
    intro f s c τ hm h17 hle hs hf
    obtain ⟨f, rfl⟩ : ∃ k, f = k + 1 := ⟨f - 1, by omega⟩
    refine ⟨τ, ?_, qf.rf τ, h17, fun _ _ => rfl, fun i hi => absurd hi (by simp [cl])⟩
    rw [m_X12_choose_L7, hm.1.1, shl1 ⟨d.1 0, by omega⟩, if_pos (nI_le (show 2 ^ d.1 0 ≤ s by omega) (by omega))]
  | succ m ih =>
    intro f s c τ hm h17 hle hs hf
    obtain ⟨f, rfl⟩ : ∃ k, f = k + 1 := ⟨f - 1, by omega⟩
    rw [m_X12_choose_L7, hm.1.1, shl1 ⟨d.1 0, by omega⟩, if_neg (nI_ge (show s < 2 ^ d.1 0 by omega) (by omega)), mis hb hm (show s < 2 ^ d.1 0 by omega), bs, nI_1]
    rw [cl] at hle ⊢
    unfold okS
    by_cases hd : decide (pcN s ≤ d.1 1) = true
    · rw [if_pos hd] at hle ⊢
      rw [if_pos hd, if_neg n10, h17]
      rw [List.length_cons] at hle ⊢
      rw [stk (n := 16) rfl (by omega) (by decide), bs]
      have e17 : (sr τ 11 (upd (τ.2.2.1 11) c (nI s))).1 17 + 1 = nI (c + 1) := by
        show τ.1 17 + 1 = _
        rw [h17, nI_1]
      rw [e17]
      have k1 : qf τ (sg (sr τ 11 (upd (τ.2.2.1 11) c (nI s))) 17 (nI (c + 1))) := ⟨fun i hi => if_neg (by omega), rfl, fun a h1 h2 h3 h4 => sr_ne h4⟩
      obtain ⟨τ', p1, p2, p3, p4, p5⟩ := ih f (s + 1) (c + 1) _ (k1.mt hm) rfl (by omega) (by omega) (by omega)
      refine ⟨τ', p1, k1.tr p2, ?_, fun i hi => ?_, fun i hi => ?_⟩
      · rw [p3]; congr 1; omega
      · rw [p4 i (by omega)]
        exact upd_n _ _ (by omega)
      · cases i with
        | zero =>
          rw [Nat.add_zero, p4 c (by omega)]
          exact upd_s _ _ _
        | succ i =>
          have := p5 i (by omega)
          rw [show c + (i + 1) = c + 1 + i by omega, this]
          rfl
    · rw [if_neg hd] at hle ⊢
      rw [if_neg hd, if_pos rfl]
      exact ih f (s + 1) c τ hm h17 hle (by omega) (by omega)
theorem dvN {a b : Nat} (ha : a < 2 ^ 31) (hb : b < 2 ^ 31) (h0 : 0 < b) : dvI (nI a) (nI b) = some (nI (a / b)) := by
  unfold dvI
  rw [if_neg (nI_ne0 h0 hb), pk_div ha h0 hb]
theorem rmN {a b : Nat} (ha : a < 2 ^ 31) (hb : b < 2 ^ 31) (h0 : 0 < b) : rmI (nI a) (nI b) = some (nI (a % b)) := by
  unfold rmI
  rw [if_neg (nI_ne0 h0 hb), pk_rem ha h0 hb]
theorem msw {τ : Sx} {b s : Nat} {x : Int32} (hb : b < 32) (hs : s < 32) (h1 : τ.2.2.1 5 1 = nI b) (h2 : τ.2.2.1 5 2 = x) : m_X12_sets_w τ (nI s) = some (sr τ 5 (upd (upd (τ.2.2.1 5) 2 (x + nI (nxu s b))) 1 (nI s))) := by
  have l2 : ldA mLn τ 5 2 = some x := by
    rw [show (2 : Int32) = nI 2 from rfl, ldk (n := 14) rfl (by decide) (by decide), h2]
  have l1 : ldA mLn τ 5 1 = some (nI b) := by
    rw [show (1 : Int32) = nI 1 from rfl, ldk (n := 14) rfl (by decide) (by decide), h1]
  have s2 : ∀ (τ : Sx) y, stA mLn τ 5 2 y = some (sr τ 5 (upd (τ.2.2.1 5) 2 y)) := fun τ y => stk (k := 2) (n := 14) rfl (by decide) (by decide)
  have s1 : ∀ (τ : Sx) y, stA mLn τ 5 1 y = some (sr τ 5 (upd (τ.2.2.1 5) 1 y)) := fun τ y => stk (k := 1) (n := 14) rfl (by decide) (by decide)
  unfold m_X12_sets_w m_X12_sets_w_J16 nxu
  rw [l2, bs, l1, bs]
  by_cases q : s = b
  · rw [if_pos (congrArg nI q.symm), if_pos q, s2, bs, s1, bs, sr_sr]
    rfl
  · rw [if_neg (fun z => q ((nI_eq (by omega) (by omega)).mp z).symm), if_neg q, s2, bs, s1, bs, sr_sr]
    rfl
