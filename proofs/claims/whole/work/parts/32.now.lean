/-! NOW by numbers -/
theorem SN.fns {P : Nat} {f g : Nat → Int32} (h : SN P f g) : ∃ (t o : Nat) (v c : Nat → Nat), t ≤ 99 ∧ o < 2 ^ P ∧ g 0 = nI t ∧ f 0 = nI t ∧ g 1 = nI o ∧ f 1 = nI o ∧ (∀ k, k < P → v k ≤ 100 ∧ c k ≤ t) ∧ (∀ k, k < P → g (4 + k) = nI (v k) ∧ f (4 + k) = nI (v k)) ∧ ∀ k, k < P → g (9 + k) = nI (c k) ∧ f (9 + k) = nI (c k) := by
  obtain ⟨a, ⟨t, b1, b2, b3⟩, o, c1, c2⟩ := h
  refine ⟨t, o, fun k => if h : k < P then (b3 k h).choose else 0, fun k => if h : k < P then (b3 k h).choose_spec.choose else 0, b1, c1, b2, (a 0 (by decide)).trans b2, c2, (a 1 (by decide)).trans c2, fun k hk => ?_, fun k hk => ?_, fun k hk => ?_⟩
  · obtain ⟨z1, z2, z3, z4, z5, z6⟩ := (b3 k hk).choose_spec.choose_spec
    simp only [dif_pos hk]
    exact ⟨z1, z2⟩
  · obtain ⟨z1, z2, z3, z4, z5, z6⟩ := (b3 k hk).choose_spec.choose_spec
    simp only [dif_pos hk]
    exact ⟨z3, z4⟩
  · obtain ⟨z1, z2, z3, z4, z5, z6⟩ := (b3 k hk).choose_spec.choose_spec
    simp only [dif_pos hk]
    exact ⟨z5, z6⟩
/-- levels and turns on, as either side holds them -/
def hvC (P : Nat) (σ : Sx) (v : Nat → Nat) : Prop := ∀ k, k < P → σ.2.2.1 17 k = nI (v k)
def hcC (P : Nat) (σ : Sx) (c : Nat → Nat) : Prop := ∀ k, k < P → σ.2.2.1 18 k = nI (c k)
def hvM (P a : Nat) (τ : Sx) (v : Nat → Nat) : Prop := ∀ k, k < P → τ.2.2.1 a (4 + k) = nI (v k)
def hcM (P a : Nat) (τ : Sx) (c : Nat → Nat) : Prop := ∀ k, k < P → τ.2.2.1 a (9 + k) = nI (c k)
theorem iNow.num {P : Nat} {σ τ : Sx} (hP : P ≤ 5) (h : iNow P σ τ) : ∃ (t o : Nat) (v c : Nat → Nat), t ≤ 99 ∧ o < 2 ^ P ∧ (σ.1 14 = nI t ∧ τ.2.2.1 4 0 = nI t) ∧ (σ.1 15 = nI o ∧ τ.2.2.1 4 1 = nI o) ∧ σ.1 16 = τ.2.2.1 4 2 ∧ σ.1 17 = τ.2.2.1 4 3 ∧ (∀ k, k < P → v k ≤ 100 ∧ c k ≤ t) ∧ (hvC P σ v ∧ hcC P σ c) ∧ hvM P 4 τ v ∧ hcM P 4 τ c := by
  have h0 := h
  obtain ⟨t, o, v, c, h1, h2, h3, h4, h5, h6, h7, h8, h9⟩ := h.fns
  refine ⟨t, o, v, c, h1, h2, ⟨h4, h3⟩, ⟨h6, h5⟩, h0.1 2 (by decide), h0.1 3 (by decide), h7, ⟨fun k hk => ?_, fun k hk => ?_⟩, fun k hk => (h8 k hk).1, fun k hk => (h9 k hk).1⟩
  · have := (h8 k hk).2
    rw [cN_lv _ (by omega)] at this
    exact this
  · have := (h9 k hk).2
    rw [cN_to] at this
    exact this
/-- and back -/
theorem iNow.of {P : Nat} {σ τ : Sx} (hP : P ≤ 5) {t o : Nat} {v c : Nat → Nat} (h1 : t ≤ 99) (h2 : o < 2 ^ P) (h3 : σ.1 14 = nI t ∧ τ.2.2.1 4 0 = nI t) (h4 : σ.1 15 = nI o ∧ τ.2.2.1 4 1 = nI o) (h5 : σ.1 16 = τ.2.2.1 4 2) (h6 : σ.1 17 = τ.2.2.1 4 3) (h7 : ∀ k, k < P → v k ≤ 100 ∧ c k ≤ t) (h8 : hvC P σ v ∧ hcC P σ c) (h9 : hvM P 4 τ v ∧ hcM P 4 τ c) : iNow P σ τ := by
  refine ⟨fun i hi => ?_, ⟨t, h1, h3.2, fun k hk => ⟨v k, c k, (h7 k hk).1, (h7 k hk).2, h9.1 k hk, ?_, h9.2 k hk, ?_⟩⟩, o, h2, h4.2⟩
  · rcases (show i = 0 ∨ i = 1 ∨ i = 2 ∨ i = 3 by omega) with rfl | rfl | rfl | rfl
    · exact h3.1.trans h3.2.symm
    · exact h4.1.trans h4.2.symm
    · exact h5
    · exact h6
  · rw [cN_lv _ (by omega)]; exact h8.1 k hk
  · rw [cN_to]; exact h8.2 k hk
/-! OUT -/
def oF (v : Nat → Nat) : Nat → Nat → Nat → Nat
  | 0, _, a => a
  | r + 1, i, a => oF v r (i + 1) (if v i = 0 then a + 2 ^ i else a)
theorem or5 : ∀ (a : Fin 32) (i : Fin 5), a.val < 2 ^ i.val → nI a.val ||| ((1 : Int32) <<< (nI i.val &&& 31)) = nI (a.val + 2 ^ i.val) := by decide +kernel
theorem pw5 : ∀ i : Fin 5, 2 ^ i.val ≤ 16 ∧ 2 ^ (i.val + 1) = 2 * 2 ^ i.val := by decide +kernel
theorem oF_lt (v : Nat → Nat) : ∀ r i a, i + r ≤ 5 → a < 2 ^ i → oF v r i a < 2 ^ (i + r)
  | 0, i, a, _, h => h
  | r + 1, i, a, hi, h => by
    rw [oF, show i + (r + 1) = i + 1 + r by omega]
    obtain ⟨-, p2⟩ := pw5 ⟨i, by omega⟩
    dsimp only at p2
    exact oF_lt v r (i + 1) _ (by omega) (by rw [p2]; split <;> omega)
theorem cout {σ : Sx} {P : Nat} {v : Nat → Nat} (hP : P ≤ 5) (hv : hvC P σ v) (hb : ∀ k, k < P → v k ≤ 100) : ∀ (r n i a : Nat), i + r = P → r < n → a < 2 ^ i → m_X4_out_L4 σ n (nI P) (nI a) (nI i) = some (nI (oF v r i a)) := by
  intro r
  induction r with
  | zero =>
    intro n i a hi hn ha
    obtain ⟨n, rfl⟩ : ∃ k, n = k + 1 := ⟨n - 1, by omega⟩
    rw [m_X4_out_L4, if_pos (nI_le (by omega) (by omega))]
    rfl
  | succ r ih =>
    intro n i a hi hn ha
    obtain ⟨n, rfl⟩ : ∃ k, n = k + 1 := ⟨n - 1, by omega⟩
    obtain ⟨p1, p2⟩ := pw5 ⟨i, by omega⟩
    dsimp only at p1 p2
    have ho := or5 ⟨a, by omega⟩ ⟨i, by omega⟩ ha
    dsimp only at ho
    rw [m_X4_out_L4, if_neg (nI_ge (by omega) (by omega)), ldk (n := 5) rfl (by omega) (by decide), bs, hv i (by omega), ho, nI_1, oF]
    by_cases hz : v i = 0
    · rw [if_pos hz, if_pos (by rw [hz]; rfl)]
      exact ih n (i + 1) _ (by omega) (by omega) (by rw [p2]; omega)
    · have := hb i (by omega)
      rw [if_neg hz, if_neg (nI_ne0 (by omega) (by omega))]
      exact ih n (i + 1) _ (by omega) (by omega) (by rw [p2]; omega)
theorem coutN {σ : Sx} {P : Nat} {v : Nat → Nat} (hP : P ≤ 5) (hv : hvC P σ v) (hb : ∀ k, k < P → v k ≤ 100) : m_X4_out σ (nI P) = some (nI (oF v P 0 0)) := by
  have h := cout hP hv hb P FU 0 0 (by omega) (by unfold FU; omega) (by decide)
  have h : m_X4_out_L4 σ FU (nI P) 0 0 = _ := h
  unfold m_X4_out
  rw [h, bs]
theorem mout {τ : Sx} {P : Nat} {v : Nat → Nat} (hP : P ≤ 5) (hm : τ.1 7 = nI P) (hv : hvM P 4 τ v) (hb : ∀ k, k < P → v k ≤ 100) : ∀ (r n i a : Nat), i + r = P → r < n → a < 2 ^ i → m_X12_outOnes_s_L4 τ n (nI a) (nI i) = some (nI (oF v r i a)) := by
  intro r
  induction r with
  | zero =>
    intro n i a hi hn ha
    obtain ⟨n, rfl⟩ : ∃ k, n = k + 1 := ⟨n - 1, by omega⟩
    rw [m_X12_outOnes_s_L4, hm, if_pos (nI_le (by omega) (by omega))]
    rfl
  | succ r ih =>
    intro n i a hi hn ha
    obtain ⟨n, rfl⟩ : ∃ k, n = k + 1 := ⟨n - 1, by omega⟩
    obtain ⟨p1, p2⟩ := pw5 ⟨i, by omega⟩
    dsimp only at p1 p2
    have ho := or5 ⟨a, by omega⟩ ⟨i, by omega⟩ ha
    dsimp only at ho
    have hz0 : nI a ||| 0 = nI a := Int32.or_zero
    rw [m_X12_outOnes_s_L4, hm, if_neg (nI_ge (by omega) (by omega)), show (4 : Int32) + nI i = nI (4 + i) from nI_add 4 i, ldk (n := 14) rfl (by omega) (by decide), bs, hv i (by omega), ho, nI_1, hz0, oF]
    by_cases hz : v i = 0
    · rw [if_pos hz, if_pos (by rw [hz]; rfl)]
      exact ih n (i + 1) _ (by omega) (by omega) (by rw [p2]; omega)
    · have := hb i (by omega)
      rw [if_neg hz, if_neg (nI_ne0 (by omega) (by omega))]
      exact ih n (i + 1) _ (by omega) (by omega) (by rw [p2]; omega)
theorem moutN {τ : Sx} {P : Nat} {v : Nat → Nat} (hP : P ≤ 5) (hm : τ.1 7 = nI P) (hv : hvM P 4 τ v) (hb : ∀ k, k < P → v k ≤ 100) : m_X12_outOnes_s τ = some (nI (oF v P 0 0)) := by
  have h := mout hP hm hv hb P FU 0 0 (by omega) (by unfold FU; omega) (by decide)
  have h : m_X12_outOnes_s_L4 τ FU 0 0 = _ := h
  unfold m_X12_outOnes_s
  rw [h, bs]
/-! FAIR -/
def mmF (c : Nat → Nat) : Nat → Nat → Nat → Nat → Nat × Nat
  | 0, _, a, b => (a, b)
  | r + 1, i, a, b => mmF c r (i + 1) (if a < c i then c i else a) (if c i < b then c i else b)
theorem cfair {σ : Sx} {P : Nat} {c : Nat → Nat} (hP : P ≤ 5) (hc : hcC P σ c) (hb : ∀ k, k < P → c k ≤ 99) : ∀ (r n i a b : Nat), i + r = P → r < n → a ≤ 1000 → b ≤ 1000 → m_X4_fair_L20 σ n (nI P) (nI a) (nI b) (nI i) = some (nI (mmF c r i a b).1, nI (mmF c r i a b).2) := by
  intro r
  induction r with
  | zero =>
    intro n i a b hi hn ha hb2
    obtain ⟨n, rfl⟩ : ∃ k, n = k + 1 := ⟨n - 1, by omega⟩
    rw [m_X4_fair_L20, if_pos (nI_le (by omega) (by omega))]
    rfl
  | succ r ih =>
    intro n i a b hi hn ha hb2
    obtain ⟨n, rfl⟩ : ∃ k, n = k + 1 := ⟨n - 1, by omega⟩
    have h99 := hb i (by omega)
    have z1 : (if nI a < nI (c i) then nI (c i) else nI a) = nI (if a < c i then c i else a) := by
      by_cases h : a < c i
      · rw [if_pos h, if_pos (nI_lt h (by omega))]
      · rw [if_neg h, if_neg (nI_nlt (by omega) (by omega))]
    have z2 : (if nI (c i) < nI b then nI (c i) else nI b) = nI (if c i < b then c i else b) := by
      by_cases h : c i < b
      · rw [if_pos h, if_pos (nI_lt h (by omega))]
      · rw [if_neg h, if_neg (nI_nlt (by omega) (by omega))]
    rw [m_X4_fair_L20, if_neg (nI_ge (by omega) (by omega)), ldk (n := 5) rfl (by omega) (by decide), bs, bs, hc i (by omega), z1, z2, nI_1, mmF]
    exact ih n (i + 1) _ _ (by omega) (by omega) (by split <;> omega) (by split <;> omega)
theorem mfair {τ : Sx} {P : Nat} {c : Nat → Nat} (hP : P ≤ 5) (hm : τ.1 7 = nI P) (hc : hcM P 4 τ c) (hb : ∀ k, k < P → c k ≤ 99) : ∀ (r n i a b : Nat), i + r = P → r < n → a ≤ 1000 → b ≤ 1000 → m_X12_fair_L8 τ n (nI a) (nI b) (nI i) = some (nI (mmF c r i a b).1, nI (mmF c r i a b).2) := by
  intro r
  induction r with
  | zero =>
    intro n i a b hi hn ha hb2
    obtain ⟨n, rfl⟩ : ∃ k, n = k + 1 := ⟨n - 1, by omega⟩
    rw [m_X12_fair_L8, hm, if_pos (nI_le (by omega) (by omega))]
    rfl
  | succ r ih =>
    intro n i a b hi hn ha hb2
    obtain ⟨n, rfl⟩ : ∃ k, n = k + 1 := ⟨n - 1, by omega⟩
    have h99 := hb i (by omega)
    have l9 : ldA mLn τ 4 (9 + nI i) = some (nI (c i)) := by
      rw [show (9 : Int32) + nI i = nI (9 + i) from nI_add 9 i, ldk (n := 14) rfl (by omega) (by decide), hc i (by omega)]
    have hJ : ∀ x : Nat, x ≤ 1000 → x = (if a < c i then c i else a) → m_X12_fair_J42 (m_X12_fair_L8 τ n) τ (nI b) (nI i) (nI x) = some (nI (mmF c (r + 1) i a b).1, nI (mmF c (r + 1) i a b).2) := by
      intro x hx ex
      unfold m_X12_fair_J42
      rw [l9, bs, bs, nI_1, mmF, ← ex]
      by_cases h : c i < b
      · rw [if_pos h, if_neg (nI_ge h (by omega))]
        exact ih n (i + 1) _ _ (by omega) (by omega) hx (by omega)
      · rw [if_neg h, if_pos (nI_le (by omega) (by omega))]
        exact ih n (i + 1) _ _ (by omega) (by omega) hx (by omega)
    rw [m_X12_fair_L8, hm, if_neg (nI_ge (by omega) (by omega)), l9, bs, bs]
    by_cases h : a < c i
    · rw [if_neg (nI_ge h (by omega))]
      exact hJ _ (by omega) (by rw [if_pos h])
    · rw [if_pos (nI_le (by omega) (by omega))]
      exact hJ _ (by omega) (by rw [if_neg h])
/-! LEANS -/
def lnF (v : Nat → Nat) : Nat → Nat → Nat → Nat → Nat × Nat
  | 0, _, a, b => (a, b)
  | r + 1, i, a, b => lnF v r (i + 1) (if v a < v i then i else a) (if v i < v b then i else b)
theorem cleans {σ : Sx} {P : Nat} {v : Nat → Nat} (hP : P ≤ 5) (hv : hvC P σ v) (hb : ∀ k, k < P → v k ≤ 100) : ∀ (r n i a b : Nat), i + r = P → r < n → a < P → b < P → m_X4_leans_L15 σ n (nI P) (nI a) (nI b) (nI i) = some (nI (lnF v r i a b).1, nI (lnF v r i a b).2) := by
  intro r
  induction r with
  | zero =>
    intro n i a b hi hn ha hb2
    obtain ⟨n, rfl⟩ : ∃ k, n = k + 1 := ⟨n - 1, by omega⟩
    rw [m_X4_leans_L15, if_pos (nI_le (by omega) (by omega))]
    rfl
  | succ r ih =>
    intro n i a b hi hn ha hb2
    obtain ⟨n, rfl⟩ : ∃ k, n = k + 1 := ⟨n - 1, by omega⟩
    have l17 : ∀ k, k < P → ldA cLn σ 17 (nI k) = some (nI (v k)) := fun k hk => by rw [ldk (n := 5) rfl (by omega) (by decide), hv k hk]
    have g1 := hb i (by omega)
    have g2 := hb a ha
    have g3 := hb b hb2
    have hJ : ∀ x : Nat, x < P → x = (if v a < v i then i else a) → m_X4_leans_J43 (m_X4_leans_L15 σ n) σ (nI P) (nI b) (nI i) (nI x) = some (nI (lnF v (r + 1) i a b).1, nI (lnF v (r + 1) i a b).2) := by
      intro x hx ex
      unfold m_X4_leans_J43
      rw [l17 i (by omega), bs, l17 b hb2, bs, nI_1, lnF, ← ex]
      by_cases h : v i < v b
      · rw [if_pos h, if_neg (nI_ge h (by omega))]
        exact ih n (i + 1) _ _ (by omega) (by omega) hx (by omega)
      · rw [if_neg h, if_pos (nI_le (by omega) (by omega))]
        exact ih n (i + 1) _ _ (by omega) (by omega) hx (by omega)
    rw [m_X4_leans_L15, if_neg (nI_ge (by omega) (by omega)), l17 i (by omega), bs, l17 a ha, bs]
    by_cases h : v a < v i
    · rw [if_neg (nI_ge h (by omega))]
      exact hJ _ (by omega) (by rw [if_pos h])
    · rw [if_pos (nI_le (by omega) (by omega))]
      exact hJ _ (by omega) (by rw [if_neg h])
theorem mleans {τ : Sx} {P : Nat} {v : Nat → Nat} (hP : P ≤ 5) (hm : τ.1 7 = nI P) (hv : hvM P 4 τ v) (hb : ∀ k, k < P → v k ≤ 100) : ∀ (r n i a b : Nat), i + r = P → r < n → a < P → b < P → m_X12_leans_L6 τ n (nI a) (nI b) (nI i) = some (nI (lnF v r i a b).1, nI (lnF v r i a b).2) := by
  intro r
  induction r with
  | zero =>
    intro n i a b hi hn ha hb2
    obtain ⟨n, rfl⟩ : ∃ k, n = k + 1 := ⟨n - 1, by omega⟩
    rw [m_X12_leans_L6, hm, if_pos (nI_le (by omega) (by omega))]
    rfl
  | succ r ih =>
    intro n i a b hi hn ha hb2
    obtain ⟨n, rfl⟩ : ∃ k, n = k + 1 := ⟨n - 1, by omega⟩
    have l17 : ∀ k, k < P → ldA mLn τ 4 (4 + nI k) = some (nI (v k)) := fun k hk => by rw [show (4 : Int32) + nI k = nI (4 + k) from nI_add 4 k, ldk (n := 14) rfl (by omega) (by decide), hv k hk]
    have g1 := hb i (by omega)
    have g2 := hb a ha
    have g3 := hb b hb2
    have hJ : ∀ x : Nat, x < P → x = (if v a < v i then i else a) → m_X12_leans_J38 (m_X12_leans_L6 τ n) τ (nI b) (nI i) (nI x) = some (nI (lnF v (r + 1) i a b).1, nI (lnF v (r + 1) i a b).2) := by
      intro x hx ex
      unfold m_X12_leans_J38
      rw [l17 i (by omega), bs, l17 b hb2, bs, nI_1, lnF, ← ex]
      by_cases h : v i < v b
      · rw [if_pos h, if_neg (nI_ge h (by omega))]
        exact ih n (i + 1) _ _ (by omega) (by omega) hx (by omega)
      · rw [if_neg h, if_pos (nI_le (by omega) (by omega))]
        exact ih n (i + 1) _ _ (by omega) (by omega) hx (by omega)
    rw [m_X12_leans_L6, hm, if_neg (nI_ge (by omega) (by omega)), l17 i (by omega), bs, l17 a ha, bs]
    by_cases h : v a < v i
    · rw [if_neg (nI_ge h (by omega))]
      exact hJ _ (by omega) (by rw [if_pos h])
    · rw [if_pos (nI_le (by omega) (by omega))]
      exact hJ _ (by omega) (by rw [if_neg h])
theorem OKnow : OK_now INV := by
  intro σ τ x hinv
  have hinv2 : INV σ (sg τ 0 0) := hinv
  unfold m_X12_now m_X11_now
  generalize sg τ 0 0 = τ at hinv2 ⊢
  obtain ⟨d, hR, hN⟩ := INV_iff.mp hinv2
  obtain ⟨a1, a2, a3, ⟨u, w, b1, b2, b3, b4, b5, b6⟩, a5, a6, a7, a8⟩ := hR
  have h5 : d.1 0 ≤ 5 := a1.1
  obtain ⟨t, o, v, c, t99, ho, ⟨n1, n2⟩, ⟨n3, n4⟩, n5, n6, hb, ⟨hv, hc⟩, hvm, hcm⟩ := hN.num h5
  have hP : σ.1 0 = nI (d.1 0) := a2.1.1
  have hPm : τ.1 7 = nI (d.1 0) := a3.1.1
  have l0 : ldA mLn τ 4 0 = some (τ.2.2.1 4 0) := ldk (k := 0) (n := 14) rfl (by decide) (by decide)
  have l1 : ldA mLn τ 4 1 = some (τ.2.2.1 4 1) := ldk (k := 1) (n := 14) rfl (by decide) (by decide)
  have l2 : ldA mLn τ 4 2 = some (τ.2.2.1 4 2) := ldk (k := 2) (n := 14) rfl (by decide) (by decide)
  have l3 : ldA mLn τ 4 3 = some (τ.2.2.1 4 3) := ldk (k := 3) (n := 14) rfl (by decide) (by decide)
  by_cases c0 : x = 0
  · subst c0; exact ⟨nI t, τ, by simp [n1], by simp [m_X12_in, l0, n2], hinv2⟩
  by_cases c1 : x = 1
  · subst c1; exact ⟨nI o, τ, by simp [n3], by simp [m_X12_in, l1, n4], hinv2⟩
  by_cases c2 : x = 2
  · subst c2
    have q1 := coutN h5 hv (fun k hk => (hb k hk).1)
    have q2 := moutN h5 hPm hvm (fun k hk => (hb k hk).1)
    exact ⟨nI (oF v (d.1 0) 0 0), τ, by simp [hP, q1], by simp [m_X12_in, q2], hinv2⟩
  by_cases c3 : x = 3
  · subst c3; exact ⟨σ.1 17, τ, by simp, by simp [m_X12_in, l3, n6], hinv2⟩
  by_cases c4 : x = 4
  · subst c4; exact ⟨σ.1 16, τ, by simp, by simp [m_X12_in, l2, n5], hinv2⟩
  by_cases c5 : x = 5
  · subst c5
    have hb99 : ∀ k, k < d.1 0 → c k ≤ 99 := fun k hk => by have := (hb k hk).2; omega
    have q2 := mfair h5 hPm hcm hb99 (d.1 0) FU 0 0 1000 (by omega) (by unfold FU; omega) (by decide) (by decide)
    have q2 : m_X12_fair_L8 τ FU 0 1000 0 = _ := q2
    by_cases hp : d.1 0 = 0
    · have f1 : m_X4_fair σ (nI (d.1 0)) = some 0 := by
        unfold m_X4_fair m_X4_fair_J16
        have q1 := cfair h5 hc hb99 (d.1 0) FU 0 0 0 (by omega) (by unfold FU; omega) (by decide) (by decide)
        have q1 : m_X4_fair_L20 σ FU (nI (d.1 0)) 0 0 0 = _ := q1
        rw [if_pos (by rw [hp]; rfl), q1, bs, hp, mmF]
        decide
      have f2 : m_X12_fair τ = some 0 := by
        unfold m_X12_fair
        rw [q2, bs, hPm, if_pos (by rw [hp]; rfl)]
      exact ⟨0, τ, by simp [hP, f1], by simp [m_X12_in, f2], hinv2⟩
    · have h0 := hb99 0 (by omega)
      have f1 : m_X4_fair σ (nI (d.1 0)) = some (nI (mmF c (d.1 0) 0 0 (c 0)).1 - nI (mmF c (d.1 0) 0 0 (c 0)).2) := by
        unfold m_X4_fair m_X4_fair_J16
        have q1 := cfair h5 hc hb99 (d.1 0) FU 0 0 (c 0) (by omega) (by unfold FU; omega) (by decide) (by omega)
        have q1 : m_X4_fair_L20 σ FU (nI (d.1 0)) 0 (nI (c 0)) 0 = _ := q1
        have l18 : ldA cLn σ 18 0 = some (σ.2.2.1 18 0) := ldk (k := 0) (n := 5) rfl (by decide) (by decide)
        rw [if_neg (nI_ne0 (by omega) (by omega)), l18, bs, hc 0 (by omega), q1, bs]
      have f2 : m_X12_fair τ = some (nI (mmF c (d.1 0) 0 0 1000).1 - nI (mmF c (d.1 0) 0 0 1000).2) := by
        unfold m_X12_fair
        rw [q2, bs, hPm, if_neg (nI_ne0 (by omega) (by omega))]
      have e : mmF c (d.1 0) 0 0 1000 = mmF c (d.1 0) 0 0 (c 0) := by
        obtain ⟨r, hr⟩ : ∃ r, d.1 0 = r + 1 := ⟨d.1 0 - 1, by omega⟩
        rw [hr, mmF, mmF, if_pos (show c 0 < 1000 by omega), if_neg (show ¬ c 0 < c 0 by omega)]
      rw [e] at f2
      exact ⟨_, τ, by simp [hP, f1]; rfl, by simp [m_X12_in, f2], hinv2⟩
  by_cases c6 : x = 6
  · subst c6
    by_cases hp : 2 ≤ d.1 0
    · have q1 := cleans h5 hv (fun k hk => (hb k hk).1) (d.1 0 - 1) FU 1 0 0 (by omega) (by unfold FU; omega) (by omega) (by omega)
      have q2 := mleans h5 hPm hvm (fun k hk => (hb k hk).1) (d.1 0 - 1) FU 1 0 0 (by omega) (by unfold FU; omega) (by omega) (by omega)
      have q1 : m_X4_leans_L15 σ FU (nI (d.1 0)) 0 0 1 = _ := q1
      have q2 : m_X12_leans_L6 τ FU 0 0 1 = _ := q2
      have z : (2 : Int32) ≤ nI (d.1 0) := nI_le hp (by omega)
      exact ⟨10 * nI (lnF v (d.1 0 - 1) 1 0 0).1 + nI (lnF v (d.1 0 - 1) 1 0 0).2, τ, by simp [hP, m_X4_leans, q1, z], by simp [m_X12_in, m_X12_leans, q2, hPm, z], hinv2⟩
    · have z : ¬ (2 : Int32) ≤ nI (d.1 0) := nI_ge (show d.1 0 < 2 by omega) (by decide)
      have z1 : nI (d.1 0) ≤ (1 : Int32) := nI_le (show d.1 0 ≤ 1 by omega) (by decide)
      have q2 : m_X12_leans_L6 τ FU 0 0 1 = some (0, 0) := by
        rw [show FU = 99999 + 1 from rfl, m_X12_leans_L6, hPm, if_pos z1]
      exact ⟨-9, τ, by simp [hP, m_X4_leans, z], by simp [m_X12_in, m_X12_leans, q2, hPm, z], hinv2⟩
  by_cases c7 : x = 7
  · subst c7; exact ⟨nI u, τ, by simp [b3], by simp [m_X12_in, b4], hinv2⟩
  · have q2 : m_X12_in x 0 7 = some 0 := by
      rcases wl x 7 (by decide) with ⟨j, hj, rfl, -, -⟩ | ⟨-, q2⟩
      · rcases (show j = 0 ∨ j = 1 ∨ j = 2 ∨ j = 3 ∨ j = 4 ∨ j = 5 ∨ j = 6 ∨ j = 7 by omega) with rfl | rfl | rfl | rfl | rfl | rfl | rfl | rfl
        · exact absurd rfl c0
        · exact absurd rfl c1
        · exact absurd rfl c2
        · exact absurd rfl c3
        · exact absurd rfl c4
        · exact absurd rfl c5
        · exact absurd rfl c6
        · exact absurd rfl c7
      · exact q2
    exact ⟨-1, τ, by simp [c0, c1, c2, c3, c4, c5, c6, c7], by simp [q2], hinv2⟩
