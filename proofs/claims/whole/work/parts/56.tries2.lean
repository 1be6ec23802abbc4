def tf (τ τ' : Sx) : Prop := τ'.1 = τ.1 ∧ τ'.2.1 = τ.2.1 ∧ ∀ a, a ≠ 5 → a ≠ 9 → τ'.2.2.1 a = τ.2.2.1 a
theorem c16 {c r : Nat} (hc : c ≤ 16) (hr : r ≤ 4) : c ^ r ≤ 65536 := Nat.le_trans (Nat.pow_le_pow_left hc r) (Nat.pow_le_pow_right (n := 16) (by decide) hr)
theorem mtl {d : TD} (hb : bT d) {C : List Nat} {c n t0 w : Nat} (hc0 : 0 < c) (hc16 : c ≤ 16) (hCm : ∀ q, q < c → C.getD q 0 < 2 ^ d.1 0) (hn : n ≤ 4) (ht : t0 ≤ 99) (hw : w < 2 ^ 20) (x y : Int32) : ∀ (r f k b M U : Nat) (v cc : Nat → Nat) (τ : Sx), k + r = n → r < f → mT τ d → τ.1 17 = nI c → (∀ q, q < c → τ.2.2.1 11 q = nI (C.getD q 0)) → τ.2.2.1 5 0 = nI (t0 + k) → τ.2.2.1 5 1 = nI b → b < 32 → τ.2.2.1 5 2 = x + nI U → τ.2.2.1 5 3 = y + nI M → hvM (d.1 0) 5 τ v → hcM (d.1 0) 5 τ cc → (∀ k, k < d.1 0 → v k ≤ 100) → ∃ τ', m_X12_tries_L16 f (nI w) (nI n) (nI (c ^ r)) (nI k) τ = some τ' ∧ tf τ τ' ∧ (∀ i, i < k → τ'.2.2.1 9 i = τ.2.2.1 9 i) ∧ (∀ i, i < r → τ'.2.2.1 9 (k + i) = nI ((dg C c r w).getD i 0)) ∧ τ'.2.2.1 5 2 = x + nI (run d (dg C c r w) (t0 + k) v b M U).2.2 ∧ τ'.2.2.1 5 3 = y + nI (run d (dg C c r w) (t0 + k) v b M U).2.1 ∧ hvM (d.1 0) 5 τ' (run d (dg C c r w) (t0 + k) v b M U).1 := by
  have h5 : d.1 0 ≤ 5 := hb.1
  have h32 := pow5 h5
  intro r
  induction r with
  | zero =>
    intro f k b M U v cc τ hk hf hm h17 h11 e0 e1 hbb e2 e3 hv hcc hv100
    obtain ⟨f, rfl⟩ : ∃ k, f = k + 1 := ⟨f - 1, by omega⟩
    refine ⟨τ, ?_, ⟨rfl, rfl, fun _ _ _ => rfl⟩, fun _ _ => rfl, fun i hi => absurd hi (by omega), e2, e3, hv⟩
    rw [m_X12_tries_L16, if_pos (nI_le (by omega) (by omega))]
  | succ r ih =>
    intro f k b M U v cc τ hk hf hm h17 h11 e0 e1 hbb e2 e3 hv hcc hv100
    obtain ⟨f, rfl⟩ : ∃ k, f = k + 1 := ⟨f - 1, by omega⟩
    have hp := c16 (r := r + 1) hc16 (by omega)
    have hp0 := c16 (r := r) hc16 (by omega)
    have hpp : 0 < c ^ r := Nat.pow_pos hc0
    have hq : w / c ^ r % c < c := Nat.mod_lt _ hc0
    have hwd : w / c ^ r ≤ w := Nat.div_le_self _ _
    have hs := hCm _ hq
    generalize hse : C.getD (w / c ^ r % c) 0 = s at hs
    have d1 : dvI (nI (c ^ (r + 1))) (nI c) = some (nI (c ^ r)) := by
      rw [dvN (by omega) (by omega) hc0, Nat.pow_succ, Nat.mul_div_cancel _ hc0]
    have l11 : ldA mLn τ 11 (nI (w / c ^ r % c)) = some (nI s) := by
      rw [ldk (n := 16) rfl (by omega) (by decide), h11 _ hq, hse]
    have s9 : stA mLn τ 9 (nI k) (nI s) = some (sr τ 9 (upd (τ.2.2.1 9) k (nI s))) := stk (n := 4) rfl (by omega) (by decide)
    have l9 : ldA mLn (sr τ 9 (upd (τ.2.2.1 9) k (nI s))) 9 (nI k) = some (nI s) := by
      rw [ldk (n := 4) rfl (by omega) (by decide)]
      exact congrArg some (upd_s _ _ _)
    have sw := msw (τ := sr τ 9 (upd (τ.2.2.1 9) k (nI s))) (s := s) hbb (by omega) e1 e2
    have hx2 : x + nI U + nI (nxu s b) = x + nI (U + nxu s b) := by rw [Int32.add_assoc, nI_add]
    rw [hx2] at sw
    generalize hτ1 : sr (sr τ 9 (upd (τ.2.2.1 9) k (nI s))) 5 (upd (upd ((sr τ 9 (upd (τ.2.2.1 9) k (nI s))).2.2.1 5) 2 (x + nI (U + nxu s b))) 1 (nI s)) = τ1 at sw
    have a5 : τ1.2.2.1 5 = upd (upd (τ.2.2.1 5) 2 (x + nI (U + nxu s b))) 1 (nI s) := by rw [← hτ1]; rfl
    have a9 : τ1.2.2.1 9 = upd (τ.2.2.1 9) k (nI s) := by rw [← hτ1]; rfl
    have a1 : τ1.1 = τ.1 := by rw [← hτ1]; rfl
    have a21 : τ1.2.1 = τ.2.1 := by rw [← hτ1]; rfl
    have aa : ∀ a, a ≠ 5 → a ≠ 9 → τ1.2.2.1 a = τ.2.2.1 a := fun a h1 h2 => by rw [← hτ1, sr_ne h1, sr_ne h2]
    have m1 : mT τ1 d := hm.keep ⟨by rw [a1], by rw [a1], by rw [a1], by rw [a1]⟩ (fun j _ _ => aa j (by omega) (by omega))
    have z : ∀ j, j ≠ 1 → j ≠ 2 → τ1.2.2.1 5 j = τ.2.2.1 5 j := fun j h1 h2 => by rw [a5, upd_n _ _ h1, upd_n _ _ h2]
    obtain ⟨g, b1, b2, b3, b4, b5, b6, b7⟩ := mgo_w (τ := τ1) hb (t := t0 + k) (o := s) (v := v) (c := cc) (by omega) hs m1 ((z 0 (by decide) (by decide)).trans e0) (by rw [a5, upd_s]) (fun j hj => (z (4 + j) (by omega) (by omega)).trans (hv j hj)) (fun j hj => (z (9 + j) (by omega) (by omega)).trans (hcc j hj)) hv100
    have g2 : g 2 = x + nI (U + nxu s b) := by rw [b4, a5, upd_n _ _ (by decide), upd_s]
    have g3 : g 3 = y + nI (M + nxm d (t0 + k) v) := by
      rw [b5, z 3 (by decide) (by decide), e3, Int32.add_assoc, nI_add]; rfl
    obtain ⟨τ', p1, p2, p3, p4, p5, p6, p7⟩ := ih f (k + 1) s (M + nxm d (t0 + k) v) (U + nxu s b) (nxv d (t0 + k) s v) _ (sr τ1 5 g) (by omega) (by omega) m1 (by rw [sr_1, a1]; exact h17) (fun q hq => by rw [sr_ne (by decide), aa 11 (by decide) (by decide)]; exact h11 q hq) b2 b3 (by omega) g2 g3 b6 b7 (fun j hj => behN_le d _ j (hv100 j hj) _)
    rw [dg, hse, run]
    refine ⟨τ', ?_, ⟨p2.1.trans a1, p2.2.1.trans a21, fun a h1 h2 => (p2.2.2 a h1 h2).trans ((sr_ne h1).trans (aa a h1 h2))⟩, fun i hi => ?_, fun i hi => ?_, p5, p6, p7⟩
    · rw [m_X12_tries_L16, if_neg (nI_ge (by omega) (by omega)), h17, d1, bs, dvN (by omega) (by omega) hpp, bs, rmN (by omega) (by omega) hc0, bs, l11, bs, s9, bs, l9, bs, sw, bs, b1, bs, nI_1]
      exact p1
    · rw [p3 i (by omega), sr_ne (by decide), a9, upd_n _ _ (by omega)]
    · cases i with
      | zero =>
        rw [Nat.add_zero, p3 k (by omega), sr_ne (by decide), a9, upd_s]
        rfl
      | succ i =>
        have := p4 i (by omega)
        rw [show k + (i + 1) = k + 1 + i by omega, this]
        rfl
theorem mtr {d : TD} (hb : bT d) {C : List Nat} {c n t0 w o : Nat} {v cc : Nat → Nat} {τ : Sx} (hc0 : 0 < c) (hc16 : c ≤ 16) (hCm : ∀ q, q < c → C.getD q 0 < 2 ^ d.1 0) (hn : n ≤ 4) (ht : t0 ≤ 99) (hw : w < 2 ^ 20) (hm : mT τ d) (h17 : τ.1 17 = nI c) (h11 : ∀ q, q < c → τ.2.2.1 11 q = nI (C.getD q 0)) (e0 : τ.2.2.1 4 0 = nI t0) (e1 : τ.2.2.1 4 1 = nI o) (ho : o < 32) (hv : hvM (d.1 0) 4 τ v) (hcc : hcM (d.1 0) 4 τ cc) (hv100 : ∀ k, k < d.1 0 → v k ≤ 100) : ∃ τ', m_X12_tries τ (nI w) (nI n) = some τ' ∧ tf τ τ' ∧ (∀ i, i < n → τ'.2.2.1 9 i = nI ((dg C c n w).getD i 0)) ∧ τ'.2.2.1 5 2 = τ.2.2.1 4 2 + nI (run d (dg C c n w) t0 v o 0 0).2.2 ∧ τ'.2.2.1 5 3 = τ.2.2.1 4 3 + nI (run d (dg C c n w) t0 v o 0 0).2.1 ∧ hvM (d.1 0) 5 τ' (run d (dg C c n w) t0 v o 0 0).1 := by
  have h5 : d.1 0 ≤ 5 := hb.1
  obtain ⟨f, a1, a2⟩ := asNow_ok τ
  obtain ⟨τ', p1, p2, p3, p4, p5, p6, p7⟩ := mtl hb (C := C) (w := w) hc0 hc16 hCm hn ht hw (τ.2.2.1 4 2) (τ.2.2.1 4 3) n FU 0 o 0 0 v cc (sr τ 5 f) (by omega) (by unfold FU; omega) hm h17 h11 ((a2 0 (by decide)).trans e0) ((a2 1 (by decide)).trans e1) ho ((a2 2 (by decide)).trans (Int32.add_zero _).symm) ((a2 3 (by decide)).trans (Int32.add_zero _).symm) (fun j hj => (a2 (4 + j) (by omega)).trans (hv j hj)) (fun j hj => (a2 (9 + j) (by omega)).trans (hcc j hj)) hv100
  have p1 : m_X12_tries_L16 FU (nI w) (nI n) (nI (c ^ n)) 0 (sr τ 5 f) = some τ' := p1
  refine ⟨τ', ?_, ⟨p2.1, p2.2.1, fun a h1 h2 => (p2.2.2 a h1 h2).trans (sr_ne h1)⟩, fun i hi => ?_, p5, p6, p7⟩
  · unfold m_X12_tries
    rw [h17, mpwN hn, bs, a1, bs, p1, bs]
  · have := p4 i hi
    rw [Nat.zero_add] at this
    exact this
theorem mbest {n : Nat} (hn : n ≤ 4) (x2 x3 : Int32) : ∀ (r f i : Nat) (τ : Sx), i + r = n → r < f → ∃ g, m_X12_plans_L151 f (nI n) x2 x3 (nI i) τ = some (nI n, x2, x3, sr τ 10 g) ∧ (∀ z, z < i → g z = τ.2.2.1 10 z) ∧ ∀ z, i ≤ z → z < n → g z = τ.2.2.1 9 z := by
  intro r
  induction r with
  | zero =>
    intro f i τ hi hf
    obtain ⟨f, rfl⟩ : ∃ k, f = k + 1 := ⟨f - 1, by omega⟩
    exact ⟨τ.2.2.1 10, by rw [m_X12_plans_L151, if_pos (nI_le (by omega) (by omega)), sr_self], fun _ _ => rfl, fun z h1 h2 => by omega⟩
  | succ r ih =>
    intro f i τ hi hf
    obtain ⟨f, rfl⟩ : ∃ k, f = k + 1 := ⟨f - 1, by omega⟩
    obtain ⟨g, p1, p2, p3⟩ := ih f (i + 1) (sr τ 10 (upd (τ.2.2.1 10) i (τ.2.2.1 9 i))) (by omega) (by omega)
    rw [sr_sr] at p1
    refine ⟨g, ?_, fun z hz => ?_, fun z h1 h2 => ?_⟩
    · rw [m_X12_plans_L151, if_neg (nI_ge (by omega) (by omega)), ldk (n := 4) rfl (by omega) (by decide), bs, stk (n := 4) rfl (by omega) (by decide), bs, nI_1]
      exact p1
    · rw [p2 z (by omega)]
      exact upd_n _ _ (by omega)
    · by_cases q : z = i
      · subst q
        rw [p2 z (by omega)]
        exact upd_s _ _ _
      · rw [p3 z (by omega) h2]
        rfl
