/-! fullBy -/
theorem mcp5 {τ : Sx} : ∀ (r n i : Nat), i + r = 14 → r < n → m_X12_asNow_L2 n (nI i) (sr τ 5 (pt (τ.2.2.1 5) (τ.2.2.1 4) 0 i)) = some (sr τ 5 (pt (τ.2.2.1 5) (τ.2.2.1 4) 0 14)) := by
  intro r
  induction r with
  | zero =>
    intro n i hi hn
    obtain ⟨n, rfl⟩ : ∃ k, n = k + 1 := ⟨n - 1, by omega⟩
    obtain rfl : i = 14 := by omega
    rw [m_X12_asNow_L2, if_pos (by decide)]
  | succ r ih =>
    intro n i hi hn
    obtain ⟨n, rfl⟩ : ∃ k, n = k + 1 := ⟨n - 1, by omega⟩
    rw [m_X12_asNow_L2, if_neg (show ¬ (14 : Int32) ≤ nI i from nI_ge (show i < 14 by omega) (by decide)), ldk (n := 14) rfl (by omega) (by decide), bs, stk (n := 14) rfl (by omega) (by decide), bs, sr_sr, nI_1]
    have e1 : (sr τ 5 (pt (τ.2.2.1 5) (τ.2.2.1 4) 0 i)).2.2.1 5 = pt (τ.2.2.1 5) (τ.2.2.1 4) 0 i := rfl
    have e2 : (sr τ 5 (pt (τ.2.2.1 5) (τ.2.2.1 4) 0 i)).2.2.1 4 i = τ.2.2.1 4 i := rfl
    have e3 := pt_s (τ.2.2.1 5) (τ.2.2.1 4) 0 i
    rw [Nat.zero_add] at e3
    rw [e1, e2, e3]
    exact ih n (i + 1) (by omega) (by omega)
theorem asNow_ok (τ : Sx) : ∃ f, m_X12_asNow τ = some (sr τ 5 f) ∧ ∀ i, i < 14 → f i = τ.2.2.1 4 i := by
  have h := mcp5 (τ := τ) 14 FU 0 (by omega) (by unfold FU; omega)
  rw [pt_0, sr_self] at h
  have h : m_X12_asNow_L2 FU 0 τ = _ := h
  refine ⟨pt (τ.2.2.1 5) (τ.2.2.1 4) 0 14, ?_, fun i hi => ?_⟩
  · unfold m_X12_asNow
    rw [h, bs]
  · have := pt_in (g := τ.2.2.1 5) (f := τ.2.2.1 4) (a := 0) hi
    rw [Nat.zero_add] at this
    exact this
theorem onB_self (k : Nat) : onB (2 ^ k) k = true := by
  unfold onB
  rw [Nat.div_self (Nat.two_pow_pos k)]
  rfl
theorem fbl {d : TD} (hb : bT d) {σ : Sx} (hc : cT σ d) {t k y : Nat} (ht : t ≤ 99) (hk : k < d.1 0) (hy : y ≤ 100) (h14 : σ.1 14 = nI t) : ∀ (r n i : Nat) (v c : Nat → Nat) (τ : Sx), mT τ d → τ.2.2.1 5 0 = nI (t + i) → τ.2.2.1 5 1 = nI (2 ^ k) → hvM (d.1 0) 5 τ v → hcM (d.1 0) 5 τ c → (∀ k, k < d.1 0 → v k ≤ 100) → i + r = 61 → r < n → (∃ x f, m_X11_fullBy_L33 σ n (nI k) (nI y) (nI (v k)) (nI i) = some (.inl x) ∧ m_X12_fullBy_L40 n (nI k) (nI y) (nI i) τ = some (.inl (x, sr τ 5 f))) ∨ (∃ f, m_X11_fullBy_L33 σ n (nI k) (nI y) (nI (v k)) (nI i) = some (.inr ()) ∧ m_X12_fullBy_L40 n (nI k) (nI y) (nI i) τ = some (.inr (sr τ 5 f))) := by
  have h5 : d.1 0 ≤ 5 := hb.1
  intro r
  induction r with
  | zero =>
    intro n i v c τ hm h0 h1 hv hk2 hv100 hi hn
    obtain ⟨n, rfl⟩ : ∃ k, n = k + 1 := ⟨n - 1, by omega⟩
    obtain rfl : i = 61 := by omega
    right
    refine ⟨τ.2.2.1 5, ?_, ?_⟩
    · rw [m_X11_fullBy_L33, if_pos (by decide)]
    · rw [m_X12_fullBy_L40, if_pos (by decide), sr_self]
  | succ r ih =>
    intro n i v c τ hm h0 h1 hv hk2 hv100 hi hn
    obtain ⟨n, rfl⟩ : ∃ k, n = k + 1 := ⟨n - 1, by omega⟩
    have hvk := hv100 k hk
    have rK : ldA mLn τ 5 (4 + nI k) = some (nI (v k)) := by
      rw [show (4 : Int32) + nI k = nI (4 + k) from nI_add 4 k, ldk (n := 14) rfl (by omega) (by decide), hv k hk]
    rw [m_X11_fullBy_L33, m_X12_fullBy_L40, if_neg (show ¬ (60 : Int32) < nI i from nI_nlt (show i ≤ 60 by omega) (by decide)), if_neg (show ¬ (61 : Int32) ≤ nI i from nI_ge (show i < 61 by omega) (by decide)), rK, bs]
    by_cases q : v k < y
    · obtain ⟨f, b1, b2, b3, b4, b5, b6, b7⟩ := mgo_w (τ := τ) hb (t := t + i) (o := 2 ^ k) (v := v) (c := c) (by omega) (Nat.pow_lt_pow_right (by decide) hk) hm h0 h1 hv hk2 hv100
      have hbe := cbeh hb hc (k := k) (t := t + i) (v := v k) hk (by omega) hvk true
      have hbe : m_X10_levelBehind σ (nI (t + i)) (nI k) (nI (v k)) 1 = _ := hbe
      rw [if_pos (nI_lt q (by omega)), if_pos (nI_lt q (by omega)), h14, nI_add, hbe, bs, b1, bs, nI_1]
      have hi2 := ih n (i + 1) (fun k' => behN d (t + i) k' (v k') (onB (2 ^ k) k')) _ (sr τ 5 f) hm b2 b3 b6 b7 (fun k' hk' => behN_le d _ k' (hv100 k' hk') _) (by omega) (by omega)
      rw [onB_self] at hi2
      rcases hi2 with ⟨x, g, p1, p2⟩ | ⟨g, p1, p2⟩
      · left; exact ⟨x, g, p1, by rw [sr_sr] at p2; exact p2⟩
      · right; exact ⟨g, p1, by rw [sr_sr] at p2; exact p2⟩
    · left
      rw [if_neg (nI_nlt (by omega) (by omega)), if_neg (nI_nlt (by omega) (by omega))]
      exact ⟨nI i, τ.2.2.1 5, rfl, by rw [sr_self]⟩
theorem INV_w {σ τ : Sx} {f : Nat → Int32} (h : INV σ τ) : INV σ (sr τ 5 f) := h
theorem OKfullBy : OK_fullBy INV := by
  intro σ τ x y hinv
  have hinv2 : INV σ (sg τ 0 0) := hinv
  unfold m_X12_fullBy m_X11_fullBy
  generalize sg τ 0 0 = τ at hinv2 ⊢
  obtain ⟨d, hR, hN⟩ := INV_iff.mp hinv2
  have hR0 := hR
  obtain ⟨hb, hc, hm, -⟩ := hR0
  have h5 : d.1 0 ≤ 5 := hb.1
  obtain ⟨t, o, v, c, n1, n2, n3, n4, n5, n6, n7, n8, n9⟩ := hN.num h5
  rcases iph hb hc hm x with ⟨k, hk, rfl, e1, e2⟩ | ⟨e1, e2⟩
  · simp only [e1, e2, bs, if_neg n10]
    rcases wl y 100 (by decide) with ⟨n, hn, rfl, q1, q2⟩ | ⟨q1, q2⟩
    · have q1 : m_X11_isWithin (nI n) 0 100 = some 1 := q1
      have q2 : m_X12_in (nI n) 0 100 = some 1 := q2
      simp only [q1, q2, bs, if_neg n10]
      obtain ⟨f, a1, a2⟩ := asNow_ok τ
      have s1 : ∀ (τ' : Sx) x, stA mLn τ' 5 1 x = some (sr τ' 5 (upd (τ'.2.2.1 5) 1 x)) := fun τ' x => stk (k := 1) (n := 14) rfl (by decide) (by decide)
      have hs : ((1 : Int32) <<< (nI k &&& 31)) = nI (2 ^ k) := shl1 ⟨k, by omega⟩
      have lv : ldA cLn σ 17 (nI k) = some (nI (v k)) := by
        rw [ldk (n := 5) rfl (by omega) (by decide), n8.1 k hk]
      rw [lv, bs, a1, bs, hs, s1, bs, sr_sr]
      have z : ∀ j, j ≠ 1 → j < 14 → upd f 1 (nI (2 ^ k)) j = τ.2.2.1 4 j := fun j h1 h2 => (upd_n _ _ h1).trans (a2 j h2)
      have hl := fbl hb hc (t := t) (k := k) (y := n) n1 hk hn n3.1 61 FU 0 v c (sr τ 5 (upd f 1 (nI (2 ^ k)))) hm ((z 0 (by decide) (by decide)).trans n3.2) (upd_s f 1 (nI (2 ^ k))) (fun j hj => (z (4 + j) (by omega) (by omega)).trans (n9.1 j hj)) (fun j hj => (z (9 + j) (by omega) (by omega)).trans (n9.2 j hj)) (fun j hj => (n7 j hj).1) (by omega) (by unfold FU; omega)
      rcases hl with ⟨x, g, p1, p2⟩ | ⟨g, p1, p2⟩
      · have p1 : m_X11_fullBy_L33 σ FU (nI k) (nI n) (nI (v k)) 0 = some (.inl x) := p1
        have p2 : m_X12_fullBy_L40 FU (nI k) (nI n) 0 (sr τ 5 (upd f 1 (nI (2 ^ k)))) = some (.inl (x, sr (sr τ 5 (upd f 1 (nI (2 ^ k)))) 5 g)) := p2
        have e5 : (sr τ 5 f).2.2.1 5 = f := rfl
        rw [p1, bs, e5, p2, bs]
        exact ⟨x, sr (sr τ 5 (upd f 1 (nI (2 ^ k)))) 5 g, rfl, rfl, hinv2⟩
      · have p1 : m_X11_fullBy_L33 σ FU (nI k) (nI n) (nI (v k)) 0 = some (.inr ()) := p1
        have p2 : m_X12_fullBy_L40 FU (nI k) (nI n) 0 (sr τ 5 (upd f 1 (nI (2 ^ k)))) = some (.inr (sr (sr τ 5 (upd f 1 (nI (2 ^ k)))) 5 g)) := p2
        have e5 : (sr τ 5 f).2.2.1 5 = f := rfl
        rw [p1, bs, e5, p2, bs]
        exact ⟨-9, sr (sr τ 5 (upd f 1 (nI (2 ^ k)))) 5 g, rfl, rfl, hinv2⟩
    · have q1 : m_X11_isWithin y 0 100 = some 0 := q1
      have q2 : m_X12_in y 0 100 = some 0 := q2
      simp only [q1, q2, bs, if_true]
      exact ⟨_, τ, rfl, rfl, hinv2⟩
  · simp only [e1, e2, bs, if_true]
    exact ⟨_, τ, rfl, rfl, hinv2⟩
