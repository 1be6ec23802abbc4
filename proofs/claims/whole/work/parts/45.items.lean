/-! the items -/
def upN (f : Nat → Nat) (k x : Nat) : Nat → Nat := fun z => if z = k then x else f z
theorem upN_s (f : Nat → Nat) (k x : Nat) : upN f k x k = x := if_pos rfl
theorem upN_n (f : Nat → Nat) {k z : Nat} (x : Nat) (h : z ≠ k) : upN f k x z = f z := if_neg h
def DrS (d : TD) (σ τ : Sx) : Prop := (σ.1 4 = nI (d.1 0) ∧ σ.1 6 = nI (d.1 2) ∧ σ.1 7 = nI (d.1 3)) ∧ (τ.1 11 = nI (d.1 0) ∧ τ.1 12 = nI (d.1 2) ∧ τ.1 13 = nI (d.1 3))
def DrH (d : TD) (σ τ : Sx) : Prop := (σ.1 13 = 0 ∧ σ.1 5 = 1 ∧ τ.1 14 = -9 ∧ d.1 1 = 1) ∨ (σ.1 13 = 1 ∧ σ.1 5 = nI (d.1 1) ∧ τ.1 14 = nI (d.1 1))
def DrP (d : TD) (lv : Nat → Nat) (a b c t : Nat → Int32) : Prop := ∀ k, k < d.1 0 → (a k = nI (lv k) ∧ b k = nI (d.2 0 k) ∧ c k = nI (d.2 1 k)) ∧ (t (15 + 3 * k) = nI (lv k) ∧ t (15 + 3 * k + 1) = nI (d.2 0 k) ∧ t (15 + 3 * k + 2) = nI (d.2 1 k))
def DrC (d : TD) (a b c t : Nat → Int32) : Prop := ∀ k, k < d.1 2 → (a k = nI (d.2 2 k) ∧ b k = nI (d.2 3 k) ∧ c k = nI (d.2 4 k)) ∧ (t (24 + 3 * k) = nI (d.2 2 k) ∧ t (24 + 3 * k + 1) = nI (d.2 3 k) ∧ t (24 + 3 * k + 2) = nI (d.2 4 k))
def DrD (d : TD) (a b t : Nat → Int32) : Prop := ∀ k, k < d.1 3 → (a k = nI (d.2 5 k) ∧ b k = nI (d.2 6 k)) ∧ (t (4 + 2 * k) = nI (d.2 5 k) ∧ t (4 + 2 * k + 1) = nI (d.2 6 k))
def Dr (d : TD) (lv : Nat → Nat) (σ τ : Sx) : Prop := bT d ∧ (∀ k, k < d.1 0 → lv k ≤ 100) ∧ DrS d σ τ ∧ DrH d σ τ ∧ DrP d lv (σ.2.2.1 8) (σ.2.2.1 9) (σ.2.2.1 10) (τ.2.2.1 1) ∧ DrC d (σ.2.2.1 11) (σ.2.2.1 12) (σ.2.2.1 13) (τ.2.2.1 2) ∧ DrD d (σ.2.2.1 14) (σ.2.2.1 15) (τ.2.2.1 3)
theorem DrS.keep {d : TD} {σ τ σ' τ' : Sx} (h : DrS d σ τ) (e1 : ∀ i, i < 9 ∨ 13 ≤ i → σ'.1 i = σ.1 i) (e2 : ∀ i, i < 2 ∨ 6 < i → τ'.1 i = τ.1 i) : DrS d σ' τ' := ⟨⟨(e1 4 (by omega)).trans h.1.1, (e1 6 (by omega)).trans h.1.2.1, (e1 7 (by omega)).trans h.1.2.2⟩, (e2 11 (by omega)).trans h.2.1, (e2 12 (by omega)).trans h.2.2.1, (e2 13 (by omega)).trans h.2.2.2⟩
theorem DrH.keep {d : TD} {σ τ σ' τ' : Sx} (h : DrH d σ τ) (e1 : σ'.1 13 = σ.1 13) (e2 : σ'.1 5 = σ.1 5) (e3 : τ'.1 14 = τ.1 14) : DrH d σ' τ' := by
  unfold DrH
  rw [e1, e2, e3]
  exact h
theorem Dr.keep {d : TD} {lv : Nat → Nat} {σ τ σ' τ' : Sx} (h : Dr d lv σ τ) (k : cfr σ σ') (l : mfr τ τ') : Dr d lv σ' τ' := by
  obtain ⟨h1, h2, h3, h4, h5, h6, h7⟩ := h
  refine ⟨h1, h2, h3.keep k.1 (fun i hi => l.1 i (by omega)), h4.keep (k.1 13 (by omega)) (k.1 5 (by omega)) (l.1 14 (by omega)), ?_, ?_, ?_⟩
  · rw [k.2, l.2]; exact h5
  · rw [k.2, l.2]; exact h6
  · rw [k.2, l.2]; exact h7
def Gd (σ τ : Sx) : Prop := ∃ d lv, Dr d lv σ τ
theorem S1.hit {σ σ' : Sx} {j z v : Nat} (h : S1 σ σ' j z v) : σ'.2.2.1 j = upd (σ.2.2.1 j) z (nI v) := by rw [h.2]; exact if_pos rfl
theorem S1.ne {σ σ' : Sx} {j z v i : Nat} (h : S1 σ σ' j z v) (q : i ≠ j) : σ'.2.2.1 i = σ.2.2.1 i := by rw [h.2]; exact if_neg q
theorem T1.hit {σ σ' : Sx} {j z v : Nat} (h : T1 σ σ' j z v) : σ'.2.2.1 j = upd (σ.2.2.1 j) z (nI v) := by rw [h.2]; exact if_pos rfl
theorem T1.ne {σ σ' : Sx} {j z v i : Nat} (h : T1 σ σ' j z v) (q : i ≠ j) : σ'.2.2.1 i = σ.2.2.1 i := by rw [h.2]; exact if_neg q
theorem row3 {F a b c : Nat → Nat} {A B C t : Nat → Int32} {P x y z o : Nat} (h : ∀ k, k < P → (A k = nI (a k) ∧ B k = nI (b k) ∧ C k = nI (c k)) ∧ (t (o + 3 * k) = nI (a k) ∧ t (o + 3 * k + 1) = nI (b k) ∧ t (o + 3 * k + 2) = nI (c k))) : ∀ k, k < P + 1 → (upd A P (nI x) k = nI (upN a P x k) ∧ upd B P (nI y) k = nI (upN b P y k) ∧ upd C P (nI z) k = nI (upN c P z k)) ∧ (upd (upd (upd t (o + 3 * P) (nI x)) (o + 3 * P + 1) (nI y)) (o + 3 * P + 2) (nI z) (o + 3 * k) = nI (upN a P x k) ∧ upd (upd (upd t (o + 3 * P) (nI x)) (o + 3 * P + 1) (nI y)) (o + 3 * P + 2) (nI z) (o + 3 * k + 1) = nI (upN b P y k) ∧ upd (upd (upd t (o + 3 * P) (nI x)) (o + 3 * P + 1) (nI y)) (o + 3 * P + 2) (nI z) (o + 3 * k + 2) = nI (upN c P z k)) := by
  intro k hk
  by_cases q : k = P
  · subst q
    rw [upN_s, upN_s, upN_s, upd_s, upd_s, upd_s, upd_s, upd_n _ _ (by omega), upd_n _ _ (by omega), upd_s, upd_n _ _ (by omega), upd_s]
    exact ⟨⟨rfl, rfl, rfl⟩, rfl, rfl, rfl⟩
  · obtain ⟨⟨h1, h2, h3⟩, h4, h5, h6⟩ := h k (by omega)
    rw [upN_n _ _ q, upN_n _ _ q, upN_n _ _ q, upd_n _ _ q, upd_n _ _ q, upd_n _ _ q, upd_n _ _ (by omega), upd_n _ _ (by omega), upd_n _ _ (by omega), upd_n _ _ (by omega), upd_n _ _ (by omega), upd_n _ _ (by omega), upd_n _ _ (by omega), upd_n _ _ (by omega), upd_n _ _ (by omega)]
    exact ⟨⟨h1, h2, h3⟩, h4, h5, h6⟩
theorem row2 {a b : Nat → Nat} {A B t : Nat → Int32} {P x y o : Nat} (h : ∀ k, k < P → (A k = nI (a k) ∧ B k = nI (b k)) ∧ (t (o + 2 * k) = nI (a k) ∧ t (o + 2 * k + 1) = nI (b k))) : ∀ k, k < P + 1 → (upd A P (nI x) k = nI (upN a P x k) ∧ upd B P (nI y) k = nI (upN b P y k)) ∧ (upd (upd t (o + 2 * P) (nI x)) (o + 2 * P + 1) (nI y) (o + 2 * k) = nI (upN a P x k) ∧ upd (upd t (o + 2 * P) (nI x)) (o + 2 * P + 1) (nI y) (o + 2 * k + 1) = nI (upN b P y k)) := by
  intro k hk
  by_cases q : k = P
  · subst q
    rw [upN_s, upN_s, upd_s, upd_s, upd_s, upd_n _ _ (by omega), upd_s]
    exact ⟨⟨rfl, rfl⟩, rfl, rfl⟩
  · obtain ⟨⟨h1, h2⟩, h4, h5⟩ := h k (by omega)
    rw [upN_n _ _ q, upN_n _ _ q, upd_n _ _ q, upd_n _ _ q, upd_n _ _ (by omega), upd_n _ _ (by omega), upd_n _ _ (by omega), upd_n _ _ (by omega)]
    exact ⟨⟨h1, h2⟩, h4, h5⟩
theorem bnd {v a b : Nat} (hv : v ≤ 100) (ha : a ≤ 100) (hb : b ≤ 100) (h : m_X11_isWithin (nI v) (nI a) (nI b) = some 1) : a ≤ v ∧ v ≤ b := by
  unfold m_X11_isWithin at h
  by_cases q1 : v < a
  · rw [if_pos (nI_lt q1 (by omega))] at h; exact absurd h (by decide)
  · rw [if_neg (nI_nlt (by omega) (by omega))] at h
    by_cases q2 : b < v
    · rw [if_pos (nI_lt q2 (by omega))] at h; exact absurd h (by decide)
    · omega
theorem bndP {v P : Nat} (hv : v ≤ 100) (hP : P ≤ 5) (h : m_X11_isWithin (nI v) 0 (nI P - 1) = some 1) : v < P := by
  unfold m_X11_isWithin at h
  rw [if_neg (nI_pos (by omega))] at h
  by_cases q2 : nI P - 1 < nI v
  · rw [if_pos q2] at h; exact absurd h (by decide)
  · rw [Int32.lt_iff_toInt_lt, nI_m1 P (by omega), nI_toInt (by omega)] at q2
    omega
theorem itPhone {n : Nat} {ch : Nat → Nat} {p : Nat} {σ0 τ0 σ τ : Sx} {d : TD} {lv : Nat → Nat} (hn : n ≤ 200) (hch : ∀ j, j < n → ch j ≤ 255) (hp : p ≤ n) (hx : Cx n ch σ) (h10 : σ.1 10 = nI p) (hw : Mw n ch τ p) (hc : ce σ0 σ) (hm : me τ0 τ) (hD : Dr d lv σ τ) (hP : d.1 0 < 5) : Out n ch σ0 τ0 p Gd (m_X7_readPhone σ) ((m_X12_readsItem τ 116).bind endT) := by
  obtain ⟨b1, b2, b3, b4, b5, b6, b7⟩ := hD
  generalize hPe : d.1 0 = P at *
  have i0 : (15 : Int32) + 3 * nI P = nI (15 + 3 * P) := by rw [show (3 : Int32) * nI P = nI (3 * P) from pk_mul 3 P]; exact nI_add 15 _
  have i1 : nI (15 + 3 * P) + 1 = nI (15 + 3 * P + 1) := nI_1 _
  have i2 : nI (15 + 3 * P) + 2 = nI (15 + 3 * P + 2) := nI_add _ 2
  unfold m_X7_readPhone m_X12_readsItem
  rw [if_pos rfl]
  simp only [Option.bind_assoc, bs]
  rw [show σ.1 4 = nI P from b3.1.1.trans (congrArg nI hPe), show τ.1 11 = nI P from b3.2.1.trans (congrArg nI hPe), i0, i1, i2]
  have s8 : ∀ (ja : Nat), (ja = 8 ∨ ja = 9 ∨ ja = 10) → ∀ (σ : Sx) x, stA cLn σ ja (nI P) x = some (sr σ ja (upd (σ.2.2.1 ja) P x)) := fun ja hja σ x => by
    rcases hja with rfl | rfl | rfl <;> exact stk (n := 5) rfl (by omega) (by decide)
  have sm : ∀ z, z < 30 → ∀ (τ : Sx) x, stA mLn τ 1 (nI z) x = some (sr τ 1 (upd (τ.2.2.1 1) z x)) := fun z hz τ x => stk (n := 30) rfl hz (by decide)
  have F3 : FP τ0 (fun τ => endT (sg τ 11 (τ.1 11 + 1))) := FP_sg (FP_end τ0) (i := 11) (x := fun τ => τ.1 11 + 1) (by decide) (by decide)
  have F2 := FP_st F3 0 9 (j := 1) (z := 15 + 3 * P + 2) (Or.inl ⟨rfl, by omega⟩) (sm _ (by omega))
  have F1 := FP_st F2 1 30 (j := 1) (z := 15 + 3 * P + 1) (Or.inl ⟨rfl, by omega⟩) (sm _ (by omega))
  refine stg hn hch hp hx h10 hw hc hm (by decide) (Or.inl ⟨rfl, by omega⟩) (s8 8 (by omega)) (sm (15 + 3 * P) (by omega)) F1 (fun v1 σ1 τ1 p1 y1 y2 y3 y4 y5 y6 y7 y8 y9 y10 y11 => ?_)
  refine stg hn hch y4 y5 y6 y7 y8 y9 (by decide) (Or.inl ⟨rfl, by omega⟩) (s8 9 (by omega)) (sm (15 + 3 * P + 1) (by omega)) F2 (fun v2 σ2 τ2 p2 z1 z2 z3 z4 z5 z6 z7 z8 z9 z10 z11 => ?_)
  refine stg hn hch z4 z5 z6 z7 z8 z9 (by decide) (Or.inl ⟨rfl, by omega⟩) (s8 10 (by omega)) (sm (15 + 3 * P + 2) (by omega)) F3 (fun v3 σ3 τ3 p3 w1 w2 w3 w4 w5 w6 w7 w8 w9 w10 w11 => ?_)
  have q1 := bnd (a := 0) (b := 100) y1 (by decide) (by decide) y2
  have q2 := bnd (a := 1) (b := 30) z1 (by decide) (by decide) z2
  have q3 := bnd (a := 0) (b := 9) w1 (by decide) (by decide) w2
  refine itEnd hn hch (show p ≤ p3 by omega) w4 (w5.kp rfl rfl) w6 (w7.keep (fun i hi => if_neg (by omega)) rfl) (w8.tr (ce.sg (by decide))) (w9.tr (me.sg (by decide))) (fun σ' τ' k l => ?_)
  have sc : ∀ i, i < 9 ∨ 13 ≤ i → σ3.1 i = σ.1 i := fun i hi => (w10.1 i hi).trans ((z10.1 i hi).trans (y10.1 i hi))
  have tc : ∀ i, i < 2 ∨ 6 ≤ i → τ3.1 i = τ.1 i := fun i hi => (w11.1 i hi).trans ((z11.1 i hi).trans (y11.1 i hi))
  have x4 : σ3.1 4 + 1 = nI (P + 1) := by rw [sc 4 (by omega), b3.1.1, hPe, nI_1]
  have x11 : τ3.1 11 + 1 = nI (P + 1) := by rw [tc 11 (by omega), b3.2.1, hPe, nI_1]
  have A8 : σ3.2.2.1 8 = upd (σ.2.2.1 8) P (nI v1) := by rw [w10.ne (by decide), z10.ne (by decide), y10.hit]
  have A9 : σ3.2.2.1 9 = upd (σ.2.2.1 9) P (nI v2) := by rw [w10.ne (by decide), z10.hit, y10.ne (by decide)]
  have A10 : σ3.2.2.1 10 = upd (σ.2.2.1 10) P (nI v3) := by rw [w10.hit, z10.ne (by decide), y10.ne (by decide)]
  have Ac : ∀ j, 11 ≤ j → σ3.2.2.1 j = σ.2.2.1 j := fun j hj => by rw [w10.ne (by omega), z10.ne (by omega), y10.ne (by omega)]
  have B1 : τ3.2.2.1 1 = upd (upd (upd (τ.2.2.1 1) (15 + 3 * P) (nI v1)) (15 + 3 * P + 1) (nI v2)) (15 + 3 * P + 2) (nI v3) := by rw [w11.hit, z11.hit, y11.hit]
  have Bc : ∀ j, 2 ≤ j → τ3.2.2.1 j = τ.2.2.1 j := fun j hj => by rw [w11.ne (by omega), z11.ne (by omega), y11.ne (by omega)]
  refine ⟨(upN d.1 0 (P + 1), fun j => if j = 0 then upN (d.2 0) P v2 else if j = 1 then upN (d.2 1) P v3 else d.2 j), upN lv P v1, ?_⟩
  refine Dr.keep (σ := sg σ3 4 (σ3.1 4 + 1)) (τ := sg τ3 11 (τ3.1 11 + 1)) ?_ k l
  refine ⟨?_, ?_, ?_, ?_, ?_, ?_, ?_⟩
  · refine ⟨show P + 1 ≤ 5 by omega, b1.2.1, b1.2.2.1, b1.2.2.2.1, fun k hk => ?_, fun i hi => ?_, b1.2.2.2.2.2.2⟩
    · have hk : k < P + 1 := hk
      show 1 ≤ upN (d.2 0) P v2 k ∧ upN (d.2 0) P v2 k ≤ 30 ∧ upN (d.2 1) P v3 k ≤ 9
      by_cases q : k = P
      · subst q; rw [upN_s, upN_s]; omega
      · rw [upN_n _ _ q, upN_n _ _ q]; exact b1.2.2.2.2.1 k (by omega)
    · obtain ⟨u1, u2⟩ := b1.2.2.2.2.2.1 i hi
      exact ⟨show d.2 2 i < P + 1 by omega, u2⟩
  · intro k hk
    have hk : k < P + 1 := hk
    by_cases q : k = P
    · subst q; rw [upN_s]; omega
    · rw [upN_n _ _ q]; exact b2 k (by omega)
  · refine ⟨⟨x4, (sc 6 (by omega)).trans b3.1.2.1, (sc 7 (by omega)).trans b3.1.2.2⟩, x11, (tc 12 (by omega)).trans b3.2.2.1, (tc 13 (by omega)).trans b3.2.2.2⟩
  · exact b4.keep (sc 13 (by omega)) (sc 5 (by omega)) (tc 14 (by omega))
  · unfold DrP at b5
    rw [hPe] at b5
    have := row3 (F := lv) (x := v1) (y := v2) (z := v3) (o := 15) b5
    rw [← A8, ← A9, ← A10, ← B1] at this
    exact this
  · show DrC d (σ3.2.2.1 11) (σ3.2.2.1 12) (σ3.2.2.1 13) (τ3.2.2.1 2)
    rw [Ac 11 (by omega), Ac 12 (by omega), Ac 13 (by omega), Bc 2 (by omega)]
    exact b6
  · show DrD d (σ3.2.2.1 14) (σ3.2.2.1 15) (τ3.2.2.1 3)
    rw [Ac 14 (by omega), Ac 15 (by omega), Bc 3 (by omega)]
    exact b7
