/-! room -/
theorem mj42 {τ : Sx} {P : Nat} (hP : P ≤ 5) (h7 : τ.1 7 = nI P) (s0 : Int32) : ∃ f1 f2 f3 f4 f12, m_X12_settles_J42 s0 τ = some (sr (sg (sg (sg (sr (sr (sr (sr (sg τ 10 s0) 1 f1) 2 f2) 3 f3) 4 f4) 1 0) 15 0) 16 0) 12 f12) ∧ (∀ z, z < 15 → f1 z = τ.2.2.1 1 (15 + z)) ∧ (∀ z, z < 24 → f2 z = τ.2.2.1 2 (24 + z)) ∧ (∀ z, z < 4 → f3 z = τ.2.2.1 3 (4 + z)) ∧ (∀ z, z < 4 ∨ (9 ≤ z ∧ z < 14) → f4 z = 0) ∧ (∀ k, k < P → f4 (4 + k) = τ.2.2.1 1 (15 + 3 * k)) ∧ f12 0 = 0 ∧ f12 1 = 0 := by
  generalize hT : sg τ 10 s0 = T
  have T7 : T.1 7 = nI P := by rw [← hT]; exact h7
  have Ta : T.2.2.1 = τ.2.2.1 := by rw [← hT]; rfl
  have a1 := mst47 (τ := T) 15 FU 0 (by omega) (by unfold FU; omega)
  rw [pt_0, sr_self] at a1
  have a1 : m_X12_settles_L47 FU 0 T = _ := a1
  have w1 : ∀ z, z < 15 → pt (T.2.2.1 1) (fun k => T.2.2.1 1 (15 + k)) 0 15 z = τ.2.2.1 1 (15 + z) := fun z hz => by
    have := pt_in (g := T.2.2.1 1) (f := fun k => T.2.2.1 1 (15 + k)) (a := 0) hz
    rw [Nat.zero_add] at this
    rw [this, Ta]
  generalize pt (T.2.2.1 1) (fun k => T.2.2.1 1 (15 + k)) 0 15 = f1 at a1 w1
  have a2 := mst76 (τ := sr T 1 f1) 24 FU 0 (by omega) (by unfold FU; omega)
  rw [pt_0, sr_self] at a2
  have a2 : m_X12_settles_L76 FU 0 (sr T 1 f1) = _ := a2
  have w2 : ∀ z, z < 24 → pt ((sr T 1 f1).2.2.1 2) (fun k => (sr T 1 f1).2.2.1 2 (24 + k)) 0 24 z = τ.2.2.1 2 (24 + z) := fun z hz => by
    have := pt_in (g := (sr T 1 f1).2.2.1 2) (f := fun k => (sr T 1 f1).2.2.1 2 (24 + k)) (a := 0) hz
    rw [Nat.zero_add] at this
    rw [this, ← Ta]
    rfl
  generalize pt ((sr T 1 f1).2.2.1 2) (fun k => (sr T 1 f1).2.2.1 2 (24 + k)) 0 24 = f2 at a2 w2
  have a3 := mst105 (τ := sr (sr T 1 f1) 2 f2) 4 FU 0 (by omega) (by unfold FU; omega)
  rw [pt_0, sr_self] at a3
  have a3 : m_X12_settles_L105 FU 0 (sr (sr T 1 f1) 2 f2) = _ := a3
  have w3 : ∀ z, z < 4 → pt ((sr (sr T 1 f1) 2 f2).2.2.1 3) (fun k => (sr (sr T 1 f1) 2 f2).2.2.1 3 (4 + k)) 0 4 z = τ.2.2.1 3 (4 + z) := fun z hz => by
    have := pt_in (g := (sr (sr T 1 f1) 2 f2).2.2.1 3) (f := fun k => (sr (sr T 1 f1) 2 f2).2.2.1 3 (4 + k)) (a := 0) hz
    rw [Nat.zero_add] at this
    rw [this, ← Ta]
    rfl
  generalize pt ((sr (sr T 1 f1) 2 f2).2.2.1 3) (fun k => (sr (sr T 1 f1) 2 f2).2.2.1 3 (4 + k)) 0 4 = f3 at a3 w3
  have a4 := mst132 (τ := sr (sr (sr T 1 f1) 2 f2) 3 f3) 14 FU 0 (by omega) (by unfold FU; omega)
  rw [pt_0, sr_self] at a4
  have a4 : m_X12_settles_L132 FU 0 (sr (sr (sr T 1 f1) 2 f2) 3 f3) = _ := a4
  have w4 : ∀ z, z < 14 → pt ((sr (sr (sr T 1 f1) 2 f2) 3 f3).2.2.1 4) (fun _ => 0) 0 14 z = 0 := fun z hz => by
    have := pt_in (g := (sr (sr (sr T 1 f1) 2 f2) 3 f3).2.2.1 4) (f := fun _ => 0) (a := 0) hz
    rw [Nat.zero_add] at this
    exact this
  generalize pt ((sr (sr (sr T 1 f1) 2 f2) 3 f3).2.2.1 4) (fun _ => 0) 0 14 = g4 at a4 w4
  obtain ⟨f4, a5, w5, w6⟩ := mst153 hP P FU 0 (sr (sr (sr (sr T 1 f1) 2 f2) 3 f3) 4 g4) T7 (by omega) (by unfold FU; omega)
  have a5 : m_X12_settles_L153 FU 0 (sr (sr (sr (sr T 1 f1) 2 f2) 3 f3) 4 g4) = _ := a5
  rw [sr_sr] at a5
  have s0' : ∀ (σ : Sx), stZ σ 12 0 0 = some (sr σ 12 (upd (σ.2.2.1 12) 0 0)) := fun σ => stzk (k := 0) (by decide)
  have s1' : ∀ (σ : Sx), stZ σ 12 1 0 = some (sr σ 12 (upd (σ.2.2.1 12) 1 0)) := fun σ => stzk (k := 1) (by decide)
  refine ⟨f1, f2, f3, f4, upd (upd (T.2.2.1 12) 0 0) 1 0, ?_, w1, w2, w3, fun z hz => ?_, fun k hk => ?_, rfl, rfl⟩
  · unfold m_X12_settles_J42
    rw [hT, a1, bs, a2, bs, a3, bs, a4, bs, a5, bs, s0', bs, s1', bs, sr_sr]
    rfl
  · rw [w5 z (by omega)]
    exact w4 z (by omega)
  · rw [w6 k (by omega) hk]
    show f1 (3 * k) = _
    rw [w1 _ (by omega)]
theorem mset {τ : Sx} {P : Nat} (hP : P ≤ 5) (h11 : τ.1 11 = nI P) : ∃ τ', m_X12_settles τ = some τ' ∧ (τ'.1 7 = τ.1 11 ∧ τ'.1 8 = τ.1 12 ∧ τ'.1 9 = τ.1 13 ∧ τ'.1 10 = (if τ.1 14 = -9 then 1 else τ.1 14) ∧ τ'.1 1 = 0 ∧ τ'.1 15 = 0 ∧ τ'.1 16 = 0) ∧ τ'.2.1 = τ.2.1 ∧ (∀ z, z < 15 → τ'.2.2.1 1 z = τ.2.2.1 1 (15 + z)) ∧ (∀ z, z < 24 → τ'.2.2.1 2 z = τ.2.2.1 2 (24 + z)) ∧ (∀ z, z < 4 → τ'.2.2.1 3 z = τ.2.2.1 3 (4 + z)) ∧ (∀ z, z < 4 ∨ (9 ≤ z ∧ z < 14) → τ'.2.2.1 4 z = 0) ∧ (∀ k, k < P → τ'.2.2.1 4 (4 + k) = τ.2.2.1 1 (15 + 3 * k)) ∧ τ'.2.2.1 12 0 = 0 ∧ τ'.2.2.1 12 1 = 0 := by
  unfold m_X12_settles
  generalize hT : sg (sg (sg τ 7 (τ.1 11)) 8 ((sg τ 7 (τ.1 11)).1 12)) 9 ((sg (sg τ 7 (τ.1 11)) 8 ((sg τ 7 (τ.1 11)).1 12)).1 13) = T
  have T14 : T.1 14 = τ.1 14 := by rw [← hT]; rfl
  have T7 : T.1 7 = τ.1 11 := by rw [← hT]; rfl
  have T8 : T.1 8 = τ.1 12 := by rw [← hT]; rfl
  have T9 : T.1 9 = τ.1 13 := by rw [← hT]; rfl
  have T2 : T.2 = τ.2 := by rw [← hT]; rfl
  obtain ⟨f1, f2, f3, f4, f12, a, w1, w2, w3, w4, w5, w6, w7⟩ := mj42 hP (T7.trans h11) (if τ.1 14 = -9 then 1 else τ.1 14)
  rw [T2] at w1 w2 w3 w5
  rw [T14]
  have e : (if τ.1 14 = -9 then m_X12_settles_J42 1 T else m_X12_settles_J42 (τ.1 14) T) = m_X12_settles_J42 (if τ.1 14 = -9 then 1 else τ.1 14) T := by
    split <;> rfl
  rw [e, a]
  exact ⟨_, rfl, ⟨T7, T8, T9, rfl, rfl, rfl, rfl⟩, (show T.2.1 = τ.2.1 by rw [T2]), w1, w2, w3, w4, w5, w6, w7⟩
theorem INV.err {σ τ σ' τ' : Sx} (h : INV σ τ) (k : ce σ σ') (l : me τ τ') : INV σ' τ' := by
  obtain ⟨d, hb, hc, hm, hN, hB, hI, hS, hT, hL⟩ := h
  have h5 : d.1 0 ≤ 5 := hb.1
  have h8 : d.1 2 ≤ 8 := hb.2.2.1
  have h2 : d.1 3 ≤ 2 := hb.2.2.2.1
  refine ⟨d, hb, hc.keep (fun i hi => k.1 i (by omega)) (fun j h1 h2 => k.2.2 j (by omega)), ?_, ?_, ?_, ?_, ?_, ?_, ?_⟩
  · refine ⟨⟨(l.1 7 (by omega)).trans hm.1.1, (l.1 10 (by omega)).trans hm.1.2.1, (l.1 8 (by omega)).trans hm.1.2.2.1, (l.1 9 (by omega)).trans hm.1.2.2.2⟩, fun j hj => ?_, fun j hj => ?_, fun j hj => ?_⟩
    · rw [l.2.2.2.1 _ (by omega), l.2.2.2.1 _ (by omega)]; exact hm.2.1 j hj
    · rw [l.2.2.2.2.1 _ (by omega), l.2.2.2.2.1 _ (by omega), l.2.2.2.2.1 _ (by omega)]; exact hm.2.2.1 j hj
    · rw [l.2.2.2.2.2 _ (by omega), l.2.2.2.2.2 _ (by omega)]; exact hm.2.2.2 j hj
  · unfold iNow at hN ⊢
    have e : cN σ' = cN σ := by
      unfold cN
      rw [k.1 14 (by omega), k.1 15 (by omega), k.1 16 (by omega), k.1 17 (by omega), k.2.2 17 (by omega), k.2.2 18 (by omega)]
    rw [e, l.2.2.1 4 (by omega)]
    exact hN
  · exact hB.keep (k.1 19 (by omega)) (l.1 15 (by omega)) (k.1 18 (by omega)) (fun j h1 h2 => k.2.2 j (by omega)) (l.2.2.1 7 (by omega))
  · exact hI.keep (k.2.2 47 (by omega)) (l.2.2.1 12 (by omega)) (fun j h1 h2 => k.2.2 j (by omega)) (l.2.2.1 6 (by omega))
  · exact hS.keep (k.1 23 (by omega)) (l.1 16 (by omega)) (fun j h1 h2 => k.2.2 j (by omega)) (l.2.2.1 8 (by omega))
  · exact hT.keep (k.1 8 (by omega)) (l.1 1 (by omega)) (k.2.2 16 (by omega)) (l.2.2.1 0 (by omega))
  · rw [k.2.1, l.2.1]; exact hL
theorem OKroom : OK_room INV := by
  intro σ τ hinv
  obtain ⟨d0, hb0, hc0, hm0, hN0, hB0, hI0, hS0, hT0, hL0⟩ := id hinv
  obtain ⟨n, hn, t1, t2, t3⟩ := hT0
  obtain ⟨ch, hch, hcs, hcm⟩ : ∃ ch : Nat → Nat, (∀ j, j < n → ch j ≤ 255) ∧ (∀ j, j < n → σ.2.2.1 16 j = nI (ch j)) ∧ ∀ j, j < n → τ.2.2.1 0 j = nI (ch j) := by
    refine ⟨fun j => (σ.2.2.1 16 j).toNatClampNeg, fun j hj => ?_, fun j hj => ?_, fun j hj => ?_⟩
    · obtain ⟨c, c1, c2, c3⟩ := t3 j hj
      show (σ.2.2.1 16 j).toNatClampNeg ≤ 255
      rw [c2, nI_clamp (by omega)]; exact c1
    · obtain ⟨c, c1, c2, c3⟩ := t3 j hj
      show σ.2.2.1 16 j = nI (σ.2.2.1 16 j).toNatClampNeg
      rw [c2, nI_clamp (by omega)]
    · obtain ⟨c, c1, c2, c3⟩ := t3 j hj
      show τ.2.2.1 0 j = nI (σ.2.2.1 16 j).toNatClampNeg
      rw [c2, c3, nI_clamp (by omega)]
  unfold m_X11_room m_X7_readInto m_X10_empty m_X12_room
  rw [bs]
  have ci : ce σ (sg (sg (sg (sg (sg (sg σ 4 0) 5 1) 6 0) 7 0) 10 0) 13 0) := (((((ce.sg (by decide)).tr (ce.sg (by decide))).tr (ce.sg (by decide))).tr (ce.sg (by decide))).tr (ce.sg (by decide))).tr (ce.sg (by decide))
  have mi : me τ (sg (sg (sg (sg (sg (sg (sg τ 0 0) 6 (-1)) 2 0) 11 0) 12 0) 13 0) 14 (-9)) := ((((((me.sg (by decide)).tr (me.sg (by decide))).tr (me.sg (by decide))).tr (me.sg (by decide))).tr (me.sg (by decide))).tr (me.sg (by decide))).tr (me.sg (by decide))
  generalize hσi : sg (sg (sg (sg (sg (sg σ 4 0) 5 1) 6 0) 7 0) 10 0) 13 0 = σi at ci
  generalize hτi : sg (sg (sg (sg (sg (sg (sg τ 0 0) 6 (-1)) 2 0) 11 0) 12 0) 13 0) 14 (-9) = τi at mi
  have hxi : Cx n ch σi := by rw [← hσi]; exact ⟨t1, hcs⟩
  have hmi : Mx n ch τi := by rw [← hτi]; exact ⟨t2, hcm⟩
  obtain ⟨τ1, a1, a2, a3⟩ := mnx (p := 0) hn hch hmi (by rw [← hτi]; rfl) (by omega)
  have hw : Mw n ch τ1 0 := ⟨hmi.keep a2, (a2.1 6 (by omega)).trans (by rw [← hτi]; rfl), a3⟩
  have hG : Gd σi τ1 := by
    refine ⟨(fun i => if i = 1 then 1 else 0, fun _ _ => 0), fun _ => 0, ?_⟩
    refine Dr.keep (σ := σi) (τ := τi) ?_ (cfr.rf _) a2
    rw [← hσi, ← hτi]
    exact ⟨⟨by decide, Or.inl rfl, by decide, by decide, fun k h => absurd h (by simp), fun k h => absurd h (by simp), fun k h => absurd h (by simp)⟩, fun _ _ => Nat.zero_le 100, ⟨⟨rfl, rfl, rfl⟩, rfl, rfl, rfl⟩, Or.inl ⟨rfl, rfl, rfl, rfl⟩, fun k h => absurd h (by simp), fun k h => absurd h (by simp), fun k h => absurd h (by simp)⟩
  have hr := rloop (σ0 := σ) (τ0 := τ) hn hch (n + 1) FU 0 0 σi τ1 (by omega) (by omega) (by omega) (by unfold FU; omega) hxi (by rw [← hσi]; rfl) hw ci (mi.tr a2.me) hG
  rw [a1, bs]
  rcases hr with ⟨it, σ', τ', e1, e2, e3, e4, e5, e6, d, lv, hD⟩ | ⟨σ', x, τ', q, e1, e2, e3, e4, e5, e6, e7⟩
  · have e1 : m_X7_readInto_L16 FU 0 σi = some (.inl (nI it, σ')) := e1
    have e2 : m_X12_room_L42 FU 0 τ1 = some (nI it, τ') := e2
    rw [e1, e2, bs, bs]
    obtain ⟨b1, b2, b3, b4, b5, b6, b7⟩ := hD
    have h5 : d.1 0 ≤ 5 := b1.1
    have h8 : d.1 2 ≤ 8 := b1.2.2.1
    have h2 : d.1 3 ≤ 2 := b1.2.2.2.1
    obtain ⟨σ2, c1, ⟨⟨s0, s1, s2, s3⟩, c2⟩, c3, c4, c5, c6, c7⟩ := ctk σ'
    obtain ⟨σ3, f1, f2, f3, f4, f5⟩ := cbg 5 FU 0 (sg (sg (sg (sg σ2 14 0) 15 0) 16 0) 17 0) (fun k hk => absurd hk (by omega)) (by omega) (by unfold FU; omega)
    have f1 : m_X4_begin_L22 FU 0 (sg (sg (sg (sg σ2 14 0) 15 0) 16 0) 17 0) = some σ3 := f1
    obtain ⟨τ2, g1, ⟨g7, g8, g9, g10, g11, g15, g16⟩, g2, g3, g4, g5, g6, gl, gz0, gz1⟩ := mset (τ := τ') h5 b3.2.1
    have hc : ((Sum.elim (fun r23 => some r23) (fun y22 => some (-3, y22)) (Sum.inl (nI it, σ') : Sum (Int32 × Sx) Sx)) : Option (Int32 × Sx)) = some (nI it, σ') := rfl
    rw [hc, bs]
    dsimp only
    unfold m_X4_begin m_X12_room_J117
    rw [if_pos (nI_pos' (by omega)), c1, bs, f1, bs, bs, c64, bs, m_X12_isWell, e4, if_neg (show ¬ (0 : Int32) ≤ -1 by decide), bs, if_neg n10, g1, bs]
    have hh : d.1 1 = 1 ∨ d.1 1 = 2 := b1.2.1
    refine ⟨_, _, _, rfl, rfl, d, b1, ?_, ?_, ?_, ?_, ?_, ?_, ?_, ?_⟩
    · refine ⟨⟨?_, ?_, ?_, ?_⟩, fun k hk => ?_, fun k hk => ?_, fun k hk => ?_⟩
      · show σ3.1 0 = _
        rw [f2]; exact s0.trans b3.1.1
      · show σ3.1 1 = _
        rw [f2]
        refine s1.trans ?_
        rcases b4 with ⟨-, w2, -, w4⟩ | ⟨-, w2, -⟩
        · rw [w2, w4]; rfl
        · exact w2
      · show σ3.1 2 = _
        rw [f2]; exact s2.trans b3.1.2.1
      · show σ3.1 3 = _
        rw [f2]; exact s3.trans b3.1.2.2
      · show σ3.2.2.1 1 k = _ ∧ σ3.2.2.1 2 k = _
        rw [f4 1 (by decide) (by decide), f4 2 (by decide) (by decide)]
        obtain ⟨⟨-, w1, w2⟩, -⟩ := b5 k hk
        obtain ⟨-, v1, v2⟩ := c5 k (by omega)
        exact ⟨v1.trans w1, v2.trans w2⟩
      · show σ3.2.2.1 3 k = _ ∧ σ3.2.2.1 4 k = _ ∧ σ3.2.2.1 5 k = _
        rw [f4 3 (by decide) (by decide), f4 4 (by decide) (by decide), f4 5 (by decide) (by decide)]
        obtain ⟨⟨w0, w1, w2⟩, -⟩ := b6 k hk
        obtain ⟨v0, v1, v2⟩ := c6 k (by omega)
        exact ⟨v0.trans w0, v1.trans w1, v2.trans w2⟩
      · show σ3.2.2.1 6 k = _ ∧ σ3.2.2.1 7 k = _
        rw [f4 6 (by decide) (by decide), f4 7 (by decide) (by decide)]
        obtain ⟨⟨w0, w1⟩, -⟩ := b7 k hk
        obtain ⟨v0, v1⟩ := c7 k (by omega)
        exact ⟨v0.trans w0, v1.trans w1⟩
    · refine ⟨⟨g7.trans b3.2.1, ?_, g8.trans b3.2.2.1, g9.trans b3.2.2.2⟩, fun k hk => ?_, fun k hk => ?_, fun k hk => ?_⟩
      · rw [g10]
        rcases b4 with ⟨-, -, w3, w4⟩ | ⟨-, -, w3⟩
        · rw [if_pos w3, w4]; rfl
        · rw [w3, if_neg (nI_n9 (by omega))]
      · obtain ⟨-, w0, w1, w2⟩ := b5 k hk
        rw [g3 _ (by omega), g3 _ (by omega)]
        exact ⟨w1, w2⟩
      · obtain ⟨-, w0, w1, w2⟩ := b6 k hk
        rw [g4 _ (by omega), g4 _ (by omega), g4 _ (by omega)]
        exact ⟨w0, w1, w2⟩
      · obtain ⟨-, w0, w1⟩ := b7 k hk
        rw [g5 _ (by omega), g5 _ (by omega)]
        exact ⟨w0, w1⟩
    · refine iNow.of h5 (t := 0) (o := 0) (v := lv) (c := fun _ => 0) (by decide) (Nat.two_pow_pos _) ⟨?_, g6 0 (by omega)⟩ ⟨?_, g6 1 (by omega)⟩ ?_ ?_ (fun k hk => ⟨b2 k hk, Nat.le_refl _⟩) ⟨fun k hk => ?_, fun k hk => ?_⟩ ⟨fun k hk => ?_, fun k hk => g6 (9 + k) (by omega)⟩
      · show σ3.1 14 = _
        rw [f2]; rfl
      · show σ3.1 15 = _
        rw [f2]; rfl
      · show σ3.1 16 = _
        rw [f2, g6 2 (by omega)]; rfl
      · show σ3.1 17 = _
        rw [f2, g6 3 (by omega)]; rfl
      · show σ3.2.2.1 17 k = _
        rw [(f5 k (by omega)).1]
        exact ((c5 k (by omega)).1).trans (b5 k hk).1.1
      · show σ3.2.2.1 18 k = _
        exact (f5 k (by omega)).2
      · rw [gl k hk]
        exact (b5 k hk).2.1
    · obtain ⟨u, w, -, hw, -, -, hw2, -⟩ := hB0
      refine ⟨0, w, by decide, hw, rfl, g15, ?_, fun j hj => absurd hj (by omega)⟩
      show σ3.1 18 = _
      rw [f2]
      show σ2.1 18 = _
      rw [c2 18 (by omega), e5.1 18 (by omega)]
      exact hw2
    · intro m hm
      left
      rcases (show m = 0 ∨ m = 1 by omega) with rfl | rfl
      · exact ⟨rfl, gz0⟩
      · exact ⟨rfl, gz1⟩
    · exact ⟨0, by decide, rfl, g16, fun j hj => absurd hj (by omega)⟩
    · exact ⟨0, by decide, rfl, g11, fun j hj => absurd hj (by omega)⟩
    · show σ3.2.1 = τ2.2.1
      rw [f3, g2, e6.2.1]
      show σ2.2.1 = _
      rw [c3, e5.2.1]
      exact hL0
  · have e1 : m_X7_readInto_L16 FU 0 σi = some (.inl (-3, σ')) := e1
    have e2 : m_X12_room_L42 FU 0 τ1 = some (x, τ') := e2
    rw [e1, e2, bs, bs]
    have hc : ((Sum.elim (fun r23 => some r23) (fun y22 => some (-3, y22)) (Sum.inl (-3, σ') : Sum (Int32 × Sx) Sx)) : Option (Int32 × Sx)) = some (-3, σ') := rfl
    rw [hc, bs]
    dsimp only
    unfold m_X12_room_J117
    rw [if_neg (show ¬ (0 : Int32) ≤ -3 by decide), m_X12_isWell, e4, if_pos (nI_pos' (by omega)), bs, if_pos rfl, e3]
    exact ⟨_, σ', τ', rfl, rfl, hinv.err e6 e7⟩
