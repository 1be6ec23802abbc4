theorem itHoles {n : Nat} {ch : Nat → Nat} {p : Nat} {σ0 τ0 σ τ : Sx} {d : TD} {lv : Nat → Nat} (hn : n ≤ 200) (hch : ∀ j, j < n → ch j ≤ 255) (hp : p ≤ n) (hx : Cx n ch σ) (h10 : σ.1 10 = nI p) (hw : Mw n ch τ p) (hc : ce σ0 σ) (hm : me τ0 τ) (hD : Dr d lv σ τ) : Out n ch σ0 τ0 p Gd (m_X7_readHoles σ) ((m_X12_readsItem τ 104).bind endT) := by
  obtain ⟨b1, b2, b3, b4, b5, b6, b7⟩ := hD
  unfold m_X7_readHoles m_X12_readsItem
  rw [if_neg (by decide), if_pos rfl]
  simp only [Option.bind_assoc, bs]
  rcases stn hn hch hp hx h10 hw 1 2 with ⟨v, σ1, τ1, p', e1, e2, e3, e4, e5, e6, e7, e8, e9, e10, e11⟩ | ⟨σ1, q, e1, e2, e3, e4, e5⟩
  · rw [e3, bs, e9, bs]
    dsimp only
    rw [if_neg n10, e4]
    have q1 := bnd (a := 1) (b := 2) e1 (by decide) (by decide) e2
    refine itEnd hn hch (show p ≤ p' by omega) e8 ((hx.keep e5).kp rfl rfl) e6 (e11.keep (fun i hi => if_neg (by omega)) rfl) (hc.tr (e5.ce.tr ((ce.sg (by decide)).tr (ce.sg (by decide))))) (hm.tr (e10.me.tr (me.sg (by decide)))) (fun σ' τ' k l => ?_)
    refine ⟨(upN d.1 1 v, d.2), lv, ?_⟩
    refine Dr.keep (σ := sg (sg σ1 5 (nI v)) 13 1) (τ := sg τ1 14 (nI v)) ?_ k l
    refine ⟨⟨b1.1, show v = 1 ∨ v = 2 by omega, b1.2.2⟩, b2, ?_, ?_, ?_, ?_, ?_⟩
    · exact ⟨⟨(e5.1 4 (by omega)).trans b3.1.1, (e5.1 6 (by omega)).trans b3.1.2.1, (e5.1 7 (by omega)).trans b3.1.2.2⟩, (e10.1 11 (by omega)).trans b3.2.1, (e10.1 12 (by omega)).trans b3.2.2.1, (e10.1 13 (by omega)).trans b3.2.2.2⟩
    · right; exact ⟨rfl, rfl, rfl⟩
    · show DrP d lv (σ1.2.2.1 8) (σ1.2.2.1 9) (σ1.2.2.1 10) (τ1.2.2.1 1)
      rw [e5.2, e10.2]; exact b5
    · show DrC d (σ1.2.2.1 11) (σ1.2.2.1 12) (σ1.2.2.1 13) (τ1.2.2.1 2)
      rw [e5.2, e10.2]; exact b6
    · show DrD d (σ1.2.2.1 14) (σ1.2.2.1 15) (τ1.2.2.1 3)
      rw [e5.2, e10.2]; exact b7
  · right
    obtain ⟨τ', f1, f2, f3⟩ := FP_end τ0 (sg (sg τ 6 (nI q)) 14 0) q rfl e4 (hm.tr ((me.sg (by decide)).tr (me.sg (by decide))))
    refine ⟨σ1, τ', q, ?_, ?_, e3, e4, f2, hc.tr e2.ce, f3⟩
    · rw [e1, bs]; rfl
    · rw [e5, bs]; exact f1
theorem itCall {n : Nat} {ch : Nat → Nat} {p : Nat} {σ0 τ0 σ τ : Sx} {d : TD} {lv : Nat → Nat} (hn : n ≤ 200) (hch : ∀ j, j < n → ch j ≤ 255) (hp : p ≤ n) (hx : Cx n ch σ) (h10 : σ.1 10 = nI p) (hw : Mw n ch τ p) (hc : ce σ0 σ) (hm : me τ0 τ) (hD : Dr d lv σ τ) (hP : d.1 2 < 8) : Out n ch σ0 τ0 p Gd (m_X7_readCall σ) ((m_X12_readsItem τ 99).bind endT) := by
  obtain ⟨b1, b2, b3, b4, b5, b6, b7⟩ := hD
  have h5 : d.1 0 ≤ 5 := b1.1
  generalize hPe : d.1 2 = P at *
  have i0 : (24 : Int32) + 3 * nI P = nI (24 + 3 * P) := by rw [show (3 : Int32) * nI P = nI (3 * P) from pk_mul 3 P]; exact nI_add 24 _
  have i1 : nI (24 + 3 * P) + 1 = nI (24 + 3 * P + 1) := nI_1 _
  have i2 : nI (24 + 3 * P) + 2 = nI (24 + 3 * P + 2) := nI_add _ 2
  unfold m_X7_readCall m_X12_readsItem
  rw [if_neg (by decide), if_neg (by decide), if_pos rfl]
  simp only [Option.bind_assoc, bs]
  rw [show σ.1 6 = nI P from b3.1.2.1.trans (congrArg nI hPe), show τ.1 12 = nI P from b3.2.2.1.trans (congrArg nI hPe), i0, i1, i2, b3.1.1, b3.2.1]
  have s8 : ∀ (ja : Nat), (ja = 11 ∨ ja = 12 ∨ ja = 13) → ∀ (σ : Sx) x, stA cLn σ ja (nI P) x = some (sr σ ja (upd (σ.2.2.1 ja) P x)) := fun ja hja σ x => by
    rcases hja with rfl | rfl | rfl <;> exact stk (n := 8) rfl (by omega) (by decide)
  have sm : ∀ z, z < 48 → ∀ (τ : Sx) x, stA mLn τ 2 (nI z) x = some (sr τ 2 (upd (τ.2.2.1 2) z x)) := fun z hz τ x => stk (n := 48) rfl hz (by decide)
  have F3 : FP τ0 (fun τ => endT (sg τ 12 (τ.1 12 + 1))) := FP_sg (FP_end τ0) (i := 12) (x := fun τ => τ.1 12 + 1) (by decide) (by decide)
  have F2 := FP_st F3 1 50 (j := 2) (z := 24 + 3 * P + 2) (Or.inr (Or.inl ⟨rfl, by omega⟩)) (sm _ (by omega))
  have F1 := FP_st F2 0 60 (j := 2) (z := 24 + 3 * P + 1) (Or.inr (Or.inl ⟨rfl, by omega⟩)) (sm _ (by omega))
  refine stg hn hch hp hx h10 hw hc hm (by decide) (Or.inr (Or.inl ⟨rfl, by omega⟩)) (s8 11 (by omega)) (sm (24 + 3 * P) (by omega)) F1 (fun v1 σ1 τ1 p1 y1 y2 y3 y4 y5 y6 y7 y8 y9 y10 y11 => ?_)
  refine stg hn hch y4 y5 y6 y7 y8 y9 (by decide) (Or.inr (Or.inl ⟨rfl, by omega⟩)) (s8 12 (by omega)) (sm (24 + 3 * P + 1) (by omega)) F2 (fun v2 σ2 τ2 p2 z1 z2 z3 z4 z5 z6 z7 z8 z9 z10 z11 => ?_)
  refine stg hn hch z4 z5 z6 z7 z8 z9 (by decide) (Or.inr (Or.inl ⟨rfl, by omega⟩)) (s8 13 (by omega)) (sm (24 + 3 * P + 2) (by omega)) F3 (fun v3 σ3 τ3 p3 w1 w2 w3 w4 w5 w6 w7 w8 w9 w10 w11 => ?_)
  have q1 := bndP y1 h5 y2
  have q2 := bnd (a := 0) (b := 60) z1 (by decide) (by decide) z2
  have q3 := bnd (a := 1) (b := 50) w1 (by decide) (by decide) w2
  refine itEnd hn hch (show p ≤ p3 by omega) w4 (w5.kp rfl rfl) w6 (w7.keep (fun i hi => if_neg (by omega)) rfl) (w8.tr (ce.sg (by decide))) (w9.tr (me.sg (by decide))) (fun σ' τ' k l => ?_)
  have sc : ∀ i, i < 9 ∨ 13 ≤ i → σ3.1 i = σ.1 i := fun i hi => (w10.1 i hi).trans ((z10.1 i hi).trans (y10.1 i hi))
  have tc : ∀ i, i < 2 ∨ 6 ≤ i → τ3.1 i = τ.1 i := fun i hi => (w11.1 i hi).trans ((z11.1 i hi).trans (y11.1 i hi))
  have x4 : σ3.1 6 + 1 = nI (P + 1) := by rw [sc 6 (by omega), b3.1.2.1, hPe, nI_1]
  have x11 : τ3.1 12 + 1 = nI (P + 1) := by rw [tc 12 (by omega), b3.2.2.1, hPe, nI_1]
  have A8 : σ3.2.2.1 11 = upd (σ.2.2.1 11) P (nI v1) := by rw [w10.ne (by decide), z10.ne (by decide), y10.hit]
  have A9 : σ3.2.2.1 12 = upd (σ.2.2.1 12) P (nI v2) := by rw [w10.ne (by decide), z10.hit, y10.ne (by decide)]
  have A10 : σ3.2.2.1 13 = upd (σ.2.2.1 13) P (nI v3) := by rw [w10.hit, z10.ne (by decide), y10.ne (by decide)]
  have Ac : ∀ j, j < 11 ∨ 14 ≤ j → σ3.2.2.1 j = σ.2.2.1 j := fun j hj => by rw [w10.ne (by omega), z10.ne (by omega), y10.ne (by omega)]
  have B1 : τ3.2.2.1 2 = upd (upd (upd (τ.2.2.1 2) (24 + 3 * P) (nI v1)) (24 + 3 * P + 1) (nI v2)) (24 + 3 * P + 2) (nI v3) := by rw [w11.hit, z11.hit, y11.hit]
  have Bc : ∀ j, j ≠ 2 → τ3.2.2.1 j = τ.2.2.1 j := fun j hj => by rw [w11.ne hj, z11.ne hj, y11.ne hj]
  refine ⟨(upN d.1 2 (P + 1), fun j => if j = 2 then upN (d.2 2) P v1 else if j = 3 then upN (d.2 3) P v2 else if j = 4 then upN (d.2 4) P v3 else d.2 j), lv, ?_⟩
  refine Dr.keep (σ := sg σ3 6 (σ3.1 6 + 1)) (τ := sg τ3 12 (τ3.1 12 + 1)) ?_ k l
  refine ⟨?_, b2, ?_, ?_, ?_, ?_, ?_⟩
  · refine ⟨b1.1, b1.2.1, show P + 1 ≤ 8 by omega, b1.2.2.2.1, b1.2.2.2.2.1, fun k hk => ?_, b1.2.2.2.2.2.2⟩
    have hk : k < P + 1 := hk
    show upN (d.2 2) P v1 k < d.1 0 ∧ upN (d.2 3) P v2 k ≤ 60 ∧ 1 ≤ upN (d.2 4) P v3 k ∧ upN (d.2 4) P v3 k ≤ 50
    by_cases q : k = P
    · subst q; rw [upN_s, upN_s, upN_s]; omega
    · rw [upN_n _ _ q, upN_n _ _ q, upN_n _ _ q]; exact b1.2.2.2.2.2.1 k (by omega)
  · refine ⟨⟨(sc 4 (by omega)).trans b3.1.1, x4, (sc 7 (by omega)).trans b3.1.2.2⟩, (tc 11 (by omega)).trans b3.2.1, x11, (tc 13 (by omega)).trans b3.2.2.2⟩
  · exact b4.keep (sc 13 (by omega)) (sc 5 (by omega)) (tc 14 (by omega))
  · show DrP d lv (σ3.2.2.1 8) (σ3.2.2.1 9) (σ3.2.2.1 10) (τ3.2.2.1 1)
    rw [Ac 8 (by omega), Ac 9 (by omega), Ac 10 (by omega), Bc 1 (by omega)]
    exact b5
  · unfold DrC at b6
    rw [hPe] at b6
    have := row3 (F := lv) (x := v1) (y := v2) (z := v3) (o := 24) b6
    rw [← A8, ← A9, ← A10, ← B1] at this
    exact this
  · show DrD d (σ3.2.2.1 14) (σ3.2.2.1 15) (τ3.2.2.1 3)
    rw [Ac 14 (by omega), Ac 15 (by omega), Bc 3 (by omega)]
    exact b7
theorem itDark {n : Nat} {ch : Nat → Nat} {p : Nat} {σ0 τ0 σ τ : Sx} {d : TD} {lv : Nat → Nat} (hn : n ≤ 200) (hch : ∀ j, j < n → ch j ≤ 255) (hp : p ≤ n) (hx : Cx n ch σ) (h10 : σ.1 10 = nI p) (hw : Mw n ch τ p) (hc : ce σ0 σ) (hm : me τ0 τ) (hD : Dr d lv σ τ) (hP : d.1 3 < 2) : Out n ch σ0 τ0 p Gd (m_X7_readDark σ) ((m_X12_readsItem τ 100).bind endT) := by
  obtain ⟨b1, b2, b3, b4, b5, b6, b7⟩ := hD
  generalize hPe : d.1 3 = P at *
  have i0 : (4 : Int32) + 2 * nI P = nI (4 + 2 * P) := by rw [show (2 : Int32) * nI P = nI (2 * P) from pk_mul 2 P]; exact nI_add 4 _
  have i1 : nI (4 + 2 * P) + 1 = nI (4 + 2 * P + 1) := nI_1 _
  unfold m_X7_readDark m_X12_readsItem
  rw [if_neg (by decide), if_neg (by decide), if_neg (by decide)]
  simp only [Option.bind_assoc, bs]
  rw [show σ.1 7 = nI P from b3.1.2.2.trans (congrArg nI hPe), show τ.1 13 = nI P from b3.2.2.2.trans (congrArg nI hPe), i0, i1]
  have s8 : ∀ (ja : Nat), (ja = 14 ∨ ja = 15) → ∀ (σ : Sx) x, stA cLn σ ja (nI P) x = some (sr σ ja (upd (σ.2.2.1 ja) P x)) := fun ja hja σ x => by
    rcases hja with rfl | rfl <;> exact stk (n := 2) rfl (by omega) (by decide)
  have sm : ∀ z, z < 8 → ∀ (τ : Sx) x, stA mLn τ 3 (nI z) x = some (sr τ 3 (upd (τ.2.2.1 3) z x)) := fun z hz τ x => stk (n := 8) rfl hz (by decide)
  have F3 : FP τ0 (fun τ => endT (sg τ 13 (τ.1 13 + 1))) := FP_sg (FP_end τ0) (i := 13) (x := fun τ => τ.1 13 + 1) (by decide) (by decide)
  have F2 : ∀ v6 : Int32, FP τ0 (fun τ => (m_X12_number τ v6 60).bind (fun q => (stA mLn q.2 3 (nI (4 + 2 * P + 1)) q.1).bind (fun τ => endT (sg τ 13 (τ.1 13 + 1))))) := fun v6 => FP_st F3 v6 60 (j := 3) (z := 4 + 2 * P + 1) (Or.inr (Or.inr ⟨rfl, by omega⟩)) (sm _ (by omega))
  have F1 : FP τ0 (fun τ => (ldA mLn τ 3 (nI (4 + 2 * P))).bind (fun v6 => (m_X12_number τ v6 60).bind (fun q => (stA mLn q.2 3 (nI (4 + 2 * P + 1)) q.1).bind (fun τ => endT (sg τ 13 (τ.1 13 + 1)))))) := fun τ q h hq hm => by
    dsimp only
    rw [ldk (n := 8) rfl (by omega) (by decide), bs]
    exact F2 _ τ q h hq hm
  refine stg hn hch hp hx h10 hw hc hm (by decide) (Or.inr (Or.inr ⟨rfl, by omega⟩)) (s8 14 (by omega)) (sm (4 + 2 * P) (by omega)) F1 (fun v1 σ1 τ1 p1 y1 y2 y3 y4 y5 y6 y7 y8 y9 y10 y11 => ?_)
  have l1 : ldA cLn σ1 14 (nI P) = some (nI v1) := by
    rw [ldk (n := 2) rfl (by omega) (by decide), y10.hit, upd_s]
  have l2 : ldA mLn τ1 3 (nI (4 + 2 * P)) = some (nI v1) := by
    rw [ldk (n := 8) rfl (by omega) (by decide), y11.hit, upd_s]
  rw [l1, bs, l2, bs]
  refine stg hn hch y4 y5 y6 y7 y8 y9 (by decide) (Or.inr (Or.inr ⟨rfl, by omega⟩)) (s8 15 (by omega)) (sm (4 + 2 * P + 1) (by omega)) F3 (fun v2 σ3 τ3 p3 w1 w2 w3 w4 w5 w6 w7 w8 w9 w10 w11 => ?_)
  have q1 := bnd (a := 0) (b := 60) y1 (by decide) (by decide) y2
  have q2 := bnd (a := v1) (b := 60) w1 y1 (by decide) w2
  refine itEnd hn hch (show p ≤ p3 by omega) w4 (w5.kp rfl rfl) w6 (w7.keep (fun i hi => if_neg (by omega)) rfl) (w8.tr (ce.sg (by decide))) (w9.tr (me.sg (by decide))) (fun σ' τ' k l => ?_)
  have sc : ∀ i, i < 9 ∨ 13 ≤ i → σ3.1 i = σ.1 i := fun i hi => (w10.1 i hi).trans (y10.1 i hi)
  have tc : ∀ i, i < 2 ∨ 6 ≤ i → τ3.1 i = τ.1 i := fun i hi => (w11.1 i hi).trans (y11.1 i hi)
  have x4 : σ3.1 7 + 1 = nI (P + 1) := by rw [sc 7 (by omega), b3.1.2.2, hPe, nI_1]
  have x11 : τ3.1 13 + 1 = nI (P + 1) := by rw [tc 13 (by omega), b3.2.2.2, hPe, nI_1]
  have A8 : σ3.2.2.1 14 = upd (σ.2.2.1 14) P (nI v1) := by rw [w10.ne (by decide), y10.hit]
  have A9 : σ3.2.2.1 15 = upd (σ.2.2.1 15) P (nI v2) := by rw [w10.hit, y10.ne (by decide)]
  have Ac : ∀ j, j < 14 → σ3.2.2.1 j = σ.2.2.1 j := fun j hj => by rw [w10.ne (by omega), y10.ne (by omega)]
  have B1 : τ3.2.2.1 3 = upd (upd (τ.2.2.1 3) (4 + 2 * P) (nI v1)) (4 + 2 * P + 1) (nI v2) := by rw [w11.hit, y11.hit]
  have Bc : ∀ j, j ≠ 3 → τ3.2.2.1 j = τ.2.2.1 j := fun j hj => by rw [w11.ne hj, y11.ne hj]
  refine ⟨(upN d.1 3 (P + 1), fun j => if j = 5 then upN (d.2 5) P v1 else if j = 6 then upN (d.2 6) P v2 else d.2 j), lv, ?_⟩
  refine Dr.keep (σ := sg σ3 7 (σ3.1 7 + 1)) (τ := sg τ3 13 (τ3.1 13 + 1)) ?_ k l
  refine ⟨?_, b2, ?_, ?_, ?_, ?_, ?_⟩
  · refine ⟨b1.1, b1.2.1, b1.2.2.1, show P + 1 ≤ 2 by omega, b1.2.2.2.2.1, b1.2.2.2.2.2.1, fun k hk => ?_⟩
    have hk : k < P + 1 := hk
    show upN (d.2 5) P v1 k ≤ 60 ∧ upN (d.2 6) P v2 k ≤ 60
    by_cases q : k = P
    · subst q; rw [upN_s, upN_s]; omega
    · rw [upN_n _ _ q, upN_n _ _ q]; exact b1.2.2.2.2.2.2 k (by omega)
  · refine ⟨⟨(sc 4 (by omega)).trans b3.1.1, (sc 6 (by omega)).trans b3.1.2.1, x4⟩, (tc 11 (by omega)).trans b3.2.1, (tc 12 (by omega)).trans b3.2.2.1, x11⟩
  · exact b4.keep (sc 13 (by omega)) (sc 5 (by omega)) (tc 14 (by omega))
  · show DrP d lv (σ3.2.2.1 8) (σ3.2.2.1 9) (σ3.2.2.1 10) (τ3.2.2.1 1)
    rw [Ac 8 (by omega), Ac 9 (by omega), Ac 10 (by omega), Bc 1 (by omega)]
    exact b5
  · show DrC d (σ3.2.2.1 11) (σ3.2.2.1 12) (σ3.2.2.1 13) (τ3.2.2.1 2)
    rw [Ac 11 (by omega), Ac 12 (by omega), Ac 13 (by omega), Bc 2 (by omega)]
    exact b6
  · unfold DrD at b7
    rw [hPe] at b7
    have := row2 (x := v1) (y := v2) (o := 4) b7
    rw [← A8, ← A9, ← B1] at this
    exact this
