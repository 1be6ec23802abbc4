/-! all but NOW, and what keeps it -/
def Rst (d : TD) (σ τ : Sx) : Prop := bT d ∧ cT σ d ∧ mT τ d ∧ iBook (d.1 0) σ τ ∧ iImg (d.1 0) σ τ ∧ iSaid (d.1 0) σ τ ∧ iText σ τ ∧ σ.2.1 = τ.2.1
theorem INV_iff {σ τ : Sx} : INV σ τ ↔ ∃ d, Rst d σ τ ∧ iNow (d.1 0) σ τ :=
  ⟨fun ⟨d, hb, hc, hm, hn, hk, hi, hs, ht, htr⟩ => ⟨d, ⟨hb, hc, hm, hk, hi, hs, ht, htr⟩, hn⟩, fun ⟨d, ⟨hb, hc, hm, hk, hi, hs, ht, htr⟩, hn⟩ => ⟨d, hb, hc, hm, hn, hk, hi, hs, ht, htr⟩⟩
def fc (σ σ' : Sx) : Prop := (∀ i, (i < 9 ∨ (18 ≤ i ∧ i < 20) ∨ i = 23) → σ'.1 i = σ.1 i) ∧ σ'.2.1 = σ.2.1 ∧ ∀ j, (j < 8 ∨ j = 16 ∨ (19 ≤ j ∧ j < 23) ∨ (25 ≤ j ∧ j < 37) ∨ j = 47) → σ'.2.2.1 j = σ.2.2.1 j
def fm (τ τ' : Sx) : Prop := (τ'.1 1 = τ.1 1 ∧ τ'.1 7 = τ.1 7 ∧ τ'.1 8 = τ.1 8 ∧ τ'.1 9 = τ.1 9 ∧ τ'.1 10 = τ.1 10 ∧ τ'.1 15 = τ.1 15 ∧ τ'.1 16 = τ.1 16) ∧ τ'.2.1 = τ.2.1 ∧ ∀ j, (j < 4 ∨ (6 ≤ j ∧ j < 9) ∨ j = 12) → τ'.2.2.1 j = τ.2.2.1 j
theorem fc.rf (σ : Sx) : fc σ σ := ⟨fun _ _ => rfl, rfl, fun _ _ => rfl⟩
theorem fm.rf (τ : Sx) : fm τ τ := ⟨⟨rfl, rfl, rfl, rfl, rfl, rfl, rfl⟩, rfl, fun _ _ => rfl⟩
theorem fc.tr {a b c : Sx} (h : fc a b) (k : fc b c) : fc a c := ⟨fun i hi => (k.1 i hi).trans (h.1 i hi), k.2.1.trans h.2.1, fun j hj => (k.2.2 j hj).trans (h.2.2 j hj)⟩
theorem fm.tr {a b c : Sx} (h : fm a b) (k : fm b c) : fm a c := by
  obtain ⟨⟨a1, a2, a3, a4, a5, a6, a7⟩, a8, a9⟩ := h
  obtain ⟨⟨b1, b2, b3, b4, b5, b6, b7⟩, b8, b9⟩ := k
  exact ⟨⟨b1.trans a1, b2.trans a2, b3.trans a3, b4.trans a4, b5.trans a5, b6.trans a6, b7.trans a7⟩, b8.trans a8, fun j hj => (b9 j hj).trans (a9 j hj)⟩
theorem cT.keep {σ σ' : Sx} {d : TD} (h : cT σ d) (e1 : ∀ i, i < 4 → σ'.1 i = σ.1 i) (e2 : ∀ j, 1 ≤ j → j < 8 → σ'.2.2.1 j = σ.2.2.1 j) : cT σ' d := by
  obtain ⟨⟨a0, a1, a2, a3⟩, b1, b2, b3⟩ := h
  refine ⟨⟨(e1 0 (by decide)).trans a0, (e1 1 (by decide)).trans a1, (e1 2 (by decide)).trans a2, (e1 3 (by decide)).trans a3⟩, fun k hk => ?_, fun k hk => ?_, fun k hk => ?_⟩
  · rw [e2 1 (by decide) (by decide), e2 2 (by decide) (by decide)]; exact b1 k hk
  · rw [e2 3 (by decide) (by decide), e2 4 (by decide) (by decide), e2 5 (by decide) (by decide)]; exact b2 k hk
  · rw [e2 6 (by decide) (by decide), e2 7 (by decide) (by decide)]; exact b3 k hk
theorem mT.keep {τ τ' : Sx} {d : TD} (h : mT τ d) (e1 : τ'.1 7 = τ.1 7 ∧ τ'.1 10 = τ.1 10 ∧ τ'.1 8 = τ.1 8 ∧ τ'.1 9 = τ.1 9) (e2 : ∀ j, 1 ≤ j → j < 4 → τ'.2.2.1 j = τ.2.2.1 j) : mT τ' d := by
  obtain ⟨⟨a0, a1, a2, a3⟩, b1, b2, b3⟩ := h
  refine ⟨⟨e1.1.trans a0, e1.2.1.trans a1, e1.2.2.1.trans a2, e1.2.2.2.trans a3⟩, fun k hk => ?_, fun k hk => ?_, fun k hk => ?_⟩
  · rw [e2 1 (by decide) (by decide)]; exact b1 k hk
  · rw [e2 2 (by decide) (by decide)]; exact b2 k hk
  · rw [e2 3 (by decide) (by decide)]; exact b3 k hk
theorem iSaid.keep {P : Nat} {σ τ σ' τ' : Sx} (h : iSaid P σ τ) (e1 : σ'.1 23 = σ.1 23) (e2 : τ'.1 16 = τ.1 16) (e3 : ∀ j, 19 ≤ j → j < 23 → σ'.2.2.1 j = σ.2.2.1 j) (e4 : τ'.2.2.1 8 = τ.2.2.1 8) : iSaid P σ' τ' := by
  obtain ⟨n, h1, h2, h3, h4⟩ := h
  refine ⟨n, h1, e1.trans h2, e2.trans h3, fun j hj => ?_⟩
  rw [e3 19 (by decide) (by decide), e3 20 (by decide) (by decide), e3 21 (by decide) (by decide), e3 22 (by decide) (by decide), e4]
  exact h4 j hj
theorem iText.keep {σ τ σ' τ' : Sx} (h : iText σ τ) (e1 : σ'.1 8 = σ.1 8) (e2 : τ'.1 1 = τ.1 1) (e3 : σ'.2.2.1 16 = σ.2.2.1 16) (e4 : τ'.2.2.1 0 = τ.2.2.1 0) : iText σ' τ' := by
  obtain ⟨n, h1, h2, h3, h4⟩ := h
  refine ⟨n, h1, e1.trans h2, e2.trans h3, fun j hj => ?_⟩
  rw [e3, e4]
  exact h4 j hj
theorem Rst.keep {d : TD} {σ τ σ' τ' : Sx} (h : Rst d σ τ) (hc : fc σ σ') (hm : fm τ τ') : Rst d σ' τ' := by
  obtain ⟨a1, a2, a3, a4, a5, a6, a7, a8⟩ := h
  obtain ⟨c1, c2, c3⟩ := hc
  obtain ⟨⟨m1, m2, m3, m4, m5, m6, m7⟩, m8, m9⟩ := hm
  exact ⟨a1, a2.keep (fun i hi => c1 i (by omega)) (fun j h1 h2 => c3 j (by omega)), a3.keep ⟨m2, m5, m3, m4⟩ (fun j h1 h2 => m9 j (by omega)), a4.keep (c1 19 (by decide)) m6 (c1 18 (by decide)) (fun j h1 h2 => c3 j (by omega)) (m9 7 (by decide)), a5.keep (c3 47 (by decide)) (m9 12 (by decide)) (fun j h1 h2 => c3 j (by omega)) (m9 6 (by decide)), a6.keep (c1 23 (by decide)) m7 (fun j h1 h2 => c3 j (by omega)) (m9 8 (by decide)), a7.keep (c1 8 (by decide)) m1 (c3 16 (by decide)) (m9 0 (by decide)), by rw [c2, m8]; exact a8⟩
/-! writing into the book -/
theorem write_ok {σ : Sx} {u w : Nat} (hu : u ≤ 10) (hw : w < 10) (h1 : σ.1 19 = nI u) (h2 : σ.1 18 = nI w) : ∃ f, m_X2_write σ = some (sg (sr (sg σ 18 (nI ((w + 1) % 10))) (25 + (w + 1) % 10) f) 19 (nI (if u < 10 then u + 1 else 10))) ∧ ∀ i, i < 14 → f i = cN σ i := by
  have hm : (w + 1) % 10 < 10 := by omega
  obtain ⟨f, hf, hg⟩ := copyTo_ok (sg σ 18 (nI ((w + 1) % 10))) (j := 25 + (w + 1) % 10) (by omega) (by omega)
  have e1 : rmI (nI w + 1) 10 = some (nI ((w + 1) % 10)) := by
    unfold rmI
    rw [if_neg (by decide), nI_1]
    exact congrArg some (pk_rem (a := w + 1) (d := 10) (by omega) (by decide) (by decide))
  have e2 : ixq (nI ((w + 1) % 10)) 10 = some ((w + 1) % 10) := by
    unfold ixq
    rw [if_pos (inb_nI hm (by decide)), nI_clamp (by omega)]
  refine ⟨f, ?_, hg⟩
  unfold m_X2_write
  rw [h2, e1, bs]
  have e3 : (sg σ 18 (nI ((w + 1) % 10))).1 18 = nI ((w + 1) % 10) := rfl
  rw [e3, e2, bs, hf, bs]
  have e4 : (sr (sg σ 18 (nI ((w + 1) % 10))) (25 + (w + 1) % 10) f).1 19 = nI u := h1
  rw [e4, nI_1]
  by_cases q : u < 10
  · rw [if_pos q]
    by_cases q2 : u + 1 < 10
    · rw [if_pos (show nI (u + 1) < 10 from nI_lt q2 (by decide))]
    · rw [if_neg (show ¬ nI (u + 1) < 10 from nI_nlt (show 10 ≤ u + 1 by omega) (by omega))]
      rw [show u + 1 = 10 by omega]; rfl
  · rw [if_neg q, if_neg (show ¬ nI (u + 1) < 10 from nI_nlt (show 10 ≤ u + 1 by omega) (by omega))]
    rfl
theorem notes_lt {τ : Sx} {u : Nat} (hu : u < 10) (h1 : τ.1 15 = nI u) : m_X12_notes_J44 τ = some (sg (sr τ 7 (pt (τ.2.2.1 7) (τ.2.2.1 4) (14 * u) 14)) 15 (nI (u + 1))) := by
  have h := mcp46 h1 (by omega) 14 FU 0 (by decide) (by decide)
  rw [pt_0, sr_self] at h
  unfold m_X12_notes_J44
  rw [show (0 : Int32) = nI 0 from rfl, h, bs]
  have e : (sr τ 7 (pt (τ.2.2.1 7) (τ.2.2.1 4) (14 * u) 14)).1 15 = nI u := h1
  rw [e, nI_1]
theorem notes_ok {τ : Sx} {u : Nat} (hu : u ≤ 10) (h1 : τ.1 15 = nI u) : ∃ g, m_X12_notes τ = some (sg (sr τ 7 g) 15 (nI (if u < 10 then u + 1 else 10))) ∧ (∀ i, i < 14 → g (14 * (if u < 10 then u else 9) + i) = τ.2.2.1 4 i) ∧ ∀ j i, j < u → 0 < j + (10 - u) → i < 14 → g (14 * (if u < 10 then j else j - 1) + i) = τ.2.2.1 7 (14 * j + i) := by
  unfold m_X12_notes
  rw [h1]
  by_cases q : u = 10
  · subst q
    rw [if_pos (by decide)]
    have h := mcp11 (τ := τ) 126 FU 0 (by decide) (by decide)
    rw [pt_0, sr_self] at h
    rw [show (0 : Int32) = nI 0 from rfl, h, bs]
    have h2 := notes_lt (τ := sg (sr τ 7 (pt (τ.2.2.1 7) (fun k => τ.2.2.1 7 (k + 14)) 0 126)) 15 9) (u := 9) (by decide) rfl
    rw [h2]
    refine ⟨pt (pt (τ.2.2.1 7) (fun k => τ.2.2.1 7 (k + 14)) 0 126) (τ.2.2.1 4) (14 * 9) 14, ?_, fun i hi => ?_, fun j i hj hp hi => ?_⟩
    · have e1 : (sg (sr τ 7 (pt (τ.2.2.1 7) (fun k => τ.2.2.1 7 (k + 14)) 0 126)) 15 9).2.2.1 7 = pt (τ.2.2.1 7) (fun k => τ.2.2.1 7 (k + 14)) 0 126 := rfl
      have e2 : (sg (sr τ 7 (pt (τ.2.2.1 7) (fun k => τ.2.2.1 7 (k + 14)) 0 126)) 15 9).2.2.1 4 = τ.2.2.1 4 := rfl
      rw [e1, e2]
      generalize pt (pt (τ.2.2.1 7) (fun k => τ.2.2.1 7 (k + 14)) 0 126) (τ.2.2.1 4) (14 * 9) 14 = G
      generalize pt (τ.2.2.1 7) (fun k => τ.2.2.1 7 (k + 14)) 0 126 = F
      have e3 : sg (sr (sg (sr τ 7 F) 15 9) 7 G) 15 (nI 10) = sg (sr τ 7 G) 15 (nI 10) := by
        have e4 : upd (upd τ.1 15 9) 15 (nI 10) = upd τ.1 15 (nI 10) := by
          funext i
          unfold upd
          split <;> rfl
        show (upd (upd τ.1 15 9) 15 (nI 10), τ.2.1, va_up (va_up τ.2.2.1 7 F) 7 G, τ.2.2.2) = (upd τ.1 15 (nI 10), τ.2.1, va_up τ.2.2.1 7 G, τ.2.2.2)
        rw [e4, bx_uu]
      rw [e3]; rfl
    · exact pt_in hi
    · rw [if_neg (by decide), pt_out (by omega)]
      have := pt_in (g := τ.2.2.1 7) (f := fun k => τ.2.2.1 7 (k + 14)) (a := 0) (n := 126) (k := 14 * (j - 1) + i) (by omega)
      rw [Nat.zero_add] at this
      rw [this]
      show τ.2.2.1 7 (14 * (j - 1) + i + 14) = _
      rw [show 14 * (j - 1) + i + 14 = 14 * j + i by omega]
  · rw [if_neg (show ¬ nI u = 10 from fun z => q ((nI_eq (by omega) (by decide)).mp z)), notes_lt (by omega) h1]
    refine ⟨_, by rw [if_pos (show u < 10 by omega)], fun i hi => ?_, fun j i hj hp hi => ?_⟩
    · rw [if_pos (show u < 10 by omega)]; exact pt_in hi
    · rw [if_pos (show u < 10 by omega)]; exact pt_out (by omega)
theorem note_ok {d : TD} {σ τ : Sx} (hR : Rst d σ τ) (hN : iNow (d.1 0) σ τ) : ∃ σ1 τ1, m_X2_write σ = some σ1 ∧ m_X12_notes τ = some τ1 ∧ Rst d σ1 τ1 ∧ iNow (d.1 0) σ1 τ1 ∧ ((∀ i, i < 18 ∨ 20 ≤ i → σ1.1 i = σ.1 i) ∧ ∀ j, j < 25 ∨ 35 ≤ j → σ1.2.2.1 j = σ.2.2.1 j) ∧ ((∀ i, i ≠ 15 → τ1.1 i = τ.1 i) ∧ ∀ j, j ≠ 7 → τ1.2.2.1 j = τ.2.2.1 j) := by
  obtain ⟨a1, a2, a3, ⟨u, w, b1, b2, b3, b4, b5, b6⟩, a5, a6, a7, a8⟩ := hR
  have hP : d.1 0 ≤ 5 := a1.1
  obtain ⟨f, hf, hf2⟩ := write_ok b1 b2 b3 b5
  obtain ⟨g, hg, hg1, hg2⟩ := notes_ok b1 b4
  refine ⟨_, _, hf, hg, ?_, ?_, ⟨fun i hi => ?_, fun j hj => ?_⟩, fun i hi => ?_, fun j hj => ?_⟩
  · refine ⟨a1, a2.keep (fun i hi => ?_) (fun j h1 h2 => sr_ne (by omega)), a3, ⟨if u < 10 then u + 1 else 10, (w + 1) % 10, by split <;> omega, by omega, rfl, rfl, rfl, fun j hj => ?_⟩, a5.keep (sr_ne (by omega)) rfl (fun j h1 h2 => sr_ne (by omega)) rfl, a6.keep rfl rfl (fun j h1 h2 => sr_ne (by omega)) rfl, a7.keep rfl rfl (sr_ne (by omega)) rfl, a8⟩
    · rcases (show i = 0 ∨ i = 1 ∨ i = 2 ∨ i = 3 by omega) with rfl | rfl | rfl | rfl <;> rfl
    · by_cases hj0 : j = 0
      · subst hj0
        rw [show ((w + 1) % 10 + 10 - 0) % 10 = (w + 1) % 10 by omega]
        refine SN.congr hP hN (fun i hi => ?_) (fun i hi => ?_)
        · have : (sg (sr (sg σ 18 (nI ((w + 1) % 10))) (25 + (w + 1) % 10) f) 19 (nI (if u < 10 then u + 1 else 10))).2.2.1 (25 + (w + 1) % 10) = f := if_pos rfl
          rw [this, hf2 i hi]
        · have e : (if u < 10 then u + 1 else 10) - 1 - 0 = if u < 10 then u else 9 := by split <;> omega
          rw [e]
          exact hg1 i hi
      · have hju : j - 1 < u := by
          by_cases q : u < 10
          · rw [if_pos q] at hj; omega
          · rw [if_neg q] at hj; omega
        have h0 := b6 (j - 1) hju
        have er : ((w + 1) % 10 + 10 - j) % 10 = (w + 10 - (j - 1)) % 10 := by
          have : j < 10 := by
            by_cases q : u < 10
            · rw [if_pos q] at hj; omega
            · rw [if_neg q] at hj; omega
          omega
        refine SN.congr hP h0 (fun i hi => ?_) (fun i hi => ?_)
        · rw [er]
          have hne : 25 + (w + 10 - (j - 1)) % 10 ≠ 25 + (w + 1) % 10 := by
            have : j < 10 := by
              by_cases q : u < 10
              · rw [if_pos q] at hj; omega
              · rw [if_neg q] at hj; omega
            omega
          exact congrFun (sr_ne hne) i
        · have e : 14 * ((if u < 10 then u + 1 else 10) - 1 - j) = 14 * (if u < 10 then (u - 1 - (j - 1)) else (u - 1 - (j - 1)) - 1) := by
            by_cases q : u < 10
            · rw [if_pos q, if_pos q]; rw [if_pos q] at hj; congr 1; omega
            · rw [if_neg q, if_neg q]; rw [if_neg q] at hj; congr 1; omega
          rw [e]
          refine hg2 (u - 1 - (j - 1)) i (by omega) ?_ hi
          by_cases q : u < 10
          · omega
          · rw [if_neg q] at hj; omega
  · have ec : cN (sg (sr (sg σ 18 (nI ((w + 1) % 10))) (25 + (w + 1) % 10) f) 19 (nI (if u < 10 then u + 1 else 10))) = cN σ := by
      funext i
      unfold cN
      have e17 : (sg (sr (sg σ 18 (nI ((w + 1) % 10))) (25 + (w + 1) % 10) f) 19 (nI (if u < 10 then u + 1 else 10))).2.2.1 17 = σ.2.2.1 17 := sr_ne (by omega)
      have e18 : (sg (sr (sg σ 18 (nI ((w + 1) % 10))) (25 + (w + 1) % 10) f) 19 (nI (if u < 10 then u + 1 else 10))).2.2.1 18 = σ.2.2.1 18 := sr_ne (by omega)
      rw [e17, e18]
      rfl
    show SN (d.1 0) (cN _) _
    rw [ec]
    exact hN
  · show (if i = 19 then _ else (if i = 18 then _ else σ.1 i)) = _
    rw [if_neg (by omega), if_neg (by omega)]
  · exact sr_ne (by omega)
  · show (if i = 15 then _ else τ.1 i) = _
    rw [if_neg hi]
  · exact sr_ne hj
