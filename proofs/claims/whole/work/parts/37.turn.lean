/-! a turn goes by, in the class -/
theorem cison {σ : Sx} {o k : Nat} (ho : o < 32) (hk : k < 5) (h : σ.1 15 = nI o) : m_X4_isOn σ (nI k) = some (if onB o k = true then 1 else 0) := by
  have hbk := bitk ⟨o, ho⟩ ⟨k, hk⟩
  have hbk : ((nI o >>> (nI k &&& 31)) &&& 1) = nI (o / 2 ^ k % 2) := hbk
  unfold m_X4_isOn
  rw [h, hbk]
  rcases (show o / 2 ^ k % 2 = 0 ∨ o / 2 ^ k % 2 = 1 by omega) with q | q
  · have hon : onB o k = false := by unfold onB; rw [q]; rfl
    rw [q, hon, if_neg (show ¬ nI 0 = 1 by decide)]; rfl
  · have hon : onB o k = true := by unfold onB; rw [q]; rfl
    rw [q, hon, if_pos (show nI 1 = 1 by decide)]; rfl
def cgh (d : TD) (t o i : Nat) (v c : Nat → Nat) (σ : Sx) : Prop := cT σ d ∧ σ.1 14 = nI t ∧ σ.1 15 = nI o ∧ (∀ k, k < d.1 0 → σ.2.2.1 17 k = nI (if k < i then behN d t k (v k) (onB o k) else v k)) ∧ ∀ k, k < d.1 0 → σ.2.2.1 18 k = nI (if k < i ∧ (onB o k && !dkN d t) = true then c k + 1 else c k)
def cgf (σ σ' : Sx) : Prop := (∀ i, i ≠ 17 → σ'.1 i = σ.1 i) ∧ σ'.2.1 = σ.2.1 ∧ ∀ j, j ≠ 17 → j ≠ 18 → σ'.2.2.1 j = σ.2.2.1 j
theorem cgl {d : TD} (hb : bT d) {t o : Nat} (ht : t < 2 ^ 30) (ho : o < 32) {v c : Nat → Nat} (hv100 : ∀ k, k < d.1 0 → v k ≤ 100) : ∀ (r n i : Nat) (σ : Sx), cgh d t o i v c σ → i + r = d.1 0 → r < n → ∃ σ', m_X4_goOn_L19 n (if dkN d t = true then 0 else 1) (nI i) σ = some σ' ∧ cgf σ σ' ∧ σ'.1 17 = σ.1 17 + nI (sF (fun k => missN d t k (v k)) r i) ∧ cgh d t o (d.1 0) v c σ' := by
  have h5 : d.1 0 ≤ 5 := hb.1
  intro r
  induction r with
  | zero =>
    intro n i σ h hi hn
    obtain ⟨n, rfl⟩ : ∃ k, n = k + 1 := ⟨n - 1, by omega⟩
    refine ⟨σ, ?_, ⟨fun _ _ => rfl, rfl, fun _ _ _ => rfl⟩, ?_, ?_⟩
    · rw [m_X4_goOn_L19, h.1.1.1, if_pos (nI_le (by omega) (by omega))]
    · exact (Int32.add_zero _).symm
    · have e : d.1 0 = i := by omega
      rw [e]; exact h
  | succ r ih =>
    intro n i σ h hi hn
    obtain ⟨n, rfl⟩ : ∃ k, n = k + 1 := ⟨n - 1, by omega⟩
    obtain ⟨hc, h14, h15, hv, hk⟩ := h
    have hvi := hv100 i (by omega)
    have lv : ∀ τ : Sx, τ.2.2.1 17 = σ.2.2.1 17 → ldA cLn τ 17 (nI i) = some (nI (v i)) := fun τ e => by
      rw [ldk (n := 5) rfl (by omega) (by decide), e, hv i (by omega), if_neg (by omega)]
    have lc : ∀ τ : Sx, τ.2.2.1 18 = σ.2.2.1 18 → ldA cLn τ 18 (nI i) = some (nI (c i)) := fun τ e => by
      rw [ldk (n := 5) rfl (by omega) (by decide), e, hk i (by omega), if_neg (fun z => by omega)]
    have sv : ∀ (τ : Sx) x, stA cLn τ 17 (nI i) x = some (sr τ 17 (upd (τ.2.2.1 17) i x)) := fun τ x => stk (n := 5) rfl (by omega) (by decide)
    have sc : ∀ (τ : Sx) x, stA cLn τ 18 (nI i) x = some (sr τ 18 (upd (τ.2.2.1 18) i x)) := fun τ x => stk (n := 5) rfl (by omega) (by decide)
    rw [m_X4_goOn_L19, hc.1.1, if_neg (nI_ge (by omega) (by omega)), lv σ rfl, bs, h14, cmissN hb hc (by omega) (by omega) hvi, bs]
    generalize hq : sg σ 17 (σ.1 17 + nI (missN d t i (v i))) = σ1
    have hc1 : cT σ1 d := by rw [← hq]; exact hc
    have a14 : σ1.1 14 = nI t := by rw [← hq]; exact h14
    have a15 : σ1.1 15 = nI o := by rw [← hq]; exact h15
    have a17 : σ1.1 17 = σ.1 17 + nI (missN d t i (v i)) := by rw [← hq]; rfl
    have f1 : cgf σ σ1 := by rw [← hq]; exact ⟨fun j hj => if_neg hj, rfl, fun _ _ _ => rfl⟩
    have e17 : σ1.2.2.1 17 = σ.2.2.1 17 := by rw [← hq]; rfl
    have e18 : σ1.2.2.1 18 = σ.2.2.1 18 := by rw [← hq]; rfl
    rw [lv σ1 e17, bs, cison ho (by omega) a15, bs, a14, cbeh hb hc1 (by omega) (by omega) hvi, bs, sv, bs]
    have z1 : ∀ k, k < d.1 0 → upd (σ1.2.2.1 17) i (nI (behN d t i (v i) (onB o i))) k = nI (if k < i + 1 then behN d t k (v k) (onB o k) else v k) := fun k hk => by
      by_cases q : k = i
      · subst q
        rw [upd_s, if_pos (by omega)]
      · rw [upd_n _ _ q, e17, hv k hk]
        by_cases q2 : k < i
        · rw [if_pos q2, if_pos (by omega)]
        · rw [if_neg q2, if_neg (by omega)]
    have z2 : ¬ (onB o i && !dkN d t) = true → cgh d t o (i + 1) v c (sr σ1 17 (upd (σ1.2.2.1 17) i (nI (behN d t i (v i) (onB o i))))) := fun q => by
      refine ⟨hc1, a14, a15, z1, fun k hk' => ?_⟩
      show σ1.2.2.1 18 k = _
      rw [e18, hk k hk']
      by_cases q3 : k = i
      · subst q3
        rw [if_neg (fun z => by omega), if_neg (fun z => q z.2)]
      · by_cases q2 : k < i
        · simp [q2, show k < i + 1 by omega]
        · simp [q2, show ¬ k < i + 1 by omega]
    have z3 : (onB o i && !dkN d t) = true → cgh d t o (i + 1) v c (sr (sr σ1 17 (upd (σ1.2.2.1 17) i (nI (behN d t i (v i) (onB o i))))) 18 (upd (σ1.2.2.1 18) i (nI (c i + 1)))) := fun q => by
      refine ⟨hc1, a14, a15, z1, fun k hk' => ?_⟩
      show upd (σ1.2.2.1 18) i (nI (c i + 1)) k = _
      by_cases q3 : k = i
      · subst q3
        rw [upd_s, if_pos ⟨by omega, q⟩]
      · rw [upd_n _ _ q3, e18, hk k hk']
        by_cases q2 : k < i
        · simp [q2, show k < i + 1 by omega]
        · simp [q2, show ¬ k < i + 1 by omega]
    have fin : ∀ σ2, cgf σ1 σ2 → σ2.1 17 = σ1.1 17 → cgh d t o (i + 1) v c σ2 → ∃ σ', m_X4_goOn_L19 n (if dkN d t = true then 0 else 1) (nI (i + 1)) σ2 = some σ' ∧ cgf σ σ' ∧ σ'.1 17 = σ.1 17 + nI (sF (fun k => missN d t k (v k)) (r + 1) i) ∧ cgh d t o (d.1 0) v c σ' := by
      intro σ2 f2 e2 h2
      obtain ⟨σ', p1, p2, p3, p4⟩ := ih n (i + 1) σ2 h2 (by omega) (by omega)
      refine ⟨σ', p1, ⟨fun j hj => (p2.1 j hj).trans ((f2.1 j hj).trans (f1.1 j hj)), p2.2.1.trans (f2.2.1.trans f1.2.1), fun j h1 h2 => (p2.2.2 j h1 h2).trans ((f2.2.2 j h1 h2).trans (f1.2.2 j h1 h2))⟩, ?_, p4⟩
      rw [p3, e2, a17, sF, Int32.add_assoc, nI_add]
    rw [nI_1]
    cases hd : dkN d t with
    | true =>
      rw [hd] at fin z2
      rw [if_pos rfl, if_pos rfl]
      exact fin _ ⟨fun _ _ => rfl, rfl, fun j h1 _ => sr_ne h1⟩ rfl (z2 (by simp))
    | false =>
      rw [hd] at fin z2 z3
      rw [if_neg (by decide), cison ho (by omega) (show (sr σ1 17 (upd (σ1.2.2.1 17) i (nI (behN d t i (v i) (onB o i))))).1 15 = nI o from a15), bs]
      cases ho2 : onB o i with
      | false =>
        rw [ho2] at z2
        rw [if_pos (show (if false = true then (1 : Int32) else 0) = 0 from rfl)]
        exact fin _ ⟨fun _ _ => rfl, rfl, fun j h1 _ => sr_ne h1⟩ rfl (z2 (by simp))
      | true =>
        rw [ho2] at z3
        rw [if_neg (by decide), lc (sr σ1 17 (upd (σ1.2.2.1 17) i (nI (behN d t i (v i) true)))) e18, bs, nI_1, sc, bs]
        exact fin _ ⟨fun _ _ => rfl, rfl, fun j h1 h2 => (sr_ne h2).trans (sr_ne h1)⟩ rfl (z3 (by simp))
theorem cgo {d : TD} (hb : bT d) {t o : Nat} (ht : t < 2 ^ 30) (ho : o < 32) {v c : Nat → Nat} (hv100 : ∀ k, k < d.1 0 → v k ≤ 100) {σ : Sx} (hc : cT σ d) (h14 : σ.1 14 = nI t) (h15 : σ.1 15 = nI o) (hv : hvC (d.1 0) σ v) (hk : hcC (d.1 0) σ c) : ∃ σ', m_X4_goOn σ = some (sg σ' 14 (nI (t + 1))) ∧ cgf σ σ' ∧ σ'.1 17 = σ.1 17 + nI (sF (fun k => missN d t k (v k)) (d.1 0) 0) ∧ cgh d t o (d.1 0) v c σ' := by
  obtain ⟨σ', p1, p2, p3, p4⟩ := cgl hb ht ho hv100 (d.1 0) FU 0 σ ⟨hc, h14, h15, fun k q => by rw [if_neg (by omega)]; exact hv k q, fun k q => by rw [if_neg (fun z => by omega)]; exact hk k q⟩ (by omega) (by have := hb.1; unfold FU; omega)
  refine ⟨σ', ?_, p2, p3, p4⟩
  have p1 : m_X4_goOn_L19 FU (if dkN d t = true then 0 else 1) 0 σ = some σ' := p1
  unfold m_X4_goOn m_X4_goOn_J16
  rw [h14, cdark hb hc (by omega), bs]
  have e : σ'.1 14 + 1 = nI (t + 1) := by rw [p4.2.1, nI_1]
  cases hd : dkN d t with
  | true =>
    rw [hd] at p1
    have p1 : m_X4_goOn_L19 FU 0 0 σ = some σ' := p1
    rw [if_pos rfl, if_neg n10, p1, bs, e]
  | false =>
    rw [hd] at p1
    have p1 : m_X4_goOn_L19 FU 1 0 σ = some σ' := p1
    rw [if_pos (show (if false = true then (1 : Int32) else 0) = 0 from rfl), p1, bs, e]
theorem OKturn : OK_turn INV := by
  intro σ τ hinv
  have hinv2 : INV σ (sg τ 0 0) := hinv
  unfold m_X12_turn m_X11_turn
  generalize sg τ 0 0 = τ at hinv2 ⊢
  obtain ⟨d, hR, hN⟩ := INV_iff.mp hinv2
  have h5 : d.1 0 ≤ 5 := hR.1.1
  obtain ⟨t, o, v, c, n1, n2, n3, n4, n5, n6, n7, n8, n9⟩ := hN.num h5
  have l0 : ldA mLn τ 4 0 = some (nI t) := by
    rw [show (0 : Int32) = nI 0 from rfl, ldk (n := 14) rfl (by decide) (by decide), n3.2]
  rw [n3.1, l0, bs]
  by_cases q : t = 99
  · subst q
    rw [if_neg (by decide), if_pos (show nI 99 = 99 from rfl)]
    exact ⟨_, σ, τ, rfl, rfl, hinv2⟩
  · rw [if_pos (show nI t < 99 from nI_lt (b := 99) (by omega) (by decide)), if_neg (show ¬ nI t = 99 from fun z => q ((nI_eq (b := 99) (by omega) (by decide)).mp z))]
    obtain ⟨σ1, τ1, w1, w2, hR1, hN1, ⟨s1, s2⟩, t1, t2⟩ := note_ok hR hN
    have hb := hR1.1
    have h32 := pow5 h5
    have hv100 : ∀ k, k < d.1 0 → v k ≤ 100 := fun k hk => (n7 k hk).1
    obtain ⟨σ2, a1, a2, a3, a4⟩ := cgo (σ := σ1) hb (t := t) (o := o) (v := v) (c := c) (by omega) (by omega) hv100 hR1.2.1 (by rw [s1 14 (by decide)]; exact n3.1) (by rw [s1 15 (by decide)]; exact n4.1) (fun k hk => by rw [s2 17 (by decide)]; exact n8.1 k hk) (fun k hk => by rw [s2 18 (by decide)]; exact n8.2 k hk)
    obtain ⟨f, b1, b2, b3, b4, b5, b6, b7⟩ := mgo_s (τ := τ1) hb (t := t) (o := o) (v := v) (c := c) (by omega) n2 hR1.2.2.1 (by rw [t2 4 (by decide)]; exact n3.2) (by rw [t2 4 (by decide)]; exact n4.2) (fun k hk => by rw [t2 4 (by decide)]; exact n9.1 k hk) (fun k hk => by rw [t2 4 (by decide)]; exact n9.2 k hk) hv100
    have hvb : ∀ k, k < d.1 0 → behN d t k (v k) (onB o k) ≤ 100 := fun k hk => behN_le d t k (hv100 k hk) _
    have c17 : hvC (d.1 0) (sg σ2 14 (nI (t + 1))) (fun k => behN d t k (v k) (onB o k)) := fun k hk => by
      have := a4.2.2.2.1 k hk
      rw [if_pos hk] at this
      exact this
    have c18 : hcC (d.1 0) (sg σ2 14 (nI (t + 1))) (fun k => if (onB o k && !dkN d t) = true then c k + 1 else c k) := fun k hk => by
      have := a4.2.2.2.2 k hk
      refine this.trans ?_
      show _ = nI (if (onB o k && !dkN d t) = true then c k + 1 else c k)
      by_cases q6 : (onB o k && !dkN d t) = true
      · rw [if_pos ⟨hk, q6⟩, if_pos q6]
      · rw [if_neg (fun z => q6 z.2), if_neg q6]
    have m4 : hvM (d.1 0) 4 (sr τ1 4 f) (fun k => behN d t k (v k) (onB o k)) := fun k hk => b6 k hk
    have m9 : hcM (d.1 0) 4 (sr τ1 4 f) (fun k => if (onB o k && !dkN d t) = true then c k + 1 else c k) := fun k hk => b7 k hk
    have o1 := coutN h5 c17 hvb
    have o2 := moutN (τ := sr τ1 4 f) h5 hR1.2.2.1.1.1 m4 hvb
    have ol := oF_lt (fun k => behN d t k (v k) (onB o k)) (d.1 0) 0 0 (by omega) (by decide)
    rw [Nat.zero_add] at ol
    have e0 : (sg σ2 14 (nI (t + 1))).1 0 = nI (d.1 0) := (a2.1 0 (by decide)).trans hR1.2.1.1.1
    rw [w1, bs, a1, bs, e0, o1, bs, w2, bs, b1, bs, o2, bs, bc32 ⟨_, by omega⟩, bs, ones_ok (by omega), bs]
    refine ⟨_, _, _, rfl, rfl, INV_now hR1 ⟨fun i hi => ?_, a2.2.1, fun j hj => a2.2.2 j (by omega) (by omega)⟩ ⟨⟨rfl, rfl, rfl, rfl, rfl, rfl, rfl⟩, rfl, fun j hj => sr_ne (by omega)⟩ (iNow.of h5 (t := t + 1) (o := o) (by omega) n2 ⟨rfl, b2⟩ ⟨a4.2.2.1, b3⟩ ?_ ?_ ?_ ⟨c17, c18⟩ ⟨m4, m9⟩)⟩
    · rw [sg_1, if_neg (by omega)]
      exact a2.1 i (by omega)
    · show σ2.1 16 = f 2
      rw [b4, a2.1 16 (by decide), s1 16 (by decide), n5, t2 4 (by decide)]
    · show σ2.1 17 = f 3
      rw [b5, a3, s1 17 (by decide), n6, t2 4 (by decide)]
    · intro k hk
      refine ⟨hvb k hk, ?_⟩
      have := (n7 k hk).2
      show (if (onB o k && !dkN d t) = true then c k + 1 else c k) ≤ t + 1
      split <;> omega
