/-! plan -/
theorem mpn {d : TD} (hb : bT d) {n t0 o : Nat} {v cc : Nat → Nat} {τ : Sx} (hn : n ≤ 4) (ht : t0 ≤ 99) (ho : o < 32) (hv100 : ∀ k, k < d.1 0 → v k ≤ 100) (hm : mT τ d) (e0 : τ.2.2.1 4 0 = nI t0) (e1 : τ.2.2.1 4 1 = nI o) (hv : hvM (d.1 0) 4 τ v) (hcc : hcM (d.1 0) 4 τ cc) : ∃ τ', m_X12_plans τ (nI n) = some τ' ∧ qf τ τ' ∧ PM n (cmp d n t0 v o 0 0 [] (2147483647, [])) τ' := by
  have h5 : d.1 0 ≤ 5 := hb.1
  have h32 := pow5 h5
  have hlen : 1 ≤ (cl (d.1 1) (2 ^ d.1 0) 0).length ∧ (cl (d.1 1) (2 ^ d.1 0) 0).length ≤ 16 := by
    have := cl_len ⟨d.1 0, by omega⟩
    rcases (show d.1 1 = 1 ∨ d.1 1 = 2 from hb.2.1) with q | q
    · rw [q]; exact this.1
    · rw [q]; exact this.2
  have k0 : qf τ (sg τ 17 0) := ⟨fun i hi => if_neg (by omega), rfl, fun _ _ _ _ _ => rfl⟩
  obtain ⟨τ1, a1, a2, a3, -, a5⟩ := mch hb (2 ^ d.1 0) FU 0 0 (sg τ 17 0) (k0.mt hm) rfl (by omega) (by omega) (by unfold FU; omega)
  have a1 : m_X12_choose_L7 FU 0 (sg τ 17 0) = some τ1 := a1
  have k1 := k0.tr a2
  rw [Nat.zero_add] at a3
  have hCm := cl_mem (d.1 1) (2 ^ d.1 0) 0
  have hcmp := cmp_fw (d := d) (C := cl (d.1 1) (2 ^ d.1 0) 0) rfl rfl (by omega) n t0 v o 0 0 [] (2147483647, [])
  generalize hC : cl (d.1 1) (2 ^ d.1 0) 0 = C at *
  have hcn := c16 (c := C.length) (r := n) hlen.2 hn
  have hpos : 0 < C.length ^ n := Nat.pow_pos (by omega)
  have e4 : τ1.2.2.1 4 = τ.2.2.1 4 := k1.2.2 4 (by decide) (by decide) (by decide) (by decide)
  obtain ⟨τ2, b1, b2, b3⟩ := mpl hb (C := C) (c := C.length) (n := n) (t0 := t0) (o := o) (v := v) (cc := cc) (by omega) hlen.2 (fun q hq => by have := hCm q hq; omega) hn ht ho hv100 (C.length ^ n) FU 0 (2147483647, []) τ1 (by omega) (by unfold FU; omega) (k1.mt hm) a3 (fun q hq => by have := a5 q hq; rw [Nat.zero_add] at this; exact this) (by rw [e4]; exact e0) (by rw [e4]; exact e1) (fun z hz => by rw [e4]; exact hv z hz) (fun z hz => by rw [e4]; exact hcc z hz) (Or.inl ⟨rfl, rfl⟩)
  have b1 : m_X12_plans_L15 FU (nI n) (nI (C.length ^ n)) 0 τ1 = some τ2 := b1
  refine ⟨τ2, ?_, k1.tr b2.1, ?_⟩
  · unfold m_X12_plans m_X12_choose
    rw [a1, bs, bs, a3, mpwN hn, bs, b1, bs]
  · rw [hcmp]
    exact b3 (by omega)
theorem OKplan : OK_plan INV := by
  intro σ τ x y hinv
  have hinv2 : INV σ (sg τ 0 0) := hinv
  unfold m_X12_plan m_X11_plan
  generalize sg τ 0 0 = τ at hinv2 ⊢
  obtain ⟨d, hR, hN⟩ := INV_iff.mp hinv2
  have hR0 := hR
  obtain ⟨hb, hc, hm, -⟩ := hR0
  have h5 : d.1 0 ≤ 5 := hb.1
  have h32 := pow5 h5
  obtain ⟨t, o, v, c, n1, n2, n3, n4, n5, n6, n7, n8, n9⟩ := hN.num h5
  rcases wl x 4 (by decide) with ⟨n, hn, rfl, a1, a2⟩ | ⟨a1, a2⟩
  · rcases wl y 6 (by decide) with ⟨w, hw, rfl, b1, b2⟩ | ⟨b1, b2⟩
    · have a1 : m_X11_isWithin (nI n) 0 4 = some 1 := a1
      have a2 : m_X12_in (nI n) 0 4 = some 1 := a2
      have b1 : m_X11_isWithin (nI w) 0 6 = some 1 := b1
      have b2 : m_X12_in (nI w) 0 6 = some 1 := b2
      simp only [a1, a2, b1, b2, bs, if_neg n10]
      obtain ⟨τ', p1, p2, M, O, U, w1, w2, w3, w4, w5, w6, w7, w8⟩ := mpn hb (n := n) (t0 := t) (o := o) (v := v) (cc := c) hn n1 (by omega) (fun k hk => (n7 k hk).1) hm n3.2 n4.2 n9.1 n9.2
      obtain ⟨σ', q1, q2, q3, q4⟩ := cmk hb (n := n) (t0 := t) (o := o) (v := v) (σ := σ) hn n1 (by omega) (fun k hk => (n7 k hk).1) hc n3.1 n4.1 n8.1
      have fm1 : fm τ τ' := ⟨⟨p2.1 1 (by omega), p2.1 7 (by omega), p2.1 8 (by omega), p2.1 9 (by omega), p2.1 10 (by omega), p2.1 15 (by omega), p2.1 16 (by omega)⟩, p2.2.1, fun j hj => p2.2.2 j (by omega) (by omega) (by omega) (by omega)⟩
      have fc1 : fc σ σ' := ⟨fun i hi => q2.1 i (by omega), q2.2.1, fun j hj => q2.2.2 j (by omega)⟩
      have e4 : τ'.2.2.1 4 = τ.2.2.1 4 := p2.2.2 4 (by decide) (by decide) (by decide) (by decide)
      have i0 : INV σ τ' := INV_now hR (fc.rf σ) fm1 (by unfold iNow; rw [e4]; exact hN)
      have ecn : cN σ' = cN σ := by
        unfold cN
        rw [q2.1 14 (by omega), q2.1 15 (by omega), q2.1 16 (by omega), q2.1 17 (by omega), q2.2.2 17 (by omega), q2.2.2 18 (by omega)]
      have i1 : INV σ' τ' := INV_now hR fc1 fm1 (by unfold iNow; rw [e4, ecn]; exact hN)
      generalize cmp d n t v o 0 0 [] (2147483647, []) = S at w1 w8 q3 q4
      rw [p1, bs]
      by_cases c4 : 4 ≤ w
      · have hJ : ∃ r, m_X11_plan_J34 (nI n) (nI w) σ = some (r, σ') ∧ r = (if w = 4 then nI M else if w = 5 then nI O else nI U) := by
          unfold m_X11_plan_J34
          rw [q1, bs]
          unfold m_X5_missed m_X5_out m_X5_gotUp
          rw [q3, w1]
          have g1 : dvI (nI (100 * M + 10 * O + U)) 100 = some (nI M) := by
            rw [show (100 : Int32) = nI 100 from rfl, dvN (by omega) (by decide) (by decide)]
            congr 2; omega
          have g2 : rmI (nI (100 * M + 10 * O + U)) 100 = some (nI (10 * O + U)) := by
            rw [show (100 : Int32) = nI 100 from rfl, rmN (by omega) (by decide) (by decide)]
            congr 2; omega
          have g3 : dvI (nI (10 * O + U)) 10 = some (nI O) := by
            rw [show (10 : Int32) = nI 10 from rfl, dvN (by omega) (by decide) (by decide)]
            congr 2; omega
          have g4 : rmI (nI (100 * M + 10 * O + U)) 10 = some (nI U) := by
            rw [show (10 : Int32) = nI 10 from rfl, rmN (by omega) (by decide) (by decide)]
            congr 2; omega
          rcases (show w = 4 ∨ w = 5 ∨ w = 6 by omega) with rfl | rfl | rfl
          · rw [if_pos (show nI 4 = 4 from rfl), g1, bs, bs]
            exact ⟨_, rfl, rfl⟩
          · rw [if_neg (show ¬ nI 5 = 4 by decide), if_pos (show nI 5 = 5 from rfl), g2, bs, g3, bs, bs]
            exact ⟨_, rfl, rfl⟩
          · rw [if_neg (show ¬ nI 6 = 4 by decide), if_neg (show ¬ nI 6 = 5 by decide), if_pos (show nI 6 = 6 from rfl), g4, bs, bs]
            exact ⟨_, rfl, rfl⟩
        obtain ⟨r, hJ1, hJ2⟩ := hJ
        rw [if_pos (show (4 : Int32) ≤ nI w from nI_le (a := 4) c4 (by omega)), if_pos (show (4 : Int32) ≤ nI w from nI_le (a := 4) c4 (by omega)), hJ1, hJ2, w5, w6, w7]
        rcases (show w = 4 ∨ w = 5 ∨ w = 6 by omega) with rfl | rfl | rfl
        · exact ⟨_, σ', τ', rfl, rfl, i1⟩
        · exact ⟨_, σ', τ', rfl, rfl, i1⟩
        · exact ⟨_, σ', τ', rfl, rfl, i1⟩
      · rw [if_neg (show ¬ (4 : Int32) ≤ nI w from nI_ge (b := 4) (by omega) (by decide)), if_neg (show ¬ (4 : Int32) ≤ nI w from nI_ge (b := 4) (by omega) (by decide))]
        by_cases c5 : w < n
        · have q4' : ∀ i, i < n → σ'.2.2.1 23 i = nI (S.2.getD i 0) := by
            rcases q4 with z | z
            · omega
            · exact z
          have lc : ldA cLn σ' 23 (nI w) = some (nI (S.2.getD w 0)) := by
            rw [ldk (n := 4) rfl (by omega) (by decide), q4' w c5]
          have lm : ldA mLn τ' 10 (nI w) = some (nI (S.2.getD w 0)) := by
            rw [ldk (n := 4) rfl (by omega) (by decide), w8 w c5]
          have n4' : ¬ nI w = 4 := fun z => by have := (nI_eq (b := 4) (by omega) (by decide)).mp z; omega
          have n5' : ¬ nI w = 5 := fun z => by have := (nI_eq (b := 5) (by omega) (by decide)).mp z; omega
          have n6' : ¬ nI w = 6 := fun z => by have := (nI_eq (b := 6) (by omega) (by decide)).mp z; omega
          unfold m_X11_plan_J34
          rw [if_pos (nI_lt c5 (by omega)), q1, bs, if_neg n4', if_neg n5', if_neg n6', lc, bs, if_neg (nI_ge c5 (by omega)), lm, bs]
          exact ⟨_, σ', τ', rfl, rfl, i1⟩
        · rw [if_neg (nI_nlt (by omega) (by omega)), if_pos (nI_le (by omega) (by omega))]
          exact ⟨_, σ, τ', rfl, rfl, i0⟩
    · have a1 : m_X11_isWithin (nI n) 0 4 = some 1 := a1
      have a2 : m_X12_in (nI n) 0 4 = some 1 := a2
      have b1 : m_X11_isWithin y 0 6 = some 0 := b1
      have b2 : m_X12_in y 0 6 = some 0 := b2
      simp only [a1, a2, b1, b2, bs, if_neg n10, if_true]
      exact ⟨_, σ, τ, rfl, rfl, hinv2⟩
  · have a1 : m_X11_isWithin x 0 4 = some 0 := a1
    have a2 : m_X12_in x 0 4 = some 0 := a2
    simp only [a1, a2, bs, if_true]
    exact ⟨_, σ, τ, rfl, rfl, hinv2⟩
