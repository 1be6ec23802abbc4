/-! the reference's plan -/
def PM (n : Nat) (S : Nat × List Nat) (τ : Sx) : Prop := ∃ M O U, S.1 = 100 * M + 10 * O + U ∧ M ≤ 1000 ∧ O ≤ 5 ∧ U ≤ 4 ∧ τ.1 18 = nI M ∧ τ.1 19 = nI O ∧ τ.1 20 = nI U ∧ ∀ i, i < n → τ.2.2.1 10 i = nI (S.2.getD i 0)
def rf2 (τ τ' : Sx) : Prop := qf τ τ' ∧ τ'.1 17 = τ.1 17 ∧ τ'.2.2.1 11 = τ.2.2.1 11
theorem rf2.tr {a b c : Sx} (h : rf2 a b) (k : rf2 b c) : rf2 a c := ⟨h.1.tr k.1, k.2.1.trans h.2.1, k.2.2.trans h.2.2⟩
theorem i32_cancel (y z : Int32) : y + z - y = z := by
  rw [Int32.add_comm, Int32.add_sub_cancel]
theorem mpl {d : TD} (hb : bT d) {C : List Nat} {c n t0 o : Nat} {v cc : Nat → Nat} (hc0 : 0 < c) (hc16 : c ≤ 16) (hCm : ∀ q, q < c → C.getD q 0 < 2 ^ d.1 0) (hn : n ≤ 4) (ht : t0 ≤ 99) (ho : o < 32) (hv100 : ∀ k, k < d.1 0 → v k ≤ 100) : ∀ (m f x : Nat) (S : Nat × List Nat) (τ : Sx), x + m = c ^ n → m < f → mT τ d → τ.1 17 = nI c → (∀ q, q < c → τ.2.2.1 11 q = nI (C.getD q 0)) → τ.2.2.1 4 0 = nI t0 → τ.2.2.1 4 1 = nI o → hvM (d.1 0) 4 τ v → hcM (d.1 0) 4 τ cc → ((x = 0 ∧ S.1 = 2147483647) ∨ (0 < x ∧ PM n S τ)) → ∃ τ', m_X12_plans_L15 f (nI n) (nI (c ^ n)) (nI x) τ = some τ' ∧ rf2 τ τ' ∧ (0 < x + m → PM n (fw (fun w S => stp (d.1 0) ([] ++ dg C c n w) (run d (dg C c n w) t0 v o 0 0) S) m x S) τ') := by
  have h5 : d.1 0 ≤ 5 := hb.1
  have h32 := pow5 h5
  have hcn := c16 (r := n) hc16 hn
  intro m
  induction m with
  | zero =>
    intro f x S τ hx hf hm h17 h11 e0 e1 hv hcc hS
    obtain ⟨f, rfl⟩ : ∃ k, f = k + 1 := ⟨f - 1, by omega⟩
    refine ⟨τ, ?_, ⟨qf.rf τ, rfl, rfl⟩, fun h => ?_⟩
    · rw [m_X12_plans_L15, if_pos (nI_le (by omega) (by omega))]
    · rcases hS with ⟨q, -⟩ | ⟨-, q⟩
      · omega
      · exact q
  | succ m ih =>
    intro f x S τ hx hf hm h17 h11 e0 e1 hv hcc hS
    obtain ⟨f, rfl⟩ : ∃ k, f = k + 1 := ⟨f - 1, by omega⟩
    obtain ⟨τ1, a1, a2, a3, a4, a5, a6⟩ := mtr hb (w := x) hc0 hc16 hCm hn ht (by omega) hm h17 h11 e0 e1 ho hv hcc hv100
    obtain ⟨r1, r2, r3⟩ := run_b hb (dg C c n x) t0 v o 0 0 hv100
    rw [dg_len] at r1 r2
    have hfw : fw (fun w S => stp (d.1 0) ([] ++ dg C c n w) (run d (dg C c n w) t0 v o 0 0) S) (m + 1) x S = fw (fun w S => stp (d.1 0) ([] ++ dg C c n w) (run d (dg C c n w) t0 v o 0 0) S) m (x + 1) (stp (d.1 0) (dg C c n x) (run d (dg C c n x) t0 v o 0 0) S) := rfl
    rw [hfw]
    generalize run d (dg C c n x) t0 v o 0 0 = e at a4 a5 a6 r1 r2 r3 ⊢
    obtain ⟨v', M', U'⟩ := e
    dsimp only at a4 a5 a6 r1 r2 r3 ⊢
    have m1 : mT τ1 d := hm.keep ⟨by rw [a2.1], by rw [a2.1], by rw [a2.1], by rw [a2.1]⟩ (fun j h1 h2 => a2.2.2 j (by omega) (by omega))
    have ol := oF_lt v' (d.1 0) 0 0 (by omega) (by decide)
    rw [Nat.zero_add] at ol
    have o1 := mowN h5 m1.1.1 a6 r3
    have o2 : m_X12_ones (nI (oF v' (d.1 0) 0 0)) = some (nI (outN v' (d.1 0))) := by
      rw [ones_ok (by omega), pc_oF v' (d.1 0) 0 0 (by omega) (by decide)]
      show some (nI (pcN 0 + outN v' (d.1 0))) = _
      rw [show pcN 0 = 0 from rfl, Nat.zero_add]
    have hO := outN_le v' (d.1 0)
    have l53 : ldA mLn τ1 5 3 = some (τ.2.2.1 4 3 + nI M') := by
      rw [show (3 : Int32) = nI 3 from rfl, ldk (n := 14) rfl (by decide) (by decide), a5]
    have l43 : ldA mLn τ1 4 3 = some (τ.2.2.1 4 3) := by
      rw [show (3 : Int32) = nI 3 from rfl, ldk (n := 14) rfl (by decide) (by decide), a2.2.2 4 (by decide) (by decide)]
    have l52 : ldA mLn τ1 5 2 = some (τ.2.2.1 4 2 + nI U') := by
      rw [show (2 : Int32) = nI 2 from rfl, ldk (n := 14) rfl (by decide) (by decide), a4]
    have l42 : ldA mLn τ1 4 2 = some (τ.2.2.1 4 2) := by
      rw [show (2 : Int32) = nI 2 from rfl, ldk (n := 14) rfl (by decide) (by decide), a2.2.2 4 (by decide) (by decide)]
    have q1 : rf2 τ τ1 := ⟨⟨fun i _ => by rw [a2.1], a2.2.1, fun a h1 h2 h3 h4 => a2.2.2 a h1 h2⟩, by rw [a2.1], a2.2.2 11 (by decide) (by decide)⟩
    rw [m_X12_plans_L15, if_neg (nI_ge (by omega) (by omega)), a1, bs, l53, bs, l43, bs, o1, bs, o2, bs, l52, bs, l42, bs, i32_cancel, i32_cancel]
    generalize hOe : outN v' (d.1 0) = O' at hO
    -- taken
    have take : 100 * M' + 10 * O' + U' < S.1 → ∃ τ', m_X12_plans_J130 (m_X12_plans_L15 f) (nI n) (nI (c ^ n)) (nI x) (nI M') (nI O') (nI U') τ1 = some τ' ∧ rf2 τ τ' ∧ (0 < x + (m + 1) → PM n (fw (fun w S => stp (d.1 0) ([] ++ dg C c n w) (run d (dg C c n w) t0 v o 0 0) S) m (x + 1) (stp (d.1 0) (dg C c n x) (v', M', U') S)) τ') := fun hlt => by
      obtain ⟨g, g1, -, g3⟩ := mbest hn (nI (c ^ n)) (nI x) n FU 0 (sg (sg (sg τ1 18 (nI M')) 19 (nI O')) 20 (nI U')) (by omega) (by unfold FU; omega)
      have g1 : m_X12_plans_L151 FU (nI n) (nI (c ^ n)) (nI x) 0 (sg (sg (sg τ1 18 (nI M')) 19 (nI O')) 20 (nI U')) = _ := g1
      have g3 : ∀ i, i < n → g i = τ1.2.2.1 9 i := fun i hi => g3 i (by omega) hi
      generalize hτ2 : sr (sg (sg (sg τ1 18 (nI M')) 19 (nI O')) 20 (nI U')) 10 g = τ2 at g1
      have q2 : rf2 τ1 τ2 := by
        rw [← hτ2]
        refine ⟨⟨fun i hi => ?_, rfl, fun a h1 h2 h3 h4 => sr_ne h3⟩, rfl, rfl⟩
        rw [sr_1, sg_1, if_neg (by omega), sg_1, if_neg (by omega), sg_1, if_neg (by omega)]
      have q := q1.tr q2
      have hstp : stp (d.1 0) (dg C c n x) (v', M', U') S = (100 * M' + 10 * O' + U', dg C c n x) := by
        unfold stp
        dsimp only
        rw [hOe, if_pos hlt]
      have hPM : PM n (100 * M' + 10 * O' + U', dg C c n x) τ2 := by
        refine ⟨M', O', U', rfl, by omega, by omega, by omega, ?_, ?_, ?_, fun i hi => ?_⟩
        · rw [← hτ2]; rfl
        · rw [← hτ2]; rfl
        · rw [← hτ2]; rfl
        · rw [← hτ2]
          show g i = _
          rw [g3 i hi, a3 i hi]
      rw [hstp]
      obtain ⟨τ', p1, p2, p3⟩ := ih f (x + 1) (100 * M' + 10 * O' + U', dg C c n x) τ2 (by omega) (by omega) (q.1.mt hm) (q.2.1.trans h17) (fun z hz => by rw [q.2.2]; exact h11 z hz) (by rw [q.1.2.2 4 (by decide) (by decide) (by decide) (by decide)]; exact e0) (by rw [q.1.2.2 4 (by decide) (by decide) (by decide) (by decide)]; exact e1) (fun z hz => by rw [q.1.2.2 4 (by decide) (by decide) (by decide) (by decide)]; exact hv z hz) (fun z hz => by rw [q.1.2.2 4 (by decide) (by decide) (by decide) (by decide)]; exact hcc z hz) (Or.inr ⟨by omega, hPM⟩)
      refine ⟨τ', ?_, q.tr p2, fun _ => p3 (by omega)⟩
      unfold m_X12_plans_J130
      rw [g1, bs]
      dsimp only
      rw [nI_1]
      exact p1
    rcases hS with ⟨x0, hS0⟩ | ⟨x0, hPM⟩
    · have hJ1 : m_X12_plans_J114 (m_X12_plans_L15 f) (nI n) (nI (c ^ n)) (nI x) (nI M') (nI O') (nI U') τ1 = m_X12_plans_J130 (m_X12_plans_L15 f) (nI n) (nI (c ^ n)) (nI x) (nI M') (nI O') (nI U') τ1 := by
        unfold m_X12_plans_J114 m_X12_plans_J119
        rw [if_pos (show nI x = 0 by rw [x0]; rfl)]
      have hJ0 : m_X12_plans_J118 (m_X12_plans_L15 f) (nI n) (nI (c ^ n)) (nI x) (nI M') (nI O') (nI U') τ1 = m_X12_plans_J130 (m_X12_plans_L15 f) (nI n) (nI (c ^ n)) (nI x) (nI M') (nI O') (nI U') τ1 := by
        unfold m_X12_plans_J118 m_X12_plans_J119
        rw [if_pos (show nI x = 0 by rw [x0]; rfl)]
      rw [hJ1, hJ0]
      simp only [ite_self]
      exact take (by omega)
    · obtain ⟨M, O, U, w1, w2, w3, w4, w5, w6, w7, w8⟩ := hPM
      have hx0 : ¬ nI x = 0 := nI_ne0 x0 (by omega)
      have hJ1 : m_X12_plans_J114 (m_X12_plans_L15 f) (nI n) (nI (c ^ n)) (nI x) (nI M') (nI O') (nI U') τ1 = m_X12_plans_J130 (m_X12_plans_L15 f) (nI n) (nI (c ^ n)) (nI x) (nI M') (nI O') (nI U') τ1 := by
        unfold m_X12_plans_J114 m_X12_plans_J119
        rw [if_neg hx0, if_neg n10]
      have hJ0 : m_X12_plans_J118 (m_X12_plans_L15 f) (nI n) (nI (c ^ n)) (nI x) (nI M') (nI O') (nI U') τ1 = m_X12_plans_L15 f (nI n) (nI (c ^ n)) (nI (x + 1)) τ1 := by
        unfold m_X12_plans_J118 m_X12_plans_J119
        rw [if_neg hx0, if_pos rfl, nI_1]
      have skip : ¬ 100 * M' + 10 * O' + U' < S.1 → ∃ τ', m_X12_plans_L15 f (nI n) (nI (c ^ n)) (nI (x + 1)) τ1 = some τ' ∧ rf2 τ τ' ∧ (0 < x + (m + 1) → PM n (fw (fun w S => stp (d.1 0) ([] ++ dg C c n w) (run d (dg C c n w) t0 v o 0 0) S) m (x + 1) (stp (d.1 0) (dg C c n x) (v', M', U') S)) τ') := fun hlt => by
        have hstp : stp (d.1 0) (dg C c n x) (v', M', U') S = S := by
          unfold stp
          dsimp only
          rw [hOe, if_neg hlt]
        rw [hstp]
        obtain ⟨τ', p1, p2, p3⟩ := ih f (x + 1) S τ1 (by omega) (by omega) m1 (q1.2.1.trans h17) (fun z hz => by rw [q1.2.2]; exact h11 z hz) (by rw [a2.2.2 4 (by decide) (by decide)]; exact e0) (by rw [a2.2.2 4 (by decide) (by decide)]; exact e1) (fun z hz => by rw [a2.2.2 4 (by decide) (by decide)]; exact hv z hz) (fun z hz => by rw [a2.2.2 4 (by decide) (by decide)]; exact hcc z hz) (Or.inr ⟨by omega, M, O, U, w1, w2, w3, w4, by rw [a2.1]; exact w5, by rw [a2.1]; exact w6, by rw [a2.1]; exact w7, fun i hi => by rw [a2.2.2 10 (by decide) (by decide)]; exact w8 i hi⟩)
        exact ⟨τ', p1, q1.tr p2, fun _ => p3 (by omega)⟩
      rw [hJ1, hJ0, a2.1, w5, w6, w7]
      by_cases c1 : M' < M
      · rw [if_pos (nI_lt c1 (by omega))]
        exact take (by omega)
      · rw [if_neg (nI_nlt (by omega) (by omega))]
        by_cases c2 : M' = M
        · rw [if_pos (congrArg nI c2)]
          by_cases c3 : O' < O
          · rw [if_pos (nI_lt c3 (by omega))]
            exact take (by omega)
          · rw [if_neg (nI_nlt (by omega) (by omega))]
            by_cases c4 : O' = O
            · rw [if_pos (congrArg nI c4)]
              by_cases c5 : U ≤ U'
              · rw [if_pos (nI_le c5 (by omega))]
                exact skip (by omega)
              · rw [if_neg (nI_ge (by omega) (by omega))]
                exact take (by omega)
            · rw [if_neg (fun z => c4 ((nI_eq (by omega) (by omega)).mp z))]
              exact skip (by omega)
        · rw [if_neg (fun z => c2 ((nI_eq (by omega) (by omega)).mp z))]
          exact skip (by omega)
