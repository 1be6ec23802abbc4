/-! the class's plan -/
def pf0 (σ σ' : Sx) : Prop := (∀ i, i ≠ 20 → σ'.1 i = σ.1 i) ∧ σ'.2.1 = σ.2.1 ∧ ∀ j, j < 37 ∨ 43 ≤ j → σ'.2.2.1 j = σ.2.2.1 j
theorem cml {d : TD} (hb : bT d) {n t0 : Nat} {v : Nat → Nat} (hn : n ≤ 4) (ht : t0 ≤ 99) (hv : ∀ k, k < d.1 0 → v k ≤ 100) : ∀ (r f k s : Nat) (σ : Sx), cT σ d → σ.1 21 = nI n → σ.1 22 = nI t0 → hvC (d.1 0) σ v → σ.1 20 = nI s → (∀ i, i < k → Tr d (σ.2.2.1 (37 + i)) i n 1 t0 (v i) 0 ∧ σ.2.2.1 42 i = nI 1) → k + r = d.1 0 → r < f → ∃ σ', m_X5_make_L21 f (nI n) (nI k) σ = some (nI n, σ') ∧ pf0 σ σ' ∧ σ'.1 20 = nI (s + sF (fun i => ls d i n t0 (v i)) r k) ∧ ∀ i, i < d.1 0 → Tr d (σ'.2.2.1 (37 + i)) i n 1 t0 (v i) 0 ∧ σ'.2.2.1 42 i = nI 1 := by
  have h5 : d.1 0 ≤ 5 := hb.1
  intro r
  induction r with
  | zero =>
    intro f k s σ hc h21 h22 hvc h20 hd hk hf
    obtain ⟨f, rfl⟩ : ∃ k, f = k + 1 := ⟨f - 1, by omega⟩
    refine ⟨σ, ?_, ⟨fun _ _ => rfl, rfl, fun _ _ => rfl⟩, h20, fun i hi => hd i (by omega)⟩
    rw [m_X5_make_L21, hc.1.1, if_pos (nI_le (by omega) (by omega))]
  | succ r ih =>
    intro f k s σ hc h21 h22 hvc h20 hd hk hf
    obtain ⟨f, rfl⟩ : ∃ k, f = k + 1 := ⟨f - 1, by omega⟩
    have hvk := hv k (by omega)
    have i0 : ixq 0 5 = some 0 := ixk (k := 0) (by decide)
    have s0 : stA cLn σ (42 + 0) (nI k) 1 = some (sr σ 42 (upd (σ.2.2.1 42) k 1)) := stk (n := 5) rfl (by omega) (by decide)
    generalize hσ1 : sr σ 42 (upd (σ.2.2.1 42) k 1) = σ1 at s0
    have c1 : cT σ1 d := by rw [← hσ1]; exact hc.keep (fun _ _ => rfl) (fun a h1 h2 => sr_ne (by omega))
    have e1 : σ1.1 = σ.1 := by rw [← hσ1]; rfl
    have e2 : σ1.2.1 = σ.2.1 := by rw [← hσ1]; rfl
    have e3 : ∀ a, a ≠ 42 → σ1.2.2.1 a = σ.2.2.1 a := fun a ha => by rw [← hσ1]; exact sr_ne ha
    have e42 : σ1.2.2.1 42 = upd (σ.2.2.1 42) k 1 := by rw [← hσ1]; rfl
    have lv : ldA cLn σ1 17 (nI k) = some (nI (v k)) := by
      rw [ldk (n := 5) rfl (by omega) (by decide), e3 17 (by decide), hvc k (by omega)]
    obtain ⟨g, a1, a2, a3⟩ := cft hb (k := k) (n := n) (t0 := t0) (by omega) hn ht n 8 0 1 (v k) 0 σ1 c1 (by rw [e1]; exact h21) (by rw [e1]; exact h22) (by omega) (by omega) hvk (by omega) (by decide) (by omega)
    have a1 : m_X5_fillTree 8 σ1 (nI k) 1 0 (nI (v k)) 0 = some (nI (0 + ls d k n t0 (v k)), sr σ1 (37 + k) g) := a1
    rw [Nat.zero_add] at a1
    have a2 : Tr d g k n 1 t0 (v k) 0 := a2
    have hl := ls_le hb k n t0 (v k)
    generalize hσ2 : sg (sr σ1 (37 + k) g) 20 (nI (s + ls d k n t0 (v k))) = σ2
    have c2 : cT σ2 d := by rw [← hσ2]; exact c1.keep (fun i hi => if_neg (by omega)) (fun a h1 h2 => sr_ne (by omega))
    have d1 : ∀ i, i ≠ 20 → σ2.1 i = σ.1 i := fun i hi => by rw [← hσ2, ← e1]; exact if_neg hi
    have d2 : σ2.2.1 = σ.2.1 := by rw [← hσ2, ← e2]; rfl
    have d3 : ∀ a, a ≠ 42 → a ≠ 37 + k → σ2.2.2.1 a = σ.2.2.1 a := fun a h1 h2 => by
      rw [← hσ2, ← e3 a h1]; exact sr_ne h2
    have d37 : σ2.2.2.1 (37 + k) = g := by rw [← hσ2]; exact if_pos rfl
    have d42 : σ2.2.2.1 42 = upd (σ.2.2.1 42) k 1 := by
      rw [← hσ2, ← e42]; exact sr_ne (by omega)
    have d20 : σ2.1 20 = nI (s + ls d k n t0 (v k)) := by rw [← hσ2]; rfl
    obtain ⟨σ', p1, p2, p3, p4⟩ := ih f (k + 1) (s + ls d k n t0 (v k)) σ2 c2 ((d1 21 (by decide)).trans h21) ((d1 22 (by decide)).trans h22) (fun i hi => by rw [d3 17 (by omega) (by omega)]; exact hvc i hi) d20 (fun i hi => by
      by_cases q : i = k
      · subst q
        rw [d37, d42, upd_s]
        exact ⟨a2, rfl⟩
      · rw [d3 (37 + i) (by omega) (by omega), d42, upd_n _ _ q]
        exact hd i (by omega)) (by omega) (by omega)
    refine ⟨σ', ?_, ⟨fun i hi => (p2.1 i hi).trans (d1 i hi), p2.2.1.trans d2, fun a ha => (p2.2.2 a ha).trans (d3 a (by omega) (by omega))⟩, ?_, p4⟩
    · rw [m_X5_make_L21, hc.1.1, if_neg (nI_ge (by omega) (by omega)), i0, bs, s0, bs, lv, bs, a1, bs]
      dsimp only
      rw [show σ1.1 20 = nI s from by rw [e1]; exact h20, nI_add, hσ2, nI_1]
      exact p1
    · rw [p3, sF, Nat.add_assoc]
def pf (σ σ' : Sx) : Prop := (∀ i, i < 20 ∨ 23 ≤ i → σ'.1 i = σ.1 i) ∧ σ'.2.1 = σ.2.1 ∧ ∀ a, a < 23 ∨ (25 ≤ a ∧ a < 37) ∨ 47 ≤ a → σ'.2.2.1 a = σ.2.2.1 a
theorem cmk {d : TD} (hb : bT d) {n t0 o : Nat} {v : Nat → Nat} {σ : Sx} (hn : n ≤ 4) (ht : t0 ≤ 99) (ho : o < 32) (hv : ∀ k, k < d.1 0 → v k ≤ 100) (hc : cT σ d) (h14 : σ.1 14 = nI t0) (h15 : σ.1 15 = nI o) (hvc : hvC (d.1 0) σ v) : ∃ σ', m_X5_make σ (nI n) = some σ' ∧ pf σ σ' ∧ σ'.1 20 = nI (cmp d n t0 v o 0 0 [] (2147483647, [])).1 ∧ ((cmp d n t0 v o 0 0 [] (2147483647, [])).1 = 2147483647 ∨ ∀ i, i < n → σ'.2.2.1 23 i = nI ((cmp d n t0 v o 0 0 [] (2147483647, [])).2.getD i 0)) := by
  have h5 : d.1 0 ≤ 5 := hb.1
  generalize hσ1 : sg (sg (sg σ 21 (nI n)) 22 ((sg σ 21 (nI n)).1 14)) 20 0 = σ1
  have e1 : ∀ i, i < 20 ∨ 23 ≤ i → σ1.1 i = σ.1 i := fun i hi => by
    rw [← hσ1, sg_1, if_neg (by omega), sg_1, if_neg (by omega), sg_1, if_neg (by omega)]
  have e2 : σ1.2 = σ.2 := by rw [← hσ1]; rfl
  obtain ⟨σ2, a1, a2, a3, a4⟩ := cml hb (n := n) (t0 := t0) hn ht hv (d.1 0) FU 0 0 σ1 (hc.keep (fun i hi => e1 i (by omega)) (fun a _ _ => by rw [e2])) (by rw [← hσ1]; rfl) (by rw [← hσ1]; exact h14) (fun k hk => by rw [e2]; exact hvc k hk) (by rw [← hσ1]; rfl) (fun i hi => absurd hi (by omega)) (by omega) (by unfold FU; omega)
  have a1 : m_X5_make_L21 FU (nI n) 0 σ1 = some (nI n, σ2) := a1
  have p2 : pf σ σ2 := ⟨fun i hi => (a2.1 i (by omega)).trans (e1 i hi), a2.2.1.trans (by rw [e2]), fun a ha => (a2.2.2 a (by omega)).trans (by rw [e2])⟩
  have x21 : σ2.1 21 = nI n := (a2.1 21 (by omega)).trans (by rw [← hσ1]; rfl)
  unfold m_X5_make
  rw [hσ1, a1, bs]
  dsimp only
  rcases Nat.eq_zero_or_pos n with q | q
  · subst q
    have hl : sF (fun i => ls d i 0 t0 (v i)) (d.1 0) 0 ≤ 10 * d.1 0 := sF_bd _ _ (fun k _ _ => by have := ls_le hb k 0 t0 (v k); omega)
    rw [out10] at hl
    rw [Nat.zero_add, out10] at a3
    rw [if_pos (show nI 0 ≤ 0 by decide)]
    refine ⟨σ2, rfl, p2, ?_, Or.inr (fun i hi => absurd hi (by omega))⟩
    rw [a3, cmp, if_pos (show 100 * 0 + 10 * outN v (d.1 0) + 0 < 2147483647 by omega)]
    congr 1
    omega
  · obtain ⟨r, rfl⟩ : ∃ r, n = r + 1 := ⟨n - 1, by omega⟩
    rw [if_neg (nI_nle q (by omega))]
    have c2 : cT (sg σ2 20 2147483647) d := hc.keep (fun i hi => (if_neg (by omega)).trans (p2.1 i (by omega))) (fun a h1 h2 => p2.2.2 a (by omega))
    have hSC : SC d (r + 1) t0 0 (r + 1) (fun _ => 1) v (fun _ => 0) (sg σ2 20 2147483647) := by
      refine ⟨c2, x21, fun k hk => ⟨(a4 k hk).2, Nat.le_refl 1, show 1 < 2 ^ (0 + 1) by decide, (a4 k hk).1, Nat.le_refl _, hv k hk⟩⟩
    have hSB : SB (r + 1) 0 [] (2147483647, []) (sg σ2 20 2147483647) := ⟨rfl, by decide, Or.inl rfl, fun i hi => absurd hi (by omega)⟩
    obtain ⟨σ', b1, b2, b3⟩ := csr hb (n := r + 1) (t0 := t0) hn r 8 0 o 0 0 _ _ _ [] _ _ hSC hSB rfl (by omega) (by omega) (by omega) ho (by rw [sF_0 (fun _ _ => rfl)])
    have b1 : m_X5_search 8 (sg σ2 20 2147483647) 0 (nI o) 0 = some σ' := b1
    rw [show (sg σ2 20 2147483647).1 15 = nI o from (p2.1 15 (by omega)).trans h15, b1, bs]
    refine ⟨σ', rfl, ⟨fun i hi => ?_, b2.2.1.trans p2.2.1, fun a ha => ?_⟩, b3.1, b3.2.2.1⟩
    · rw [b2.1 i (by omega)]
      exact (if_neg (by omega)).trans (p2.1 i hi)
    · rw [b2.2.2.1 a (by omega) (by omega) (by omega)]
      exact p2.2.2 a ha
