/-! the class's tree -/
theorem cLn_ls {k : Nat} (h : k < 5) : cLn (37 + k) = 32 := by
  rcases (show k = 0 ∨ k = 1 ∨ k = 2 ∨ k = 3 ∨ k = 4 by omega) with rfl | rfl | rfl | rfl | rfl <;> rfl
theorem cLn_nd {k : Nat} (h : k < 5) : cLn (42 + k) = 5 := by
  rcases (show k = 0 ∨ k = 1 ∨ k = 2 ∨ k = 3 ∨ k = 4 by omega) with rfl | rfl | rfl | rfl | rfl <;> rfl
theorem ixk {k : Nat} (h : k < 5) : ixq (nI k) 5 = some k := by
  unfold ixq
  rw [if_pos (inb_nI h (by decide)), nI_clamp (by omega)]
theorem nI_min (a b : Nat) (ha : a < 2 ^ 31) (hb : b < 2 ^ 31) : (if nI b < nI a then nI b else nI a) = nI (min a b) := by
  by_cases h : b < a
  · rw [if_pos (nI_lt h ha)]; congr 1; omega
  · rw [if_neg (nI_nlt (by omega) hb)]; congr 1; omega
theorem cft {d : TD} (hb : bT d) {k n t0 : Nat} (hk : k < d.1 0) (hn : n ≤ 4) (ht : t0 ≤ 99) : ∀ (r f j z l a : Nat) (σ : Sx), cT σ d → σ.1 21 = nI n → σ.1 22 = nI t0 → j + r = n → r < f → l ≤ 100 → 1 ≤ z → z < 2 ^ (j + 1) → a ≤ 800 * j → ∃ g, m_X5_fillTree f σ (nI k) (nI z) (nI j) (nI l) (nI a) = some (nI (a + ls d k r (t0 + j) l), sr σ (37 + k) g) ∧ Tr d g k r z (t0 + j) l a ∧ ∀ y, ¬ Sb r z y → g y = σ.2.2.1 (37 + k) y := by
  have h5 : d.1 0 ≤ 5 := hb.1
  have h8 : d.1 2 ≤ 8 := hb.2.2.1
  have sl : ∀ (σ : Sx) (z : Nat) x, z < 32 → stA cLn σ (37 + k) (nI z) x = some (sr σ (37 + k) (upd (σ.2.2.1 (37 + k)) z x)) := fun σ z x hz => stk (n := 32) (cLn_ls (by omega)) hz (by decide)
  intro r
  induction r with
  | zero =>
    intro f j z l a σ hc h21 h22 hj hf hl hz1 hz2 ha
    obtain ⟨f, rfl⟩ : ∃ k, f = k + 1 := ⟨f - 1, by omega⟩
    have hz32 : z < 32 := Nat.lt_of_lt_of_le hz2 (Nat.pow_le_pow_right (n := 2) (by decide) (show j + 1 ≤ 5 by omega))
    rw [m_X5_fillTree, m_X5_fillTree_b, h21, if_neg (nI_nlt (by omega) (by omega))]
    unfold m_X5_fillTree_b_J22 m_X5_fillTree_b_J119
    have go : ∀ w : Nat, w = (if l = 0 then 10 else 0) → ∃ g, ((ixq (nI k) 5).bind fun k7 => (stA cLn σ (37 + k7) (nI z) (nI a + nI w)).bind fun q8 => some (nI a + nI w, q8)) = some (nI (a + ls d k 0 (t0 + j) l), sr σ (37 + k) g) ∧ Tr d g k 0 z (t0 + j) l a ∧ ∀ y, ¬ Sb 0 z y → g y = σ.2.2.1 (37 + k) y := fun w e => by
      refine ⟨upd (σ.2.2.1 (37 + k)) z (nI (a + ls d k 0 (t0 + j) l)), ?_, ?_, fun y hy => upd_n _ _ hy⟩
      · rw [ixk (by omega), bs, nI_add, sl _ _ _ hz32, bs, ls, ← e]
      · rw [Tr, upd_s]
    by_cases q : l = 0
    · rw [if_pos (show nI l = 0 by rw [q]; rfl)]
      exact go 10 (by rw [if_pos q])
    · rw [if_neg (nI_ne0 (by omega) (by omega))]
      exact go 0 (by rw [if_neg q])
  | succ r ih =>
    intro f j z l a σ hc h21 h22 hj hf hl hz1 hz2 ha
    obtain ⟨f, rfl⟩ : ∃ k, f = k + 1 := ⟨f - 1, by omega⟩
    have hz32 : z < 32 := Nat.lt_of_lt_of_le hz2 (Nat.pow_le_pow_right (n := 2) (by decide) (show j + 1 ≤ 5 by omega))
    have hp : 2 ^ (j + 1 + 1) = 2 * 2 ^ (j + 1) := by rw [Nat.pow_succ, Nat.mul_comm]
    have hms := missN_le d (t0 + j) k l
    have hbe : ∀ on : Bool, m_X10_levelBehind σ (nI (t0 + j)) (nI k) (nI l) (if on = true then 1 else 0) = some (nI (behN d (t0 + j) k l on)) := fun on => cbeh hb hc hk (by omega) hl on
    have hb0 : m_X10_levelBehind σ (nI (t0 + j)) (nI k) (nI l) 0 = some (nI (behN d (t0 + j) k l false)) := hbe false
    have hb1 : m_X10_levelBehind σ (nI (t0 + j)) (nI k) (nI l) 1 = some (nI (behN d (t0 + j) k l true)) := hbe true
    obtain ⟨g1, a1, a2, a3⟩ := ih f (j + 1) (2 * z) (behN d (t0 + j) k l false) (a + 100 * missN d (t0 + j) k l) σ hc h21 h22 (by omega) (by omega) (behN_le d _ k hl _) (by omega) (by omega) (by omega)
    have hc1 : cT (sr σ (37 + k) g1) d := hc.keep (fun _ _ => rfl) (fun i h1 h2 => sr_ne (by omega))
    obtain ⟨g2, b1, b2, b3⟩ := ih f (j + 1) (2 * z + 1) (behN d (t0 + j) k l true) (a + 100 * missN d (t0 + j) k l) (sr σ (37 + k) g1) hc1 h21 h22 (by omega) (by omega) (behN_le d _ k hl _) (by omega) (by omega) (by omega)
    rw [sr_sr] at b1
    have eg : ∀ g, (sr σ (37 + k) g).2.2.1 (37 + k) = g := fun g => if_pos rfl
    rw [eg] at b3
    have l0 := ls_le hb k r (t0 + (j + 1)) (behN d (t0 + j) k l false)
    have l1 := ls_le hb k r (t0 + (j + 1)) (behN d (t0 + j) k l true)
    rw [m_X5_fillTree, m_X5_fillTree_b, h21, if_pos (nI_lt (by omega) (by omega)), h22, nI_add, cmissN hb hc (by omega) (by omega) hl, bs, hb0, bs, hb1, bs, show (2 : Int32) * nI z = nI (2 * z) from pk_mul 2 z, nI_1, nI_1, show nI (missN d (t0 + j) k l) * 100 = nI (missN d (t0 + j) k l * 100) from pk_mul _ 100, nI_add, Nat.mul_comm (missN d (t0 + j) k l) 100, a1, bs]
    dsimp only
    rw [b1, bs]
    unfold m_X5_fillTree_b_J119
    dsimp only
    rw [nI_min _ _ (by omega) (by omega), ixk (by omega), bs, sl _ _ _ hz32, bs, sr_sr, eg]
    have ev : min (a + 100 * missN d (t0 + j) k l + ls d k r (t0 + (j + 1)) (behN d (t0 + j) k l false)) (a + 100 * missN d (t0 + j) k l + ls d k r (t0 + (j + 1)) (behN d (t0 + j) k l true)) = a + ls d k (r + 1) (t0 + j) l := by
      rw [ls, show t0 + (j + 1) = t0 + j + 1 by omega]
      omega
    rw [ev]
    refine ⟨_, rfl, ⟨upd_s _ _ _, ?_, ?_⟩, fun y hy => ?_⟩
    · refine Tr_congr r _ _ _ _ a2 (fun y hy => ?_)
      rw [upd_n _ _ (fun e => by rw [e] at hy; exact Sb_top hz1 hy (by omega)), b3 y (fun h2 => Sb_dis hz1 hy h2)]
    · refine Tr_congr r _ _ _ _ b2 (fun y hy => ?_)
      rw [upd_n _ _ (fun e => by rw [e] at hy; exact Sb_top hz1 hy (by omega))]
    · rw [upd_n _ _ (fun e => hy (Or.inl e)), b3 y (fun h2 => hy (Or.inr (Or.inr h2))), a3 y (fun h2 => hy (Or.inr (Or.inl h2)))]
theorem onb_bit (s k : Nat) : (if onB s k = true then 1 else 0) = s / 2 ^ k % 2 := by
  unfold onB
  by_cases h : s / 2 ^ k % 2 = 1
  · rw [h]; rfl
  · rw [show s / 2 ^ k % 2 = 0 by omega]; rfl
theorem cen {P j s : Nat} (hP : P ≤ 5) (hj : j < 4) (hs : s < 32) {nd val : Nat → Nat} (hnd : ∀ k, k < P → nd k < 16) : ∀ (r f k e : Nat) (σ : Sx), (∀ k, k < P → σ.2.2.1 (42 + j) k = nI (nd k)) → (∀ k, k < P → σ.2.2.1 (37 + k) (2 * nd k + s / 2 ^ k % 2) = nI (val k)) → k + r = P → r < f → ∃ g, m_X5_enter_L6 f (nI P) (nI j) (nI s) (nI e) (nI k) σ = some (nI (e + sF val r k), sr σ (42 + (j + 1)) g) ∧ (∀ k', k ≤ k' → k' < P → g k' = nI (2 * nd k' + s / 2 ^ k' % 2)) ∧ ∀ k', k' < k → g k' = σ.2.2.1 (42 + (j + 1)) k' := by
  intro r
  induction r with
  | zero =>
    intro f k e σ h1 h2 hk hf
    obtain ⟨f, rfl⟩ : ∃ k, f = k + 1 := ⟨f - 1, by omega⟩
    exact ⟨σ.2.2.1 (42 + (j + 1)), by rw [m_X5_enter_L6, if_pos (nI_le (by omega) (by omega)), sr_self]; rfl, fun k' a b => by omega, fun _ _ => rfl⟩
  | succ r ih =>
    intro f k e σ h1 h2 hk hf
    obtain ⟨f, rfl⟩ : ∃ k, f = k + 1 := ⟨f - 1, by omega⟩
    have hb : ((nI s >>> (nI k &&& 31)) &&& 1) = nI (s / 2 ^ k % 2) := bitk ⟨s, hs⟩ ⟨k, by omega⟩
    have hnk := hnd k (by omega)
    generalize hw : s / 2 ^ k % 2 = w at hb
    have hw2 : w < 2 := by rw [← hw]; exact Nat.mod_lt _ (by decide)
    have l1 : ldA cLn σ (42 + j) (nI k) = some (nI (nd k)) := by
      rw [ldk (n := 5) (cLn_nd (by omega)) (by omega) (by decide), h1 k (by omega)]
    have s1 : ∀ x, stA cLn σ (42 + (j + 1)) (nI k) x = some (sr σ (42 + (j + 1)) (upd (σ.2.2.1 (42 + (j + 1))) k x)) := fun x => stk (n := 5) (cLn_nd (by omega)) (by omega) (by decide)
    have l2 : ∀ g, ldA cLn (sr σ (42 + (j + 1)) g) (37 + k) (nI (2 * nd k + w)) = some (nI (val k)) := fun g => by
      rw [ldk (n := 32) (cLn_ls (by omega)) (by omega) (by decide), sr_ne (by omega), ← hw, h2 k (by omega)]
    rw [m_X5_enter_L6, if_neg (nI_ge (by omega) (by omega)), ixk (by omega), bs, l1, bs, nI_1, ixk (by omega), bs, hb, show (2 : Int32) * nI (nd k) = nI (2 * nd k) from pk_mul 2 _, nI_add, s1, bs, ixk (by omega), bs, l2, bs, nI_add, nI_1]
    obtain ⟨g, p1, p2, p3⟩ := ih f (k + 1) (e + val k) (sr σ (42 + (j + 1)) (upd (σ.2.2.1 (42 + (j + 1))) k (nI (2 * nd k + w)))) (fun k' hk' => by rw [sr_ne (by omega)]; exact h1 k' hk') (fun k' hk' => by rw [sr_ne (by omega)]; exact h2 k' hk') (by omega) (by omega)
    rw [sr_sr] at p1
    have eg : ∀ g, (sr σ (42 + (j + 1)) g).2.2.1 (42 + (j + 1)) = g := fun g => if_pos rfl
    rw [eg] at p3
    refine ⟨g, ?_, fun k' q1 q2 => ?_, fun k' q => ?_⟩
    · rw [p1, sF, Nat.add_assoc]
    · by_cases q : k' = k
      · subst q
        rw [p3 k' (by omega), upd_s, hw]
      · exact p2 k' (by omega) q2
    · rw [p3 k' (by omega), upd_n _ _ (by omega)]
