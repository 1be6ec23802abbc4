/-! sums over the telephones -/
def sF (f : Nat → Nat) : Nat → Nat → Nat
  | 0, _ => 0
  | r + 1, i => f i + sF f r (i + 1)
theorem sF_0 {f : Nat → Nat} (h : ∀ k, True → f k = 0) : ∀ r i, sF f r i = 0
  | 0, _ => rfl
  | r + 1, i => by rw [sF, h i trivial, sF_0 h r (i + 1)]
theorem sF_congr {f g : Nat → Nat} (h : ∀ k, True → f k = g k) : ∀ r i, sF f r i = sF g r i
  | 0, _ => rfl
  | r + 1, i => by rw [sF, sF, h i trivial, sF_congr h r (i + 1)]
theorem sF_cong {f g : Nat → Nat} : ∀ r i, (∀ k, i ≤ k → k < i + r → f k = g k) → sF f r i = sF g r i
  | 0, _, _ => rfl
  | r + 1, i, h => by rw [sF, sF, h i (by omega) (by omega), sF_cong r (i + 1) (fun k h1 h2 => h k (by omega) (by omega))]
theorem sF_one {f g : Nat → Nat} {K δ : Nat} : ∀ r i, i ≤ K → K < i + r → (∀ k, True → k ≠ K → f k = g k) → f K = g K + δ → sF f r i = sF g r i + δ
  | 0, i, h1, h2, _, _ => absurd h2 (by omega)
  | r + 1, i, h1, h2, h3, h4 => by
    rw [sF, sF]
    by_cases e : i = K
    · subst e
      rw [h4, sF_cong (f := f) (g := g) r (i + 1) (fun k q1 q2 => h3 k trivial (by omega))]
      omega
    · rw [h3 i trivial e, sF_one r (i + 1) (by omega) (by omega) h3 h4]
      omega
def onB (o k : Nat) : Bool := decide (o / 2 ^ k % 2 = 1)
theorem mgc_s {d : TD} (hb : bT d) {t : Nat} (ht : t < 2 ^ 31) : ∀ (r n i : Nat) (v : Nat → Nat) (τ : Sx), mT τ d → τ.2.2.1 4 0 = nI t → hvM (d.1 0) 4 τ v → (∀ k, k < d.1 0 → v k ≤ 100) → i + r = d.1 2 → r < n → ∃ f, m_X12_goes_s_L2 n (nI i) τ = some (sr τ 4 f) ∧ (∀ j, j < 3 ∨ 9 ≤ j → f j = τ.2.2.1 4 j) ∧ f 3 = τ.2.2.1 4 3 + nI (sF (fun k => (lmF d t k r i (v k) 0).2) (d.1 0) 0) ∧ ∀ k, k < d.1 0 → f (4 + k) = nI (lmF d t k r i (v k) 0).1 := by
  have h8 : d.1 2 ≤ 8 := hb.2.2.1
  have h5 : d.1 0 ≤ 5 := hb.1
  intro r
  induction r with
  | zero =>
    intro n i v τ hm h0 hv hv100 hi hn
    obtain ⟨n, rfl⟩ : ∃ k, n = k + 1 := ⟨n - 1, by omega⟩
    refine ⟨τ.2.2.1 4, ?_, fun j _ => rfl, ?_, fun k hk => hv k hk⟩
    · rw [m_X12_goes_s_L2, hm.1.2.2.1, if_pos (nI_le (by omega) (by omega)), sr_self]
    · have : sF (fun k => (lmF d t k 0 i (v k) 0).2) (d.1 0) 0 = 0 := sF_0 (fun _ _ => rfl) _ _
      rw [this]
      exact (Int32.add_zero _).symm
  | succ r ih =>
    intro n i v τ hm h0 hv hv100 hi hn
    obtain ⟨n, rfl⟩ : ∃ k, n = k + 1 := ⟨n - 1, by omega⟩
    obtain ⟨c1, c2, c3, c4⟩ := hb.2.2.2.2.2.1 i (by omega)
    obtain ⟨g1, g2, g3⟩ := hm.2.2.1 i (by omega)
    have l2 : ∀ τ' : Sx, τ'.2.2.1 2 = τ.2.2.1 2 → ldA mLn τ' 2 (3 * nI i + 2) = some (nI (d.2 4 i)) := fun τ' e => by
      rw [show (3 : Int32) * nI i = nI (3 * i) from pk_mul 3 i, show nI (3 * i) + (2 : Int32) = nI (3 * i + 2) from nI_add _ 2, ldk (n := 48) rfl (by omega) (by decide), e, g3]
    have l1 : ldA mLn τ 2 (3 * nI i + 1) = some (nI (d.2 3 i)) := by
      rw [show (3 : Int32) * nI i = nI (3 * i) from pk_mul 3 i, show nI (3 * i) + (1 : Int32) = nI (3 * i + 1) from nI_add _ 1, ldk (n := 48) rfl (by omega) (by decide), g2]
    have l0 : ldA mLn τ 2 (3 * nI i) = some (nI (d.2 2 i)) := by
      rw [show (3 : Int32) * nI i = nI (3 * i) from pk_mul 3 i, ldk (n := 48) rfl (by omega) (by decide), g1]
    have r0 : ldA mLn τ 4 0 = some (nI t) := by
      rw [show (0 : Int32) = nI 0 from rfl, ldk (n := 14) rfl (by decide) (by decide), h0]
    have rK : ldA mLn τ 4 (nI (4 + d.2 2 i)) = some (nI (v (d.2 2 i))) := by
      rw [ldk (n := 14) rfl (by omega) (by decide), hv _ c1]
    have r3 : ∀ τ' : Sx, ldA mLn τ' 4 3 = some (τ'.2.2.1 4 3) := fun τ' => ldk (k := 3) (n := 14) rfl (by decide) (by decide)
    have sK : ∀ (τ' : Sx) x, stA mLn τ' 4 (nI (4 + d.2 2 i)) x = some (sr τ' 4 (upd (τ'.2.2.1 4) (4 + d.2 2 i) x)) := fun τ' x => stk (n := 14) rfl (by omega) (by decide)
    have s3 : ∀ (τ' : Sx) x, stA mLn τ' 4 3 x = some (sr τ' 4 (upd (τ'.2.2.1 4) 3 x)) := fun τ' x => stk (k := 3) (n := 14) rfl (by decide) (by decide)
    have hvK := hv100 _ c1
    rw [m_X12_goes_s_L2, hm.1.2.2.1, if_neg (nI_ge (by omega) (by omega)), l0, bs, l1, bs, r0, bs, show (4 : Int32) + nI (d.2 2 i) = nI (4 + d.2 2 i) from nI_add 4 _, rK, bs, l2 τ rfl, bs]
    by_cases qt : d.2 3 i = t
    · rw [if_pos (by rw [qt])]
      by_cases qn : d.2 4 i ≤ v (d.2 2 i)
      · rw [if_neg (nI_nlt qn (by omega))]
        unfold m_X12_goes_s_J58 m_X12_goes_s_J83
        simp only [rK, bs, if_neg n10, l2 τ rfl, pk_sub qn, sK, r3, s3, sr_sr, nI_1]
        have z0 : upd (upd (τ.2.2.1 4) (4 + d.2 2 i) (nI (v (d.2 2 i) - d.2 4 i))) 3 (τ.2.2.1 4 3 + 0) 0 = nI t := by
          rw [upd_n _ _ (by omega), upd_n _ _ (by omega)]
          exact h0
        have z1 : ∀ k, k < d.1 0 → upd (upd (τ.2.2.1 4) (4 + d.2 2 i) (nI (v (d.2 2 i) - d.2 4 i))) 3 (τ.2.2.1 4 3 + 0) (4 + k) = nI (if k = d.2 2 i then v (d.2 2 i) - d.2 4 i else v k) := fun k hk => by
          rw [upd_n _ _ (by omega)]
          by_cases e : k = d.2 2 i
          · rw [if_pos e, e]
            exact upd_s _ _ _
          · rw [if_neg e, upd_n _ _ (by omega)]
            exact hv k hk
        have z2 : ∀ k, k < d.1 0 → (if k = d.2 2 i then v (d.2 2 i) - d.2 4 i else v k) ≤ 100 := fun k hk => by
          split
          · omega
          · exact hv100 k hk
        have hs := ih n (i + 1) (fun k => if k = d.2 2 i then v (d.2 2 i) - d.2 4 i else v k) (sr τ 4 (upd (upd (τ.2.2.1 4) (4 + d.2 2 i) (nI (v (d.2 2 i) - d.2 4 i))) 3 (τ.2.2.1 4 3 + 0))) hm z0 z1 z2 (by omega) (by omega)
        obtain ⟨f, q1, q2, q3, q4⟩ := hs
        rw [sr_sr] at q1
        have e3 : (sr τ 4 (upd (τ.2.2.1 4) (4 + d.2 2 i) (nI (v (d.2 2 i) - d.2 4 i)))).2.2.1 4 = upd (τ.2.2.1 4) (4 + d.2 2 i) (nI (v (d.2 2 i) - d.2 4 i)) := rfl
        have e33 : upd (τ.2.2.1 4) (4 + d.2 2 i) (nI (v (d.2 2 i) - d.2 4 i)) 3 = τ.2.2.1 4 3 := upd_n _ _ (by omega)
        rw [e3, e33, q1]
        have hl : ∀ k, lmF d t k (r + 1) i (v k) 0 = lmF d t k r (i + 1) (if k = d.2 2 i then v (d.2 2 i) - d.2 4 i else v k) 0 := fun k => by
          rw [lmF]
          by_cases e : d.2 2 i = k
          · subst e; rw [if_pos ⟨rfl, qt⟩, if_pos qn, if_pos rfl]
          · rw [if_neg (fun z => e z.1), if_neg (fun z => e z.symm)]
        refine ⟨f, rfl, fun j hj => ?_, ?_, fun k hk => ?_⟩
        · rw [q2 j hj]
          show upd (upd (τ.2.2.1 4) (4 + d.2 2 i) _) 3 _ j = _
          rw [upd_n _ _ (by omega), upd_n _ _ (by omega)]
        · rw [q3]
          show τ.2.2.1 4 3 + 0 + _ = _
          rw [Int32.add_zero]
          congr 2
          exact sF_congr (fun k _ => by rw [hl k]) _ _
        · rw [q4 k hk, hl k]
      · rw [if_pos (nI_lt (by omega) (by omega))]
        unfold m_X12_goes_s_J58 m_X12_goes_s_J83
        have e0 : nI (v (d.2 2 i)) - 0 = nI (v (d.2 2 i)) := Int32.sub_zero _
        simp only [rK, bs, if_true, e0, sK, r3, s3, sr_sr, nI_1]
        have z0 : upd (upd (τ.2.2.1 4) (4 + d.2 2 i) (nI (v (d.2 2 i)))) 3 (τ.2.2.1 4 3 + 1) 0 = nI t := by
          rw [upd_n _ _ (by omega), upd_n _ _ (by omega)]
          exact h0
        have z1 : ∀ k, k < d.1 0 → upd (upd (τ.2.2.1 4) (4 + d.2 2 i) (nI (v (d.2 2 i)))) 3 (τ.2.2.1 4 3 + 1) (4 + k) = nI (v k) := fun k hk => by
          rw [upd_n _ _ (by omega)]
          by_cases e : k = d.2 2 i
          · rw [e]
            exact upd_s _ _ _
          · rw [upd_n _ _ (by omega)]
            exact hv k hk
        have hs := ih n (i + 1) v (sr τ 4 (upd (upd (τ.2.2.1 4) (4 + d.2 2 i) (nI (v (d.2 2 i)))) 3 (τ.2.2.1 4 3 + 1))) hm z0 z1 hv100 (by omega) (by omega)
        obtain ⟨f, q1, q2, q3, q4⟩ := hs
        rw [sr_sr] at q1
        have e3 : (sr τ 4 (upd (τ.2.2.1 4) (4 + d.2 2 i) (nI (v (d.2 2 i))))).2.2.1 4 = upd (τ.2.2.1 4) (4 + d.2 2 i) (nI (v (d.2 2 i))) := rfl
        have e33 : upd (τ.2.2.1 4) (4 + d.2 2 i) (nI (v (d.2 2 i))) 3 = τ.2.2.1 4 3 := upd_n _ _ (by omega)
        rw [e3, e33, q1]
        have hl1 : ∀ k, k ≠ d.2 2 i → lmF d t k (r + 1) i (v k) 0 = lmF d t k r (i + 1) (v k) 0 := fun k e => by
          rw [lmF, if_neg (fun z => e z.1.symm)]
        have hl2 : lmF d t (d.2 2 i) (r + 1) i (v (d.2 2 i)) 0 = lmF d t (d.2 2 i) r (i + 1) (v (d.2 2 i)) (0 + 1) := by
          rw [lmF, if_pos ⟨rfl, qt⟩, if_neg qn]
        refine ⟨f, rfl, fun j hj => ?_, ?_, fun k hk => ?_⟩
        · rw [q2 j hj]
          show upd (upd (τ.2.2.1 4) (4 + d.2 2 i) _) 3 _ j = _
          rw [upd_n _ _ (by omega), upd_n _ _ (by omega)]
        · rw [q3]
          show τ.2.2.1 4 3 + 1 + _ = _
          rw [Int32.add_assoc]
          congr 1
          have es := sF_one (f := fun k => (lmF d t k (r + 1) i (v k) 0).2) (g := fun k => (lmF d t k r (i + 1) (v k) 0).2) (K := d.2 2 i) (δ := 1) (d.1 0) 0 (by omega) (by omega) (fun k _ e => by show (lmF d t k (r + 1) i (v k) 0).2 = (lmF d t k r (i + 1) (v k) 0).2; rw [hl1 k e]) (by show (lmF d t (d.2 2 i) (r + 1) i (v (d.2 2 i)) 0).2 = (lmF d t (d.2 2 i) r (i + 1) (v (d.2 2 i)) 0).2 + 1; rw [hl2, lmF_add]; omega)
          rw [es]
          exact (nI_add 1 _).trans (congrArg nI (Nat.add_comm 1 _))
        · rw [q4 k hk]
          by_cases e : k = d.2 2 i
          · rw [e, hl2, lmF_add d t (d.2 2 i) r (i + 1) (v (d.2 2 i)) (0 + 1)]
          · rw [hl1 k e]
    · rw [if_neg (fun z => qt ((nI_eq (by omega) ht).mp z)), nI_1]
      obtain ⟨f, q1, q2, q3, q4⟩ := ih n (i + 1) v τ hm h0 hv hv100 (by omega) (by omega)
      have hl : ∀ k, lmF d t k (r + 1) i (v k) 0 = lmF d t k r (i + 1) (v k) 0 := fun k => by
        rw [lmF, if_neg (fun z => qt z.2)]
      refine ⟨f, q1, q2, ?_, fun k hk => ?_⟩
      · rw [q3]
        congr 2
        exact sF_congr (fun k _ => by rw [hl k]) _ _
      · rw [q4 k hk, hl k]
theorem mgf_s {d : TD} (hb : bT d) {t o : Nat} (ho : o < 32) (dk : Bool) : ∀ (r n i : Nat) (v c : Nat → Nat) (τ : Sx), mT τ d → τ.2.2.1 4 1 = nI o → hvM (d.1 0) 4 τ v → hcM (d.1 0) 4 τ c → (∀ k, k < d.1 0 → v k ≤ 100) → i + r = d.1 0 → r < n → ∃ f, m_X12_goes_s_L117 n (if dk = true then 1 else 0) (nI i) τ = some (sr τ 4 f) ∧ (∀ j, j < 4 → f j = τ.2.2.1 4 j) ∧ (∀ k, k < d.1 0 → f (4 + k) = nI (if i ≤ k then (if (onB o k && !dk) = true then filN (d.2 0 k) (v k) else drnN (d.2 1 k) (v k)) else v k)) ∧ ∀ k, k < d.1 0 → f (9 + k) = nI (if i ≤ k ∧ (onB o k && !dk) = true then c k + 1 else c k) := by
  have h5 : d.1 0 ≤ 5 := hb.1
  intro r
  induction r with
  | zero =>
    intro n i v c τ hm h1 hv hc hv100 hi hn
    obtain ⟨n, rfl⟩ : ∃ k, n = k + 1 := ⟨n - 1, by omega⟩
    refine ⟨τ.2.2.1 4, ?_, fun j _ => rfl, fun k hk => ?_, fun k hk => ?_⟩
    · rw [m_X12_goes_s_L117, hm.1.1, if_pos (nI_le (by omega) (by omega)), sr_self]
    · rw [if_neg (by omega)]; exact hv k hk
    · rw [if_neg (fun z => by omega)]; exact hc k hk
  | succ r ih =>
    intro n i v c τ hm h1 hv hc hv100 hi hn
    obtain ⟨n, rfl⟩ : ∃ k, n = k + 1 := ⟨n - 1, by omega⟩
    obtain ⟨c1, c2, c3⟩ := hb.2.2.2.2.1 i (by omega)
    obtain ⟨g1, g2⟩ := hm.2.1 i (by omega)
    have hvi := hv100 i (by omega)
    have l1 : ldA mLn τ 1 (3 * nI i + 1) = some (nI (d.2 0 i)) := by
      rw [show (3 : Int32) * nI i = nI (3 * i) from pk_mul 3 i, show nI (3 * i) + (1 : Int32) = nI (3 * i + 1) from nI_add _ 1, ldk (n := 30) rfl (by omega) (by decide), g1]
    have l2 : ldA mLn τ 1 (3 * nI i + 2) = some (nI (d.2 1 i)) := by
      rw [show (3 : Int32) * nI i = nI (3 * i) from pk_mul 3 i, show nI (3 * i) + (2 : Int32) = nI (3 * i + 2) from nI_add _ 2, ldk (n := 30) rfl (by omega) (by decide), g2]
    have rl : ldA mLn τ 4 (nI (4 + i)) = some (nI (v i)) := by
      rw [ldk (n := 14) rfl (by omega) (by decide), hv i (by omega)]
    have r1 : ldA mLn τ 4 1 = some (nI o) := by
      rw [show (1 : Int32) = nI 1 from rfl, ldk (n := 14) rfl (by decide) (by decide), h1]
    have e4 : (4 : Int32) + nI i = nI (4 + i) := nI_add 4 i
    have e9 : (9 : Int32) + nI i = nI (9 + i) := nI_add 9 i
    have sl4 : ∀ (τ' : Sx) x, stA mLn τ' 4 (nI (4 + i)) x = some (sr τ' 4 (upd (τ'.2.2.1 4) (4 + i) x)) := fun τ' x => stk (n := 14) rfl (by omega) (by decide)
    have sl9 : ∀ (τ' : Sx) x, stA mLn τ' 4 (nI (9 + i)) x = some (sr τ' 4 (upd (τ'.2.2.1 4) (9 + i) x)) := fun τ' x => stk (n := 14) rfl (by omega) (by decide)
    have r9 : ∀ (τ' : Sx), ldA mLn τ' 4 (nI (9 + i)) = some (τ'.2.2.1 4 (9 + i)) := fun τ' => ldk (n := 14) rfl (by omega) (by decide)
    have hbk := bitk ⟨o, ho⟩ ⟨i, by omega⟩
    dsimp only at hbk
    have step : ∀ (w e : Nat), w ≤ 100 → w = (if (onB o i && !dk) = true then filN (d.2 0 i) (v i) else drnN (d.2 1 i) (v i)) → e = (if (onB o i && !dk) = true then 1 else 0) → ∃ f, m_X12_goes_s_L117 n (if dk = true then 1 else 0) (nI (i + 1)) (sr τ 4 (upd (upd (τ.2.2.1 4) (4 + i) (nI w)) (9 + i) (nI (c i) + nI e))) = some (sr τ 4 f) ∧ (∀ j, j < 4 → f j = τ.2.2.1 4 j) ∧ (∀ k, k < d.1 0 → f (4 + k) = nI (if i ≤ k then (if (onB o k && !dk) = true then filN (d.2 0 k) (v k) else drnN (d.2 1 k) (v k)) else v k)) ∧ ∀ k, k < d.1 0 → f (9 + k) = nI (if i ≤ k ∧ (onB o k && !dk) = true then c k + 1 else c k) := by
      intro w e hw ew ee
      have z0 : upd (upd (τ.2.2.1 4) (4 + i) (nI w)) (9 + i) (nI (c i) + nI e) 1 = nI o := by
        rw [upd_n _ _ (by omega), upd_n _ _ (by omega)]
        exact h1
      have z1 : ∀ k, k < d.1 0 → upd (upd (τ.2.2.1 4) (4 + i) (nI w)) (9 + i) (nI (c i) + nI e) (4 + k) = nI (if k = i then w else v k) := fun k hk => by
        rw [upd_n _ _ (by omega)]
        by_cases q : k = i
        · rw [if_pos q, q]
          exact upd_s _ _ _
        · rw [if_neg q, upd_n _ _ (by omega)]
          exact hv k hk
      have z2 : ∀ k, k < d.1 0 → upd (upd (τ.2.2.1 4) (4 + i) (nI w)) (9 + i) (nI (c i) + nI e) (9 + k) = nI (if k = i then c i + e else c k) := fun k hk => by
        by_cases q : k = i
        · rw [if_pos q, q, upd_s]
          exact nI_add _ _
        · rw [if_neg q, upd_n _ _ (by omega), upd_n _ _ (by omega)]
          exact hc k hk
      have z3 : ∀ k, k < d.1 0 → (if k = i then w else v k) ≤ 100 := fun k hk => by
        split
        · exact hw
        · exact hv100 k hk
      have hs := ih n (i + 1) (fun k => if k = i then w else v k) (fun k => if k = i then c i + e else c k) (sr τ 4 (upd (upd (τ.2.2.1 4) (4 + i) (nI w)) (9 + i) (nI (c i) + nI e))) hm z0 z1 z2 z3 (by omega) (by omega)
      obtain ⟨f, q1, q2, q3, q4⟩ := hs
      rw [sr_sr] at q1
      refine ⟨f, q1, fun j hj => ?_, fun k hk => ?_, fun k hk => ?_⟩
      · rw [q2 j hj]
        show upd (upd (τ.2.2.1 4) (4 + i) _) (9 + i) _ j = _
        rw [upd_n _ _ (by omega), upd_n _ _ (by omega)]
      · rw [q3 k hk]
        by_cases q : k = i
        · subst q
          rw [if_neg (by omega), if_pos (Nat.le_refl _), if_pos rfl, ew]
        · by_cases q5 : i ≤ k
          · rw [if_pos (by omega), if_pos q5, if_neg q]
          · rw [if_neg (by omega), if_neg q5, if_neg q]
      · rw [q4 k hk]
        by_cases q : k = i
        · subst q
          rw [if_neg (fun z => by omega), if_pos rfl, ee]
          by_cases q6 : (onB o k && !dk) = true
          · rw [if_pos q6, if_pos ⟨Nat.le_refl _, q6⟩]
          · rw [if_neg q6, if_neg (fun z => q6 z.2)]; rfl
        · simp only [if_neg q]
          by_cases q5 : i ≤ k
          · simp [q5, show i + 1 ≤ k by omega]
          · simp [q5, show ¬ i + 1 ≤ k by omega]
    have hw1 := filN_le (d.2 0 i) (v i)
    have hw0 : drnN (d.2 1 i) (v i) ≤ 100 := by unfold drnN; omega
    have hci : ∀ w, (sr τ 4 (upd (τ.2.2.1 4) (4 + i) w)).2.2.1 4 (9 + i) = nI (c i) := fun w => by
      show upd (τ.2.2.1 4) (4 + i) w (9 + i) = _
      rw [upd_n _ _ (by omega)]; exact hc i (by omega)
    have eA : ∀ w, (sr τ 4 (upd (τ.2.2.1 4) (4 + i) w)).2.2.1 4 = upd (τ.2.2.1 4) (4 + i) w := fun w => rfl
    rw [m_X12_goes_s_L117, hm.1.1, if_neg (nI_ge (by omega) (by omega))]
    unfold m_X12_goes_s_J144 m_X12_goes_s_J145 m_X12_goes_s_J195
    cases dk with
    | true =>
      have hs := step (drnN (d.2 1 i) (v i)) 0 hw0 (by simp) (by simp)
      rw [if_neg (by decide), if_pos rfl, e4, e9, rl, bs, l2, bs, mlow c3 hvi, bs, sl4, bs, r9, bs, hci, if_pos rfl, sl9, bs, sr_sr, nI_1, eA]
      exact hs
    | false =>
      rw [if_pos (by decide), r1, bs, hbk, e4, e9]
      rcases (show o / 2 ^ i % 2 = 0 ∨ o / 2 ^ i % 2 = 1 by omega) with q | q
      · have hon : onB o i = false := by unfold onB; rw [q]; rfl
        have hs := step (drnN (d.2 1 i) (v i)) 0 hw0 (by simp [hon]) (by simp [hon])
        rw [q, if_neg (show ¬ nI 0 = 1 by decide)]
        simp only [rl, l1, l2, bs, mlow c3 hvi, sl4, r9, hci, sl9, sr_sr, nI_1, eA, if_true]
        exact hs
      · have hon : onB o i = true := by unfold onB; rw [q]; rfl
        have hs := step (filN (d.2 0 i) (v i)) 1 hw1 (by simp [hon]) (by simp [hon])
        rw [q, if_pos (show nI 1 = 1 by decide)]
        simp only [rl, l1, l2, bs, mfil c2 hvi, sl4, r9, hci, sl9, sr_sr, nI_1, eA, if_neg n10]
        rw [nI_add (c i) 1] at hs
        exact hs
theorem mgo_s {d : TD} (hb : bT d) {t o : Nat} {v c : Nat → Nat} {τ : Sx} (ht : t < 2 ^ 30) (ho : o < 2 ^ d.1 0) (hm : mT τ d) (h0 : τ.2.2.1 4 0 = nI t) (h1 : τ.2.2.1 4 1 = nI o) (hv : hvM (d.1 0) 4 τ v) (hc : hcM (d.1 0) 4 τ c) (hv100 : ∀ k, k < d.1 0 → v k ≤ 100) : ∃ f, m_X12_goes_s τ = some (sr τ 4 f) ∧ f 0 = nI (t + 1) ∧ f 1 = nI o ∧ f 2 = τ.2.2.1 4 2 ∧ f 3 = τ.2.2.1 4 3 + nI (sF (fun k => missN d t k (v k)) (d.1 0) 0) ∧ (∀ k, k < d.1 0 → f (4 + k) = nI (behN d t k (v k) (onB o k))) ∧ ∀ k, k < d.1 0 → f (9 + k) = nI (if (onB o k && !dkN d t) = true then c k + 1 else c k) := by
  have h5 : d.1 0 ≤ 5 := hb.1
  have h8 : d.1 2 ≤ 8 := hb.2.2.1
  have h32 := pow5 h5
  obtain ⟨f, a1, a2, a3, a4⟩ := mgc_s hb (t := t) (by omega) (d.1 2) FU 0 v τ hm h0 hv hv100 (by omega) (by unfold FU; omega)
  have a1 : m_X12_goes_s_L2 FU 0 τ = some (sr τ 4 f) := a1
  have hm1 : mT (sr τ 4 f) d := hm
  have b0 : ldA mLn (sr τ 4 f) 4 0 = some (nI t) := by
    rw [show (0 : Int32) = nI 0 from rfl, ldk (n := 14) rfl (by decide) (by decide)]
    exact congrArg some ((a2 0 (by omega)).trans h0)
  have bd := mdark hb hm1 (t := t) (by omega)
  obtain ⟨g, p1, p2, p3, p4⟩ := mgf_s hb (t := t) (o := o) (by omega) (dkN d t) (d.1 0) FU 0 (fun k => leftN d t k (v k)) c (sr τ 4 f) hm1 ((a2 1 (by omega)).trans h1) (fun k hk => a4 k hk) (fun k hk => (a2 (9 + k) (by omega)).trans (hc k hk)) (fun k hk => by have := leftN_le d t k (v k); have := hv100 k hk; show leftN d t k (v k) ≤ 100; omega) (by omega) (by unfold FU; omega)
  rw [sr_sr] at p1
  have p1 : m_X12_goes_s_L117 FU (if dkN d t = true then 1 else 0) 0 (sr τ 4 f) = some (sr τ 4 g) := p1
  have g0 : g 0 = nI t := (p2 0 (by decide)).trans ((a2 0 (by omega)).trans h0)
  have c0 : ldA mLn (sr τ 4 g) 4 0 = some (nI t) := by
    rw [show (0 : Int32) = nI 0 from rfl, ldk (n := 14) rfl (by decide) (by decide)]
    exact congrArg some g0
  have s0 : ∀ x, stA mLn (sr τ 4 g) 4 0 x = some (sr (sr τ 4 g) 4 (upd g 0 x)) := fun x => stk (k := 0) (n := 14) rfl (by decide) (by decide)
  unfold m_X12_goes_s
  rw [a1, bs, b0, bs, bd, bs, p1, bs, c0, bs, s0, bs, sr_sr, nI_1]
  refine ⟨_, rfl, upd_s _ _ _, ?_, ?_, ?_, fun k hk => ?_, fun k hk => ?_⟩
  · rw [upd_n _ _ (by omega), p2 1 (by decide)]; exact (a2 1 (by omega)).trans h1
  · rw [upd_n _ _ (by omega), p2 2 (by decide)]; exact a2 2 (by omega)
  · rw [upd_n _ _ (by omega), p2 3 (by decide)]; exact a3
  · rw [upd_n _ _ (by omega), p3 k hk, if_pos (Nat.zero_le _)]
    rfl
  · rw [upd_n _ _ (by omega), p4 k hk]
    by_cases q : (onB o k && !dkN d t) = true
    · rw [if_pos ⟨Nat.zero_le _, q⟩, if_pos q]
    · rw [if_neg (fun z => q z.2), if_neg q]
theorem mgc_w {d : TD} (hb : bT d) {t : Nat} (ht : t < 2 ^ 31) : ∀ (r n i : Nat) (v : Nat → Nat) (τ : Sx), mT τ d → τ.2.2.1 5 0 = nI t → hvM (d.1 0) 5 τ v → (∀ k, k < d.1 0 → v k ≤ 100) → i + r = d.1 2 → r < n → ∃ f, m_X12_goes_w_L2 n (nI i) τ = some (sr τ 5 f) ∧ (∀ j, j < 3 ∨ 9 ≤ j → f j = τ.2.2.1 5 j) ∧ f 3 = τ.2.2.1 5 3 + nI (sF (fun k => (lmF d t k r i (v k) 0).2) (d.1 0) 0) ∧ ∀ k, k < d.1 0 → f (4 + k) = nI (lmF d t k r i (v k) 0).1 := by
  have h8 : d.1 2 ≤ 8 := hb.2.2.1
  have h5 : d.1 0 ≤ 5 := hb.1
  intro r
  induction r with
  | zero =>
    intro n i v τ hm h0 hv hv100 hi hn
    obtain ⟨n, rfl⟩ : ∃ k, n = k + 1 := ⟨n - 1, by omega⟩
    refine ⟨τ.2.2.1 5, ?_, fun j _ => rfl, ?_, fun k hk => hv k hk⟩
    · rw [m_X12_goes_w_L2, hm.1.2.2.1, if_pos (nI_le (by omega) (by omega)), sr_self]
    · have : sF (fun k => (lmF d t k 0 i (v k) 0).2) (d.1 0) 0 = 0 := sF_0 (fun _ _ => rfl) _ _
      rw [this]
      exact (Int32.add_zero _).symm
  | succ r ih =>
    intro n i v τ hm h0 hv hv100 hi hn
    obtain ⟨n, rfl⟩ : ∃ k, n = k + 1 := ⟨n - 1, by omega⟩
    obtain ⟨c1, c2, c3, c4⟩ := hb.2.2.2.2.2.1 i (by omega)
    obtain ⟨g1, g2, g3⟩ := hm.2.2.1 i (by omega)
    have l2 : ∀ τ' : Sx, τ'.2.2.1 2 = τ.2.2.1 2 → ldA mLn τ' 2 (3 * nI i + 2) = some (nI (d.2 4 i)) := fun τ' e => by
      rw [show (3 : Int32) * nI i = nI (3 * i) from pk_mul 3 i, show nI (3 * i) + (2 : Int32) = nI (3 * i + 2) from nI_add _ 2, ldk (n := 48) rfl (by omega) (by decide), e, g3]
    have l1 : ldA mLn τ 2 (3 * nI i + 1) = some (nI (d.2 3 i)) := by
      rw [show (3 : Int32) * nI i = nI (3 * i) from pk_mul 3 i, show nI (3 * i) + (1 : Int32) = nI (3 * i + 1) from nI_add _ 1, ldk (n := 48) rfl (by omega) (by decide), g2]
    have l0 : ldA mLn τ 2 (3 * nI i) = some (nI (d.2 2 i)) := by
      rw [show (3 : Int32) * nI i = nI (3 * i) from pk_mul 3 i, ldk (n := 48) rfl (by omega) (by decide), g1]
    have r0 : ldA mLn τ 5 0 = some (nI t) := by
      rw [show (0 : Int32) = nI 0 from rfl, ldk (n := 14) rfl (by decide) (by decide), h0]
    have rK : ldA mLn τ 5 (nI (4 + d.2 2 i)) = some (nI (v (d.2 2 i))) := by
      rw [ldk (n := 14) rfl (by omega) (by decide), hv _ c1]
    have r3 : ∀ τ' : Sx, ldA mLn τ' 5 3 = some (τ'.2.2.1 5 3) := fun τ' => ldk (k := 3) (n := 14) rfl (by decide) (by decide)
    have sK : ∀ (τ' : Sx) x, stA mLn τ' 5 (nI (4 + d.2 2 i)) x = some (sr τ' 5 (upd (τ'.2.2.1 5) (4 + d.2 2 i) x)) := fun τ' x => stk (n := 14) rfl (by omega) (by decide)
    have s3 : ∀ (τ' : Sx) x, stA mLn τ' 5 3 x = some (sr τ' 5 (upd (τ'.2.2.1 5) 3 x)) := fun τ' x => stk (k := 3) (n := 14) rfl (by decide) (by decide)
    have hvK := hv100 _ c1
    rw [m_X12_goes_w_L2, hm.1.2.2.1, if_neg (nI_ge (by omega) (by omega)), l0, bs, l1, bs, r0, bs, show (4 : Int32) + nI (d.2 2 i) = nI (4 + d.2 2 i) from nI_add 4 _, rK, bs, l2 τ rfl, bs]
    by_cases qt : d.2 3 i = t
    · rw [if_pos (by rw [qt])]
      by_cases qn : d.2 4 i ≤ v (d.2 2 i)
      · rw [if_neg (nI_nlt qn (by omega))]
        unfold m_X12_goes_w_J58 m_X12_goes_w_J83
        simp only [rK, bs, if_neg n10, l2 τ rfl, pk_sub qn, sK, r3, s3, sr_sr, nI_1]
        have z0 : upd (upd (τ.2.2.1 5) (4 + d.2 2 i) (nI (v (d.2 2 i) - d.2 4 i))) 3 (τ.2.2.1 5 3 + 0) 0 = nI t := by
          rw [upd_n _ _ (by omega), upd_n _ _ (by omega)]
          exact h0
        have z1 : ∀ k, k < d.1 0 → upd (upd (τ.2.2.1 5) (4 + d.2 2 i) (nI (v (d.2 2 i) - d.2 4 i))) 3 (τ.2.2.1 5 3 + 0) (4 + k) = nI (if k = d.2 2 i then v (d.2 2 i) - d.2 4 i else v k) := fun k hk => by
          rw [upd_n _ _ (by omega)]
          by_cases e : k = d.2 2 i
          · rw [if_pos e, e]
            exact upd_s _ _ _
          · rw [if_neg e, upd_n _ _ (by omega)]
            exact hv k hk
        have z2 : ∀ k, k < d.1 0 → (if k = d.2 2 i then v (d.2 2 i) - d.2 4 i else v k) ≤ 100 := fun k hk => by
          split
          · omega
          · exact hv100 k hk
        have hs := ih n (i + 1) (fun k => if k = d.2 2 i then v (d.2 2 i) - d.2 4 i else v k) (sr τ 5 (upd (upd (τ.2.2.1 5) (4 + d.2 2 i) (nI (v (d.2 2 i) - d.2 4 i))) 3 (τ.2.2.1 5 3 + 0))) hm z0 z1 z2 (by omega) (by omega)
        obtain ⟨f, q1, q2, q3, q4⟩ := hs
        rw [sr_sr] at q1
        have e3 : (sr τ 5 (upd (τ.2.2.1 5) (4 + d.2 2 i) (nI (v (d.2 2 i) - d.2 4 i)))).2.2.1 5 = upd (τ.2.2.1 5) (4 + d.2 2 i) (nI (v (d.2 2 i) - d.2 4 i)) := rfl
        have e33 : upd (τ.2.2.1 5) (4 + d.2 2 i) (nI (v (d.2 2 i) - d.2 4 i)) 3 = τ.2.2.1 5 3 := upd_n _ _ (by omega)
        rw [e3, e33, q1]
        have hl : ∀ k, lmF d t k (r + 1) i (v k) 0 = lmF d t k r (i + 1) (if k = d.2 2 i then v (d.2 2 i) - d.2 4 i else v k) 0 := fun k => by
          rw [lmF]
          by_cases e : d.2 2 i = k
          · subst e; rw [if_pos ⟨rfl, qt⟩, if_pos qn, if_pos rfl]
          · rw [if_neg (fun z => e z.1), if_neg (fun z => e z.symm)]
        refine ⟨f, rfl, fun j hj => ?_, ?_, fun k hk => ?_⟩
        · rw [q2 j hj]
          show upd (upd (τ.2.2.1 5) (4 + d.2 2 i) _) 3 _ j = _
          rw [upd_n _ _ (by omega), upd_n _ _ (by omega)]
        · rw [q3]
          show τ.2.2.1 5 3 + 0 + _ = _
          rw [Int32.add_zero]
          congr 2
          exact sF_congr (fun k _ => by rw [hl k]) _ _
        · rw [q4 k hk, hl k]
      · rw [if_pos (nI_lt (by omega) (by omega))]
        unfold m_X12_goes_w_J58 m_X12_goes_w_J83
        have e0 : nI (v (d.2 2 i)) - 0 = nI (v (d.2 2 i)) := Int32.sub_zero _
        simp only [rK, bs, if_true, e0, sK, r3, s3, sr_sr, nI_1]
        have z0 : upd (upd (τ.2.2.1 5) (4 + d.2 2 i) (nI (v (d.2 2 i)))) 3 (τ.2.2.1 5 3 + 1) 0 = nI t := by
          rw [upd_n _ _ (by omega), upd_n _ _ (by omega)]
          exact h0
        have z1 : ∀ k, k < d.1 0 → upd (upd (τ.2.2.1 5) (4 + d.2 2 i) (nI (v (d.2 2 i)))) 3 (τ.2.2.1 5 3 + 1) (4 + k) = nI (v k) := fun k hk => by
          rw [upd_n _ _ (by omega)]
          by_cases e : k = d.2 2 i
          · rw [e]
            exact upd_s _ _ _
          · rw [upd_n _ _ (by omega)]
            exact hv k hk
        have hs := ih n (i + 1) v (sr τ 5 (upd (upd (τ.2.2.1 5) (4 + d.2 2 i) (nI (v (d.2 2 i)))) 3 (τ.2.2.1 5 3 + 1))) hm z0 z1 hv100 (by omega) (by omega)
        obtain ⟨f, q1, q2, q3, q4⟩ := hs
        rw [sr_sr] at q1
        have e3 : (sr τ 5 (upd (τ.2.2.1 5) (4 + d.2 2 i) (nI (v (d.2 2 i))))).2.2.1 5 = upd (τ.2.2.1 5) (4 + d.2 2 i) (nI (v (d.2 2 i))) := rfl
        have e33 : upd (τ.2.2.1 5) (4 + d.2 2 i) (nI (v (d.2 2 i))) 3 = τ.2.2.1 5 3 := upd_n _ _ (by omega)
        rw [e3, e33, q1]
        have hl1 : ∀ k, k ≠ d.2 2 i → lmF d t k (r + 1) i (v k) 0 = lmF d t k r (i + 1) (v k) 0 := fun k e => by
          rw [lmF, if_neg (fun z => e z.1.symm)]
        have hl2 : lmF d t (d.2 2 i) (r + 1) i (v (d.2 2 i)) 0 = lmF d t (d.2 2 i) r (i + 1) (v (d.2 2 i)) (0 + 1) := by
          rw [lmF, if_pos ⟨rfl, qt⟩, if_neg qn]
        refine ⟨f, rfl, fun j hj => ?_, ?_, fun k hk => ?_⟩
        · rw [q2 j hj]
          show upd (upd (τ.2.2.1 5) (4 + d.2 2 i) _) 3 _ j = _
          rw [upd_n _ _ (by omega), upd_n _ _ (by omega)]
        · rw [q3]
          show τ.2.2.1 5 3 + 1 + _ = _
          rw [Int32.add_assoc]
          congr 1
          have es := sF_one (f := fun k => (lmF d t k (r + 1) i (v k) 0).2) (g := fun k => (lmF d t k r (i + 1) (v k) 0).2) (K := d.2 2 i) (δ := 1) (d.1 0) 0 (by omega) (by omega) (fun k _ e => by show (lmF d t k (r + 1) i (v k) 0).2 = (lmF d t k r (i + 1) (v k) 0).2; rw [hl1 k e]) (by show (lmF d t (d.2 2 i) (r + 1) i (v (d.2 2 i)) 0).2 = (lmF d t (d.2 2 i) r (i + 1) (v (d.2 2 i)) 0).2 + 1; rw [hl2, lmF_add]; omega)
          rw [es]
          exact (nI_add 1 _).trans (congrArg nI (Nat.add_comm 1 _))
        · rw [q4 k hk]
          by_cases e : k = d.2 2 i
          · rw [e, hl2, lmF_add d t (d.2 2 i) r (i + 1) (v (d.2 2 i)) (0 + 1)]
          · rw [hl1 k e]
    · rw [if_neg (fun z => qt ((nI_eq (by omega) ht).mp z)), nI_1]
      obtain ⟨f, q1, q2, q3, q4⟩ := ih n (i + 1) v τ hm h0 hv hv100 (by omega) (by omega)
      have hl : ∀ k, lmF d t k (r + 1) i (v k) 0 = lmF d t k r (i + 1) (v k) 0 := fun k => by
        rw [lmF, if_neg (fun z => qt z.2)]
      refine ⟨f, q1, q2, ?_, fun k hk => ?_⟩
      · rw [q3]
        congr 2
        exact sF_congr (fun k _ => by rw [hl k]) _ _
      · rw [q4 k hk, hl k]
theorem mgf_w {d : TD} (hb : bT d) {t o : Nat} (ho : o < 32) (dk : Bool) : ∀ (r n i : Nat) (v c : Nat → Nat) (τ : Sx), mT τ d → τ.2.2.1 5 1 = nI o → hvM (d.1 0) 5 τ v → hcM (d.1 0) 5 τ c → (∀ k, k < d.1 0 → v k ≤ 100) → i + r = d.1 0 → r < n → ∃ f, m_X12_goes_w_L117 n (if dk = true then 1 else 0) (nI i) τ = some (sr τ 5 f) ∧ (∀ j, j < 4 → f j = τ.2.2.1 5 j) ∧ (∀ k, k < d.1 0 → f (4 + k) = nI (if i ≤ k then (if (onB o k && !dk) = true then filN (d.2 0 k) (v k) else drnN (d.2 1 k) (v k)) else v k)) ∧ ∀ k, k < d.1 0 → f (9 + k) = nI (if i ≤ k ∧ (onB o k && !dk) = true then c k + 1 else c k) := by
  have h5 : d.1 0 ≤ 5 := hb.1
  intro r
  induction r with
  | zero =>
    intro n i v c τ hm h1 hv hc hv100 hi hn
    obtain ⟨n, rfl⟩ : ∃ k, n = k + 1 := ⟨n - 1, by omega⟩
    refine ⟨τ.2.2.1 5, ?_, fun j _ => rfl, fun k hk => ?_, fun k hk => ?_⟩
    · rw [m_X12_goes_w_L117, hm.1.1, if_pos (nI_le (by omega) (by omega)), sr_self]
    · rw [if_neg (by omega)]; exact hv k hk
    · rw [if_neg (fun z => by omega)]; exact hc k hk
  | succ r ih =>
    intro n i v c τ hm h1 hv hc hv100 hi hn
    obtain ⟨n, rfl⟩ : ∃ k, n = k + 1 := ⟨n - 1, by omega⟩
    obtain ⟨c1, c2, c3⟩ := hb.2.2.2.2.1 i (by omega)
    obtain ⟨g1, g2⟩ := hm.2.1 i (by omega)
    have hvi := hv100 i (by omega)
    have l1 : ldA mLn τ 1 (3 * nI i + 1) = some (nI (d.2 0 i)) := by
      rw [show (3 : Int32) * nI i = nI (3 * i) from pk_mul 3 i, show nI (3 * i) + (1 : Int32) = nI (3 * i + 1) from nI_add _ 1, ldk (n := 30) rfl (by omega) (by decide), g1]
    have l2 : ldA mLn τ 1 (3 * nI i + 2) = some (nI (d.2 1 i)) := by
      rw [show (3 : Int32) * nI i = nI (3 * i) from pk_mul 3 i, show nI (3 * i) + (2 : Int32) = nI (3 * i + 2) from nI_add _ 2, ldk (n := 30) rfl (by omega) (by decide), g2]
    have rl : ldA mLn τ 5 (nI (4 + i)) = some (nI (v i)) := by
      rw [ldk (n := 14) rfl (by omega) (by decide), hv i (by omega)]
    have r1 : ldA mLn τ 5 1 = some (nI o) := by
      rw [show (1 : Int32) = nI 1 from rfl, ldk (n := 14) rfl (by decide) (by decide), h1]
    have e4 : (4 : Int32) + nI i = nI (4 + i) := nI_add 4 i
    have e9 : (9 : Int32) + nI i = nI (9 + i) := nI_add 9 i
    have sl4 : ∀ (τ' : Sx) x, stA mLn τ' 5 (nI (4 + i)) x = some (sr τ' 5 (upd (τ'.2.2.1 5) (4 + i) x)) := fun τ' x => stk (n := 14) rfl (by omega) (by decide)
    have sl9 : ∀ (τ' : Sx) x, stA mLn τ' 5 (nI (9 + i)) x = some (sr τ' 5 (upd (τ'.2.2.1 5) (9 + i) x)) := fun τ' x => stk (n := 14) rfl (by omega) (by decide)
    have r9 : ∀ (τ' : Sx), ldA mLn τ' 5 (nI (9 + i)) = some (τ'.2.2.1 5 (9 + i)) := fun τ' => ldk (n := 14) rfl (by omega) (by decide)
    have hbk := bitk ⟨o, ho⟩ ⟨i, by omega⟩
    dsimp only at hbk
    have step : ∀ (w e : Nat), w ≤ 100 → w = (if (onB o i && !dk) = true then filN (d.2 0 i) (v i) else drnN (d.2 1 i) (v i)) → e = (if (onB o i && !dk) = true then 1 else 0) → ∃ f, m_X12_goes_w_L117 n (if dk = true then 1 else 0) (nI (i + 1)) (sr τ 5 (upd (upd (τ.2.2.1 5) (4 + i) (nI w)) (9 + i) (nI (c i) + nI e))) = some (sr τ 5 f) ∧ (∀ j, j < 4 → f j = τ.2.2.1 5 j) ∧ (∀ k, k < d.1 0 → f (4 + k) = nI (if i ≤ k then (if (onB o k && !dk) = true then filN (d.2 0 k) (v k) else drnN (d.2 1 k) (v k)) else v k)) ∧ ∀ k, k < d.1 0 → f (9 + k) = nI (if i ≤ k ∧ (onB o k && !dk) = true then c k + 1 else c k) := by
      intro w e hw ew ee
      have z0 : upd (upd (τ.2.2.1 5) (4 + i) (nI w)) (9 + i) (nI (c i) + nI e) 1 = nI o := by
        rw [upd_n _ _ (by omega), upd_n _ _ (by omega)]
        exact h1
      have z1 : ∀ k, k < d.1 0 → upd (upd (τ.2.2.1 5) (4 + i) (nI w)) (9 + i) (nI (c i) + nI e) (4 + k) = nI (if k = i then w else v k) := fun k hk => by
        rw [upd_n _ _ (by omega)]
        by_cases q : k = i
        · rw [if_pos q, q]
          exact upd_s _ _ _
        · rw [if_neg q, upd_n _ _ (by omega)]
          exact hv k hk
      have z2 : ∀ k, k < d.1 0 → upd (upd (τ.2.2.1 5) (4 + i) (nI w)) (9 + i) (nI (c i) + nI e) (9 + k) = nI (if k = i then c i + e else c k) := fun k hk => by
        by_cases q : k = i
        · rw [if_pos q, q, upd_s]
          exact nI_add _ _
        · rw [if_neg q, upd_n _ _ (by omega), upd_n _ _ (by omega)]
          exact hc k hk
      have z3 : ∀ k, k < d.1 0 → (if k = i then w else v k) ≤ 100 := fun k hk => by
        split
        · exact hw
        · exact hv100 k hk
      have hs := ih n (i + 1) (fun k => if k = i then w else v k) (fun k => if k = i then c i + e else c k) (sr τ 5 (upd (upd (τ.2.2.1 5) (4 + i) (nI w)) (9 + i) (nI (c i) + nI e))) hm z0 z1 z2 z3 (by omega) (by omega)
      obtain ⟨f, q1, q2, q3, q4⟩ := hs
      rw [sr_sr] at q1
      refine ⟨f, q1, fun j hj => ?_, fun k hk => ?_, fun k hk => ?_⟩
      · rw [q2 j hj]
        show upd (upd (τ.2.2.1 5) (4 + i) _) (9 + i) _ j = _
        rw [upd_n _ _ (by omega), upd_n _ _ (by omega)]
      · rw [q3 k hk]
        by_cases q : k = i
        · subst q
          rw [if_neg (by omega), if_pos (Nat.le_refl _), if_pos rfl, ew]
        · by_cases q5 : i ≤ k
          · rw [if_pos (by omega), if_pos q5, if_neg q]
          · rw [if_neg (by omega), if_neg q5, if_neg q]
      · rw [q4 k hk]
        by_cases q : k = i
        · subst q
          rw [if_neg (fun z => by omega), if_pos rfl, ee]
          by_cases q6 : (onB o k && !dk) = true
          · rw [if_pos q6, if_pos ⟨Nat.le_refl _, q6⟩]
          · rw [if_neg q6, if_neg (fun z => q6 z.2)]; rfl
        · simp only [if_neg q]
          by_cases q5 : i ≤ k
          · simp [q5, show i + 1 ≤ k by omega]
          · simp [q5, show ¬ i + 1 ≤ k by omega]
    have hw1 := filN_le (d.2 0 i) (v i)
    have hw0 : drnN (d.2 1 i) (v i) ≤ 100 := by unfold drnN; omega
    have hci : ∀ w, (sr τ 5 (upd (τ.2.2.1 5) (4 + i) w)).2.2.1 5 (9 + i) = nI (c i) := fun w => by
      show upd (τ.2.2.1 5) (4 + i) w (9 + i) = _
      rw [upd_n _ _ (by omega)]; exact hc i (by omega)
    have eA : ∀ w, (sr τ 5 (upd (τ.2.2.1 5) (4 + i) w)).2.2.1 5 = upd (τ.2.2.1 5) (4 + i) w := fun w => rfl
    rw [m_X12_goes_w_L117, hm.1.1, if_neg (nI_ge (by omega) (by omega))]
    unfold m_X12_goes_w_J144 m_X12_goes_w_J145 m_X12_goes_w_J195
    cases dk with
    | true =>
      have hs := step (drnN (d.2 1 i) (v i)) 0 hw0 (by simp) (by simp)
      rw [if_neg (by decide), if_pos rfl, e4, e9, rl, bs, l2, bs, mlow c3 hvi, bs, sl4, bs, r9, bs, hci, if_pos rfl, sl9, bs, sr_sr, nI_1, eA]
      exact hs
    | false =>
      rw [if_pos (by decide), r1, bs, hbk, e4, e9]
      rcases (show o / 2 ^ i % 2 = 0 ∨ o / 2 ^ i % 2 = 1 by omega) with q | q
      · have hon : onB o i = false := by unfold onB; rw [q]; rfl
        have hs := step (drnN (d.2 1 i) (v i)) 0 hw0 (by simp [hon]) (by simp [hon])
        rw [q, if_neg (show ¬ nI 0 = 1 by decide)]
        simp only [rl, l1, l2, bs, mlow c3 hvi, sl4, r9, hci, sl9, sr_sr, nI_1, eA, if_true]
        exact hs
      · have hon : onB o i = true := by unfold onB; rw [q]; rfl
        have hs := step (filN (d.2 0 i) (v i)) 1 hw1 (by simp [hon]) (by simp [hon])
        rw [q, if_pos (show nI 1 = 1 by decide)]
        simp only [rl, l1, l2, bs, mfil c2 hvi, sl4, r9, hci, sl9, sr_sr, nI_1, eA, if_neg n10]
        rw [nI_add (c i) 1] at hs
        exact hs
theorem mgo_w {d : TD} (hb : bT d) {t o : Nat} {v c : Nat → Nat} {τ : Sx} (ht : t < 2 ^ 30) (ho : o < 2 ^ d.1 0) (hm : mT τ d) (h0 : τ.2.2.1 5 0 = nI t) (h1 : τ.2.2.1 5 1 = nI o) (hv : hvM (d.1 0) 5 τ v) (hc : hcM (d.1 0) 5 τ c) (hv100 : ∀ k, k < d.1 0 → v k ≤ 100) : ∃ f, m_X12_goes_w τ = some (sr τ 5 f) ∧ f 0 = nI (t + 1) ∧ f 1 = nI o ∧ f 2 = τ.2.2.1 5 2 ∧ f 3 = τ.2.2.1 5 3 + nI (sF (fun k => missN d t k (v k)) (d.1 0) 0) ∧ (∀ k, k < d.1 0 → f (4 + k) = nI (behN d t k (v k) (onB o k))) ∧ ∀ k, k < d.1 0 → f (9 + k) = nI (if (onB o k && !dkN d t) = true then c k + 1 else c k) := by
  have h5 : d.1 0 ≤ 5 := hb.1
  have h8 : d.1 2 ≤ 8 := hb.2.2.1
  have h32 := pow5 h5
  obtain ⟨f, a1, a2, a3, a4⟩ := mgc_w hb (t := t) (by omega) (d.1 2) FU 0 v τ hm h0 hv hv100 (by omega) (by unfold FU; omega)
  have a1 : m_X12_goes_w_L2 FU 0 τ = some (sr τ 5 f) := a1
  have hm1 : mT (sr τ 5 f) d := hm
  have b0 : ldA mLn (sr τ 5 f) 5 0 = some (nI t) := by
    rw [show (0 : Int32) = nI 0 from rfl, ldk (n := 14) rfl (by decide) (by decide)]
    exact congrArg some ((a2 0 (by omega)).trans h0)
  have bd := mdark hb hm1 (t := t) (by omega)
  obtain ⟨g, p1, p2, p3, p4⟩ := mgf_w hb (t := t) (o := o) (by omega) (dkN d t) (d.1 0) FU 0 (fun k => leftN d t k (v k)) c (sr τ 5 f) hm1 ((a2 1 (by omega)).trans h1) (fun k hk => a4 k hk) (fun k hk => (a2 (9 + k) (by omega)).trans (hc k hk)) (fun k hk => by have := leftN_le d t k (v k); have := hv100 k hk; show leftN d t k (v k) ≤ 100; omega) (by omega) (by unfold FU; omega)
  rw [sr_sr] at p1
  have p1 : m_X12_goes_w_L117 FU (if dkN d t = true then 1 else 0) 0 (sr τ 5 f) = some (sr τ 5 g) := p1
  have g0 : g 0 = nI t := (p2 0 (by decide)).trans ((a2 0 (by omega)).trans h0)
  have c0 : ldA mLn (sr τ 5 g) 5 0 = some (nI t) := by
    rw [show (0 : Int32) = nI 0 from rfl, ldk (n := 14) rfl (by decide) (by decide)]
    exact congrArg some g0
  have s0 : ∀ x, stA mLn (sr τ 5 g) 5 0 x = some (sr (sr τ 5 g) 5 (upd g 0 x)) := fun x => stk (k := 0) (n := 14) rfl (by decide) (by decide)
  unfold m_X12_goes_w
  rw [a1, bs, b0, bs, bd, bs, p1, bs, c0, bs, s0, bs, sr_sr, nI_1]
  refine ⟨_, rfl, upd_s _ _ _, ?_, ?_, ?_, fun k hk => ?_, fun k hk => ?_⟩
  · rw [upd_n _ _ (by omega), p2 1 (by decide)]; exact (a2 1 (by omega)).trans h1
  · rw [upd_n _ _ (by omega), p2 2 (by decide)]; exact a2 2 (by omega)
  · rw [upd_n _ _ (by omega), p2 3 (by decide)]; exact a3
  · rw [upd_n _ _ (by omega), p3 k hk, if_pos (Nat.zero_le _)]
    rfl
  · rw [upd_n _ _ (by omega), p4 k hk]
    by_cases q : (onB o k && !dkN d t) = true
    · rw [if_pos ⟨Nat.zero_le _, q⟩, if_pos q]
    · rw [if_neg (fun z => q z.2), if_neg q]
