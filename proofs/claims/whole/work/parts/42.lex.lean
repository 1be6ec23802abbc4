/-! the text, read by tokens -/
def skF (ch : Nat → Nat) : Nat → Nat → Nat
  | 0, p => p
  | r + 1, p => if ch p = 32 then skF ch r (p + 1) else p
def dgB (c : Nat) : Bool := decide (48 ≤ c) && decide (c ≤ 57)
def dgF (ch : Nat → Nat) : Nat → Nat → Nat → Nat × Nat
  | 0, p, v => (v, p)
  | r + 1, p, v => if dgB (ch p) = true then dgF ch r (p + 1) (if 100 < v then v else 10 * v + ch p - 48) else (v, p)
def sgB (c : Nat) : Bool := decide (c = 116) || (decide (c = 104) || (decide (c = 99) || decide (c = 100)))
/-- kind, worth, place, what is next -/
def tkD (ch : Nat → Nat) (q v e : Nat) : Nat × Nat × Nat × Nat := (if 100 < v ∨ (ch q = 48 ∧ 1 < e - q) then 4 else 2, v, q, e)
def tkQ (n : Nat) (ch : Nat → Nat) (q : Nat) : Nat × Nat × Nat × Nat := if n ≤ q then (0, 0, q, q) else if dgB (ch q) = true then tkD ch q (dgF ch (n - q) q 0).1 (dgF ch (n - q) q 0).2 else (if ch q = 59 then 3 else if sgB (ch q) = true then 1 else 4, ch q, q, q + 1)
def tk (n : Nat) (ch : Nat → Nat) (p : Nat) : Nat × Nat × Nat × Nat := tkQ n ch (skF ch (n - p) p)
theorem skF_b (ch : Nat → Nat) : ∀ r p, p ≤ skF ch r p ∧ skF ch r p ≤ p + r
  | 0, p => by rw [skF]; omega
  | r + 1, p => by
    rw [skF]
    have := skF_b ch r (p + 1)
    split <;> omega
theorem dgF_b {ch : Nat → Nat} {n : Nat} (hch : ∀ j, j < n → ch j ≤ 255) : ∀ r p v, p + r ≤ n → v ≤ 1010 → p ≤ (dgF ch r p v).2 ∧ (dgF ch r p v).2 ≤ p + r ∧ (dgF ch r p v).1 ≤ 1010
  | 0, p, v, _, hv => by rw [dgF]; exact ⟨Nat.le_refl _, Nat.le_refl _, hv⟩
  | r + 1, p, v, hp, hv => by
    rw [dgF]
    split
    · rename_i q
      have hc : ch p ≤ 57 := by
        unfold dgB at q
        rw [Bool.and_eq_true, decide_eq_true_eq, decide_eq_true_eq] at q
        exact q.2
      have := dgF_b hch r (p + 1) (if 100 < v then v else 10 * v + ch p - 48) (by omega) (by split <;> omega)
      omega
    · exact ⟨Nat.le_refl _, by omega, hv⟩
theorem dgF_1 {ch : Nat → Nat} {n p : Nat} (hch : ∀ j, j < n → ch j ≤ 255) (hp : p < n) (h : dgB (ch p) = true) : p < (dgF ch (n - p) p 0).2 := by
  obtain ⟨r, hr⟩ : ∃ r, n - p = r + 1 := ⟨n - p - 1, by omega⟩
  rw [hr, dgF, if_pos h]
  have hc : ch p ≤ 57 := by
    unfold dgB at h
    rw [Bool.and_eq_true, decide_eq_true_eq, decide_eq_true_eq] at h
    exact h.2
  have := dgF_b hch r (p + 1) (if 100 < 0 then 0 else 10 * 0 + ch p - 48) (by omega) (by split <;> omega)
  omega
/-- how a token lies in the text -/
theorem tk_b {ch : Nat → Nat} {n p : Nat} (hch : ∀ j, j < n → ch j ≤ 255) (hp : p ≤ n) : (tk n ch p).2.2.1 ≤ n ∧ (tk n ch p).2.2.2 ≤ n ∧ ((tk n ch p).1 ≠ 0 → p < (tk n ch p).2.2.2) ∧ ((tk n ch p).1 = 2 → (tk n ch p).2.1 ≤ 100) ∧ (tk n ch p).1 ≤ 4 ∧ ((tk n ch p).1 = 1 → (tk n ch p).2.1 = 116 ∨ (tk n ch p).2.1 = 104 ∨ (tk n ch p).2.1 = 99 ∨ (tk n ch p).2.1 = 100) ∧ ((tk n ch p).1 = 3 → (tk n ch p).2.1 = 59) := by
  have hq := skF_b ch (n - p) p
  unfold tk tkQ
  generalize skF ch (n - p) p = q at hq
  by_cases h1 : n ≤ q
  · rw [if_pos h1]
    dsimp only
    refine ⟨by omega, by omega, fun z => absurd rfl z, fun z => by omega, by omega, fun z => by omega, fun z => by omega⟩
  · rw [if_neg h1]
    by_cases h2 : dgB (ch q) = true
    · rw [if_pos h2]
      have hb := dgF_b hch (n - q) q 0 (by omega) (by omega)
      have h3 := dgF_1 hch (by omega) h2
      unfold tkD
      refine ⟨by dsimp only; omega, by dsimp only; omega, fun _ => by dsimp only; omega, fun z => ?_, ?_, fun z => ?_, fun z => ?_⟩
      · dsimp only at z ⊢
        by_cases h4 : 100 < (dgF ch (n - q) q 0).1 ∨ (ch q = 48 ∧ 1 < (dgF ch (n - q) q 0).2 - q)
        · rw [if_pos h4] at z; exact absurd z (by decide)
        · omega
      · dsimp only; split <;> omega
      · dsimp only at z; split at z <;> exact absurd z (by decide)
      · dsimp only at z; split at z <;> exact absurd z (by decide)
    · rw [if_neg h2]
      refine ⟨by dsimp only; omega, by dsimp only; omega, fun _ => by dsimp only; omega, fun z => ?_, ?_, fun z => ?_, fun z => ?_⟩
      · dsimp only at z
        split at z
        · exact absurd z (by decide)
        · split at z <;> exact absurd z (by decide)
      · dsimp only
        split
        · omega
        · split <;> omega
      · dsimp only at z ⊢
        by_cases h5 : ch q = 59
        · rw [if_pos h5] at z; exact absurd z (by decide)
        · rw [if_neg h5] at z
          by_cases h6 : sgB (ch q) = true
          · unfold sgB at h6
            simp only [Bool.or_eq_true, decide_eq_true_eq] at h6
            exact h6
          · rw [if_neg h6] at z; exact absurd z (by decide)
      · dsimp only at z ⊢
        by_cases h5 : ch q = 59
        · exact h5
        · rw [if_neg h5] at z
          split at z <;> exact absurd z (by decide)
/-! the class's side -/
def cfr (σ σ' : Sx) : Prop := (∀ i, i < 9 ∨ 13 ≤ i → σ'.1 i = σ.1 i) ∧ σ'.2 = σ.2
theorem cfr.rf (σ : Sx) : cfr σ σ := ⟨fun _ _ => rfl, rfl⟩
theorem cfr.tr {a b c : Sx} (h : cfr a b) (k : cfr b c) : cfr a c := ⟨fun i hi => (k.1 i hi).trans (h.1 i hi), k.2.trans h.2⟩
theorem cfr.sg {σ : Sx} {i : Nat} {x : Int32} (h : 9 ≤ i ∧ i < 13) : cfr σ (sg σ i x) := ⟨fun j hj => if_neg (by omega), rfl⟩
def Cx (n : Nat) (ch : Nat → Nat) (σ : Sx) : Prop := σ.1 8 = nI n ∧ ∀ j, j < n → σ.2.2.1 16 j = nI (ch j)
theorem Cx.keep {n : Nat} {ch : Nat → Nat} {σ σ' : Sx} (h : Cx n ch σ) (k : cfr σ σ') : Cx n ch σ' := ⟨(k.1 8 (by omega)).trans h.1, fun j hj => by rw [k.2]; exact h.2 j hj⟩
theorem Cx.ld {n : Nat} {ch : Nat → Nat} {σ : Sx} (h : Cx n ch σ) (hn : n ≤ 200) {p : Nat} (hp : p < n) : ldA cLn σ 16 (nI p) = some (nI (ch p)) := by
  rw [ldk (n := 200) rfl (by omega) (by decide), h.2 p hp]
theorem cdig {c : Nat} (h : c ≤ 255) : m_X7_isDigit (nI c) = some (if dgB c = true then 1 else 0) := by
  unfold m_X7_isDigit dgB
  by_cases q1 : c < 48
  · rw [if_pos (show nI c < 48 from nI_lt (b := 48) q1 (by decide))]
    simp [show ¬ 48 ≤ c by omega]
  · rw [if_neg (show ¬ nI c < 48 from nI_nlt (b := 48) (by omega) (by omega))]
    by_cases q2 : 57 < c
    · rw [if_pos (show (57 : Int32) < nI c from nI_lt (a := 57) q2 (by omega))]
      simp [show ¬ c ≤ 57 by omega]
    · rw [if_neg (show ¬ (57 : Int32) < nI c from nI_nlt (b := c) (a := 57) (by omega) (by decide))]
      simp [show 48 ≤ c by omega, show c ≤ 57 by omega]
theorem nI_lit {c k : Nat} (hc : c ≤ 255) (hk : k ≤ 255) : nI c = nI k ↔ c = k := nI_eq (by omega) (by omega)
theorem csig {c : Nat} (h : c ≤ 255) : m_X7_isSign (nI c) = some (if (sgB c || decide (c = 59)) = true then 1 else 0) := by
  have e : ∀ k : Nat, k ≤ 255 → ((nI c = nI k) = (c = k)) := fun k hk => propext (nI_lit h hk)
  have e1 := e 116 (by decide)
  have e2 := e 104 (by decide)
  have e3 := e 99 (by decide)
  have e4 := e 100 (by decide)
  have e5 := e 59 (by decide)
  unfold m_X7_isSign sgB
  by_cases q1 : c = 116
  · subst q1; rfl
  by_cases q2 : c = 104
  · subst q2; rfl
  by_cases q3 : c = 99
  · subst q3; rfl
  by_cases q4 : c = 100
  · subst q4; rfl
  by_cases q5 : c = 59
  · subst q5; rfl
  rw [if_neg (show ¬ nI c = 116 from fun z => q1 (e1.mp z)), if_neg (show ¬ nI c = 104 from fun z => q2 (e2.mp z)), if_neg (show ¬ nI c = 99 from fun z => q3 (e3.mp z)), if_neg (show ¬ nI c = 100 from fun z => q4 (e4.mp z)), if_neg (show ¬ nI c = 59 from fun z => q5 (e5.mp z))]
  simp [q1, q2, q3, q4, q5]
theorem csk {ch : Nat → Nat} {n : Nat} (hn : n ≤ 200) (hch : ∀ j, j < n → ch j ≤ 255) : ∀ (r f p : Nat) (σ : Sx), Cx n ch σ → σ.1 10 = nI p → p + r = n → r < f → ∃ σ', m_X7_next_L0 f σ = some σ' ∧ σ'.1 10 = nI (skF ch r p) ∧ cfr σ σ' := by
  intro r
  induction r with
  | zero =>
    intro f p σ hx h10 hp hf
    obtain ⟨f, rfl⟩ : ∃ k, f = k + 1 := ⟨f - 1, by omega⟩
    exact ⟨σ, by rw [m_X7_next_L0, hx.1, h10, if_pos (nI_le (by omega) (by omega))], h10, cfr.rf σ⟩
  | succ r ih =>
    intro f p σ hx h10 hp hf
    obtain ⟨f, rfl⟩ : ∃ k, f = k + 1 := ⟨f - 1, by omega⟩
    have hc := hch p (by omega)
    rw [m_X7_next_L0, hx.1, h10, if_neg (nI_ge (by omega) (by omega)), hx.ld hn (by omega), bs, skF, nI_1]
    by_cases q : ch p = 32
    · rw [if_pos (show nI (ch p) = 32 by rw [q]; rfl), if_pos q]
      obtain ⟨σ', p1, p2, p3⟩ := ih f (p + 1) (sg σ 10 (nI (p + 1))) (hx.keep (cfr.sg (by decide))) rfl (by omega) (by omega)
      exact ⟨σ', p1, p2, (cfr.sg (by decide)).tr p3⟩
    · rw [if_neg (show ¬ nI (ch p) = 32 from fun z => q ((nI_lit (k := 32) hc (by decide)).mp z)), if_neg q]
      exact ⟨σ, rfl, h10, cfr.rf σ⟩
theorem csc {ch : Nat → Nat} {n : Nat} (hn : n ≤ 200) (hch : ∀ j, j < n → ch j ≤ 255) : ∀ (r f p m : Nat) (σ : Sx), Cx n ch σ → σ.1 10 = nI p → σ.1 12 = nI (min 101 m) → m ≤ 1010 → p + r = n → r < f → ∃ σ', m_X7_scanNumber_L5 f σ = some σ' ∧ σ'.1 10 = nI (dgF ch r p m).2 ∧ σ'.1 12 = nI (min 101 (dgF ch r p m).1) ∧ σ'.1 9 = σ.1 9 ∧ cfr σ σ' := by
  intro r
  induction r with
  | zero =>
    intro f p m σ hx h10 h12 hm hp hf
    obtain ⟨f, rfl⟩ : ∃ k, f = k + 1 := ⟨f - 1, by omega⟩
    exact ⟨σ, by rw [m_X7_scanNumber_L5, hx.1, h10, if_pos (nI_le (by omega) (by omega))], h10, h12, rfl, cfr.rf σ⟩
  | succ r ih =>
    intro f p m σ hx h10 h12 hm hp hf
    obtain ⟨f, rfl⟩ : ∃ k, f = k + 1 := ⟨f - 1, by omega⟩
    have hc := hch p (by omega)
    rw [m_X7_scanNumber_L5, hx.1, h10, if_neg (nI_ge (by omega) (by omega)), hx.ld hn (by omega), bs, cdig hc, bs, dgF]
    by_cases q : dgB (ch p) = true
    · have q' : 48 ≤ ch p ∧ ch p ≤ 57 := by
        unfold dgB at q
        rw [Bool.and_eq_true, decide_eq_true_eq, decide_eq_true_eq] at q
        exact q
      rw [if_pos q, if_pos q, if_neg n10, bs, h12, show nI (min 101 m) * 10 = nI (min 101 m * 10) from pk_mul _ 10, nI_add, show nI (min 101 m * 10 + ch p) - 48 = nI (min 101 m * 10 + ch p - 48) from pk_sub (b := 48) (by omega)]
      have e : (if nI (min 101 m * 10 + ch p - 48) < 101 then nI (min 101 m * 10 + ch p - 48) else 101) = nI (min 101 (if 100 < m then m else 10 * m + ch p - 48)) := by
        by_cases h1 : min 101 m * 10 + ch p - 48 < 101
        · rw [if_pos (show nI (min 101 m * 10 + ch p - 48) < 101 from nI_lt (b := 101) h1 (by decide))]
          congr 1
          split <;> omega
        · rw [if_neg (show ¬ nI (min 101 m * 10 + ch p - 48) < 101 from nI_nlt (b := 101) (by omega) (by omega))]
          have : min 101 (if 100 < m then m else 10 * m + ch p - 48) = 101 := by split <;> omega
          rw [this]; rfl
      rw [e]
      have h10' : (sg σ 12 (nI (min 101 (if 100 < m then m else 10 * m + ch p - 48)))).1 10 + 1 = nI (p + 1) := by
        show σ.1 10 + 1 = _
        rw [h10, nI_1]
      rw [h10']
      have k1 : cfr σ (sg (sg σ 12 (nI (min 101 (if 100 < m then m else 10 * m + ch p - 48)))) 10 (nI (p + 1))) := (cfr.sg (by decide)).tr (cfr.sg (by decide))
      obtain ⟨σ', p1, p2, p3, p4, p5⟩ := ih f (p + 1) (if 100 < m then m else 10 * m + ch p - 48) _ (hx.keep k1) rfl rfl (by split <;> omega) (by omega) (by omega)
      exact ⟨σ', p1, p2, p3, p4, k1.tr p5⟩
    · rw [if_neg q, if_neg q, if_pos rfl]
      exact ⟨σ, rfl, h10, h12, rfl, cfr.rf σ⟩
def cdN (t : Nat × Nat × Nat × Nat) : Int32 := if t.1 = 0 then -1 else if t.1 = 2 then -2 else if t.1 = 4 then -3 else nI t.2.1
theorem cnx {ch : Nat → Nat} {n p : Nat} {σ : Sx} (hn : n ≤ 200) (hch : ∀ j, j < n → ch j ≤ 255) (hx : Cx n ch σ) (h10 : σ.1 10 = nI p) (hp : p ≤ n) : ∃ σ', m_X7_next σ = some σ' ∧ cfr σ σ' ∧ σ'.1 9 = nI (tk n ch p).2.2.1 ∧ σ'.1 10 = nI (tk n ch p).2.2.2 ∧ σ'.1 11 = cdN (tk n ch p) ∧ ((tk n ch p).1 = 2 → σ'.1 12 = nI (tk n ch p).2.1) := by
  obtain ⟨σ1, a1, a2, a3⟩ := csk hn hch (n - p) FU p σ hx h10 (by omega) (by unfold FU; omega)
  have hq := skF_b ch (n - p) p
  unfold m_X7_next
  rw [a1, bs]
  unfold tk
  generalize skF ch (n - p) p = q at hq a2
  have hx1 := hx.keep a3
  have k2 : cfr σ (sg σ1 9 (nI q)) := a3.tr (cfr.sg (by decide))
  unfold m_X7_next_J38
  rw [a2]
  generalize hσ2 : sg σ1 9 (nI q) = σ2 at k2
  have b10 : σ2.1 10 = nI q := by rw [← hσ2]; exact a2
  have b9 : σ2.1 9 = nI q := by rw [← hσ2]; rfl
  have hx2 := hx.keep k2
  rw [b10, hx2.1]
  unfold tkQ
  by_cases h1 : n ≤ q
  · rw [if_neg (nI_nlt h1 (by omega)), if_pos h1]
    exact ⟨_, rfl, k2.tr (cfr.sg (by decide)), b9, b10, rfl, fun z => absurd (show (0 : Nat) = 2 from z) (by decide)⟩
  · have hc := hch q (by omega)
    rw [if_pos (nI_lt (by omega) (by omega)), if_neg h1, hx2.ld hn (by omega), bs, cdig hc, bs]
    by_cases h2 : dgB (ch q) = true
    · rw [if_pos h2, if_neg n10, if_pos h2]
      have k3 : cfr σ (sg σ2 12 0) := k2.tr (cfr.sg (by decide))
      obtain ⟨σ3, d1, d2, d3, d4, d5⟩ := csc hn hch (n - q) FU q 0 (sg σ2 12 0) (hx.keep k3) b10 rfl (by decide) (by omega) (by unfold FU; omega)
      have hb := dgF_b hch (n - q) q 0 (by omega) (by omega)
      have k4 := k3.tr d5
      have d9 : σ3.1 9 = nI q := d4.trans b9
      unfold m_X7_scanNumber
      rw [d1, bs]
      unfold m_X7_scanNumber_J73 m_X7_scanNumber_J104 m_X7_scanNumber_J105 tkD
      generalize (dgF ch (n - q) q 0).1 = v at d2 d3 hb
      generalize (dgF ch (n - q) q 0).2 = e at d2 d3 hb
      rw [d9, (hx.keep k4).ld hn (by omega), bs, d2, pk_sub (by omega), d3]
      have good : v ≤ 100 → ¬ (ch q = 48 ∧ 1 < e - q) → ∃ σ', (if nI (min 101 v) ≤ 100 then some (sg σ3 11 (-2)) else some (sg σ3 11 (-3))).bind (fun q13 => some q13) = some σ' ∧ cfr σ σ' ∧ σ'.1 9 = nI q ∧ σ'.1 10 = nI e ∧ σ'.1 11 = cdN (if 100 < v ∨ (ch q = 48 ∧ 1 < e - q) then 4 else 2, v, q, e) ∧ ((if 100 < v ∨ (ch q = 48 ∧ 1 < e - q) then 4 else 2) = 2 → σ'.1 12 = nI v) := fun hv hz => by
        have hcond : ¬ (100 < v ∨ (ch q = 48 ∧ 1 < e - q)) := fun z => z.elim (fun z => by omega) hz
        rw [if_neg hcond, if_pos (show nI (min 101 v) ≤ 100 from nI_le (b := 100) (by omega) (by decide))]
        refine ⟨_, rfl, k4.tr (cfr.sg (by decide)), d9, d2, rfl, fun _ => ?_⟩
        show σ3.1 12 = nI v
        rw [d3]; congr 1; omega
      have bad : (100 < v ∨ (ch q = 48 ∧ 1 < e - q)) → ∃ σ', (some (sg σ3 11 (-3))).bind (fun q13 => some q13) = some σ' ∧ cfr σ σ' ∧ σ'.1 9 = nI q ∧ σ'.1 10 = nI e ∧ σ'.1 11 = cdN (if 100 < v ∨ (ch q = 48 ∧ 1 < e - q) then 4 else 2, v, q, e) ∧ ((if 100 < v ∨ (ch q = 48 ∧ 1 < e - q) then 4 else 2) = 2 → σ'.1 12 = nI v) := fun hcond => by
        rw [if_pos hcond]
        exact ⟨_, rfl, k4.tr (cfr.sg (by decide)), d9, d2, rfl, fun z => absurd z (by decide)⟩
      have mid : ¬ (ch q = 48 ∧ 1 < e - q) → ∃ σ', (if nI (min 101 v) ≤ 100 then some (sg σ3 11 (-2)) else some (sg σ3 11 (-3))).bind (fun q13 => some q13) = some σ' ∧ cfr σ σ' ∧ σ'.1 9 = nI q ∧ σ'.1 10 = nI e ∧ σ'.1 11 = cdN (if 100 < v ∨ (ch q = 48 ∧ 1 < e - q) then 4 else 2, v, q, e) ∧ ((if 100 < v ∨ (ch q = 48 ∧ 1 < e - q) then 4 else 2) = 2 → σ'.1 12 = nI v) := fun hz => by
        by_cases hv : v ≤ 100
        · exact good hv hz
        · rw [if_neg (show ¬ nI (min 101 v) ≤ 100 from nI_ge (a := 100) (by omega) (by omega))]
          exact bad (Or.inl (by omega))
      by_cases h3 : ch q = 48
      · rw [if_pos (show nI (ch q) = 48 by rw [h3]; rfl)]
        by_cases h4 : e - q ≤ 1
        · rw [if_pos (show nI (e - q) ≤ 1 from nI_le (b := 1) h4 (by decide)), if_pos (rfl : (0 : Int32) = 0)]
          exact mid (fun z => by omega)
        · rw [if_neg (show ¬ nI (e - q) ≤ 1 from nI_ge (a := 1) (by omega) (by omega)), if_neg n10]
          exact bad (Or.inr ⟨h3, by omega⟩)
      · rw [if_neg (show ¬ nI (ch q) = 48 from fun z => h3 ((nI_lit (k := 48) hc (by decide)).mp z)), if_pos (rfl : (0 : Int32) = 0)]
        exact mid (fun z => h3 z.1)
    · rw [if_neg h2, if_pos rfl, if_neg h2, bs, csig hc, bs]
      unfold m_X7_next_J117
      have fin : ∀ (s : Int32) (kk : Nat), (kk = 3 ∨ kk = 1 ∨ kk = 4) → s = (if kk = 4 then -3 else nI (ch q)) → ∃ σ', some (sg (sg σ2 11 s) 10 ((sg σ2 11 s).1 10 + 1)) = some σ' ∧ cfr σ σ' ∧ σ'.1 9 = nI q ∧ σ'.1 10 = nI (q + 1) ∧ σ'.1 11 = cdN (kk, ch q, q, q + 1) ∧ (kk = 2 → σ'.1 12 = nI (ch q)) := fun s kk hk hs => by
        refine ⟨_, rfl, (k2.tr (cfr.sg (by decide))).tr (cfr.sg (by decide)), b9, ?_, ?_, fun z => by omega⟩
        · show σ2.1 10 + 1 = _
          rw [b10, nI_1]
        · show s = _
          rw [hs]
          rcases hk with rfl | rfl | rfl <;> rfl
      by_cases h5 : ch q = 59
      · rw [if_pos (show (sgB (ch q) || decide (ch q = 59)) = true by simp [h5]), if_neg n10, if_pos h5]
        exact fin _ 3 (by omega) rfl
      · rw [if_neg h5]
        by_cases h6 : sgB (ch q) = true
        · rw [if_pos (show (sgB (ch q) || decide (ch q = 59)) = true by simp [h6]), if_neg n10, if_pos h6]
          exact fin _ 1 (by omega) rfl
        · rw [if_neg (show ¬ (sgB (ch q) || decide (ch q = 59)) = true by simp [h6, h5]), if_pos rfl, if_neg h6]
          exact fin _ 4 (by omega) rfl
