/-! one telephone, one turn -/
def filN (F v : Nat) : Nat := min 100 (v + if v < 80 then F else max 1 (F / 2))
def drnN (R v : Nat) : Nat := v - R
def lmF (d : TD) (t k : Nat) : Nat → Nat → Nat → Nat → Nat × Nat
  | 0, _, v, m => (v, m)
  | r + 1, i, v, m => if d.2 2 i = k ∧ d.2 3 i = t then (if d.2 4 i ≤ v then lmF d t k r (i + 1) (v - d.2 4 i) m else lmF d t k r (i + 1) v (m + 1)) else lmF d t k r (i + 1) v m
def leftN (d : TD) (t k v : Nat) : Nat := (lmF d t k (d.1 2) 0 v 0).1
def missN (d : TD) (t k v : Nat) : Nat := (lmF d t k (d.1 2) 0 v 0).2
def behN (d : TD) (t k v : Nat) (on : Bool) : Nat := if (on && !dkN d t) = true then filN (d.2 0 k) (leftN d t k v) else drnN (d.2 1 k) (leftN d t k v)
theorem lmF_add (d : TD) (t k : Nat) : ∀ r i v m, lmF d t k r i v m = ((lmF d t k r i v 0).1, m + (lmF d t k r i v 0).2)
  | 0, i, v, m => rfl
  | r + 1, i, v, m => by
    simp only [lmF]
    split
    · split
      · exact lmF_add d t k r (i + 1) _ m
      · rw [lmF_add d t k r (i + 1) v (m + 1), lmF_add d t k r (i + 1) v (0 + 1)]
        simp only [Nat.add_assoc, Nat.zero_add]
    · exact lmF_add d t k r (i + 1) v m
theorem lmF_le (d : TD) (t k : Nat) : ∀ r i v m, (lmF d t k r i v m).1 ≤ v ∧ (lmF d t k r i v m).2 ≤ m + r
  | 0, i, v, m => ⟨Nat.le_refl _, Nat.le_refl _⟩
  | r + 1, i, v, m => by
    simp only [lmF]
    split
    · split
      · have := lmF_le d t k r (i + 1) (v - d.2 4 i) m; omega
      · have := lmF_le d t k r (i + 1) v (m + 1); omega
    · have := lmF_le d t k r (i + 1) v m; omega
theorem leftN_le (d : TD) (t k v : Nat) : leftN d t k v ≤ v := (lmF_le d t k _ _ _ _).1
theorem missN_le (d : TD) (t k v : Nat) : missN d t k v ≤ d.1 2 := by have := (lmF_le d t k (d.1 2) 0 v 0).2; unfold missN; omega
theorem filN_le (F v : Nat) : filN F v ≤ 100 := Nat.min_le_left _ _
theorem behN_le (d : TD) (t k : Nat) {v : Nat} (h : v ≤ 100) (on : Bool) : behN d t k v on ≤ 100 := by
  unfold behN
  split
  · exact filN_le _ _
  · have := leftN_le d t k v
    unfold drnN; omega
theorem ccall {σ : Sx} {d : TD} (hb : bT d) (hc : cT σ d) {i k t : Nat} (hi : i < d.1 2) (hk : k < 2 ^ 31) (ht : t < 2 ^ 31) : m_X10_isCallOf σ (nI i) (nI k) (nI t) = some (if d.2 2 i = k ∧ d.2 3 i = t then 1 else 0) := by
  obtain ⟨h5, -, h8, -, -, hcl, -⟩ := hb
  obtain ⟨c1, c2, c3, c4⟩ := hcl i hi
  obtain ⟨f1, f2, f3⟩ := hc.2.2.1 i hi
  unfold m_X10_isCallOf
  rw [ldk (n := 8) rfl (by omega) (by decide), bs, f1, ldk (n := 8) rfl (by omega) (by decide), bs, f2]
  have z1 : nI (d.2 2 i) = nI k ↔ d.2 2 i = k := nI_eq (by omega) hk
  have z2 : nI (d.2 3 i) = nI t ↔ d.2 3 i = t := nI_eq (by omega) ht
  by_cases q1 : d.2 2 i = k
  · rw [if_pos (z1.mpr q1)]
    by_cases q2 : d.2 3 i = t
    · rw [if_pos (z2.mpr q2), if_pos ⟨q1, q2⟩]
    · rw [if_neg (fun z => q2 (z2.mp z)), if_neg (fun z => q2 z.2)]
  · rw [if_neg (fun z => q1 (z1.mp z)), if_neg (fun z => q1 z.1)]
theorem cmiss {σ : Sx} {d : TD} (hb : bT d) (hc : cT σ d) {k t : Nat} (hk : k < 2 ^ 31) (ht : t < 2 ^ 31) : ∀ (r n i v m : Nat), i + r = d.1 2 → r < n → v ≤ 100 → m_X10_missedAt_L9 σ n (nI t) (nI k) (nI v) (nI m) (nI i) = some (nI (lmF d t k r i v m).2) := by
  have h8 : d.1 2 ≤ 8 := hb.2.2.1
  have hC := hc.1.2.2.1
  intro r
  induction r with
  | zero =>
    intro n i v m hi hn hv
    obtain ⟨n, rfl⟩ : ∃ k, n = k + 1 := ⟨n - 1, by omega⟩
    rw [m_X10_missedAt_L9, hC, if_pos (nI_le (by omega) (by omega))]
    rfl
  | succ r ih =>
    intro n i v m hi hn hv
    obtain ⟨n, rfl⟩ : ∃ k, n = k + 1 := ⟨n - 1, by omega⟩
    obtain ⟨c1, c2, c3, c4⟩ := hb.2.2.2.2.2.1 i (by omega)
    obtain ⟨f1, f2, f3⟩ := hc.2.2.1 i (by omega)
    rw [m_X10_missedAt_L9, hC, if_neg (nI_ge (by omega) (by omega)), ccall hb hc (by omega) hk ht, bs, ldk (n := 8) rfl (by omega) (by decide), bs, bs, f3, lmF, nI_1, nI_1]
    by_cases q : d.2 2 i = k ∧ d.2 3 i = t
    · rw [if_pos q, if_pos q, if_neg (by decide)]
      by_cases q2 : d.2 4 i ≤ v
      · rw [if_pos q2, if_neg (nI_nlt q2 (by omega)), pk_sub q2]
        exact ih n (i + 1) _ _ (by omega) (by omega) (by omega)
      · rw [if_neg q2, if_pos (nI_lt (by omega) (by omega))]
        exact ih n (i + 1) _ _ (by omega) (by omega) (by omega)
    · rw [if_neg q, if_neg q, if_pos rfl]
      exact ih n (i + 1) _ _ (by omega) (by omega) (by omega)
theorem cmissN {σ : Sx} {d : TD} (hb : bT d) (hc : cT σ d) {k t v : Nat} (hk : k < 2 ^ 31) (ht : t < 2 ^ 31) (hv : v ≤ 100) : m_X10_missedAt σ (nI t) (nI k) (nI v) = some (nI (missN d t k v)) := by
  have h8 : d.1 2 ≤ 8 := hb.2.2.1
  have h := cmiss hb hc hk ht (d.1 2) FU 0 v 0 (by omega) (by unfold FU; omega) hv
  have h : m_X10_missedAt_L9 σ FU (nI t) (nI k) (nI v) 0 0 = _ := h
  unfold m_X10_missedAt
  rw [h, bs]
  rfl
theorem cleft {σ : Sx} {d : TD} (hb : bT d) (hc : cT σ d) {k t : Nat} (hk : k < 2 ^ 31) (ht : t < 2 ^ 31) : ∀ (r n i v m : Nat), i + r = d.1 2 → r < n → v ≤ 100 → m_X10_leftByCalls_L6 σ n (nI t) (nI k) (nI v) (nI i) = some (nI (lmF d t k r i v m).1) := by
  have h8 : d.1 2 ≤ 8 := hb.2.2.1
  have hC := hc.1.2.2.1
  intro r
  induction r with
  | zero =>
    intro n i v m hi hn hv
    obtain ⟨n, rfl⟩ : ∃ k, n = k + 1 := ⟨n - 1, by omega⟩
    rw [m_X10_leftByCalls_L6, hC, if_pos (nI_le (by omega) (by omega))]
    rfl
  | succ r ih =>
    intro n i v m hi hn hv
    obtain ⟨n, rfl⟩ : ∃ k, n = k + 1 := ⟨n - 1, by omega⟩
    obtain ⟨c1, c2, c3, c4⟩ := hb.2.2.2.2.2.1 i (by omega)
    obtain ⟨f1, f2, f3⟩ := hc.2.2.1 i (by omega)
    rw [m_X10_leftByCalls_L6, hC, if_neg (nI_ge (by omega) (by omega)), ccall hb hc (by omega) hk ht, bs, ldk (n := 8) rfl (by omega) (by decide), bs, bs, f3, lmF, nI_1]
    by_cases q : d.2 2 i = k ∧ d.2 3 i = t
    · rw [if_pos q, if_pos q, if_neg (by decide)]
      by_cases q2 : d.2 4 i ≤ v
      · rw [if_pos q2, if_neg (nI_nlt q2 (by omega)), pk_sub q2]
        exact ih n (i + 1) _ _ (by omega) (by omega) (by omega)
      · rw [if_neg q2, if_pos (nI_lt (by omega) (by omega))]
        exact ih n (i + 1) _ _ (by omega) (by omega) (by omega)
    · rw [if_neg q, if_neg q, if_pos rfl]
      exact ih n (i + 1) _ _ (by omega) (by omega) (by omega)
theorem cleftN {σ : Sx} {d : TD} (hb : bT d) (hc : cT σ d) {k t v : Nat} (hk : k < 2 ^ 31) (ht : t < 2 ^ 31) (hv : v ≤ 100) : m_X10_leftByCalls σ (nI t) (nI k) (nI v) = some (nI (leftN d t k v)) := by
  have h8 : d.1 2 ≤ 8 := hb.2.2.1
  have h := cleft hb hc hk ht (d.1 2) FU 0 v 0 (by omega) (by unfold FU; omega) hv
  have h : m_X10_leftByCalls_L6 σ FU (nI t) (nI k) (nI v) 0 = _ := h
  unfold m_X10_leftByCalls
  rw [h, bs]
  rfl
theorem dv2 {F : Nat} (h : F ≤ 30) : dvI (nI F) 2 = some (nI (F / 2)) := by
  unfold dvI
  rw [if_neg (by decide)]
  exact congrArg some (pk_div (a := F) (d := 2) (by omega) (by decide) (by decide))
theorem mx1 {h : Nat} (hh : h ≤ 30) : (if 1 < nI h then nI h else 1) = nI (max 1 h) := by
  by_cases q : 1 < h
  · rw [if_pos (show (1 : Int32) < nI h from nI_lt q (by omega)), show max 1 h = h by omega]
  · rw [if_neg (show ¬ (1 : Int32) < nI h from nI_nlt (show h ≤ 1 by omega) (by decide)), show max 1 h = 1 by omega]; rfl
theorem cfil {σ : Sx} {d : TD} (hb : bT d) (hc : cT σ d) {k v : Nat} (hk : k < d.1 0) (hv : v ≤ 100) : m_X10_filled σ (nI k) (nI v) = some (nI (filN (d.2 0 k) v)) := by
  have h5 : d.1 0 ≤ 5 := hb.1
  obtain ⟨c1, c2, c3⟩ := hb.2.2.2.2.1 k hk
  obtain ⟨f1, f2⟩ := hc.2.1 k hk
  have hJ : ∀ s : Nat, s ≤ 30 → m_X10_filled_J27 σ (nI v) (nI s) = some (nI (min 100 (v + s))) := by
    intro s hs
    unfold m_X10_filled_J27
    rw [nI_add]
    by_cases q : v + s < 100
    · rw [if_pos (show nI (v + s) < 100 from nI_lt q (by decide)), show min 100 (v + s) = v + s by omega]
    · rw [if_neg (show ¬ nI (v + s) < 100 from nI_nlt (show 100 ≤ v + s by omega) (by omega)), show min 100 (v + s) = 100 by omega]; rfl
  unfold m_X10_filled filN
  rw [ldk (n := 5) rfl (by omega) (by decide), bs, bs, f1, dv2 c2, bs, mx1 (by omega), hJ _ (by omega), hJ _ c2]
  by_cases q : v < 80
  · rw [if_pos q, if_neg (show ¬ (80 : Int32) ≤ nI v from nI_ge q (by decide))]
  · rw [if_neg q, if_pos (show (80 : Int32) ≤ nI v from nI_le (show 80 ≤ v by omega) (by omega))]
theorem mfil {F v : Nat} (c2 : F ≤ 30) (hv : v ≤ 100) : m_X12_filled (nI v) (nI F) = some (nI (filN F v)) := by
  have hJ : ∀ s : Nat, s ≤ 30 → m_X12_filled_J27 (nI s) (nI v) = some (nI (min 100 (v + s))) := by
    intro s hs
    unfold m_X12_filled_J27
    rw [nI_add]
    by_cases q : v + s ≤ 100
    · rw [if_pos (show nI (v + s) ≤ 100 from nI_le q (by decide)), show min 100 (v + s) = v + s by omega]
    · rw [if_neg (show ¬ nI (v + s) ≤ 100 from nI_ge (show 100 < v + s by omega) (by omega)), show min 100 (v + s) = 100 by omega]; rfl
  have hJ2 : ∀ s : Nat, s ≤ 30 → m_X12_filled_J14 (nI v) (nI F) (nI s) = some (nI (min 100 (v + if v < 80 then F else s))) := by
    intro s hs
    unfold m_X12_filled_J14
    rw [hJ s hs, hJ F c2]
    by_cases q : v < 80
    · rw [if_pos q, if_neg (show ¬ (80 : Int32) ≤ nI v from nI_ge q (by decide))]
    · rw [if_neg q, if_pos (show (80 : Int32) ≤ nI v from nI_le (show 80 ≤ v by omega) (by omega))]
  unfold m_X12_filled filN
  rw [dv2 c2, bs, bs, show (1 : Int32) = nI 1 from rfl, hJ2 _ (by omega), hJ2 1 (by decide)]
  by_cases q : 1 ≤ F / 2
  · rw [if_pos (nI_le q (by omega)), show max 1 (F / 2) = F / 2 by omega]
  · rw [if_neg (nI_ge (by omega) (by decide)), show max 1 (F / 2) = 1 by omega]
theorem cdrn {σ : Sx} {d : TD} (hb : bT d) (hc : cT σ d) {k v : Nat} (hk : k < d.1 0) (hv : v ≤ 100) : m_X10_drained σ (nI k) (nI v) = some (nI (drnN (d.2 1 k) v)) := by
  have h5 : d.1 0 ≤ 5 := hb.1
  obtain ⟨c1, c2, c3⟩ := hb.2.2.2.2.1 k hk
  obtain ⟨f1, f2⟩ := hc.2.1 k hk
  unfold m_X10_drained drnN
  rw [ldk (n := 5) rfl (by omega) (by decide), bs, f2]
  by_cases q : d.2 1 k ≤ v
  · rw [pk_sub q]
    by_cases q2 : 0 < v - d.2 1 k
    · rw [if_pos (show (0 : Int32) < nI (v - d.2 1 k) from nI_lt q2 (by omega))]
    · rw [if_neg (show ¬ (0 : Int32) < nI (v - d.2 1 k) from nI_nlt (show v - d.2 1 k ≤ 0 by omega) (by decide)), show v - d.2 1 k = 0 by omega]; rfl
  · have := pk_sneg (a := v) (b := d.2 1 k) (by omega) (by omega)
    rw [if_neg (fun z => i32_le_of this (by rw [Int32.lt_iff_toInt_lt] at z; rw [Int32.le_iff_toInt_le]; omega)), show v - d.2 1 k = 0 by omega]; rfl
theorem mlow {R v : Nat} (c3 : R ≤ 9) (hv : v ≤ 100) : m_X12_lower (nI v) (nI R) = some (nI (drnN R v)) := by
  unfold m_X12_lower drnN
  by_cases q : R ≤ v
  · rw [if_pos (nI_le q (by omega)), pk_sub q]
  · rw [if_neg (nI_ge (by omega) (by omega)), show v - R = 0 by omega]; rfl
theorem cbeh {σ : Sx} {d : TD} (hb : bT d) (hc : cT σ d) {k t v : Nat} (hk : k < d.1 0) (ht : t < 2 ^ 31) (hv : v ≤ 100) (on : Bool) : m_X10_levelBehind σ (nI t) (nI k) (nI v) (if on = true then 1 else 0) = some (nI (behN d t k v on)) := by
  have h5 : d.1 0 ≤ 5 := hb.1
  have hl := leftN_le d t k v
  unfold m_X10_levelBehind m_X10_levelBehind_J32 behN
  rw [cleftN hb hc (by omega) ht hv, bs, cdrn hb hc hk (by omega), bs, cdark hb hc ht, bs, cfil hb hc hk (by omega), bs]
  cases on with
  | false => simp
  | true =>
    cases dkN d t with
    | true => simp
    | false => simp
