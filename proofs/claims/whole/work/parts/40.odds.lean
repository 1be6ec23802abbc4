/-! odds: the greatest divisor -/
theorem lN_dv {a b : Nat} (ha : a < 2 ^ 31) (hb : b < 2 ^ 31) (h0 : 0 < b) : lN a / lN b = lN (a / b) := by
  have h1 := lN_toInt ha
  have h2 := lN_toInt hb
  have h3 := lN_toInt (n := a / b) (Nat.lt_of_le_of_lt (Nat.div_le_self a b) ha)
  refine Int64.toInt_inj.mp ?_
  rw [lg_ldiv_nonneg (by omega) (by omega), h1, h2, h3]
  rfl
theorem lN_n0 {b : Nat} (hb : b < 2 ^ 31) (h0 : 0 < b) : ¬ lN b = 0 := fun z => by
  have := (lN_eq hb (show 0 < 2 ^ 31 by decide)).mp z
  omega
theorem lN_rm {a b : Nat} (ha : a < 2 ^ 31) (hb : b < 2 ^ 31) (h0 : 0 < b) : rmL (lN a) (lN b) = some (lN (a % b)) := by
  unfold rmL
  rw [if_neg (lN_n0 hb h0), lN_dv ha hb h0, lN_mul, lN_sub (Nat.div_mul_le_self a b)]
  have := Nat.div_add_mod a b
  rw [Nat.mul_comm] at this
  rw [show a - a / b * b = a % b by omega]
theorem lc0 {b : Nat} (hb : b < 2 ^ 31) (h0 : 0 < b) : ¬ lg_cmp (lN b) 0 = 0 := fun z => lN_n0 hb h0 ((lg_cmp_eq _ _).mp z)
theorem eu_half {a b r : Nat} (h : b ≤ a) (h0 : 0 < b) (hr : a * b < 2 ^ (r + 1)) : b * (a % b) < 2 ^ r := by
  have h1 : b * 1 + a % b ≤ a := by
    have h2 := Nat.div_add_mod a b
    have h3 : 1 ≤ a / b := Nat.div_pos h h0
    have h4 : b * 1 ≤ b * (a / b) := Nat.mul_le_mul_left b h3
    omega
  have h5 : a % b < b := Nat.mod_lt _ h0
  have h6 : b * (a % b + a % b) ≤ b * a := Nat.mul_le_mul_left b (by omega)
  rw [Nat.mul_add, Nat.mul_comm b a] at h6
  rw [Nat.pow_succ] at hr
  omega
theorem cgd : ∀ (r n i a b : Nat), b ≤ a → a * b < 2 ^ r → a < 2 ^ 31 → r + i ≤ 99 → r < n → m_X11_greatestDivisor_L9 n (lN a) (lN b) (nI i) = some (lN (Nat.gcd b a)) := by
  intro r
  induction r with
  | zero =>
    intro n i a b h hp ha hi hn
    obtain ⟨n, rfl⟩ : ∃ k, n = k + 1 := ⟨n - 1, by omega⟩
    have hb0 : b = 0 := by
      rcases Nat.eq_zero_or_pos b with q | q
      · exact q
      · have := Nat.mul_le_mul (show 1 ≤ a by omega) (show 1 ≤ b by omega)
        omega
    subst hb0
    rw [m_X11_greatestDivisor_L9, if_neg (show ¬ (100 : Int32) ≤ nI i from nI_ge (show i < 100 by omega) (by decide)), if_pos (show lg_cmp (lN 0) 0 = 0 by decide), Nat.gcd_zero_left]
  | succ r ih =>
    intro n i a b h hp ha hi hn
    obtain ⟨n, rfl⟩ : ∃ k, n = k + 1 := ⟨n - 1, by omega⟩
    rw [m_X11_greatestDivisor_L9, if_neg (show ¬ (100 : Int32) ≤ nI i from nI_ge (show i < 100 by omega) (by decide))]
    rcases Nat.eq_zero_or_pos b with q | q
    · subst q
      rw [if_pos (show lg_cmp (lN 0) 0 = 0 by decide), Nat.gcd_zero_left]
    · rw [if_neg (lc0 (by omega) q), lN_rm ha (by omega) q, bs, nI_1, Nat.gcd_rec b a]
      exact ih n (i + 1) b (a % b) (Nat.le_of_lt (Nat.mod_lt _ q)) (eu_half h q hp) (by omega) (by omega) (by omega)
theorem mgd : ∀ (r n a b : Nat), b ≤ a → a * b < 2 ^ r → a < 2 ^ 31 → r < n → m_X12_gcd_L6 n (lN a) (lN b) = some (lN (Nat.gcd b a)) := by
  intro r
  induction r with
  | zero =>
    intro n a b h hp ha hn
    obtain ⟨n, rfl⟩ : ∃ k, n = k + 1 := ⟨n - 1, by omega⟩
    have hb0 : b = 0 := by
      rcases Nat.eq_zero_or_pos b with q | q
      · exact q
      · have := Nat.mul_le_mul (show 1 ≤ a by omega) (show 1 ≤ b by omega)
        omega
    subst hb0
    rw [m_X12_gcd_L6, if_pos (show lg_cmp (lN 0) 0 = 0 by decide), Nat.gcd_zero_left]
  | succ r ih =>
    intro n a b h hp ha hn
    obtain ⟨n, rfl⟩ : ∃ k, n = k + 1 := ⟨n - 1, by omega⟩
    rw [m_X12_gcd_L6]
    rcases Nat.eq_zero_or_pos b with q | q
    · subst q
      rw [if_pos (show lg_cmp (lN 0) 0 = 0 by decide), Nat.gcd_zero_left]
    · rw [if_neg (lc0 (by omega) q), lN_rm ha (by omega) q, bs, Nat.gcd_rec b a]
      exact ih n b (a % b) (Nat.le_of_lt (Nat.mod_lt _ q)) (eu_half h q hp) (by omega) (by omega)
theorem cgdN {u a : Nat} (h : u ≤ a) (ha : a ≤ 10 ^ 9) : m_X11_greatestDivisor (lN u) (lN a) = some (lN (Nat.gcd u a)) := by
  have hp : a * u < 2 ^ 60 := Nat.lt_of_le_of_lt (Nat.mul_le_mul ha (Nat.le_trans h ha)) (by decide)
  have e := cgd 60 FU 0 a u h hp (by omega) (by decide) (by unfold FU; omega)
  have e : m_X11_greatestDivisor_L9 FU (lN a) (lN u) 0 = _ := e
  unfold m_X11_greatestDivisor
  rw [e, bs]
theorem mgdN {u a : Nat} (h : u ≤ a) (h0 : 0 < a) (ha : a ≤ 10 ^ 9) : m_X12_gcd (lN u) (lN a) = some (lN (Nat.gcd u a)) := by
  have hm : u % a ≤ a := Nat.le_of_lt (Nat.mod_lt _ h0)
  have hp : a * (u % a) < 2 ^ 60 := Nat.lt_of_le_of_lt (Nat.mul_le_mul ha (Nat.le_trans hm ha)) (by decide)
  have e := mgd 60 99999 a (u % a) hm hp (by omega) (by omega)
  unfold m_X12_gcd
  rw [show FU = 99999 + 1 from rfl, m_X12_gcd_L6, if_neg (lc0 (by omega) h0), lN_rm (by omega) (by omega) h0, bs, e, bs, Nat.gcd_comm u a, Nat.gcd_rec a u]
/-! odds: the ways -/
def wF (F R p y : Nat) : Nat → Nat → Nat
  | 0, v => if y ≤ v then 1 else 0
  | n + 1, v => p * wF F R p y n (drnN R v) + (10 - p) * wF F R p y n (filN F v)
theorem wF_le {F R p y : Nat} (hp : p ≤ 10) : ∀ n v, wF F R p y n v ≤ 10 ^ n
  | 0, v => by rw [wF]; split <;> omega
  | n + 1, v => by
    have h1 := Nat.mul_le_mul_left p (wF_le (F := F) (R := R) (y := y) hp n (drnN R v))
    have h2 := Nat.mul_le_mul_left (10 - p) (wF_le (F := F) (R := R) (y := y) hp n (filN F v))
    have h3 : p * 10 ^ n + (10 - p) * 10 ^ n = 10 * 10 ^ n := by rw [← Nat.add_mul]; congr 1; omega
    rw [wF, Nat.pow_succ]
    omega
theorem drnN_le {R v : Nat} (h : v ≤ 100) : drnN R v ≤ 100 := by unfold drnN; omega
theorem cway {d : TD} (hb : bT d) {σ : Sx} (hc : cT σ d) {K y p : Nat} (hK : K < d.1 0) (hy : y ≤ 100) (hp : p ≤ 10) : ∀ (k n v : Nat), v ≤ 100 → k < n → k < 100 → m_X11_waysOfTen n σ (nI K) (nI y) (nI p) (nI v) (nI k) = some (lN (wF (d.2 0 K) (d.2 1 K) p y k v)) := by
  intro k
  induction k with
  | zero =>
    intro n v hv hn _
    obtain ⟨n, rfl⟩ : ∃ k, n = k + 1 := ⟨n - 1, by omega⟩
    rw [m_X11_waysOfTen, m_X11_ways_b, if_neg (show ¬ (0 : Int32) < nI 0 by decide), wF]
    by_cases q : y ≤ v
    · rw [if_neg (nI_nlt q (by omega)), if_pos q]; rfl
    · rw [if_pos (nI_lt (by omega) (by omega)), if_neg q]; rfl
  | succ k ih =>
    intro n v hv hn h100
    obtain ⟨n, rfl⟩ : ∃ k, n = k + 1 := ⟨n - 1, by omega⟩
    rw [m_X11_waysOfTen, m_X11_ways_b, if_pos (show (0 : Int32) < nI (k + 1) from nI_lt (a := 0) (by omega) (by omega)), cdrn hb hc hK hv, bs, nI_pred, ih n _ (drnN_le hv) (by omega) (by omega), bs, cfil hb hc hK hv, bs, ih n _ (filN_le _ _) (by omega) (by omega), bs]
    rw [show (10 : Int32) - nI p = nI (10 - p) from pk_sub (a := 10) hp, nI_l (by omega), nI_l (by omega), lN_mul, lN_mul, lN_add]
    rfl
/-! odds: the row of the likely -/
def sam (τ τ' : Sx) : Prop := τ'.1 = τ.1 ∧ τ'.2.1 = τ.2.1 ∧ τ'.2.2.1 = τ.2.2.1
theorem sam.rf (τ : Sx) : sam τ τ := ⟨rfl, rfl, rfl⟩
theorem sam.tr {a b c : Sx} (h : sam a b) (k : sam b c) : sam a c := ⟨k.1.trans h.1, k.2.1.trans h.2.1, k.2.2.trans h.2.2⟩
theorem sam.sm {τ : Sx} {j : Nat} {f : Nat → Int64} : sam τ (sm τ j f) := ⟨rfl, rfl, rfl⟩
theorem sam.inv {σ τ τ' : Sx} (h : sam τ τ') (k : INV σ τ) : INV σ τ' := by
  obtain ⟨a, b, c, e⟩ := τ
  obtain ⟨a', b', c', e'⟩ := τ'
  obtain ⟨h1, h2, h3⟩ := h
  have h1 : a' = a := h1
  have h2 : b' = b := h2
  have h3 : c' = c := h3
  subst h1; subst h2; subst h3
  exact k
theorem sam.mt {τ τ' : Sx} {d : TD} (h : sam τ τ') (k : mT τ d) : mT τ' d := by
  unfold mT
  rw [h.1, h.2.2]
  exact k
def hB (a : Nat) (τ : Sx) (f : Nat → Nat) : Prop := ∀ z, z < 101 → τ.2.2.2 a z = lN (f z)
theorem vu_s (f : Nat → Int64) (k : Nat) (x : Int64) : vp_updL f k x k = x := if_pos rfl
theorem vu_n (f : Nat → Int64) {k j : Nat} (x : Int64) (h : j ≠ k) : vp_updL f k x j = f j := if_neg h
theorem lL {τ : Sx} {a x : Nat} (ha : a < 2) (hx : x < 101) : ldB mLb τ a (nI x) = some (τ.2.2.2 a x) := by
  rcases (show a = 0 ∨ a = 1 by omega) with rfl | rfl
  · exact ldbk (n := 101) rfl hx (by decide)
  · exact ldbk (n := 101) rfl hx (by decide)
theorem sL {τ : Sx} {a x : Nat} {w : Int64} (ha : a < 2) (hx : x < 101) : stB mLb τ a (nI x) w = some (sm τ a (vp_updL (τ.2.2.2 a) x w)) := by
  rcases (show a = 0 ∨ a = 1 by omega) with rfl | rfl
  · exact stbk (n := 101) rfl hx (by decide)
  · exact stbk (n := 101) rfl hx (by decide)
theorem ml61 {k v : Nat} (hk : k < 5) (hv : v ≤ 100) (x2 x3 x4 x5 : Int32) : ∀ (r n i : Nat) (τ : Sx), τ.2.2.1 4 (4 + k) = nI v → (∀ z, z < i → τ.2.2.2 0 z = lN (if z = v then 1 else 0)) → i + r = 101 → r < n → ∃ τ', m_X12_odds_L61 n (nI k) x2 x3 x4 x5 (nI i) τ = some (nI k, x2, x3, x4, x5, τ') ∧ sam τ τ' ∧ hB 0 τ' (fun z => if z = v then 1 else 0) := by
  intro r
  induction r with
  | zero =>
    intro n i τ h4 h0 hi hn
    obtain ⟨n, rfl⟩ : ∃ k, n = k + 1 := ⟨n - 1, by omega⟩
    obtain rfl : i = 101 := by omega
    exact ⟨τ, by rw [m_X12_odds_L61, if_pos (by decide)], sam.rf τ, h0⟩
  | succ r ih =>
    intro n i τ h4 h0 hi hn
    obtain ⟨n, rfl⟩ : ∃ k, n = k + 1 := ⟨n - 1, by omega⟩
    have l4 : ldA mLn τ 4 (4 + nI k) = some (nI v) := by
      rw [show (4 : Int32) + nI k = nI (4 + k) from nI_add 4 k, ldk (n := 14) rfl (by omega) (by decide), h4]
    have go : ∀ w : Nat, w = (if i = v then 1 else 0) → ∃ τ', m_X12_odds_L61 n (nI k) x2 x3 x4 x5 (nI (i + 1)) (sm τ 0 (vp_updL (τ.2.2.2 0) i (lN w))) = some (nI k, x2, x3, x4, x5, τ') ∧ sam τ τ' ∧ hB 0 τ' (fun z => if z = v then 1 else 0) := fun w e => by
      have h0' : ∀ z, z < i + 1 → vp_updL (τ.2.2.2 0) i (lN w) z = lN (if z = v then 1 else 0) := fun z hz => by
        by_cases q : z = i
        · subst q; rw [vu_s, e]
        · rw [vu_n _ _ q]; exact h0 z (by omega)
      obtain ⟨τ', p1, p2, p3⟩ := ih n (i + 1) (sm τ 0 (vp_updL (τ.2.2.2 0) i (lN w))) h4 h0' (by omega) (by omega)
      exact ⟨τ', p1, sam.sm.tr p2, p3⟩
    rw [m_X12_odds_L61, if_neg (show ¬ (101 : Int32) ≤ nI i from nI_ge (show i < 101 by omega) (by decide)), l4, bs, nI_1]
    by_cases q : i = v
    · rw [if_pos (congrArg nI q), sL (by decide) (by omega), bs]
      exact go 1 (by rw [if_pos q])
    · rw [if_neg (fun z => q ((nI_eq (by omega) (by omega)).mp z)), sL (by decide) (by omega), bs]
      exact go 0 (by rw [if_neg q])
theorem msp2 (x1 x2 : Int32) : ∀ (r n i : Nat) (τ : Sx), (∀ z, z < i → τ.2.2.2 1 z = lN 0) → i + r = 101 → r < n → ∃ τ', m_X12_spreads_L2 n x1 x2 (nI i) τ = some (x1, x2, τ') ∧ sam τ τ' ∧ τ'.2.2.2 0 = τ.2.2.2 0 ∧ hB 1 τ' (fun _ => 0) := by
  intro r
  induction r with
  | zero =>
    intro n i τ h0 hi hn
    obtain ⟨n, rfl⟩ : ∃ k, n = k + 1 := ⟨n - 1, by omega⟩
    obtain rfl : i = 101 := by omega
    exact ⟨τ, by rw [m_X12_spreads_L2, if_pos (by decide)], sam.rf τ, rfl, h0⟩
  | succ r ih =>
    intro n i τ h0 hi hn
    obtain ⟨n, rfl⟩ : ∃ k, n = k + 1 := ⟨n - 1, by omega⟩
    have h0' : ∀ z, z < i + 1 → vp_updL (τ.2.2.2 1) i 0 z = lN 0 := fun z hz => by
      by_cases q : z = i
      · subst q; rw [vu_s]; rfl
      · rw [vu_n _ _ q]; exact h0 z (by omega)
    obtain ⟨τ', p1, p2, p3, p4⟩ := ih n (i + 1) (sm τ 1 (vp_updL (τ.2.2.2 1) i 0)) h0' (by omega) (by omega)
    rw [m_X12_spreads_L2, if_neg (show ¬ (101 : Int32) ≤ nI i from nI_ge (show i < 101 by omega) (by decide)), nI_1, sL (by decide) (by omega), bs]
    exact ⟨τ', p1, sam.sm.tr p2, p3, p4⟩
theorem msp102 {T : Nat → Nat} : ∀ (r n i : Nat) (τ : Sx), hB 1 τ T → (∀ z, z < i → τ.2.2.2 0 z = lN (T z)) → i + r = 101 → r < n → ∃ τ', m_X12_spreads_L102 n (nI i) τ = some τ' ∧ sam τ τ' ∧ hB 0 τ' T := by
  intro r
  induction r with
  | zero =>
    intro n i τ h1 h0 hi hn
    obtain ⟨n, rfl⟩ : ∃ k, n = k + 1 := ⟨n - 1, by omega⟩
    obtain rfl : i = 101 := by omega
    exact ⟨τ, by rw [m_X12_spreads_L102, if_pos (by decide)], sam.rf τ, h0⟩
  | succ r ih =>
    intro n i τ h1 h0 hi hn
    obtain ⟨n, rfl⟩ : ∃ k, n = k + 1 := ⟨n - 1, by omega⟩
    have h0' : ∀ z, z < i + 1 → vp_updL (τ.2.2.2 0) i (lN (T i)) z = lN (T z) := fun z hz => by
      by_cases q : z = i
      · subst q; rw [vu_s]
      · rw [vu_n _ _ q]; exact h0 z (by omega)
    obtain ⟨τ', p1, p2, p3⟩ := ih n (i + 1) (sm τ 0 (vp_updL (τ.2.2.2 0) i (lN (T i)))) h1 h0' (by omega) (by omega)
    rw [m_X12_spreads_L102, if_neg (show ¬ (101 : Int32) ≤ nI i from nI_ge (show i < 101 by omega) (by decide)), nI_1, lL (by decide) (by omega), bs, h1 i (by omega), sL (by decide) (by omega), bs]
    exact ⟨τ', p1, sam.sm.tr p2, p3⟩
