/-! odds: a row spread, all of it -/
theorem sF_snoc (f : Nat → Nat) : ∀ r i, sF f (r + 1) i = sF f r i + f (i + r)
  | 0, i => by rw [sF, sF, sF]; simp
  | r + 1, i => by
    rw [sF, sF_snoc f r (i + 1), sF, show i + 1 + r = i + (r + 1) by omega]
    omega
theorem sF_upd {T : Nat → Nat} {a δ : Nat} (g : Nat → Nat) (ha : a < 101) : sF (fun z => (if z = a then T a + δ else T z) * g z) 101 0 = sF (fun z => T z * g z) 101 0 + δ * g a := by
  refine sF_one (K := a) 101 0 (by omega) (by omega) (fun k _ hk => ?_) ?_
  · show (if k = a then T a + δ else T k) * g k = T k * g k
    rw [if_neg hk]
  · show (if a = a then T a + δ else T a) * g a = T a * g a + δ * g a
    rw [if_pos rfl, Nat.add_mul]
theorem hB_upd {τ : Sx} {T : Nat → Nat} {a δ : Nat} (h : hB 1 τ T) : hB 1 (sm τ 1 (vp_updL (τ.2.2.2 1) a (lN (T a + δ)))) (fun z => if z = a then T a + δ else T z) := fun z hz => by
  show vp_updL (τ.2.2.2 1) a (lN (T a + δ)) z = lN (if z = a then T a + δ else T z)
  by_cases q : z = a
  · rw [if_pos q, q, vu_s]
  · rw [if_neg q, vu_n _ _ q]; exact h z hz
def spW (F R p : Nat) (L g : Nat → Nat) (x : Nat) : Nat := L x * ((10 - p) * g (filN F x) + p * g (drnN R x))
theorem msp23 {d : TD} (hb : bT d) {K p : Nat} (hK : K < d.1 0) (hp : p ≤ 10) {L : Nat → Nat} : ∀ (r n i : Nat) (τ : Sx) (T : Nat → Nat), mT τ d → hB 0 τ L → hB 1 τ T → (∀ g : Nat → Nat, sF (fun z => T z * g z) 101 0 = sF (spW (d.2 0 K) (d.2 1 K) p L g) i 0) → i + r = 101 → r < n → ∃ τ' T', m_X12_spreads_L23 n (nI K) (nI p) (nI i) τ = some τ' ∧ sam τ τ' ∧ hB 1 τ' T' ∧ ∀ g : Nat → Nat, sF (fun z => T' z * g z) 101 0 = sF (spW (d.2 0 K) (d.2 1 K) p L g) 101 0 := by
  have h5 : d.1 0 ≤ 5 := hb.1
  obtain ⟨c1, c2, c3⟩ := hb.2.2.2.2.1 K hK
  intro r
  induction r with
  | zero =>
    intro n i τ T hm hL hT hg hi hn
    obtain ⟨n, rfl⟩ : ∃ k, n = k + 1 := ⟨n - 1, by omega⟩
    obtain rfl : i = 101 := by omega
    exact ⟨τ, T, by rw [m_X12_spreads_L23, if_pos (by decide)], sam.rf τ, hT, hg⟩
  | succ r ih =>
    intro n i τ T hm hL hT hg hi hn
    obtain ⟨n, rfl⟩ : ∃ k, n = k + 1 := ⟨n - 1, by omega⟩
    obtain ⟨g1, g2⟩ := hm.2.1 K hK
    have l1 : ∀ τ' : Sx, τ'.2.2.1 = τ.2.2.1 → ldA mLn τ' 1 (3 * nI K + 1) = some (nI (d.2 0 K)) := fun τ' e => by
      rw [show (3 : Int32) * nI K = nI (3 * K) from pk_mul 3 K, show nI (3 * K) + (1 : Int32) = nI (3 * K + 1) from nI_add _ 1, ldk (n := 30) rfl (by omega) (by decide), e, g1]
    have l2 : ∀ τ' : Sx, τ'.2.2.1 = τ.2.2.1 → ldA mLn τ' 1 (3 * nI K + 2) = some (nI (d.2 1 K)) := fun τ' e => by
      rw [show (3 : Int32) * nI K = nI (3 * K) from pk_mul 3 K, show nI (3 * K) + (2 : Int32) = nI (3 * K + 2) from nI_add _ 2, ldk (n := 30) rfl (by omega) (by decide), e, g2]
    have ha : filN (d.2 0 K) i < 101 := by have := filN_le (d.2 0 K) i; omega
    have hd : drnN (d.2 1 K) i < 101 := by have := drnN_le (R := d.2 1 K) (v := i) (by omega); omega
    generalize ea : filN (d.2 0 K) i = a at ha
    generalize ed : drnN (d.2 1 K) i = b at hd
    have hT1 := hB_upd (a := a) (δ := L i * (10 - p)) hT
    generalize hτ1 : sm τ 1 (vp_updL (τ.2.2.2 1) a (lN (T a + L i * (10 - p)))) = τ1 at hT1
    have s1 : sam τ τ1 := by rw [← hτ1]; exact sam.sm
    have hL1 : hB 0 τ1 L := by rw [← hτ1]; exact hL
    have hT2 := hB_upd (a := b) (δ := L i * p) hT1
    have hm2 : mT (sm τ1 1 (vp_updL (τ1.2.2.2 1) b (lN ((if b = a then T a + L i * (10 - p) else T b) + L i * p)))) d := (s1.tr sam.sm).mt hm
    have hgn : ∀ g : Nat → Nat, sF (fun z => (if z = b then (if b = a then T a + L i * (10 - p) else T b) + L i * p else if z = a then T a + L i * (10 - p) else T z) * g z) 101 0 = sF (spW (d.2 0 K) (d.2 1 K) p L g) (i + 1) 0 := fun g => by
      have e1 := sF_upd (T := fun z => if z = a then T a + L i * (10 - p) else T z) (a := b) (δ := L i * p) g hd
      have e2 := sF_upd (T := T) (a := a) (δ := L i * (10 - p)) g ha
      have e1' : sF (fun z => (if z = b then (if b = a then T a + L i * (10 - p) else T b) + L i * p else if z = a then T a + L i * (10 - p) else T z) * g z) 101 0 = sF (fun z => (if z = a then T a + L i * (10 - p) else T z) * g z) 101 0 + L i * p * g b := e1
      rw [e1', e2, hg g, sF_snoc, Nat.zero_add, Nat.add_assoc]
      have e3 : spW (d.2 0 K) (d.2 1 K) p L g i = L i * (10 - p) * g a + L i * p * g b := by
        unfold spW
        rw [ea, ed, Nat.mul_add, Nat.mul_assoc, Nat.mul_assoc]
      rw [e3]
    obtain ⟨τ', T', p1, p2, p3, p4⟩ := ih n (i + 1) _ _ hm2 hL1 hT2 hgn (by omega) (by omega)
    rw [m_X12_spreads_L23, if_neg (show ¬ (101 : Int32) ≤ nI i from nI_ge (show i < 101 by omega) (by decide)), l1 τ rfl, bs, mfil c2 (by omega), bs, ea, lL (by decide) ha, bs, lL (by decide) (by omega), bs, hT a ha, hL i (by omega), show (10 : Int32) - nI p = nI (10 - p) from pk_sub (a := 10) hp, nI_l (by omega), nI_l (by omega), lN_mul, lN_add, sL (by decide) ha, bs, hτ1, l2 τ1 s1.2.2, bs, mlow c3 (by omega), bs, ed, lL (by decide) hd, bs, lL (by decide) (by omega), bs, hT1 b hd, hL1 i (by omega), lN_mul, lN_add, sL (by decide) hd, bs, nI_1]
    exact ⟨τ', T', p1, (s1.tr sam.sm).tr p2, p3, p4⟩
theorem msp {d : TD} (hb : bT d) {K p : Nat} (hK : K < d.1 0) (hp : p ≤ 10) {L : Nat → Nat} {τ : Sx} (hm : mT τ d) (hL : hB 0 τ L) : ∃ τ' L', m_X12_spreads τ (nI K) (nI p) = some τ' ∧ sam τ τ' ∧ hB 0 τ' L' ∧ ∀ g : Nat → Nat, sF (fun z => L' z * g z) 101 0 = sF (spW (d.2 0 K) (d.2 1 K) p L g) 101 0 := by
  obtain ⟨τ1, a1, a2, a3, a4⟩ := msp2 (nI K) (nI p) 101 FU 0 τ (fun z hz => absurd hz (by omega)) (by omega) (by unfold FU; omega)
  have hL1 : hB 0 τ1 L := fun z hz => by rw [a3]; exact hL z hz
  obtain ⟨τ2, T, b1, b2, b3, b4⟩ := msp23 hb hK hp 101 FU 0 τ1 (fun _ => 0) (a2.mt hm) hL1 a4 (fun g => sF_0 (fun k _ => Nat.zero_mul _) _ _) (by omega) (by unfold FU; omega)
  obtain ⟨τ3, d1, d2, d3⟩ := msp102 101 FU 0 τ2 b3 (fun z hz => absurd hz (by omega)) (by omega) (by unfold FU; omega)
  have a1 : m_X12_spreads_L2 FU (nI K) (nI p) 0 τ = _ := a1
  have b1 : m_X12_spreads_L23 FU (nI K) (nI p) 0 τ1 = _ := b1
  have d1 : m_X12_spreads_L102 FU 0 τ2 = _ := d1
  refine ⟨τ3, T, ?_, (a2.tr b2).tr d2, d3, b4⟩
  unfold m_X12_spreads
  rw [a1, bs, b1, bs, d1, bs]
theorem ml105 {d : TD} (hb : bT d) {K p y v0 N : Nat} (hK : K < d.1 0) (hp : p ≤ 10) (hN : N < 100) (x2 x5 : Int32) : ∀ (r n e : Nat) (τ : Sx) (L : Nat → Nat), mT τ d → hB 0 τ L → (∀ m, sF (fun z => L z * wF (d.2 0 K) (d.2 1 K) p y m z) 101 0 = wF (d.2 0 K) (d.2 1 K) p y (m + e) v0) → e + r = N → r < n → ∃ τ' L', m_X12_odds_L105 n (nI K) x2 (nI p) (nI N) x5 (lN (10 ^ e)) (nI e) τ = some (x2, x5, lN (10 ^ N), τ') ∧ sam τ τ' ∧ hB 0 τ' L' ∧ ∀ m, sF (fun z => L' z * wF (d.2 0 K) (d.2 1 K) p y m z) 101 0 = wF (d.2 0 K) (d.2 1 K) p y (m + N) v0 := by
  intro r
  induction r with
  | zero =>
    intro n e τ L hm hL hg hi hn
    obtain ⟨n, rfl⟩ : ∃ k, n = k + 1 := ⟨n - 1, by omega⟩
    obtain rfl : e = N := by omega
    exact ⟨τ, L, by rw [m_X12_odds_L105, if_pos (nI_le (by omega) (by omega))], sam.rf τ, hL, hg⟩
  | succ r ih =>
    intro n e τ L hm hL hg hi hn
    obtain ⟨n, rfl⟩ : ∃ k, n = k + 1 := ⟨n - 1, by omega⟩
    obtain ⟨τ1, L1, a1, a2, a3, a4⟩ := msp hb hK hp hm hL
    have hg1 : ∀ m, sF (fun z => L1 z * wF (d.2 0 K) (d.2 1 K) p y m z) 101 0 = wF (d.2 0 K) (d.2 1 K) p y (m + (e + 1)) v0 := fun m => by
      rw [a4, show m + (e + 1) = m + 1 + e by omega, ← hg (m + 1)]
      refine sF_congr (fun k _ => ?_) _ _
      unfold spW
      rw [wF, Nat.add_comm]
    obtain ⟨τ2, L2, b1, b2, b3, b4⟩ := ih n (e + 1) τ1 L1 (a2.mt hm) a3 hg1 (by omega) (by omega)
    rw [m_X12_odds_L105, if_neg (nI_ge (by omega) (by omega)), a1, bs, nI_1, show lN (10 ^ e) * 10 = lN (10 ^ (e + 1)) from (lN_mul (10 ^ e) 10).trans (by rw [Nat.pow_succ])]
    exact ⟨τ2, L2, b1, a2.tr b2, b3, b4⟩
theorem ml138 {L : Nat → Nat} {τ : Sx} (hL : hB 0 τ L) (x5 : Int32) (x6 : Int64) : ∀ (r n i a : Nat), i + r = 101 → r < n → m_X12_odds_L138 n x5 x6 (lN a) (nI i) τ = some (x5, x6, lN (a + sF L r i), τ) := by
  intro r
  induction r with
  | zero =>
    intro n i a hi hn
    obtain ⟨n, rfl⟩ : ∃ k, n = k + 1 := ⟨n - 1, by omega⟩
    obtain rfl : i = 101 := by omega
    rw [m_X12_odds_L138, if_pos (by decide)]; rfl
  | succ r ih =>
    intro n i a hi hn
    obtain ⟨n, rfl⟩ : ∃ k, n = k + 1 := ⟨n - 1, by omega⟩
    rw [m_X12_odds_L138, if_neg (show ¬ (101 : Int32) ≤ nI i from nI_ge (show i < 101 by omega) (by decide)), lL (by decide) (by omega), bs, hL i (by omega), lN_add, nI_1, ih n (i + 1) _ (by omega) (by omega), sF, Nat.add_assoc]
theorem sF_split (f : Nat → Nat) : ∀ a b i, sF f (a + b) i = sF f a i + sF f b (i + a)
  | 0, b, i => by rw [Nat.zero_add, sF, Nat.zero_add]; rfl
  | a + 1, b, i => by
    rw [show a + 1 + b = a + b + 1 by omega, sF, sF, sF_split f a b (i + 1), show i + 1 + a = i + (a + 1) by omega]
    omega
theorem sF_from {L : Nat → Nat} {F R p y : Nat} (hy : y ≤ 100) : sF L (101 - y) y = sF (fun z => L z * wF F R p y 0 z) 101 0 := by
  have e := sF_split (fun z => L z * wF F R p y 0 z) y (101 - y) 0
  rw [show y + (101 - y) = 101 by omega, Nat.zero_add] at e
  rw [e, sF_cong (f := fun z => L z * wF F R p y 0 z) (g := fun _ => 0) y 0 (fun k _ hk => by show L k * wF F R p y 0 k = 0; rw [wF, if_neg (by omega), Nat.mul_zero]), sF_0 (fun _ _ => rfl), Nat.zero_add]
  refine sF_cong _ _ (fun k hk _ => ?_)
  rw [wF, if_pos hk, Nat.mul_one]
theorem sF_delta {v : Nat} (g : Nat → Nat) (hv : v ≤ 100) : sF (fun z => (if z = v then 1 else 0) * g z) 101 0 = g v := by
  have := sF_one (f := fun z => (if z = v then 1 else 0) * g z) (g := fun _ => 0) (K := v) (δ := g v) 101 0 (by omega) (by omega) (fun k _ hk => by show (if k = v then 1 else 0) * g k = 0; rw [if_neg hk, Nat.zero_mul]) (by show (if v = v then 1 else 0) * g v = 0 + g v; rw [if_pos rfl, Nat.one_mul, Nat.zero_add])
  rw [this, sF_0 (fun _ _ => rfl), Nat.zero_add]
theorem cl79 {σ : Sx} {N : Nat} (hN : N < 100) (x5 : Int32) (x6 : Int64) : ∀ (r n e : Nat), e + r = N → r < n → m_X11_odds_L79 σ n (nI N) x5 x6 (lN (10 ^ e)) (nI e) = some (x5, x6, lN (10 ^ N)) := by
  intro r
  induction r with
  | zero =>
    intro n e hi hn
    obtain ⟨n, rfl⟩ : ∃ k, n = k + 1 := ⟨n - 1, by omega⟩
    obtain rfl : e = N := by omega
    rw [m_X11_odds_L79, if_pos (nI_le (by omega) (by omega))]
  | succ r ih =>
    intro n e hi hn
    obtain ⟨n, rfl⟩ : ∃ k, n = k + 1 := ⟨n - 1, by omega⟩
    rw [m_X11_odds_L79, if_neg (nI_ge (by omega) (by omega)), nI_1, show lN (10 ^ e) * 10 = lN (10 ^ (e + 1)) from (lN_mul (10 ^ e) 10).trans (by rw [Nat.pow_succ])]
    exact ih n (e + 1) (by omega) (by omega)
theorem OKodds : OK_odds INV := by
  intro σ τ x0 x1 x2 x3 x4 hinv
  have hinv2 : INV σ (sg τ 0 0) := hinv
  unfold m_X12_odds m_X11_odds
  generalize sg τ 0 0 = τ at hinv2 ⊢
  obtain ⟨d, hR, hN⟩ := INV_iff.mp hinv2
  have hR0 := hR
  obtain ⟨hb, hc, hm, -⟩ := hR0
  have h5 : d.1 0 ≤ 5 := hb.1
  obtain ⟨t, o, v, c, n1, n2, n3, n4, n5, n6, n7, n8, n9⟩ := hN.num h5
  rcases iph hb hc hm x0 with ⟨k, hk, rfl, e1, e2⟩ | ⟨e1, e2⟩
  · rcases wl x1 100 (by decide) with ⟨y, hy, rfl, a1, a2⟩ | ⟨a1, a2⟩
    · rcases wl x2 10 (by decide) with ⟨p, hp, rfl, b1, b2⟩ | ⟨b1, b2⟩
      · rcases wl x3 9 (by decide) with ⟨n, hn, rfl, c1, c2⟩ | ⟨c1, c2⟩
        · rcases wl x4 1 (by decide) with ⟨w, hw, rfl, d1, d2⟩ | ⟨d1, d2⟩
          · have a1 : m_X11_isWithin (nI y) 0 100 = some 1 := a1
            have a2 : m_X12_in (nI y) 0 100 = some 1 := a2
            have b1 : m_X11_isWithin (nI p) 0 10 = some 1 := b1
            have b2 : m_X12_in (nI p) 0 10 = some 1 := b2
            have c1 : m_X11_isWithin (nI n) 0 9 = some 1 := c1
            have c2 : m_X12_in (nI n) 0 9 = some 1 := c2
            have d1 : m_X11_isWithin (nI w) 0 1 = some 1 := d1
            have d2 : m_X12_in (nI w) 0 1 = some 1 := d2
            simp only [e1, e2, a1, a2, b1, b2, c1, c2, d1, d2, bs, if_neg n10]
            have hvk := (n7 k hk).1
            have lv : ldA cLn σ 17 (nI k) = some (nI (v k)) := by
              rw [ldk (n := 5) rfl (by omega) (by decide), n8.1 k hk]
            have q1 := cway hb hc hk hy hp n 12 (v k) hvk (by omega) (by omega)
            have hwle := wF_le (F := d.2 0 k) (R := d.2 1 k) (y := y) hp n (v k)
            have hten : 10 ^ n ≤ 10 ^ 9 := Nat.pow_le_pow_right (by decide) hn
            have hpos : 0 < 10 ^ n := Nat.pow_pos (by decide)
            have q2 := cl79 (σ := σ) (N := n) (by omega) (nI w) (lN (wF (d.2 0 k) (d.2 1 k) p y n (v k))) n FU 0 (by omega) (by unfold FU; omega)
            have q2 : m_X11_odds_L79 σ FU (nI n) (nI w) (lN (wF (d.2 0 k) (d.2 1 k) p y n (v k))) 1 0 = _ := q2
            obtain ⟨τ1, r1, r2, r3⟩ := ml61 (k := k) (v := v k) (by omega) hvk (nI y) (nI p) (nI n) (nI w) 101 FU 0 τ (n9.1 k hk) (fun z hz => absurd hz (by omega)) (by omega) (by unfold FU; omega)
            have r1 : m_X12_odds_L61 FU (nI k) (nI y) (nI p) (nI n) (nI w) 0 τ = _ := r1
            obtain ⟨τ2, L, s1, s2, s3, s4⟩ := ml105 hb (y := y) (v0 := v k) (N := n) hk hp (by omega) (nI y) (nI w) n FU 0 τ1 _ (r2.mt hm) r3 (fun m => sF_delta _ hvk) (by omega) (by unfold FU; omega)
            have s1 : m_X12_odds_L105 FU (nI k) (nI y) (nI p) (nI n) (nI w) 1 0 τ1 = _ := s1
            have u1 := ml138 s3 (nI w) (lN (10 ^ n)) (101 - y) FU y 0 (by omega) (by unfold FU; omega)
            rw [Nat.zero_add, sF_from (F := d.2 0 k) (R := d.2 1 k) (p := p) hy, s4 0, Nat.zero_add] at u1
            have u1 : m_X12_odds_L138 FU (nI w) (lN (10 ^ n)) 0 (nI y) τ2 = _ := u1
            rw [lv, bs, q1, bs, q2, bs, r1, bs]
            dsimp only
            rw [s1, bs]
            dsimp only
            rw [u1, bs]
            dsimp only
            generalize hU : wF (d.2 0 k) (d.2 1 k) p y n (v k) = U at hwle
            generalize hA : 10 ^ n = A at hwle hten hpos
            have hg0 : 0 < Nat.gcd U A := Nat.gcd_pos_of_pos_right U hpos
            have hgl : Nat.gcd U A ≤ A := Nat.gcd_le_right U hpos
            rw [cgdN hwle hten, bs, mgdN hwle hpos hten, bs, if_neg (lc0 (by omega) hg0)]
            unfold dvL
            rw [if_neg (lN_n0 (by omega) hg0)]
            rw [if_neg (lN_n0 (by omega) hg0)]
            by_cases qw : nI w = 0
            · rw [if_pos qw, if_pos qw]
              exact ⟨_, τ2, rfl, rfl, (r2.tr s2).inv hinv2⟩
            · rw [if_neg qw, if_neg qw]
              exact ⟨_, τ2, rfl, rfl, (r2.tr s2).inv hinv2⟩
          · have a1 : m_X11_isWithin (nI y) 0 100 = some 1 := a1
            have a2 : m_X12_in (nI y) 0 100 = some 1 := a2
            have b1 : m_X11_isWithin (nI p) 0 10 = some 1 := b1
            have b2 : m_X12_in (nI p) 0 10 = some 1 := b2
            have c1 : m_X11_isWithin (nI n) 0 9 = some 1 := c1
            have c2 : m_X12_in (nI n) 0 9 = some 1 := c2
            have d1 : m_X11_isWithin x4 0 1 = some 0 := d1
            have d2 : m_X12_in x4 0 1 = some 0 := d2
            simp only [e1, e2, a1, a2, b1, b2, c1, c2, d1, d2, bs, if_neg n10, if_true]
            exact ⟨_, τ, rfl, rfl, hinv2⟩
        · have a1 : m_X11_isWithin (nI y) 0 100 = some 1 := a1
          have a2 : m_X12_in (nI y) 0 100 = some 1 := a2
          have b1 : m_X11_isWithin (nI p) 0 10 = some 1 := b1
          have b2 : m_X12_in (nI p) 0 10 = some 1 := b2
          have c1 : m_X11_isWithin x3 0 9 = some 0 := c1
          have c2 : m_X12_in x3 0 9 = some 0 := c2
          simp only [e1, e2, a1, a2, b1, b2, c1, c2, bs, if_neg n10, if_true]
          exact ⟨_, τ, rfl, rfl, hinv2⟩
      · have a1 : m_X11_isWithin (nI y) 0 100 = some 1 := a1
        have a2 : m_X12_in (nI y) 0 100 = some 1 := a2
        have b1 : m_X11_isWithin x2 0 10 = some 0 := b1
        have b2 : m_X12_in x2 0 10 = some 0 := b2
        simp only [e1, e2, a1, a2, b1, b2, bs, if_neg n10, if_true]
        exact ⟨_, τ, rfl, rfl, hinv2⟩
    · have a1 : m_X11_isWithin x1 0 100 = some 0 := a1
      have a2 : m_X12_in x1 0 100 = some 0 := a2
      simp only [e1, e2, a1, a2, bs, if_neg n10, if_true]
      exact ⟨_, τ, rfl, rfl, hinv2⟩
  · simp only [e1, e2, bs, if_true]
    exact ⟨_, τ, rfl, rfl, hinv2⟩
