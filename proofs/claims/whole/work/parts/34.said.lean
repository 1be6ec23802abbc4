/-! how a level rises -/
def rsF (F : Nat) : Nat → Nat → Nat
  | 0, v => v
  | r + 1, v => rsF F r (filN F v)
theorem rsF_le {F : Nat} : ∀ r v, v ≤ 100 → rsF F r v ≤ 100
  | 0, _, h => h
  | r + 1, v, _ => rsF_le r _ (filN_le F v)
/-- a line: its telephone, first level, turns, seen level, on both sides -/
def lnC (σ : Sx) (j k a t v : Nat) : Prop := σ.2.2.1 19 j = nI k ∧ σ.2.2.1 20 j = nI a ∧ σ.2.2.1 21 j = nI t ∧ σ.2.2.1 22 j = nI v
theorem cleads {σ : Sx} {d : TD} (hb : bT d) (hc : cT σ d) {j k a t w : Nat} (hj : j < 6) (hl : lnC σ j k a t w) (hk : k < d.1 0) (ht : t ≤ 20) : ∀ (r n i v : Nat), i + r = t → r < n → v ≤ 100 → m_X11_leadsToWhatWasSeen_L5 σ n (nI j) (nI v) (nI i) = some (nI j, nI (rsF (d.2 0 k) r v)) := by
  obtain ⟨l1, l2, l3, l4⟩ := hl
  have e21 : ldA cLn σ 21 (nI j) = some (nI t) := by rw [ldk (n := 6) rfl hj (by decide), l3]
  have e19 : ldA cLn σ 19 (nI j) = some (nI k) := by rw [ldk (n := 6) rfl hj (by decide), l1]
  intro r
  induction r with
  | zero =>
    intro n i v hi hn hv
    obtain ⟨n, rfl⟩ : ∃ k, n = k + 1 := ⟨n - 1, by omega⟩
    rw [m_X11_leadsToWhatWasSeen_L5, e21, bs, if_pos (nI_le (by omega) (by omega))]
    rfl
  | succ r ih =>
    intro n i v hi hn hv
    obtain ⟨n, rfl⟩ : ∃ k, n = k + 1 := ⟨n - 1, by omega⟩
    rw [m_X11_leadsToWhatWasSeen_L5, e21, bs, if_neg (nI_ge (by omega) (by omega)), e19, bs, cfil hb hc hk hv, bs, nI_1, rsF]
    exact ih n (i + 1) _ (by omega) (by omega) (filN_le _ _)
theorem cleadsN {σ : Sx} {d : TD} (hb : bT d) (hc : cT σ d) {j k a t w v : Nat} (hj : j < 6) (hl : lnC σ j k a t w) (hk : k < d.1 0) (ht : t ≤ 20) (hw : w ≤ 100) (hv : v ≤ 100) : m_X11_leadsToWhatWasSeen σ (nI j) (nI v) = some (if rsF (d.2 0 k) t v = w then 1 else 0) := by
  have h := cleads hb hc hj hl hk ht t FU 0 v (by omega) (by unfold FU; omega) hv
  have h : m_X11_leadsToWhatWasSeen_L5 σ FU (nI j) (nI v) 0 = _ := h
  have hr := rsF_le (F := d.2 0 k) t v hv
  unfold m_X11_leadsToWhatWasSeen
  rw [h, bs]
  show (ldA cLn σ 22 (nI j)).bind (fun v6 => if nI (rsF (d.2 0 k) t v) = v6 then some 1 else some 0) = _
  rw [ldk (n := 6) rfl hj (by decide), bs, hl.2.2.2]
  by_cases q : rsF (d.2 0 k) t v = w
  · rw [if_pos q, if_pos (by rw [q])]
  · rw [if_neg q, if_neg (fun z => q ((nI_eq (by omega) (by omega)).mp z))]
theorem mris {τ : Sx} {d : TD} (hb : bT d) (hm : mT τ d) {k t : Nat} (hk : k < d.1 0) (ht : t ≤ 20) : ∀ (r n i v : Nat), i + r = t → r < n → v ≤ 100 → m_X12_risen_L6 τ n (nI k) (nI t) (nI v) (nI i) = some (nI (rsF (d.2 0 k) r v)) := by
  have h5 : d.1 0 ≤ 5 := hb.1
  obtain ⟨c1, c2, c3⟩ := hb.2.2.2.2.1 k hk
  have e1 : ldA mLn τ 1 (3 * nI k + 1) = some (nI (d.2 0 k)) := by
    rw [show (3 : Int32) * nI k = nI (3 * k) from pk_mul 3 k, show nI (3 * k) + (1 : Int32) = nI (3 * k + 1) from nI_add _ 1, ldk (n := 30) rfl (by omega) (by decide), (hm.2.1 k hk).1]
  intro r
  induction r with
  | zero =>
    intro n i v hi hn hv
    obtain ⟨n, rfl⟩ : ∃ k, n = k + 1 := ⟨n - 1, by omega⟩
    rw [m_X12_risen_L6, if_pos (nI_le (by omega) (by omega))]
    rfl
  | succ r ih =>
    intro n i v hi hn hv
    obtain ⟨n, rfl⟩ : ∃ k, n = k + 1 := ⟨n - 1, by omega⟩
    rw [m_X12_risen_L6, if_neg (nI_ge (by omega) (by omega)), e1, bs, mfil c2 hv, bs, nI_1, rsF]
    exact ih n (i + 1) _ (by omega) (by omega) (filN_le _ _)
theorem mrisN {τ : Sx} {d : TD} (hb : bT d) (hm : mT τ d) {k t v : Nat} (hk : k < d.1 0) (ht : t ≤ 20) (hv : v ≤ 100) : m_X12_risen τ (nI k) (nI v) (nI t) = some (nI (rsF (d.2 0 k) t v)) := by
  have h := mris hb hm hk ht t FU 0 v (by omega) (by unfold FU; omega) hv
  have h : m_X12_risen_L6 τ FU (nI k) (nI t) (nI v) 0 = _ := h
  unfold m_X12_risen
  rw [h, bs]
def cdF (p : Nat → Bool) : Nat → Nat → Nat → Int32 → Int32 → Nat × Int32 × Int32
  | 0, _, m, L, G => (m, L, G)
  | r + 1, i, m, L, G => if p i = true then cdF p r (i + 1) (m + 1) (if m = 0 then nI i else L) (nI i) else cdF p r (i + 1) m L G
theorem ccd {σ : Sx} {p : Nat → Bool} {j : Nat} {x2 : Int32} (hp : ∀ i, i ≤ 100 → m_X11_leadsToWhatWasSeen σ (nI j) (nI i) = some (if p i = true then 1 else 0)) : ∀ (r n i m : Nat) (L G : Int32), i + r = 101 → r < n → m ≤ i → m_X11_could_L38 σ n (nI j) x2 (nI m) L G (nI i) = some (x2, nI (cdF p r i m L G).1, (cdF p r i m L G).2.1, (cdF p r i m L G).2.2) := by
  intro r
  induction r with
  | zero =>
    intro n i m L G hi hn hm
    obtain ⟨n, rfl⟩ : ∃ k, n = k + 1 := ⟨n - 1, by omega⟩
    rw [m_X11_could_L38, if_pos (show (100 : Int32) < nI i from nI_lt (show 100 < i by omega) (by omega))]
    rfl
  | succ r ih =>
    intro n i m L G hi hn hm
    obtain ⟨n, rfl⟩ : ∃ k, n = k + 1 := ⟨n - 1, by omega⟩
    rw [m_X11_could_L38, if_neg (show ¬ (100 : Int32) < nI i from nI_nlt (show i ≤ 100 by omega) (by decide)), hp i (by omega), bs, nI_1, nI_1, cdF]
    cases hpi : p i with
    | false =>
      rw [if_pos (show (if false = true then (1 : Int32) else 0) = 0 by decide), if_neg (show ¬ (false = true) by decide)]
      exact ih n (i + 1) _ _ _ (by omega) (by omega) (by omega)
    | true =>
      rw [if_pos rfl, if_neg (by decide), if_pos rfl]
      by_cases q : m = 0
      · rw [if_pos q, if_pos (by rw [q]; rfl)]
        exact ih n (i + 1) _ _ _ (by omega) (by omega) (by omega)
      · rw [if_neg q, if_neg (show ¬ nI (m + 1) = 1 from fun z => q (by have := (nI_eq (a := m + 1) (b := 1) (by omega) (by decide)).mp z; omega))]
        exact ih n (i + 1) _ _ _ (by omega) (by omega) (by omega)
theorem nI_n9 {i : Nat} (h : i < 2 ^ 31) : ¬ nI i = -9 := by
  intro e
  have := congrArg Int32.toInt e
  rw [nI_toInt h] at this
  have h9 : (-9 : Int32).toInt = -9 := by decide
  omega
theorem mcd {τ : Sx} {p : Nat → Bool} {j k t w : Nat} {x2 : Int32} (hj : j < 6) (hw : w ≤ 100) (e1 : τ.2.2.1 8 (4 * j) = nI k) (e2 : τ.2.2.1 8 (4 * j + 2) = nI t) (e3 : τ.2.2.1 8 (4 * j + 3) = nI w) (F : Nat) (hp : ∀ i, i ≤ 100 → m_X12_risen τ (nI k) (nI i) (nI t) = some (nI (rsF F t i))) (hpp : ∀ i, p i = decide (rsF F t i = w)) : ∀ (r n i m : Nat) (L G : Int32), i + r = 101 → r < n → m ≤ i → (m = 0 ↔ L = -9) → m_X12_could_L43 n (nI j) x2 (nI m) L G (nI i) τ = some (x2, nI (cdF p r i m L G).1, (cdF p r i m L G).2.1, (cdF p r i m L G).2.2, τ) := by
  have q4 : (4 : Int32) * nI j = nI (4 * j) := pk_mul 4 j
  have q5 : nI (4 * j) + 2 = nI (4 * j + 2) := nI_add _ 2
  have q6 : nI (4 * j) + 3 = nI (4 * j + 3) := nI_add _ 3
  intro r
  induction r with
  | zero =>
    intro n i m L G hi hn hm hL
    obtain ⟨n, rfl⟩ : ∃ k, n = k + 1 := ⟨n - 1, by omega⟩
    rw [m_X12_could_L43, if_pos (show (101 : Int32) ≤ nI i from nI_le (show 101 ≤ i by omega) (by omega))]
    rfl
  | succ r ih =>
    intro n i m L G hi hn hm hL
    obtain ⟨n, rfl⟩ : ∃ k, n = k + 1 := ⟨n - 1, by omega⟩
    have hr := rsF_le (F := F) t i (by omega)
    rw [m_X12_could_L43, if_neg (show ¬ (101 : Int32) ≤ nI i from nI_ge (show i < 101 by omega) (by decide)), q4, q5, q6, ldk (n := 24) rfl (by omega) (by decide), bs, e1, ldk (n := 24) rfl (by omega) (by decide), bs, e2, hp i (by omega), bs, ldk (n := 24) rfl (by omega) (by decide), bs, e3, nI_1, nI_1, cdF, hpp i]
    by_cases q : rsF F t i = w
    · rw [if_pos (by rw [q]), if_pos (decide_eq_true q)]
      by_cases q0 : m = 0
      · rw [if_pos q0, if_pos (hL.mp q0)]
        exact ih n (i + 1) _ _ _ (by omega) (by omega) (by omega) ⟨fun z => by omega, fun z => absurd z (nI_n9 (by omega))⟩
      · rw [if_neg q0, if_neg (fun z => q0 (hL.mpr z))]
        exact ih n (i + 1) _ _ _ (by omega) (by omega) (by omega) ⟨fun z => by omega, fun z => absurd (hL.mpr z) q0⟩
    · rw [if_neg (fun z => q ((nI_eq (by omega) (by omega)).mp z)), if_neg (by simpa using q)]
      exact ih n (i + 1) _ _ _ (by omega) (by omega) (by omega) hL
theorem OKcould : OK_could INV := by
  intro σ τ x y hinv
  have hinv2 : INV σ (sg τ 0 0) := hinv
  unfold m_X12_could m_X11_could
  generalize sg τ 0 0 = τ at hinv2 ⊢
  obtain ⟨d, hR, hN⟩ := INV_iff.mp hinv2
  obtain ⟨hb, hc, hm, -, -, ⟨n, b1, b2, b3, b4⟩, -⟩ := hR
  rw [b2, b3]
  rcases wj x (nI_m1 n (by omega)) (by omega) with ⟨j, hj, rfl, e1, e2⟩ | ⟨e1, e2⟩
  · rcases wl y 2 (by decide) with ⟨w, hw, rfl, f1, f2⟩ | ⟨f1, f2⟩
    · have f1 : m_X11_isWithin (nI w) 0 2 = some 1 := f1
      have f2 : m_X12_in (nI w) 0 2 = some 1 := f2
      obtain ⟨k, a, t, v, k1, k2, k3, k4, hl, g1, g2, g3, g4⟩ := b4 j hj
      have h1 := ccd (σ := σ) (p := fun i => decide (rsF (d.2 0 k) t i = v)) (j := j) (x2 := nI w) (fun i hi => by
        rw [cleadsN hb hc (by omega) hl k1 k3 k4 hi]
        by_cases q : rsF (d.2 0 k) t i = v <;> simp [q]) 101 FU 0 0 (-9) (-9) (by decide) (by decide) (by decide)
      have h2 := mcd (τ := τ) (p := fun i => decide (rsF (d.2 0 k) t i = v)) (x2 := nI w) (by omega) k4 g1 g3 g4 (d.2 0 k) (fun i hi => mrisN hb hm k1 k3 hi) (fun i => rfl) 101 FU 0 0 (-9) (-9) (by decide) (by decide) (by decide) (by decide)
      have h1 : m_X11_could_L38 σ FU (nI j) (nI w) 0 (-9) (-9) 0 = _ := h1
      have h2 : m_X12_could_L43 FU (nI j) (nI w) 0 (-9) (-9) 0 τ = _ := h2
      simp only [e1, e2, f1, f2, bs, if_neg n10, h1, h2]
      by_cases q0 : nI w = 0
      · simp only [if_pos q0]
        exact ⟨_, _, rfl, rfl, hinv2⟩
      · simp only [if_neg q0]
        by_cases q1 : nI w = 1
        · simp only [if_pos q1]
          exact ⟨_, _, rfl, rfl, hinv2⟩
        · simp only [if_neg q1]
          exact ⟨_, _, rfl, rfl, hinv2⟩
    · have f1 : m_X11_isWithin y 0 2 = some 0 := f1
      have f2 : m_X12_in y 0 2 = some 0 := f2
      exact ⟨-1, τ, by simp [e1, f1], by simp [e2, f2], hinv2⟩
  · exact ⟨-1, τ, by simp [e1], by simp [e2], hinv2⟩
def lrF (p : Nat → Bool) : Nat → Nat → Int32 → Int32
  | 0, _, a => a
  | r + 1, i, a => lrF p r (i + 1) (if p i = true then a else a ||| ((1 : Int32) <<< (nI i &&& 31)))
theorem OKliars : OK_liars INV := by
  intro σ τ hinv
  have hinv2 : INV σ (sg τ 0 0) := hinv
  unfold m_X12_liars m_X11_liars
  generalize sg τ 0 0 = τ at hinv2 ⊢
  obtain ⟨d, hR, hN⟩ := INV_iff.mp hinv2
  obtain ⟨hb, hc, hm, -, -, ⟨n, b1, b2, b3, b4⟩, -⟩ := hR
  obtain ⟨p, hp1, hp2⟩ : ∃ p : Nat → Bool, (∀ j, j < n → ∃ a, a ≤ 100 ∧ σ.2.2.1 20 j = nI a ∧ m_X11_leadsToWhatWasSeen σ (nI j) (nI a) = some (if p j = true then 1 else 0)) ∧ (∀ j, j < n → ∃ k a t v w, w ≤ 100 ∧ v ≤ 100 ∧ τ.2.2.1 8 (4 * j) = nI k ∧ τ.2.2.1 8 (4 * j + 1) = nI a ∧ τ.2.2.1 8 (4 * j + 2) = nI t ∧ τ.2.2.1 8 (4 * j + 3) = nI v ∧ m_X12_risen τ (nI k) (nI a) (nI t) = some (nI w) ∧ p j = decide (w = v)) := by
    refine ⟨fun j => if h : j < n then decide (rsF (d.2 0 (b4 j h).choose) (b4 j h).choose_spec.choose_spec.choose (b4 j h).choose_spec.choose = (b4 j h).choose_spec.choose_spec.choose_spec.choose) else false, fun j hj => ?_, fun j hj => ?_⟩
    · obtain ⟨k1, k2, k3, k4, hl, g⟩ := (b4 j hj).choose_spec.choose_spec.choose_spec.choose_spec
      refine ⟨(b4 j hj).choose_spec.choose, k2, hl.2.1, ?_⟩
      rw [cleadsN hb hc (by omega) hl k1 k3 k4 k2]
      simp only [dif_pos hj]
      simp
    · obtain ⟨k1, k2, k3, k4, hl, g1, g2, g3, g4⟩ := (b4 j hj).choose_spec.choose_spec.choose_spec.choose_spec
      refine ⟨_, _, _, _, _, rsF_le _ _ k2, k4, g1, g2, g3, g4, mrisN hb hm k1 k3 k2, ?_⟩
      simp only [dif_pos hj]
  have h1 : ∀ (r m i : Nat) (a : Int32), i + r = n → r < m → m_X11_liars_L4 σ m a (nI i) = some (lrF p r i a) := by
    intro r
    induction r with
    | zero =>
      intro m i a hi hm
      obtain ⟨m, rfl⟩ : ∃ k, m = k + 1 := ⟨m - 1, by omega⟩
      rw [m_X11_liars_L4, b2, if_pos (nI_le (by omega) (by omega))]
      rfl
    | succ r ih =>
      intro m i a hi hm
      obtain ⟨m, rfl⟩ : ∃ k, m = k + 1 := ⟨m - 1, by omega⟩
      obtain ⟨a0, z1, z2, z3⟩ := hp1 i (by omega)
      rw [m_X11_liars_L4, b2, if_neg (nI_ge (by omega) (by omega)), ldk (n := 6) rfl (by omega) (by decide), bs, z2, z3, bs, nI_1, lrF]
      cases p i with
      | true => exact ih m (i + 1) _ (by omega) (by omega)
      | false => exact ih m (i + 1) _ (by omega) (by omega)
  have h2 : ∀ (r m i : Nat) (a : Int32), i + r = n → r < m → m_X12_liars_L9 m a (nI i) τ = some (lrF p r i a, τ) := by
    intro r
    induction r with
    | zero =>
      intro m i a hi hm
      obtain ⟨m, rfl⟩ : ∃ k, m = k + 1 := ⟨m - 1, by omega⟩
      rw [m_X12_liars_L9, b3, if_pos (nI_le (by omega) (by omega))]
      rfl
    | succ r ih =>
      intro m i a hi hm
      obtain ⟨m, rfl⟩ : ∃ k, m = k + 1 := ⟨m - 1, by omega⟩
      obtain ⟨k, a0, t, v, w, z0, z00, z1, z2, z3, z4, z5, z6⟩ := hp2 i (by omega)
      have hz0 : a ||| 0 = a := Int32.or_zero
      rw [m_X12_liars_L9, b3, if_neg (nI_ge (by omega) (by omega)), show (4 : Int32) * nI i = nI (4 * i) from pk_mul 4 i, show nI (4 * i) + (1 : Int32) = nI (4 * i + 1) from nI_add _ 1, show nI (4 * i) + (2 : Int32) = nI (4 * i + 2) from nI_add _ 2, show nI (4 * i) + (3 : Int32) = nI (4 * i + 3) from nI_add _ 3, ldk (n := 24) rfl (by omega) (by decide), bs, z1, ldk (n := 24) rfl (by omega) (by decide), bs, z2, ldk (n := 24) rfl (by omega) (by decide), bs, z3, z5, bs, ldk (n := 24) rfl (by omega) (by decide), bs, z4, nI_1, hz0, lrF, z6]
      by_cases q : w = v
      · rw [if_pos (by rw [q]), if_pos (decide_eq_true q)]
        exact ih m (i + 1) _ (by omega) (by omega)
      · rw [if_neg (fun z => q ((nI_eq (by omega) (by omega)).mp z)), if_neg (by simpa using q)]
        exact ih m (i + 1) _ (by omega) (by omega)
  have q1 := h1 n FU 0 0 (by omega) (by unfold FU; omega)
  have q2 := h2 n FU 0 0 (by omega) (by unfold FU; omega)
  have q1 : m_X11_liars_L4 σ FU 0 0 = _ := q1
  have q2 : m_X12_liars_L9 FU 0 0 τ = _ := q2
  exact ⟨lrF p n 0 0, τ, by rw [q1, bs], by rw [q2, bs], hinv2⟩
/-! RATE -/
def cof (d : TD) (k : Nat) : Nat → Nat → Nat → Nat
  | 0, _, m => m
  | r + 1, i, m => cof d k r (i + 1) (if d.2 2 i = k then m + 1 else m)
theorem ccof {σ : Sx} {d : TD} (hb : bT d) (hc : cT σ d) {k : Nat} (hk : k < 2 ^ 31) : ∀ (r n i m : Nat), i + r = d.1 2 → r < n → m_X10_callsOf_L4 σ n (nI k) (nI m) (nI i) = some (nI (cof d k r i m)) := by
  have h8 : d.1 2 ≤ 8 := hb.2.2.1
  have h5 : d.1 0 ≤ 5 := hb.1
  intro r
  induction r with
  | zero =>
    intro n i m hi hn
    obtain ⟨n, rfl⟩ : ∃ k, n = k + 1 := ⟨n - 1, by omega⟩
    rw [m_X10_callsOf_L4, hc.1.2.2.1, if_pos (nI_le (by omega) (by omega))]
    rfl
  | succ r ih =>
    intro n i m hi hn
    obtain ⟨n, rfl⟩ : ∃ k, n = k + 1 := ⟨n - 1, by omega⟩
    have c1 := (hb.2.2.2.2.2.1 i (by omega)).1
    rw [m_X10_callsOf_L4, hc.1.2.2.1, if_neg (nI_ge (by omega) (by omega)), ldk (n := 8) rfl (by omega) (by decide), bs, (hc.2.2.1 i (by omega)).1, nI_1, nI_1, cof]
    by_cases q : d.2 2 i = k
    · rw [if_pos q, if_pos (by rw [q])]
      exact ih n (i + 1) _ (by omega) (by omega)
    · rw [if_neg q, if_neg (fun z => q ((nI_eq (by omega) hk).mp z))]
      exact ih n (i + 1) _ (by omega) (by omega)
theorem mcof {τ : Sx} {d : TD} (hb : bT d) (hm : mT τ d) {k : Nat} (hk : k < 2 ^ 31) (x1 x3 : Int32) : ∀ (r n i m : Nat) (b : Int32), i + r = d.1 2 → r < n → m_X12_rate_L40 n x1 (nI k) x3 (b + nI m) (nI i) τ = some (x1, nI k, x3, b + nI (cof d k r i m), τ) := by
  have h8 : d.1 2 ≤ 8 := hb.2.2.1
  have h5 : d.1 0 ≤ 5 := hb.1
  intro r
  induction r with
  | zero =>
    intro n i m b hi hn
    obtain ⟨n, rfl⟩ : ∃ k, n = k + 1 := ⟨n - 1, by omega⟩
    rw [m_X12_rate_L40, hm.1.2.2.1, if_pos (nI_le (by omega) (by omega))]
    rfl
  | succ r ih =>
    intro n i m b hi hn
    obtain ⟨n, rfl⟩ : ∃ k, n = k + 1 := ⟨n - 1, by omega⟩
    have c1 := (hb.2.2.2.2.2.1 i (by omega)).1
    rw [m_X12_rate_L40, hm.1.2.2.1, if_neg (nI_ge (by omega) (by omega)), show (3 : Int32) * nI i = nI (3 * i) from pk_mul 3 i, ldk (n := 48) rfl (by omega) (by decide), bs, (hm.2.2.1 i (by omega)).1, nI_1, cof]
    by_cases q : d.2 2 i = k
    · rw [if_pos q, if_pos (by rw [q]), Int32.add_assoc, nI_1]
      exact ih n (i + 1) _ _ (by omega) (by omega)
    · rw [if_neg q, if_neg (fun z => q ((nI_eq (by omega) hk).mp z)), Int32.add_zero]
      exact ih n (i + 1) _ _ (by omega) (by omega)
