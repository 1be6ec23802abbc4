/-! what was told is taken over -/
theorem mst47 {τ : Sx} : ∀ (r n i : Nat), i + r = 15 → r < n → m_X12_settles_L47 n (nI i) (sr τ 1 (pt (τ.2.2.1 1) (fun k => τ.2.2.1 1 (15 + k)) 0 i)) = some (sr τ 1 (pt (τ.2.2.1 1) (fun k => τ.2.2.1 1 (15 + k)) 0 15)) := by
  intro r
  induction r with
  | zero =>
    intro n i hi hn
    obtain ⟨n, rfl⟩ : ∃ k, n = k + 1 := ⟨n - 1, by omega⟩
    obtain rfl : i = 15 := by omega
    rw [m_X12_settles_L47, if_pos (by decide)]
  | succ r ih =>
    intro n i hi hn
    obtain ⟨n, rfl⟩ : ∃ k, n = k + 1 := ⟨n - 1, by omega⟩
    rw [m_X12_settles_L47, if_neg (show ¬ (15 : Int32) ≤ nI i from nI_ge (show i < 15 by omega) (by decide)), show (15 : Int32) + nI i = nI (15 + i) from nI_add 15 i, ldk (n := 30) rfl (by omega) (by decide), bs, stk (n := 30) rfl (by omega) (by decide), bs, sr_sr, nI_1]
    have e1 : (sr τ 1 (pt (τ.2.2.1 1) (fun k => τ.2.2.1 1 (15 + k)) 0 i)).2.2.1 1 = pt (τ.2.2.1 1) (fun k => τ.2.2.1 1 (15 + k)) 0 i := rfl
    have e2 : pt (τ.2.2.1 1) (fun k => τ.2.2.1 1 (15 + k)) 0 i (15 + i) = τ.2.2.1 1 (15 + i) := pt_out (by omega)
    have e3 := pt_s (τ.2.2.1 1) (fun k => τ.2.2.1 1 (15 + k)) 0 i
    rw [Nat.zero_add] at e3
    rw [e1, e2, e3]
    exact ih n (i + 1) (by omega) (by omega)
theorem mst76 {τ : Sx} : ∀ (r n i : Nat), i + r = 24 → r < n → m_X12_settles_L76 n (nI i) (sr τ 2 (pt (τ.2.2.1 2) (fun k => τ.2.2.1 2 (24 + k)) 0 i)) = some (sr τ 2 (pt (τ.2.2.1 2) (fun k => τ.2.2.1 2 (24 + k)) 0 24)) := by
  intro r
  induction r with
  | zero =>
    intro n i hi hn
    obtain ⟨n, rfl⟩ : ∃ k, n = k + 1 := ⟨n - 1, by omega⟩
    obtain rfl : i = 24 := by omega
    rw [m_X12_settles_L76, if_pos (by decide)]
  | succ r ih =>
    intro n i hi hn
    obtain ⟨n, rfl⟩ : ∃ k, n = k + 1 := ⟨n - 1, by omega⟩
    rw [m_X12_settles_L76, if_neg (show ¬ (24 : Int32) ≤ nI i from nI_ge (show i < 24 by omega) (by decide)), show (24 : Int32) + nI i = nI (24 + i) from nI_add 24 i, ldk (n := 48) rfl (by omega) (by decide), bs, stk (n := 48) rfl (by omega) (by decide), bs, sr_sr, nI_1]
    have e1 : (sr τ 2 (pt (τ.2.2.1 2) (fun k => τ.2.2.1 2 (24 + k)) 0 i)).2.2.1 2 = pt (τ.2.2.1 2) (fun k => τ.2.2.1 2 (24 + k)) 0 i := rfl
    have e2 : pt (τ.2.2.1 2) (fun k => τ.2.2.1 2 (24 + k)) 0 i (24 + i) = τ.2.2.1 2 (24 + i) := pt_out (by omega)
    have e3 := pt_s (τ.2.2.1 2) (fun k => τ.2.2.1 2 (24 + k)) 0 i
    rw [Nat.zero_add] at e3
    rw [e1, e2, e3]
    exact ih n (i + 1) (by omega) (by omega)
theorem mst105 {τ : Sx} : ∀ (r n i : Nat), i + r = 4 → r < n → m_X12_settles_L105 n (nI i) (sr τ 3 (pt (τ.2.2.1 3) (fun k => τ.2.2.1 3 (4 + k)) 0 i)) = some (sr τ 3 (pt (τ.2.2.1 3) (fun k => τ.2.2.1 3 (4 + k)) 0 4)) := by
  intro r
  induction r with
  | zero =>
    intro n i hi hn
    obtain ⟨n, rfl⟩ : ∃ k, n = k + 1 := ⟨n - 1, by omega⟩
    obtain rfl : i = 4 := by omega
    rw [m_X12_settles_L105, if_pos (by decide)]
  | succ r ih =>
    intro n i hi hn
    obtain ⟨n, rfl⟩ : ∃ k, n = k + 1 := ⟨n - 1, by omega⟩
    rw [m_X12_settles_L105, if_neg (show ¬ (4 : Int32) ≤ nI i from nI_ge (show i < 4 by omega) (by decide)), show (4 : Int32) + nI i = nI (4 + i) from nI_add 4 i, ldk (n := 8) rfl (by omega) (by decide), bs, stk (n := 8) rfl (by omega) (by decide), bs, sr_sr, nI_1]
    have e1 : (sr τ 3 (pt (τ.2.2.1 3) (fun k => τ.2.2.1 3 (4 + k)) 0 i)).2.2.1 3 = pt (τ.2.2.1 3) (fun k => τ.2.2.1 3 (4 + k)) 0 i := rfl
    have e2 : pt (τ.2.2.1 3) (fun k => τ.2.2.1 3 (4 + k)) 0 i (4 + i) = τ.2.2.1 3 (4 + i) := pt_out (by omega)
    have e3 := pt_s (τ.2.2.1 3) (fun k => τ.2.2.1 3 (4 + k)) 0 i
    rw [Nat.zero_add] at e3
    rw [e1, e2, e3]
    exact ih n (i + 1) (by omega) (by omega)
theorem mst132 {τ : Sx} : ∀ (r n i : Nat), i + r = 14 → r < n → m_X12_settles_L132 n (nI i) (sr τ 4 (pt (τ.2.2.1 4) (fun _ => 0) 0 i)) = some (sr τ 4 (pt (τ.2.2.1 4) (fun _ => 0) 0 14)) := by
  intro r
  induction r with
  | zero =>
    intro n i hi hn
    obtain ⟨n, rfl⟩ : ∃ k, n = k + 1 := ⟨n - 1, by omega⟩
    obtain rfl : i = 14 := by omega
    rw [m_X12_settles_L132, if_pos (by decide)]
  | succ r ih =>
    intro n i hi hn
    obtain ⟨n, rfl⟩ : ∃ k, n = k + 1 := ⟨n - 1, by omega⟩
    rw [m_X12_settles_L132, if_neg (show ¬ (14 : Int32) ≤ nI i from nI_ge (show i < 14 by omega) (by decide)), stk (n := 14) rfl (by omega) (by decide), bs, sr_sr, nI_1]
    have e1 : (sr τ 4 (pt (τ.2.2.1 4) (fun _ => 0) 0 i)).2.2.1 4 = pt (τ.2.2.1 4) (fun _ => 0) 0 i := rfl
    have e3 := pt_s (τ.2.2.1 4) (fun _ => 0) 0 i
    rw [Nat.zero_add] at e3
    rw [e1, e3]
    exact ih n (i + 1) (by omega) (by omega)
theorem mst153 {P : Nat} (hP : P ≤ 5) : ∀ (r n i : Nat) (τ : Sx), τ.1 7 = nI P → i + r = P → r < n → ∃ f, m_X12_settles_L153 n (nI i) τ = some (sr τ 4 f) ∧ (∀ z, z < 4 + i ∨ 4 + P ≤ z → f z = τ.2.2.1 4 z) ∧ ∀ k, i ≤ k → k < P → f (4 + k) = τ.2.2.1 1 (3 * k) := by
  intro r
  induction r with
  | zero =>
    intro n i τ h7 hi hn
    obtain ⟨n, rfl⟩ : ∃ k, n = k + 1 := ⟨n - 1, by omega⟩
    exact ⟨τ.2.2.1 4, by rw [m_X12_settles_L153, h7, if_pos (nI_le (by omega) (by omega)), sr_self], fun _ _ => rfl, fun k h1 h2 => by omega⟩
  | succ r ih =>
    intro n i τ h7 hi hn
    obtain ⟨n, rfl⟩ : ∃ k, n = k + 1 := ⟨n - 1, by omega⟩
    obtain ⟨f, p1, p2, p3⟩ := ih n (i + 1) (sr τ 4 (upd (τ.2.2.1 4) (4 + i) (τ.2.2.1 1 (3 * i)))) h7 (by omega) (by omega)
    rw [sr_sr] at p1
    refine ⟨f, ?_, fun z hz => ?_, fun k h1 h2 => ?_⟩
    · rw [m_X12_settles_L153, h7, if_neg (nI_ge (by omega) (by omega)), show (3 : Int32) * nI i = nI (3 * i) from pk_mul 3 i, ldk (n := 30) rfl (by omega) (by decide), bs, show (4 : Int32) + nI i = nI (4 + i) from nI_add 4 i, stk (n := 14) rfl (by omega) (by decide), bs, nI_1]
      exact p1
    · rw [p2 z (by omega)]
      exact upd_n _ _ (by omega)
    · by_cases q : k = i
      · subst q
        rw [p2 (4 + k) (by omega)]
        exact upd_s _ _ _
      · rw [p3 k (by omega) h2]
        rfl
theorem cbg : ∀ (r n i : Nat) (σ : Sx), (∀ k, k < i → σ.2.2.1 17 k = σ.2.2.1 0 k ∧ σ.2.2.1 18 k = 0) → i + r = 5 → r < n → ∃ σ', m_X4_begin_L22 n (nI i) σ = some σ' ∧ σ'.1 = σ.1 ∧ σ'.2.1 = σ.2.1 ∧ (∀ j, j ≠ 17 → j ≠ 18 → σ'.2.2.1 j = σ.2.2.1 j) ∧ ∀ k, k < 5 → σ'.2.2.1 17 k = σ.2.2.1 0 k ∧ σ'.2.2.1 18 k = 0 := by
  intro r
  induction r with
  | zero =>
    intro n i σ h hi hn
    obtain ⟨n, rfl⟩ : ∃ k, n = k + 1 := ⟨n - 1, by omega⟩
    obtain rfl : i = 5 := by omega
    exact ⟨σ, by rw [m_X4_begin_L22, if_pos (by decide)], rfl, rfl, fun _ _ _ => rfl, h⟩
  | succ r ih =>
    intro n i σ h hi hn
    obtain ⟨n, rfl⟩ : ∃ k, n = k + 1 := ⟨n - 1, by omega⟩
    have h' : ∀ k, k < i + 1 → upd (σ.2.2.1 17) i (σ.2.2.1 0 i) k = σ.2.2.1 0 k ∧ upd (σ.2.2.1 18) i 0 k = 0 := fun k hk => by
      by_cases q : k = i
      · subst q; rw [upd_s, upd_s]; exact ⟨rfl, rfl⟩
      · rw [upd_n _ _ q, upd_n _ _ q]; exact h k (by omega)
    obtain ⟨σ', p1, p2, p3, p4, p5⟩ := ih n (i + 1) (sr (sr σ 17 (upd (σ.2.2.1 17) i (σ.2.2.1 0 i))) 18 (upd (σ.2.2.1 18) i 0)) h' (by omega) (by omega)
    rw [m_X4_begin_L22, if_neg (show ¬ (5 : Int32) ≤ nI i from nI_ge (show i < 5 by omega) (by decide)), ldk (n := 5) rfl (by omega) (by decide), bs, stk (n := 5) rfl (by omega) (by decide), bs, stk (n := 5) rfl (by omega) (by decide), bs, nI_1]
    refine ⟨σ', p1, p2, p3, fun j h1 h2 => ?_, p5⟩
    rw [p4 j h1 h2, sr_ne h2, sr_ne h1]
def cpy (f g : Nat → Int32) (n : Nat) : Nat → Int32 := va_cpy f g 0 0 n
theorem cpy_in {f g : Nat → Int32} {n k : Nat} (h : k < n) : cpy f g n k = f k := by
  have := pk_cpy_in (f := f) (g := g) (sp := 0) (dp := 0) (n := n) (j := k) (by omega) (by omega)
  unfold cpy
  rw [this]
  congr 1
  omega
theorem ctk (σ : Sx) : ∃ σ', m_X10_take σ = some σ' ∧ ((σ'.1 0 = σ.1 4 ∧ σ'.1 1 = σ.1 5 ∧ σ'.1 2 = σ.1 6 ∧ σ'.1 3 = σ.1 7) ∧ ∀ i, 4 ≤ i → σ'.1 i = σ.1 i) ∧ σ'.2.1 = σ.2.1 ∧ (∀ j, 8 ≤ j → σ'.2.2.1 j = σ.2.2.1 j) ∧ (∀ k, k < 5 → σ'.2.2.1 0 k = σ.2.2.1 8 k ∧ σ'.2.2.1 1 k = σ.2.2.1 9 k ∧ σ'.2.2.1 2 k = σ.2.2.1 10 k) ∧ (∀ k, k < 8 → σ'.2.2.1 3 k = σ.2.2.1 11 k ∧ σ'.2.2.1 4 k = σ.2.2.1 12 k ∧ σ'.2.2.1 5 k = σ.2.2.1 13 k) ∧ ∀ k, k < 2 → σ'.2.2.1 6 k = σ.2.2.1 14 k ∧ σ'.2.2.1 7 k = σ.2.2.1 15 k := by
  have c5 : ∀ (σ : Sx) (i j : Nat), i < 47 ∧ j < 47 → cLn i = 5 → cLn j = 5 → cpA cLn σ i j 0 0 5 = some (sr σ j (cpy (σ.2.2.1 i) (σ.2.2.1 j) 5)) := fun σ i j h1 h2 h3 => by
    unfold cpA
    rw [h2, h3, if_pos ⟨h1, by decide, by decide⟩]; rfl
  have c8 : ∀ (σ : Sx) (i j : Nat), i < 47 ∧ j < 47 → cLn i = 8 → cLn j = 8 → cpA cLn σ i j 0 0 8 = some (sr σ j (cpy (σ.2.2.1 i) (σ.2.2.1 j) 8)) := fun σ i j h1 h2 h3 => by
    unfold cpA
    rw [h2, h3, if_pos ⟨h1, by decide, by decide⟩]; rfl
  have c2 : ∀ (σ : Sx) (i j : Nat), i < 47 ∧ j < 47 → cLn i = 2 → cLn j = 2 → cpA cLn σ i j 0 0 2 = some (sr σ j (cpy (σ.2.2.1 i) (σ.2.2.1 j) 2)) := fun σ i j h1 h2 h3 => by
    unfold cpA
    rw [h2, h3, if_pos ⟨h1, by decide, by decide⟩]; rfl
  unfold m_X10_take
  rw [c5 _ 8 0 (by decide) rfl rfl, bs, c5 _ 9 1 (by decide) rfl rfl, bs, c5 _ 10 2 (by decide) rfl rfl, bs, c8 _ 11 3 (by decide) rfl rfl, bs, c8 _ 12 4 (by decide) rfl rfl, bs, c8 _ 13 5 (by decide) rfl rfl, bs, c2 _ 14 6 (by decide) rfl rfl, bs, c2 _ 15 7 (by decide) rfl rfl, bs]
  refine ⟨_, rfl, ⟨⟨rfl, rfl, rfl, rfl⟩, fun i hi => ?_⟩, rfl, fun j hj => ?_, fun k hk => ⟨cpy_in hk, cpy_in hk, cpy_in hk⟩, fun k hk => ⟨cpy_in hk, cpy_in hk, cpy_in hk⟩, fun k hk => ⟨cpy_in hk, cpy_in hk⟩⟩
  · rw [sr_1, sr_1, sr_1, sr_1, sr_1, sr_1, sr_1, sr_1, sg_1, if_neg (by omega), sg_1, if_neg (by omega), sg_1, if_neg (by omega), sg_1, if_neg (by omega)]
  · rw [sr_ne (by omega), sr_ne (by omega), sr_ne (by omega), sr_ne (by omega), sr_ne (by omega), sr_ne (by omega), sr_ne (by omega), sr_ne (by omega)]
    rfl
theorem c64 (σ : Sx) (x : Int32) : m_X11_room_L64 FU x 0 σ = some (x, sr (sr σ 47 (upd (σ.2.2.1 47) 0 0)) 47 (upd (upd (σ.2.2.1 47) 0 0) 1 0)) := by
  have s0 : ∀ (σ : Sx), stZ σ 47 0 0 = some (sr σ 47 (upd (σ.2.2.1 47) 0 0)) := fun σ => stzk (k := 0) (by decide)
  have s1 : ∀ (σ : Sx), stZ σ 47 (0 + 1) 0 = some (sr σ 47 (upd (σ.2.2.1 47) 1 0)) := fun σ => stzk (k := 1) (by decide)
  rw [show FU = 99997 + 1 + 1 + 1 from rfl, m_X11_room_L64, if_neg (by decide), s0, bs, m_X11_room_L64, if_neg (by decide), s1, bs, m_X11_room_L64, if_pos (by decide)]
  rfl
