/-! rows copied -/
theorem sr_sr (σ : Sx) (j : Nat) (f g : Nat → Int32) : sr (sr σ j f) j g = sr σ j g := by unfold sr; rw [bx_uu]
theorem sr_self (σ : Sx) (j : Nat) : sr σ j (σ.2.2.1 j) = σ := by
  unfold sr
  have : va_up σ.2.2.1 j (σ.2.2.1 j) = σ.2.2.1 := by
    funext i
    unfold va_up
    split
    · next h => rw [h]
    · rfl
  rw [this]
def pt (g f : Nat → Int32) (a n : Nat) : Nat → Int32 := fun k => if a ≤ k ∧ k < a + n then f (k - a) else g k
theorem pt_0 (g f : Nat → Int32) (a : Nat) : pt g f a 0 = g := by
  funext k
  unfold pt
  rw [if_neg (by omega)]
theorem pt_s (g f : Nat → Int32) (a n : Nat) : upd (pt g f a n) (a + n) (f n) = pt g f a (n + 1) := by
  funext k
  unfold upd pt
  by_cases h : k = a + n
  · rw [if_pos h, if_pos (by omega), h]; congr 1; omega
  · rw [if_neg h]
    by_cases h2 : a ≤ k ∧ k < a + n
    · rw [if_pos h2, if_pos (by omega)]
    · rw [if_neg h2, if_neg (by omega)]
theorem pt_in {g f : Nat → Int32} {a n k : Nat} (h : k < n) : pt g f a n (a + k) = f k := by
  unfold pt
  rw [if_pos (by omega)]; congr 1; omega
theorem pt_out {g f : Nat → Int32} {a n k : Nat} (h : k < a ∨ a + n ≤ k) : pt g f a n k = g k := by
  unfold pt
  rw [if_neg (by omega)]
theorem SN.congr {P : Nat} {f g f' g' : Nat → Int32} (hP : P ≤ 5) (h : SN P f g) (h1 : ∀ i, i < 14 → f' i = f i) (h2 : ∀ i, i < 14 → g' i = g i) : SN P f' g' := by
  obtain ⟨a1, ⟨t, b1, b2, b3⟩, o, c1, c2⟩ := h
  refine ⟨fun i hi => by rw [h1 i (by omega), h2 i (by omega)]; exact a1 i hi, ⟨t, b1, by rw [h2 0 (by decide)]; exact b2, fun k hk => ?_⟩, o, c1, by rw [h2 1 (by decide)]; exact c2⟩
  rw [h1 (4 + k) (by omega), h2 (4 + k) (by omega), h1 (9 + k) (by omega), h2 (9 + k) (by omega)]
  exact b3 k hk
theorem mcp46 {τ : Sx} {u : Nat} (hu : τ.1 15 = nI u) (h9 : u ≤ 9) : ∀ (r n i : Nat), i + r = 14 → r < n → m_X12_notes_L46 n (nI i) (sr τ 7 (pt (τ.2.2.1 7) (τ.2.2.1 4) (14 * u) i)) = some (sr τ 7 (pt (τ.2.2.1 7) (τ.2.2.1 4) (14 * u) 14)) := by
  intro r
  induction r with
  | zero =>
    intro n i hi hn
    obtain ⟨n, rfl⟩ : ∃ k, n = k + 1 := ⟨n - 1, by omega⟩
    obtain rfl : i = 14 := by omega
    rw [m_X12_notes_L46, if_pos (by decide)]
  | succ r ih =>
    intro n i hi hn
    obtain ⟨n, rfl⟩ : ∃ k, n = k + 1 := ⟨n - 1, by omega⟩
    rw [m_X12_notes_L46, if_neg (show ¬ (14 : Int32) ≤ nI i from nI_ge (show i < 14 by omega) (by decide)), ldk (n := 14) rfl (by omega) (by decide), bs, sr_1, hu, show (14 : Int32) * nI u = nI (14 * u) from pk_mul 14 u, nI_add, stk (n := 140) rfl (by omega) (by decide), bs, sr_sr, nI_1]
    have e1 : (sr τ 7 (pt (τ.2.2.1 7) (τ.2.2.1 4) (14 * u) i)).2.2.1 7 = pt (τ.2.2.1 7) (τ.2.2.1 4) (14 * u) i := rfl
    have e2 : (sr τ 7 (pt (τ.2.2.1 7) (τ.2.2.1 4) (14 * u) i)).2.2.1 4 i = τ.2.2.1 4 i := rfl
    rw [e1, e2, pt_s]
    exact ih n (i + 1) (by omega) (by omega)
theorem mcp11 {τ : Sx} : ∀ (r n i : Nat), i + r = 126 → r < n → m_X12_notes_L11 n (nI i) (sr τ 7 (pt (τ.2.2.1 7) (fun k => τ.2.2.1 7 (k + 14)) 0 i)) = some (sr τ 7 (pt (τ.2.2.1 7) (fun k => τ.2.2.1 7 (k + 14)) 0 126)) := by
  intro r
  induction r with
  | zero =>
    intro n i hi hn
    obtain ⟨n, rfl⟩ : ∃ k, n = k + 1 := ⟨n - 1, by omega⟩
    obtain rfl : i = 126 := by omega
    rw [m_X12_notes_L11, if_pos (by decide)]
  | succ r ih =>
    intro n i hi hn
    obtain ⟨n, rfl⟩ : ∃ k, n = k + 1 := ⟨n - 1, by omega⟩
    rw [m_X12_notes_L11, if_neg (show ¬ (126 : Int32) ≤ nI i from nI_ge (show i < 126 by omega) (by decide)), show nI i + (14 : Int32) = nI (i + 14) from nI_add i 14, ldk (n := 140) rfl (by omega) (by decide), bs, stk (n := 140) rfl (by omega) (by decide), bs, sr_sr, nI_1]
    have e1 : (sr τ 7 (pt (τ.2.2.1 7) (fun k => τ.2.2.1 7 (k + 14)) 0 i)).2.2.1 7 = pt (τ.2.2.1 7) (fun k => τ.2.2.1 7 (k + 14)) 0 i := rfl
    rw [e1, pt_out (show i + 14 < 0 ∨ 0 + i ≤ i + 14 by omega)]
    have e3 := pt_s (τ.2.2.1 7) (fun k => τ.2.2.1 7 (k + 14)) 0 i
    rw [Nat.zero_add] at e3
    rw [e3]
    exact ih n (i + 1) (by omega) (by omega)
theorem mcp27 {τ : Sx} {u : Nat} (hu : τ.1 15 = nI u) (h9 : u ≤ 9) : ∀ (r n i : Nat), i + r = 14 → r < n → m_X12_undo_L27 n (nI i) (sr τ 4 (pt (τ.2.2.1 4) (fun k => τ.2.2.1 7 (14 * u + k)) 0 i)) = some (sr τ 4 (pt (τ.2.2.1 4) (fun k => τ.2.2.1 7 (14 * u + k)) 0 14)) := by
  intro r
  induction r with
  | zero =>
    intro n i hi hn
    obtain ⟨n, rfl⟩ : ∃ k, n = k + 1 := ⟨n - 1, by omega⟩
    obtain rfl : i = 14 := by omega
    rw [m_X12_undo_L27, if_pos (by decide)]
  | succ r ih =>
    intro n i hi hn
    obtain ⟨n, rfl⟩ : ∃ k, n = k + 1 := ⟨n - 1, by omega⟩
    rw [m_X12_undo_L27, if_neg (show ¬ (14 : Int32) ≤ nI i from nI_ge (show i < 14 by omega) (by decide)), sr_1, hu, show (14 : Int32) * nI u = nI (14 * u) from pk_mul 14 u, nI_add, ldk (n := 140) rfl (by omega) (by decide), bs, stk (n := 14) rfl (by omega) (by decide), bs, sr_sr, nI_1]
    have e1 : (sr τ 4 (pt (τ.2.2.1 4) (fun k => τ.2.2.1 7 (14 * u + k)) 0 i)).2.2.1 4 = pt (τ.2.2.1 4) (fun k => τ.2.2.1 7 (14 * u + k)) 0 i := rfl
    have e2 : (sr τ 4 (pt (τ.2.2.1 4) (fun k => τ.2.2.1 7 (14 * u + k)) 0 i)).2.2.1 7 (14 * u + i) = τ.2.2.1 7 (14 * u + i) := rfl
    have e3 := pt_s (τ.2.2.1 4) (fun k => τ.2.2.1 7 (14 * u + k)) 0 i
    rw [Nat.zero_add] at e3
    rw [e1, e2, e3]
    exact ih n (i + 1) (by omega) (by omega)
theorem mcp18 {τ : Sx} {u : Nat} (h9 : u ≤ 1) : ∀ (r n i : Nat), i + r = 14 → r < n → m_X12_keep_L18 n (nI u) (nI i) (sr τ 6 (pt (τ.2.2.1 6) (τ.2.2.1 4) (14 * u) i)) = some (nI u, sr τ 6 (pt (τ.2.2.1 6) (τ.2.2.1 4) (14 * u) 14)) := by
  intro r
  induction r with
  | zero =>
    intro n i hi hn
    obtain ⟨n, rfl⟩ : ∃ k, n = k + 1 := ⟨n - 1, by omega⟩
    obtain rfl : i = 14 := by omega
    rw [m_X12_keep_L18, if_pos (by decide)]
  | succ r ih =>
    intro n i hi hn
    obtain ⟨n, rfl⟩ : ∃ k, n = k + 1 := ⟨n - 1, by omega⟩
    rw [m_X12_keep_L18, if_neg (show ¬ (14 : Int32) ≤ nI i from nI_ge (show i < 14 by omega) (by decide)), ldk (n := 14) rfl (by omega) (by decide), bs, show (14 : Int32) * nI u = nI (14 * u) from pk_mul 14 u, nI_add, stk (n := 28) rfl (by omega) (by decide), bs, sr_sr, nI_1]
    have e1 : (sr τ 6 (pt (τ.2.2.1 6) (τ.2.2.1 4) (14 * u) i)).2.2.1 6 = pt (τ.2.2.1 6) (τ.2.2.1 4) (14 * u) i := rfl
    have e2 : (sr τ 6 (pt (τ.2.2.1 6) (τ.2.2.1 4) (14 * u) i)).2.2.1 4 i = τ.2.2.1 4 i := rfl
    rw [e1, e2, pt_s]
    exact ih n (i + 1) (by omega) (by omega)
theorem mcp30 {τ : Sx} {u : Nat} (h9 : u ≤ 1) : ∀ (r n i : Nat), i + r = 14 → r < n → m_X12_back_L30 n (nI u) (nI i) (sr τ 4 (pt (τ.2.2.1 4) (fun k => τ.2.2.1 6 (14 * u + k)) 0 i)) = some (sr τ 4 (pt (τ.2.2.1 4) (fun k => τ.2.2.1 6 (14 * u + k)) 0 14)) := by
  intro r
  induction r with
  | zero =>
    intro n i hi hn
    obtain ⟨n, rfl⟩ : ∃ k, n = k + 1 := ⟨n - 1, by omega⟩
    obtain rfl : i = 14 := by omega
    rw [m_X12_back_L30, if_pos (by decide)]
  | succ r ih =>
    intro n i hi hn
    obtain ⟨n, rfl⟩ : ∃ k, n = k + 1 := ⟨n - 1, by omega⟩
    rw [m_X12_back_L30, if_neg (show ¬ (14 : Int32) ≤ nI i from nI_ge (show i < 14 by omega) (by decide)), show (14 : Int32) * nI u = nI (14 * u) from pk_mul 14 u, nI_add, ldk (n := 28) rfl (by omega) (by decide), bs, stk (n := 14) rfl (by omega) (by decide), bs, sr_sr, nI_1]
    have e1 : (sr τ 4 (pt (τ.2.2.1 4) (fun k => τ.2.2.1 6 (14 * u + k)) 0 i)).2.2.1 4 = pt (τ.2.2.1 4) (fun k => τ.2.2.1 6 (14 * u + k)) 0 i := rfl
    have e2 : (sr τ 4 (pt (τ.2.2.1 4) (fun k => τ.2.2.1 6 (14 * u + k)) 0 i)).2.2.1 6 (14 * u + i) = τ.2.2.1 6 (14 * u + i) := rfl
    have e3 := pt_s (τ.2.2.1 4) (fun k => τ.2.2.1 6 (14 * u + k)) 0 i
    rw [Nat.zero_add] at e3
    rw [e1, e2, e3]
    exact ih n (i + 1) (by omega) (by omega)
/-! the class's rows -/
theorem cLn_row {j : Nat} (h1 : 25 ≤ j) (h2 : j < 37) : cLn j = 14 := by
  rcases (show j = 25 ∨ j = 26 ∨ j = 27 ∨ j = 28 ∨ j = 29 ∨ j = 30 ∨ j = 31 ∨ j = 32 ∨ j = 33 ∨ j = 34 ∨ j = 35 ∨ j = 36 by omega) with rfl | rfl | rfl | rfl | rfl | rfl | rfl | rfl | rfl | rfl | rfl | rfl <;> rfl
theorem copyTo_ok (σ : Sx) {j : Nat} (h1 : 25 ≤ j) (h2 : j < 37) : ∃ f, m_X4_copyTo σ j = some (sr σ j f) ∧ ∀ i, i < 14 → f i = cN σ i := by
  have hL := cLn_row h1 h2
  have s0 : ∀ (σ : Sx) x, stA cLn σ j 0 x = some (sr σ j (upd (σ.2.2.1 j) 0 x)) := fun σ x => stk (k := 0) hL (by decide) (by decide)
  have s1 : ∀ (σ : Sx) x, stA cLn σ j 1 x = some (sr σ j (upd (σ.2.2.1 j) 1 x)) := fun σ x => stk (k := 1) hL (by decide) (by decide)
  have s2 : ∀ (σ : Sx) x, stA cLn σ j 2 x = some (sr σ j (upd (σ.2.2.1 j) 2 x)) := fun σ x => stk (k := 2) hL (by decide) (by decide)
  have s3 : ∀ (σ : Sx) x, stA cLn σ j 3 x = some (sr σ j (upd (σ.2.2.1 j) 3 x)) := fun σ x => stk (k := 3) hL (by decide) (by decide)
  have p1 : ∀ (σ : Sx), cpA cLn σ 17 j 0 4 5 = some (sr σ j (va_cpy (σ.2.2.1 17) (σ.2.2.1 j) 0 4 5)) := fun σ => by
    unfold cpA
    rw [if_pos ⟨⟨by decide, by omega⟩, by decide, by decide, by rw [hL]; decide⟩]
    rfl
  have p2 : ∀ (σ : Sx), cpA cLn σ 18 j 0 9 5 = some (sr σ j (va_cpy (σ.2.2.1 18) (σ.2.2.1 j) 0 9 5)) := fun σ => by
    unfold cpA
    rw [if_pos ⟨⟨by decide, by omega⟩, by decide, by decide, by rw [hL]; decide⟩]
    rfl
  have n1 : (17 : Nat) ≠ j := by omega
  have n2 : (18 : Nat) ≠ j := by omega
  unfold m_X4_copyTo
  simp only [s0, s1, s2, s3, p1, p2, bs, sr_sr, sr_1]
  refine ⟨_, rfl, fun i hi => ?_⟩
  simp only [sr_221, if_neg n1, if_neg n2, if_pos]
  rcases (show i = 0 ∨ i = 1 ∨ i = 2 ∨ i = 3 ∨ i = 4 ∨ i = 5 ∨ i = 6 ∨ i = 7 ∨ i = 8 ∨ i = 9 ∨ i = 10 ∨ i = 11 ∨ i = 12 ∨ i = 13 by omega) with rfl | rfl | rfl | rfl | rfl | rfl | rfl | rfl | rfl | rfl | rfl | rfl | rfl | rfl <;> rfl
theorem copyFrom_ok (σ : Sx) {j : Nat} (h1 : 25 ≤ j) (h2 : j < 37) : ∃ f g, m_X4_copyFrom σ j = some (sr (sr (sg (sg (sg (sg σ 14 (σ.2.2.1 j 0)) 15 (σ.2.2.1 j 1)) 16 (σ.2.2.1 j 2)) 17 (σ.2.2.1 j 3)) 17 f) 18 g) ∧ (∀ k, k < 5 → f k = σ.2.2.1 j (4 + k)) ∧ ∀ k, k < 5 → g k = σ.2.2.1 j (9 + k) := by
  have hL := cLn_row h1 h2
  have s0 : ∀ (σ : Sx), ldA cLn σ j 0 = some (σ.2.2.1 j 0) := fun σ => ldk (k := 0) hL (by decide) (by decide)
  have s1 : ∀ (σ : Sx), ldA cLn σ j 1 = some (σ.2.2.1 j 1) := fun σ => ldk (k := 1) hL (by decide) (by decide)
  have s2 : ∀ (σ : Sx), ldA cLn σ j 2 = some (σ.2.2.1 j 2) := fun σ => ldk (k := 2) hL (by decide) (by decide)
  have s3 : ∀ (σ : Sx), ldA cLn σ j 3 = some (σ.2.2.1 j 3) := fun σ => ldk (k := 3) hL (by decide) (by decide)
  have p1 : ∀ (σ : Sx), cpA cLn σ j 17 4 0 5 = some (sr σ 17 (va_cpy (σ.2.2.1 j) (σ.2.2.1 17) 4 0 5)) := fun σ => by
    unfold cpA
    rw [if_pos ⟨⟨by omega, by decide⟩, by decide, by rw [hL]; decide, by decide⟩]
    rfl
  have p2 : ∀ (σ : Sx), cpA cLn σ j 18 9 0 5 = some (sr σ 18 (va_cpy (σ.2.2.1 j) (σ.2.2.1 18) 9 0 5)) := fun σ => by
    unfold cpA
    rw [if_pos ⟨⟨by omega, by decide⟩, by decide, by rw [hL]; decide, by decide⟩]
    rfl
  have n1 : j ≠ 17 := by omega
  unfold m_X4_copyFrom
  simp only [s0, s1, s2, s3, p1, p2, bs, sg_2]
  refine ⟨_, _, rfl, fun k hk => ?_, fun k hk => ?_⟩
  · unfold va_cpy
    rw [if_pos (by omega)]; rfl
  · unfold va_cpy
    rw [if_pos (by omega)]
    simp only [sr_221, if_neg n1, sg_2]
    rfl
