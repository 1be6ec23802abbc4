/-! what the two states have in common -/
abbrev TD : Type := (Nat → Nat) × (Nat → Nat → Nat)
/-- what was told: counts 0 telephones, 1 holes, 2 calls, 3 darks; tables 0 fills, 1 runs, 2 3 4 calls, 5 6 darks -/
def bT (d : TD) : Prop := d.1 0 ≤ 5 ∧ (d.1 1 = 1 ∨ d.1 1 = 2) ∧ d.1 2 ≤ 8 ∧ d.1 3 ≤ 2 ∧ (∀ k, k < d.1 0 → 1 ≤ d.2 0 k ∧ d.2 0 k ≤ 30 ∧ d.2 1 k ≤ 9) ∧ (∀ i, i < d.1 2 → d.2 2 i < d.1 0 ∧ d.2 3 i ≤ 60 ∧ 1 ≤ d.2 4 i ∧ d.2 4 i ≤ 50) ∧ (∀ i, i < d.1 3 → d.2 5 i ≤ 60 ∧ d.2 6 i ≤ 60)
def cT (σ : Sx) (d : TD) : Prop := (σ.1 0 = nI (d.1 0) ∧ σ.1 1 = nI (d.1 1) ∧ σ.1 2 = nI (d.1 2) ∧ σ.1 3 = nI (d.1 3)) ∧ (∀ k, k < d.1 0 → σ.2.2.1 1 k = nI (d.2 0 k) ∧ σ.2.2.1 2 k = nI (d.2 1 k)) ∧ (∀ i, i < d.1 2 → σ.2.2.1 3 i = nI (d.2 2 i) ∧ σ.2.2.1 4 i = nI (d.2 3 i) ∧ σ.2.2.1 5 i = nI (d.2 4 i)) ∧ (∀ i, i < d.1 3 → σ.2.2.1 6 i = nI (d.2 5 i) ∧ σ.2.2.1 7 i = nI (d.2 6 i))
def mT (τ : Sx) (d : TD) : Prop := (τ.1 7 = nI (d.1 0) ∧ τ.1 10 = nI (d.1 1) ∧ τ.1 8 = nI (d.1 2) ∧ τ.1 9 = nI (d.1 3)) ∧ (∀ k, k < d.1 0 → τ.2.2.1 1 (3 * k + 1) = nI (d.2 0 k) ∧ τ.2.2.1 1 (3 * k + 2) = nI (d.2 1 k)) ∧ (∀ i, i < d.1 2 → τ.2.2.1 2 (3 * i) = nI (d.2 2 i) ∧ τ.2.2.1 2 (3 * i + 1) = nI (d.2 3 i) ∧ τ.2.2.1 2 (3 * i + 2) = nI (d.2 4 i)) ∧ (∀ i, i < d.1 3 → τ.2.2.1 3 (2 * i) = nI (d.2 5 i) ∧ τ.2.2.1 3 (2 * i + 1) = nI (d.2 6 i))
/-- a NOW, as a row of 14: of the class, of the reference -/
def SN (P : Nat) (f g : Nat → Int32) : Prop := (∀ i, i < 4 → f i = g i) ∧ (∃ t, t ≤ 99 ∧ g 0 = nI t ∧ ∀ k, k < P → ∃ v c, v ≤ 100 ∧ c ≤ t ∧ g (4 + k) = nI v ∧ f (4 + k) = nI v ∧ g (9 + k) = nI c ∧ f (9 + k) = nI c) ∧ ∃ o, o < 2 ^ P ∧ g 1 = nI o
def cN (σ : Sx) : Nat → Int32 := fun i => if i = 0 then σ.1 14 else if i = 1 then σ.1 15 else if i = 2 then σ.1 16 else if i = 3 then σ.1 17 else if i < 9 then σ.2.2.1 17 (i - 4) else σ.2.2.1 18 (i - 9)
def iNow (P : Nat) (σ τ : Sx) : Prop := SN P (cN σ) (τ.2.2.1 4)
def iBook (P : Nat) (σ τ : Sx) : Prop := ∃ u w, u ≤ 10 ∧ w < 10 ∧ σ.1 19 = nI u ∧ τ.1 15 = nI u ∧ σ.1 18 = nI w ∧ ∀ j, j < u → SN P (σ.2.2.1 (25 + (w + 10 - j) % 10)) (fun i => τ.2.2.1 7 (14 * (u - 1 - j) + i))
def iImg (P : Nat) (σ τ : Sx) : Prop := ∀ m, m < 2 → (σ.2.2.1 47 m = 0 ∧ τ.2.2.1 12 m = 0) ∨ (σ.2.2.1 47 m = 1 ∧ τ.2.2.1 12 m = 1 ∧ SN P (σ.2.2.1 (35 + m)) (fun i => τ.2.2.1 6 (14 * m + i)))
def iSaid (P : Nat) (σ τ : Sx) : Prop := ∃ n, n ≤ 6 ∧ σ.1 23 = nI n ∧ τ.1 16 = nI n ∧ ∀ j, j < n → ∃ k a t v, k < P ∧ a ≤ 100 ∧ t ≤ 20 ∧ v ≤ 100 ∧ (σ.2.2.1 19 j = nI k ∧ σ.2.2.1 20 j = nI a ∧ σ.2.2.1 21 j = nI t ∧ σ.2.2.1 22 j = nI v) ∧ (τ.2.2.1 8 (4 * j) = nI k ∧ τ.2.2.1 8 (4 * j + 1) = nI a ∧ τ.2.2.1 8 (4 * j + 2) = nI t ∧ τ.2.2.1 8 (4 * j + 3) = nI v)
def iText (σ τ : Sx) : Prop := ∃ n, n ≤ 200 ∧ σ.1 8 = nI n ∧ τ.1 1 = nI n ∧ ∀ j, j < n → ∃ c, c ≤ 255 ∧ σ.2.2.1 16 j = nI c ∧ τ.2.2.1 0 j = nI c
def INV (σ τ : Sx) : Prop := ∃ d : TD, bT d ∧ cT σ d ∧ mT τ d ∧ iNow (d.1 0) σ τ ∧ iBook (d.1 0) σ τ ∧ iImg (d.1 0) σ τ ∧ iSaid (d.1 0) σ τ ∧ iText σ τ ∧ σ.2.1 = τ.2.1
theorem INV_0 : INV σ0 τ0 := by
  refine ⟨(fun i => if i = 1 then 1 else 0, fun _ _ => 0), ⟨by decide, Or.inl rfl, by decide, by decide, fun k h => absurd h (by simp), fun k h => absurd h (by simp), fun k h => absurd h (by simp)⟩, ⟨⟨rfl, rfl, rfl, rfl⟩, fun k h => absurd h (by simp), fun k h => absurd h (by simp), fun k h => absurd h (by simp)⟩, ⟨⟨rfl, rfl, rfl, rfl⟩, fun k h => absurd h (by simp), fun k h => absurd h (by simp), fun k h => absurd h (by simp)⟩, ⟨fun i hi => ?_, ⟨0, by decide, rfl, fun k h => absurd h (by simp)⟩, 0, by decide, rfl⟩, ⟨0, 9, by decide, by decide, rfl, rfl, rfl, fun j h => absurd h (by simp)⟩, fun m hm => Or.inl ⟨rfl, rfl⟩, ⟨0, by decide, rfl, rfl, fun j h => absurd h (by simp)⟩, ⟨0, by decide, rfl, rfl, fun j h => absurd h (by simp)⟩, rfl⟩
  rcases (show i = 0 ∨ i = 1 ∨ i = 2 ∨ i = 3 by omega) with rfl | rfl | rfl | rfl <;> rfl
/-! ranges, rows -/
theorem wj (x : Int32) {M : Int32} {n : Nat} (hM : M.toInt = (n : Int) - 1) (hn : n < 2 ^ 31) : (∃ k, k < n ∧ x = nI k ∧ m_X11_isWithin x 0 M = some 1 ∧ m_X12_in x 0 M = some 1) ∨ (m_X11_isWithin x 0 M = some 0 ∧ m_X12_in x 0 M = some 0) := by
  unfold m_X11_isWithin m_X12_in
  by_cases h0 : x < 0
  · right; rw [if_pos h0]; exact ⟨rfl, rfl⟩
  · by_cases h1 : M < x
    · right; rw [if_neg h0, if_pos h1]; exact ⟨rfl, rfl⟩
    · left
      rw [if_neg h0, if_neg h1]
      obtain ⟨j, hj, rfl⟩ := nI_of h0
      refine ⟨j, ?_, rfl, rfl, rfl⟩
      rw [Int32.lt_iff_toInt_lt, hM, nI_toInt hj] at h1
      omega
theorem wl (x : Int32) (n : Nat) (hn : n < 2 ^ 31) : (∃ k, k ≤ n ∧ x = nI k ∧ m_X11_isWithin x 0 (nI n) = some 1 ∧ m_X12_in x 0 (nI n) = some 1) ∨ (m_X11_isWithin x 0 (nI n) = some 0 ∧ m_X12_in x 0 (nI n) = some 0) := by
  unfold m_X11_isWithin m_X12_in
  by_cases h0 : x < 0
  · right; rw [if_pos h0]; exact ⟨rfl, rfl⟩
  · by_cases h1 : nI n < x
    · right; rw [if_neg h0, if_pos h1]; exact ⟨rfl, rfl⟩
    · left
      rw [if_neg h0, if_neg h1]
      obtain ⟨j, hj, rfl⟩ := nI_of h0
      refine ⟨j, ?_, rfl, rfl, rfl⟩
      rw [Int32.lt_iff_toInt_lt, nI_toInt hn, nI_toInt hj] at h1
      omega
theorem wr (x : Int32) (a n : Nat) (ha : a < 2 ^ 31) (hn : n < 2 ^ 31) : (∃ k, a ≤ k ∧ k ≤ n ∧ x = nI k ∧ m_X11_isWithin x (nI a) (nI n) = some 1 ∧ m_X12_in x (nI a) (nI n) = some 1) ∨ (m_X11_isWithin x (nI a) (nI n) = some 0 ∧ m_X12_in x (nI a) (nI n) = some 0) := by
  unfold m_X11_isWithin m_X12_in
  by_cases h0 : x < nI a
  · right; rw [if_pos h0]; exact ⟨rfl, rfl⟩
  · by_cases h1 : nI n < x
    · right; rw [if_neg h0, if_pos h1]; exact ⟨rfl, rfl⟩
    · left
      rw [if_neg h0, if_neg h1]
      have h2 : ¬ x < 0 := by
        intro q
        rw [Int32.lt_iff_toInt_lt] at q h0
        rw [nI_toInt ha] at h0
        have : (0 : Int32).toInt = 0 := rfl
        omega
      obtain ⟨j, hj, rfl⟩ := nI_of h2
      rw [Int32.lt_iff_toInt_lt, nI_toInt hn, nI_toInt hj] at h1
      rw [Int32.lt_iff_toInt_lt, nI_toInt ha, nI_toInt hj] at h0
      exact ⟨j, by omega, by omega, rfl, rfl, rfl⟩
theorem nI_m1 (n : Nat) (hn : n < 2 ^ 30) : (nI n - 1).toInt = (n : Int) - 1 := by
  have := pk_sub_toInt (a := n) (b := 1) hn (by decide)
  exact this
theorem rt1 : rtZ 1 = some 1 := rfl
theorem rt0 : rtZ 0 = some 0 := rfl
theorem iph {σ τ : Sx} {d : TD} (hb : bT d) (hc : cT σ d) (hm : mT τ d) (x : Int32) : (∃ k, k < d.1 0 ∧ x = nI k ∧ m_X11_isPhone σ x = some 1 ∧ m_X12_isPhone τ x = some 1) ∨ (m_X11_isPhone σ x = some 0 ∧ m_X12_isPhone τ x = some 0) := by
  have hP := hb.1
  unfold m_X11_isPhone m_X12_isPhone
  rw [hc.1.1, hm.1.1]
  rcases wj x (nI_m1 (d.1 0) (by omega)) (by omega) with ⟨k, h1, h2, h3, h4⟩ | ⟨h3, h4⟩
  · left; exact ⟨k, h1, h2, by rw [h3]; rfl, by rw [h4]; rfl⟩
  · right; exact ⟨by rw [h3]; rfl, by rw [h4]; rfl⟩
theorem inb_nI {k n : Nat} (h : k < n) (hn : n < 2 ^ 31) : inb (nI k) n = true := by
  unfold inb
  rw [nI_clamp (by omega)]
  simp [nI_pos (show k < 2 ^ 31 by omega), h]
theorem ldk {Ln : Nat → Nat} {σ : Sx} {j k n : Nat} (hL : Ln j = n) (h : k < n) (hn : n < 2 ^ 31) : ldA Ln σ j (nI k) = some (σ.2.2.1 j k) := by
  unfold ldA
  rw [hL, if_pos (inb_nI h hn), nI_clamp (by omega)]
theorem stk {Ln : Nat → Nat} {σ : Sx} {j k n : Nat} {x : Int32} (hL : Ln j = n) (h : k < n) (hn : n < 2 ^ 31) : stA Ln σ j (nI k) x = some (sr σ j (upd (σ.2.2.1 j) k x)) := by
  unfold stA
  rw [hL, if_pos (inb_nI h hn), nI_clamp (by omega)]
theorem ldbk {Ln : Nat → Nat} {σ : Sx} {j k n : Nat} (hL : Ln j = n) (h : k < n) (hn : n < 2 ^ 31) : ldB Ln σ j (nI k) = some (σ.2.2.2 j k) := by
  unfold ldB
  rw [hL, if_pos (inb_nI h hn), nI_clamp (by omega)]
theorem stbk {Ln : Nat → Nat} {σ : Sx} {j k n : Nat} {x : Int64} (hL : Ln j = n) (h : k < n) (hn : n < 2 ^ 31) : stB Ln σ j (nI k) x = some (sm σ j (vp_updL (σ.2.2.2 j) k x)) := by
  unfold stB
  rw [hL, if_pos (inb_nI h hn), nI_clamp (by omega)]
theorem ldzk {σ : Sx} {j k : Nat} (h : k < 2) : ldZ σ j (nI k) = some (σ.2.2.1 j k) := by
  unfold ldZ
  rw [if_pos (inb_nI h (by decide)), nI_clamp (by omega)]
theorem stzk {σ : Sx} {j k : Nat} {x : Int32} (h : k < 2) : stZ σ j (nI k) x = some (sr σ j (upd (σ.2.2.1 j) k (vp_nar .boolean x))) := by
  unfold stZ
  rw [if_pos (inb_nI h (by decide)), nI_clamp (by omega)]
theorem bs {α β : Type} (a : α) (f : α → Option β) : (some a).bind f = f a := rfl
/-! reading a changed state -/
theorem sg_1 (σ : Sx) (i j : Nat) (v : Int32) : (sg σ i v).1 j = if j = i then v else σ.1 j := rfl
theorem sg_2 (σ : Sx) (i : Nat) (v : Int32) : (sg σ i v).2 = σ.2 := rfl
theorem sl_1 (σ : Sx) (v : Int64) : (sl σ v).1 = σ.1 := rfl
theorem sl_21 (σ : Sx) (v : Int64) : (sl σ v).2.1 = v := rfl
theorem sl_22 (σ : Sx) (v : Int64) : (sl σ v).2.2 = σ.2.2 := rfl
theorem sr_1 (σ : Sx) (j : Nat) (f : Nat → Int32) : (sr σ j f).1 = σ.1 := rfl
theorem sr_21 (σ : Sx) (j : Nat) (f : Nat → Int32) : (sr σ j f).2.1 = σ.2.1 := rfl
theorem sr_221 (σ : Sx) (i j : Nat) (f : Nat → Int32) : (sr σ j f).2.2.1 i = if i = j then f else σ.2.2.1 i := rfl
theorem sr_222 (σ : Sx) (j : Nat) (f : Nat → Int32) : (sr σ j f).2.2.2 = σ.2.2.2 := rfl
theorem sm_1 (σ : Sx) (j : Nat) (f : Nat → Int64) : (sm σ j f).1 = σ.1 := rfl
theorem sm_21 (σ : Sx) (j : Nat) (f : Nat → Int64) : (sm σ j f).2.1 = σ.2.1 := rfl
theorem sm_221 (σ : Sx) (j : Nat) (f : Nat → Int64) : (sm σ j f).2.2.1 = σ.2.2.1 := rfl
theorem sm_222 (σ : Sx) (i j : Nat) (f : Nat → Int64) : (sm σ j f).2.2.2 i = if i = j then f else σ.2.2.2 i := rfl
theorem upd_s (f : Nat → Int32) (k : Nat) (x : Int32) : upd f k x k = x := if_pos rfl
theorem upd_n (f : Nat → Int32) {k j : Nat} (x : Int32) (h : j ≠ k) : upd f k x j = f j := if_neg h
theorem nlit (n : Nat) : (OfNat.ofNat n : Int32) = nI n := rfl
theorem iBook.keep {P : Nat} {σ τ σ' τ' : Sx} (h : iBook P σ τ) (e1 : σ'.1 19 = σ.1 19) (e2 : τ'.1 15 = τ.1 15) (e3 : σ'.1 18 = σ.1 18) (e4 : ∀ j, 25 ≤ j → j < 35 → σ'.2.2.1 j = σ.2.2.1 j) (e5 : τ'.2.2.1 7 = τ.2.2.1 7) : iBook P σ' τ' := by
  obtain ⟨u, w, h1, h2, h3, h4, h5, h6⟩ := h
  refine ⟨u, w, h1, h2, e1.trans h3, e2.trans h4, e3.trans h5, fun j hj => ?_⟩
  rw [e4 _ (by omega) (by omega), e5]
  exact h6 j hj
theorem iImg.keep {P : Nat} {σ τ σ' τ' : Sx} (h : iImg P σ τ) (e1 : σ'.2.2.1 47 = σ.2.2.1 47) (e2 : τ'.2.2.1 12 = τ.2.2.1 12) (e4 : ∀ j, 35 ≤ j → j < 37 → σ'.2.2.1 j = σ.2.2.1 j) (e5 : τ'.2.2.1 6 = τ.2.2.1 6) : iImg P σ' τ' := by
  intro m hm
  rw [e1, e2, e4 _ (by omega) (by omega), e5]
  exact h m hm
theorem sr_ne {σ : Sx} {i j : Nat} {f : Nat → Int32} (h : i ≠ j) : (sr σ j f).2.2.1 i = σ.2.2.1 i := if_neg h
theorem i32_le_of {a b : Int32} (h : a < b) (q : b ≤ a) : False := by
  rw [Int32.lt_iff_toInt_lt] at h
  rw [Int32.le_iff_toInt_le] at q
  omega
