/-! plans: what is cheapest -/
def ls (d : TD) (k : Nat) : Nat → Nat → Nat → Nat
  | 0, _, l => if l = 0 then 10 else 0
  | r + 1, t, l => 100 * missN d t k l + min (ls d k r (t + 1) (behN d t k l false)) (ls d k r (t + 1) (behN d t k l true))
def outN (v : Nat → Nat) (P : Nat) : Nat := sF (fun k => if v k = 0 then 1 else 0) P 0
def fo {α : Type} (ok : Nat → Bool) (f : Nat → α → α) : Nat → Nat → α → α
  | 0, _, S => S
  | m + 1, s, S => fo ok f m (s + 1) (if ok s = true then f s S else S)
def nxv (d : TD) (t s : Nat) (v : Nat → Nat) : Nat → Nat := fun k => behN d t k (v k) (onB s k)
def nxm (d : TD) (t : Nat) (v : Nat → Nat) : Nat := sF (fun k => missN d t k (v k)) (d.1 0) 0
def nxu (s b : Nat) : Nat := if s = b then 0 else 1
/-- all plans of r more turns, in their order; S: the best so far -/
def cmp (d : TD) : Nat → Nat → (Nat → Nat) → Nat → Nat → Nat → List Nat → Nat × List Nat → Nat × List Nat
  | 0, _, v, _, M, U, pre, S => if 100 * M + 10 * outN v (d.1 0) + U < S.1 then (100 * M + 10 * outN v (d.1 0) + U, pre) else S
  | r + 1, t, v, b, M, U, pre, S => fo (okS d) (fun s S => cmp d r (t + 1) (nxv d t s v) s (M + nxm d t v) (U + nxu s b) (pre ++ [s]) S) (2 ^ d.1 0) 0 S
theorem fo_id {α : Type} {ok : Nat → Bool} {f : Nat → α → α} {S : α} (h : ∀ s, f s S = S) : ∀ m s, fo ok f m s S = S
  | 0, _ => rfl
  | m + 1, s => by
    rw [fo]
    have : (if ok s = true then f s S else S) = S := by
      split
      · exact h s
      · rfl
    rw [this]
    exact fo_id h m (s + 1)
theorem sF_add (f g : Nat → Nat) : ∀ r i, sF (fun k => f k + g k) r i = sF f r i + sF g r i
  | 0, _ => rfl
  | r + 1, i => by
    rw [sF, sF, sF, sF_add f g r (i + 1)]
    omega
theorem sF_mul (c : Nat) (f : Nat → Nat) : ∀ r i, sF (fun k => c * f k) r i = c * sF f r i
  | 0, _ => rfl
  | r + 1, i => by
    rw [sF, sF, sF_mul c f r (i + 1), Nat.mul_add]
theorem sF_mono {f g : Nat → Nat} (h : ∀ k, f k ≤ g k) : ∀ r i, sF f r i ≤ sF g r i
  | 0, _ => Nat.le_refl _
  | r + 1, i => by
    rw [sF, sF]
    exact Nat.add_le_add (h i) (sF_mono h r (i + 1))
theorem sF_bd {f : Nat → Nat} {c : Nat} : ∀ r i, (∀ k, i ≤ k → k < i + r → f k ≤ c) → sF f r i ≤ c * r
  | 0, _, _ => Nat.zero_le _
  | r + 1, i, h => by
    rw [sF, Nat.mul_add, Nat.mul_one, Nat.add_comm]
    exact Nat.add_le_add (sF_bd r (i + 1) (fun k h1 h2 => h k (by omega) (by omega))) (h i (by omega) (by omega))
theorem ls_step (d : TD) (k r t l : Nat) (on : Bool) : ls d k (r + 1) t l ≤ 100 * missN d t k l + ls d k r (t + 1) (behN d t k l on) := by
  rw [ls]
  cases on
  · exact Nat.add_le_add_left (Nat.min_le_left _ _) _
  · exact Nat.add_le_add_left (Nat.min_le_right _ _) _
theorem ls_le {d : TD} (hb : bT d) (k : Nat) : ∀ r t l, ls d k r t l ≤ 800 * r + 10
  | 0, _, l => by rw [ls]; split <;> omega
  | r + 1, t, l => by
    have h1 := ls_step d k r t l true
    have h2 := ls_le hb k r (t + 1) (behN d t k l true)
    have h3 := missN_le d t k l
    have h8 : d.1 2 ≤ 8 := hb.2.2.1
    omega
theorem out10 (d : TD) (t P : Nat) (v : Nat → Nat) : sF (fun k => ls d k 0 t (v k)) P 0 = 10 * outN v P := by
  unfold outN
  rw [← sF_mul]
  refine sF_congr (fun k _ => ?_) _ _
  rw [ls]
  split <;> rfl
theorem low_step (d : TD) (r t s : Nat) (v : Nat → Nat) : sF (fun k => ls d k (r + 1) t (v k)) (d.1 0) 0 ≤ 100 * nxm d t v + sF (fun k => ls d k r (t + 1) (nxv d t s v k)) (d.1 0) 0 := by
  unfold nxm nxv
  rw [← sF_mul, ← sF_add]
  exact sF_mono (fun k => ls_step d k r t (v k) _) _ _
theorem prune (d : TD) : ∀ (r t : Nat) (v : Nat → Nat) (b M U : Nat) (pre : List Nat) (S : Nat × List Nat), S.1 ≤ 100 * M + U + sF (fun k => ls d k r t (v k)) (d.1 0) 0 → cmp d r t v b M U pre S = S := by
  intro r
  induction r with
  | zero =>
    intro t v b M U pre S h
    rw [out10] at h
    rw [cmp, if_neg (by omega)]
  | succ r ih =>
    intro t v b M U pre S h
    rw [cmp]
    refine fo_id (fun s => ih _ _ _ _ _ _ _ ?_) _ _
    have := low_step d r t s v
    omega
/-! the tree of a telephone -/
def Tr (d : TD) (A : Nat → Int32) (k : Nat) : Nat → Nat → Nat → Nat → Nat → Prop
  | 0, z, t, l, a => A z = nI (a + ls d k 0 t l)
  | r + 1, z, t, l, a => A z = nI (a + ls d k (r + 1) t l) ∧ Tr d A k r (2 * z) (t + 1) (behN d t k l false) (a + 100 * missN d t k l) ∧ Tr d A k r (2 * z + 1) (t + 1) (behN d t k l true) (a + 100 * missN d t k l)
def Sb : Nat → Nat → Nat → Prop
  | 0, z, y => y = z
  | r + 1, z, y => y = z ∨ Sb r (2 * z) y ∨ Sb r (2 * z + 1) y
theorem Sb_div : ∀ r z y, Sb r z y → ∃ i, y / 2 ^ i = z
  | 0, z, y, h => ⟨0, by rw [Nat.pow_zero, Nat.div_one]; exact h⟩
  | r + 1, z, y, h => by
    rcases h with h | h | h
    · exact ⟨0, by rw [Nat.pow_zero, Nat.div_one]; exact h⟩
    · obtain ⟨i, e⟩ := Sb_div r _ _ h
      refine ⟨i + 1, ?_⟩
      rw [Nat.pow_succ, ← Nat.div_div_eq_div_mul, e]
      omega
    · obtain ⟨i, e⟩ := Sb_div r _ _ h
      refine ⟨i + 1, ?_⟩
      rw [Nat.pow_succ, ← Nat.div_div_eq_div_mul, e]
      omega
theorem dv_lt {y i j a b : Nat} (h1 : y / 2 ^ i = a) (h2 : y / 2 ^ j = b) (h : i < j) : b ≤ a / 2 := by
  obtain ⟨m, rfl⟩ : ∃ m, j = i + 1 + m := ⟨j - i - 1, by omega⟩
  rw [Nat.pow_add, Nat.pow_succ, ← Nat.div_div_eq_div_mul, ← Nat.div_div_eq_div_mul, h1] at h2
  rw [← h2]
  exact Nat.div_le_self _ _
theorem Sb_dis {r r' z y : Nat} (hz : 1 ≤ z) (h1 : Sb r (2 * z) y) (h2 : Sb r' (2 * z + 1) y) : False := by
  obtain ⟨i, e1⟩ := Sb_div _ _ _ h1
  obtain ⟨j, e2⟩ := Sb_div _ _ _ h2
  rcases Nat.lt_trichotomy i j with h | h | h
  · have := dv_lt e1 e2 h; omega
  · subst h; omega
  · have := dv_lt e2 e1 h; omega
theorem Sb_top {r z w : Nat} (hz : 1 ≤ z) (h1 : Sb r w z) (hw : z < w) : False := by
  obtain ⟨i, e1⟩ := Sb_div _ _ _ h1
  have := Nat.div_le_self z (2 ^ i)
  omega
theorem Tr_congr {d : TD} {k : Nat} {A B : Nat → Int32} : ∀ r z t l a, Tr d A k r z t l a → (∀ y, Sb r z y → B y = A y) → Tr d B k r z t l a
  | 0, z, t, l, a, h, e => by rw [Tr] at h ⊢; rw [e z rfl]; exact h
  | r + 1, z, t, l, a, h, e => by
    rw [Tr] at h ⊢
    exact ⟨by rw [e z (Or.inl rfl)]; exact h.1, Tr_congr r _ _ _ _ h.2.1 (fun y hy => e y (Or.inr (Or.inl hy))), Tr_congr r _ _ _ _ h.2.2 (fun y hy => e y (Or.inr (Or.inr hy)))⟩
theorem Tr_top {d : TD} {k : Nat} {A : Nat → Int32} {r z t l a : Nat} (h : Tr d A k r z t l a) : A z = nI (a + ls d k r t l) := by
  cases r with
  | zero => exact h
  | succ r => exact h.1
theorem Tr_kid {d : TD} {k : Nat} {A : Nat → Int32} {r z t l a : Nat} (h : Tr d A k (r + 1) z t l a) (on : Bool) : Tr d A k r (2 * z + if on = true then 1 else 0) (t + 1) (behN d t k l on) (a + 100 * missN d t k l) := by
  cases on
  · exact h.2.1
  · exact h.2.2
