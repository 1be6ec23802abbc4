/-! the reference's ways, in their order -/
def cl (h : Nat) : Nat → Nat → List Nat
  | 0, _ => []
  | m + 1, s => if decide (pcN s ≤ h) = true then s :: cl h m (s + 1) else cl h m (s + 1)
def dg (C : List Nat) (c : Nat) : Nat → Nat → List Nat
  | 0, _ => []
  | r + 1, w => C.getD (w / c ^ r % c) 0 :: dg C c r w
def run (d : TD) : List Nat → Nat → (Nat → Nat) → Nat → Nat → Nat → (Nat → Nat) × Nat × Nat
  | [], _, v, _, M, U => (v, M, U)
  | s :: ss, t, v, b, M, U => run d ss (t + 1) (nxv d t s v) s (M + nxm d t v) (U + nxu s b)
def fw {α : Type} (g : Nat → α → α) : Nat → Nat → α → α
  | 0, _, S => S
  | m + 1, w, S => fw g m (w + 1) (g w S)
def stp (P : Nat) (pl : List Nat) (e : (Nat → Nat) × Nat × Nat) (S : Nat × List Nat) : Nat × List Nat := if 100 * e.2.1 + 10 * outN e.1 P + e.2.2 < S.1 then (100 * e.2.1 + 10 * outN e.1 P + e.2.2, pl) else S
def fl {α : Type} (g : Nat → α → α) : List Nat → α → α
  | [], S => S
  | s :: ss, S => fl g ss (g s S)
theorem fo_fl {α : Type} {d : TD} (g : Nat → α → α) : ∀ m s S, fo (okS d) g m s S = fl g (cl (d.1 1) m s) S
  | 0, _, _ => rfl
  | m + 1, s, S => by
    rw [fo, fo_fl g m (s + 1), cl]
    unfold okS
    by_cases h : decide (pcN s ≤ d.1 1) = true
    · rw [if_pos h, if_pos h]; rfl
    · rw [if_neg h, if_neg h]
theorem fw_split {α : Type} (g : Nat → α → α) : ∀ a b w S, fw g (a + b) w S = fw g b (w + a) (fw g a w S)
  | 0, b, w, S => by rw [Nat.zero_add]; rfl
  | a + 1, b, w, S => by
    rw [show a + 1 + b = a + b + 1 by omega, fw, fw_split g a b (w + 1), fw, show w + 1 + a = w + (a + 1) by omega]
theorem fw_shift {α : Type} {g h : Nat → α → α} : ∀ m w x S, (∀ i, i < m → g (w + i) = h (x + i)) → fw g m w S = fw h m x S
  | 0, _, _, _, _ => rfl
  | m + 1, w, x, S, e => by
    have e0 : g w = h x := e 0 (by omega)
    rw [fw, fw, e0]
    exact fw_shift m (w + 1) (x + 1) _ (fun i hi => by
      have := e (i + 1) (by omega)
      rw [show w + 1 + i = w + (i + 1) by omega, show x + 1 + i = x + (i + 1) by omega]
      exact this)
theorem low {c q e i w : Nat} (hc : 0 < c) : (i * c ^ (q + 1 + e) + w) / c ^ q % c = w / c ^ q % c := by
  have h : i * c ^ (q + 1 + e) = c ^ q * (c * (i * c ^ e)) := by
    rw [Nat.pow_add, Nat.pow_succ]
    simp only [Nat.mul_comm, Nat.mul_left_comm, Nat.mul_assoc]
  rw [h, Nat.mul_add_div (Nat.pow_pos hc), Nat.mul_add_mod]
theorem dg_low {C : List Nat} {c i w r : Nat} (hc : 0 < c) : ∀ q, q ≤ r → dg C c q (i * c ^ r + w) = dg C c q w
  | 0, _ => rfl
  | q + 1, h => by
    obtain ⟨e, rfl⟩ : ∃ e, r = q + 1 + e := ⟨r - (q + 1), by omega⟩
    rw [dg, dg, low hc, dg_low hc q (by omega)]
theorem dg_top {c i w r : Nat} (hi : i < c) (hw : w < c ^ r) : (i * c ^ r + w) / c ^ r % c = i := by
  rw [Nat.mul_comm, Nat.mul_add_div (Nat.lt_of_le_of_lt (Nat.zero_le w) hw), Nat.div_eq_of_lt hw, Nat.add_zero, Nat.mod_eq_of_lt hi]
theorem dg_len (C : List Nat) (c w : Nat) : ∀ r, (dg C c r w).length = r
  | 0 => rfl
  | r + 1 => by rw [dg, List.length_cons, dg_len C c w r]
theorem cmp_fw {d : TD} {C : List Nat} {c : Nat} (hC : C = cl (d.1 1) (2 ^ d.1 0) 0) (hc : C.length = c) (hc0 : 0 < c) : ∀ (r t : Nat) (v : Nat → Nat) (b M U : Nat) (pre : List Nat) (S : Nat × List Nat), cmp d r t v b M U pre S = fw (fun w S => stp (d.1 0) (pre ++ dg C c r w) (run d (dg C c r w) t v b M U) S) (c ^ r) 0 S := by
  intro r
  induction r with
  | zero =>
    intro t v b M U pre S
    rw [Nat.pow_zero, fw, fw, cmp]
    show _ = stp (d.1 0) (pre ++ []) (v, M, U) S
    rw [List.append_nil]
    rfl
  | succ r ih =>
    intro t v b M U pre S
    rw [cmp, fo_fl, ← hC]
    have key : ∀ (L : List Nat) (i : Nat) (S : Nat × List Nat), (∀ q, q < L.length → C.getD (i + q) 0 = L.getD q 0) → i + L.length = c → fl (fun s S => cmp d r (t + 1) (nxv d t s v) s (M + nxm d t v) (U + nxu s b) (pre ++ [s]) S) L S = fw (fun w S => stp (d.1 0) (pre ++ dg C c (r + 1) w) (run d (dg C c (r + 1) w) t v b M U) S) (L.length * c ^ r) (i * c ^ r) S := by
      intro L
      induction L with
      | nil =>
        intro i S _ _
        rw [List.length_nil, Nat.zero_mul]
        rfl
      | cons s L ihL =>
        intro i S hL hi
        rw [List.length_cons] at hi hL
        have hs : C.getD i 0 = s := hL 0 (by omega)
        rw [fl, ih, List.length_cons, Nat.add_mul, Nat.one_mul, Nat.add_comm (L.length * c ^ r), fw_split]
        have e1 : fw (fun w S => stp (d.1 0) (pre ++ dg C c (r + 1) w) (run d (dg C c (r + 1) w) t v b M U) S) (c ^ r) (i * c ^ r) S = fw (fun w S => stp (d.1 0) (pre ++ [s] ++ dg C c r w) (run d (dg C c r w) (t + 1) (nxv d t s v) s (M + nxm d t v) (U + nxu s b)) S) (c ^ r) 0 S := by
          refine fw_shift _ _ _ _ (fun q hq => ?_)
          funext S
          show stp (d.1 0) (pre ++ dg C c (r + 1) (i * c ^ r + q)) (run d (dg C c (r + 1) (i * c ^ r + q)) t v b M U) S = stp (d.1 0) (pre ++ [s] ++ dg C c r (0 + q)) (run d (dg C c r (0 + q)) (t + 1) (nxv d t s v) s (M + nxm d t v) (U + nxu s b)) S
          rw [dg, dg_top (by omega) hq, hs, dg_low hc0 r (Nat.le_refl r), run, Nat.zero_add, List.append_assoc]
          rfl
        rw [e1, show i * c ^ r + c ^ r = (i + 1) * c ^ r by rw [Nat.add_mul, Nat.one_mul]]
        exact ihL (i + 1) _ (fun q hq => by
          have := hL (q + 1) (by omega)
          rw [show i + 1 + q = i + (q + 1) by omega, this]
          rfl) (by omega)
    have := key C 0 S (fun q _ => by rw [Nat.zero_add]) (by omega)
    rw [this, hc, Nat.zero_mul, Nat.pow_succ, Nat.mul_comm]
theorem cl_len : ∀ P : Fin 6, (1 ≤ (cl 1 (2 ^ P.val) 0).length ∧ (cl 1 (2 ^ P.val) 0).length ≤ 16) ∧ (1 ≤ (cl 2 (2 ^ P.val) 0).length ∧ (cl 2 (2 ^ P.val) 0).length ≤ 16) := by decide +kernel
theorem cl_mem (h : Nat) : ∀ m s q, q < (cl h m s).length → (cl h m s).getD q 0 < s + m
  | 0, s, q, hq => absurd hq (by simp [cl])
  | m + 1, s, q, hq => by
    rw [cl] at hq ⊢
    by_cases hd : decide (pcN s ≤ h) = true
    · rw [if_pos hd] at hq ⊢
      cases q with
      | zero => show s < _; omega
      | succ q =>
        have := cl_mem h m (s + 1) q (by rw [List.length_cons] at hq; omega)
        show (cl h m (s + 1)).getD q 0 < _
        omega
    · rw [if_neg hd] at hq ⊢
      have := cl_mem h m (s + 1) q hq
      omega
theorem run_b {d : TD} (hb : bT d) : ∀ (ss : List Nat) (t : Nat) (v : Nat → Nat) (b M U : Nat), (∀ k, k < d.1 0 → v k ≤ 100) → (run d ss t v b M U).2.1 ≤ M + 40 * ss.length ∧ (run d ss t v b M U).2.2 ≤ U + ss.length ∧ ∀ k, k < d.1 0 → (run d ss t v b M U).1 k ≤ 100
  | [], t, v, b, M, U, hv => ⟨Nat.le_refl _, Nat.le_refl _, hv⟩
  | s :: ss, t, v, b, M, U, hv => by
    have h5 : d.1 0 ≤ 5 := hb.1
    have h8 : d.1 2 ≤ 8 := hb.2.2.1
    have h := run_b hb ss (t + 1) (nxv d t s v) s (M + nxm d t v) (U + nxu s b) (fun k hk => behN_le d t k (hv k hk) _)
    have hm : nxm d t v ≤ 8 * d.1 0 := sF_bd _ _ (fun k _ _ => Nat.le_trans (missN_le d t k (v k)) h8)
    have hu : nxu s b ≤ 1 := by unfold nxu; split <;> omega
    rw [run, List.length_cons]
    exact ⟨by omega, by omega, h.2.2⟩
theorem outN_le (v : Nat → Nat) (P : Nat) : outN v P ≤ P := by
  have := sF_bd (f := fun k => if v k = 0 then 1 else 0) (c := 1) P 0 (fun k _ _ => by show (if v k = 0 then 1 else 0) ≤ 1; split <;> omega)
  unfold outN
  omega
theorem pc5 : ∀ (a : Fin 32) (i : Fin 5), a.val < 2 ^ i.val → pcN (a.val + 2 ^ i.val) = pcN a.val + 1 := by decide +kernel
theorem pc_oF (v : Nat → Nat) : ∀ r i a, i + r ≤ 5 → a < 2 ^ i → pcN (oF v r i a) = pcN a + sF (fun k => if v k = 0 then 1 else 0) r i
  | 0, _, _, _, _ => rfl
  | r + 1, i, a, h, ha => by
    obtain ⟨p1, p2⟩ := pw5 ⟨i, by omega⟩
    have p1 : 2 ^ i ≤ 16 := p1
    have p2 : 2 ^ (i + 1) = 2 * 2 ^ i := p2
    rw [oF, sF]
    by_cases q : v i = 0
    · have := pc5 ⟨a, by omega⟩ ⟨i, by omega⟩ ha
      have : pcN (a + 2 ^ i) = pcN a + 1 := this
      rw [if_pos q, if_pos q, pc_oF v r (i + 1) _ (by omega) (by omega), this]
      omega
    · rw [if_neg q, if_neg q, pc_oF v r (i + 1) _ (by omega) (by omega)]
      omega
