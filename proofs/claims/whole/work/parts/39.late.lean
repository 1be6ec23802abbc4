/-! latest -/
theorem upd_upd (f : Nat → Int32) (k : Nat) (x y : Int32) : upd (upd f k x) k y = upd f k y := by
  funext j
  by_cases h : j = k
  · rw [h, upd_s, upd_s]
  · rw [upd_n _ _ h, upd_n _ _ h, upd_n _ _ h]
theorem upd_id {f : Nat → Int32} {k : Nat} {x : Int32} (h : f k = x) : upd f k x = f := by
  funext j
  by_cases q : j = k
  · rw [q, upd_s, h]
  · rw [upd_n _ _ q]
def wS (τ : Sx) (f : Nat → Int32) (K v : Nat) : Sx := sr τ 5 (upd f (4 + K) (nI v))
theorem wS_ld {τ : Sx} {f : Nat → Int32} {K v : Nat} (h : K < 5) : ldA mLn (wS τ f K v) 5 (4 + nI K) = some (nI v) := by
  rw [show (4 : Int32) + nI K = nI (4 + K) from nI_add 4 K, ldk (n := 14) rfl (by omega) (by decide)]
  exact congrArg some (upd_s _ _ _)
theorem wS_st {τ : Sx} {f : Nat → Int32} {K v w : Nat} (h : K < 5) : stA mLn (wS τ f K v) 5 (4 + nI K) (nI w) = some (wS τ f K w) := by
  rw [show (4 : Int32) + nI K = nI (4 + K) from nI_add 4 K, stk (n := 14) rfl (by omega) (by decide)]
  unfold wS
  rw [sr_sr]
  exact congrArg (fun z => some (sr τ 5 z)) (upd_upd _ _ _ _)
theorem mmb {d : TD} (hb : bT d) {τ : Sx} (hm : mT τ d) (f : Nat → Int32) {T K : Nat} (ht : T < 2 ^ 31) (hK : K < d.1 0) : ∀ (r n i v m : Nat), v ≤ 100 → i + r = d.1 2 → r < n → m_X12_missedBy_L5 n (nI K) (nI T) (nI m) (nI i) (wS τ f K v) = some (nI (lmF d T K r i v m).2, wS τ f K (lmF d T K r i v m).1) := by
  have h8 : d.1 2 ≤ 8 := hb.2.2.1
  have h5 : d.1 0 ≤ 5 := hb.1
  intro r
  induction r with
  | zero =>
    intro n i v m hv hi hn
    obtain ⟨n, rfl⟩ : ∃ k, n = k + 1 := ⟨n - 1, by omega⟩
    rw [m_X12_missedBy_L5, show (wS τ f K v).1 8 = nI (d.1 2) from hm.1.2.2.1, if_pos (nI_le (by omega) (by omega))]
    rfl
  | succ r ih =>
    intro n i v m hv hi hn
    obtain ⟨n, rfl⟩ : ∃ k, n = k + 1 := ⟨n - 1, by omega⟩
    obtain ⟨c1, c2, c3, c4⟩ := hb.2.2.2.2.2.1 i (by omega)
    obtain ⟨g1, g2, g3⟩ := hm.2.2.1 i (by omega)
    have l2 : ldA mLn (wS τ f K v) 2 (3 * nI i + 2) = some (nI (d.2 4 i)) := by
      rw [show (3 : Int32) * nI i = nI (3 * i) from pk_mul 3 i, show nI (3 * i) + (2 : Int32) = nI (3 * i + 2) from nI_add _ 2, ldk (n := 48) rfl (by omega) (by decide)]
      exact congrArg some g3
    have l1 : ldA mLn (wS τ f K v) 2 (3 * nI i + 1) = some (nI (d.2 3 i)) := by
      rw [show (3 : Int32) * nI i = nI (3 * i) from pk_mul 3 i, show nI (3 * i) + (1 : Int32) = nI (3 * i + 1) from nI_add _ 1, ldk (n := 48) rfl (by omega) (by decide)]
      exact congrArg some g2
    have l0 : ldA mLn (wS τ f K v) 2 (3 * nI i) = some (nI (d.2 2 i)) := by
      rw [show (3 : Int32) * nI i = nI (3 * i) from pk_mul 3 i, ldk (n := 48) rfl (by omega) (by decide)]
      exact congrArg some g1
    have lv := wS_ld (τ := τ) (f := f) (v := v) (show K < 5 by omega)
    have sv : ∀ w, stA mLn (wS τ f K v) 5 (4 + nI K) (nI w) = some (wS τ f K w) := fun w => wS_st (by omega)
    have e0 : ∀ x : Nat, nI x - 0 = nI x := fun x => Int32.sub_zero _
    have e1 : ∀ x : Nat, nI x + 0 = nI x := fun x => Int32.add_zero _
    rw [m_X12_missedBy_L5, show (wS τ f K v).1 8 = nI (d.1 2) from hm.1.2.2.1, if_neg (nI_ge (by omega) (by omega)), l0, bs]
    unfold m_X12_missedBy_J46 m_X12_missedBy_J47 m_X12_missedBy_J81 m_X12_missedBy_J82
    rw [lmF]
    by_cases q1 : d.2 2 i = K
    · rw [if_pos (show nI (d.2 2 i) = nI K from congrArg nI q1), l1, bs]
      by_cases q2 : d.2 3 i = T
      · rw [if_pos (show nI (d.2 3 i) = nI T from congrArg nI q2), if_pos (show d.2 2 i = K ∧ d.2 3 i = T from ⟨q1, q2⟩)]
        simp only [if_neg n10, lv, bs, l2]
        by_cases q3 : d.2 4 i ≤ v
        · simp only [if_pos q3, if_pos (nI_le q3 (show v < 2 ^ 31 by omega)), if_neg (nI_nlt q3 (show v < 2 ^ 31 by omega)), pk_sub q3, sv, bs, e1, nI_1]
          exact ih n (i + 1) (v - d.2 4 i) m (by omega) (by omega) (by omega)
        · simp only [if_neg q3, if_neg (nI_ge (show v < d.2 4 i by omega) (by omega)), if_pos (nI_lt (show v < d.2 4 i by omega) (by omega)), e0, sv, bs, nI_1]
          exact ih n (i + 1) v (m + 1) hv (by omega) (by omega)
      · rw [if_neg (show ¬ nI (d.2 3 i) = nI T from fun z => q2 ((nI_eq (by omega) ht).mp z)), if_neg (show ¬ (d.2 2 i = K ∧ d.2 3 i = T) from fun z => q2 z.2)]
        simp only [lv, bs, if_true, e0, e1, sv, nI_1]
        exact ih n (i + 1) v m hv (by omega) (by omega)
    · rw [if_neg (show ¬ nI (d.2 2 i) = nI K from fun z => q1 ((nI_eq (by omega) (by omega)).mp z)), if_neg (show ¬ (d.2 2 i = K ∧ d.2 3 i = T) from fun z => q1 z.1)]
      simp only [lv, bs, if_true, e0, e1, sv, nI_1]
      exact ih n (i + 1) v m hv (by omega) (by omega)
theorem mmbN {d : TD} (hb : bT d) {τ : Sx} (hm : mT τ d) (f : Nat → Int32) {T K v : Nat} (ht : T < 2 ^ 31) (hK : K < d.1 0) (hv : v ≤ 100) : m_X12_missedBy (wS τ f K v) (nI K) (nI T) = some (nI (missN d T K v), wS τ f K (leftN d T K v)) := by
  have h8 : d.1 2 ≤ 8 := hb.2.2.1
  have h := mmb hb hm f ht hK (d.1 2) FU 0 v 0 hv (by omega) (by unfold FU; omega)
  have h : m_X12_missedBy_L5 FU (nI K) (nI T) 0 0 (wS τ f K v) = _ := h
  unfold m_X12_missedBy
  rw [h]
  rfl
/-- the calls missed on the way -/
def hF (d : TD) (K S : Nat) : Nat → Nat → Nat → Nat
  | 0, _, _ => 0
  | r + 1, x, v => missN d x K v + hF d K S r (x + 1) (behN d x K v (decide (S ≤ x)))
theorem hF_le {d : TD} (hb : bT d) (K S : Nat) : ∀ r x v, hF d K S r x v ≤ 8 * r
  | 0, _, _ => Nat.le_refl _
  | r + 1, x, v => by
    have h1 := missN_le d x K v
    have h2 := hF_le hb K S r (x + 1) (behN d x K v (decide (S ≤ x)))
    have h8 : d.1 2 ≤ 8 := hb.2.2.1
    rw [hF]; omega
theorem chl {d : TD} (hb : bT d) {σ : Sx} (hc : cT σ d) {K S E : Nat} (hK : K < d.1 0) (hE : E ≤ 60) (hS : S ≤ 100) : ∀ (r n x v : Nat), v ≤ 100 → x + r = E + 1 → r < n → m_X11_holdsOut_L20 σ n (nI K) (nI S) (nI E) (nI v) (nI x) = some (if hF d K S r x v = 0 then .inr () else .inl 0) := by
  have h8 : d.1 2 ≤ 8 := hb.2.2.1
  have h5 : d.1 0 ≤ 5 := hb.1
  intro r
  induction r with
  | zero =>
    intro n x v hv hx hn
    obtain ⟨n, rfl⟩ : ∃ k, n = k + 1 := ⟨n - 1, by omega⟩
    rw [m_X11_holdsOut_L20, if_pos (nI_lt (by omega) (by omega))]
    rfl
  | succ r ih =>
    intro n x v hv hx hn
    obtain ⟨n, rfl⟩ : ∃ k, n = k + 1 := ⟨n - 1, by omega⟩
    have hms := missN_le d x K v
    rw [m_X11_holdsOut_L20, if_neg (nI_nlt (by omega) (by omega)), cmissN hb hc (by omega) (by omega) hv, bs, hF]
    by_cases q : missN d x K v = 0
    · rw [q, if_pos (show nI 0 ≤ 0 by decide), Nat.zero_add]
      unfold m_X11_holdsOut_J63
      by_cases q2 : x < S
      · have hbe := cbeh hb hc (k := K) (t := x) (v := v) hK (by omega) hv false
        have hbe : m_X10_levelBehind σ (nI x) (nI K) (nI v) 0 = _ := hbe
        rw [if_pos (nI_lt q2 (by omega)), hbe, bs, nI_1, show decide (S ≤ x) = false from decide_eq_false (by omega)]
        exact ih n (x + 1) _ (behN_le d x K hv _) (by omega) (by omega)
      · have hbe := cbeh hb hc (k := K) (t := x) (v := v) hK (by omega) hv true
        have hbe : m_X10_levelBehind σ (nI x) (nI K) (nI v) 1 = _ := hbe
        rw [if_neg (nI_nlt (by omega) (by omega)), hbe, bs, nI_1, show decide (S ≤ x) = true from decide_eq_true (by omega)]
        exact ih n (x + 1) _ (behN_le d x K hv _) (by omega) (by omega)
    · rw [if_neg (nI_nle (by omega) (by omega)), if_neg (by omega)]
theorem mhl {d : TD} (hb : bT d) {τ : Sx} (hm : mT τ d) (f : Nat → Int32) {K S E : Nat} (hK : K < d.1 0) (hE : E ≤ 60) (hS : S ≤ 100) : ∀ (r n x v m : Nat), v ≤ 100 → x + r = E + 1 → r < n → ∃ v', m_X12_isHeard_L15 n (nI K) (nI S) (nI E) (nI m) (nI x) (wS τ f K v) = some (nI (m + hF d K S r x v), wS τ f K v') := by
  have h8 : d.1 2 ≤ 8 := hb.2.2.1
  have h5 : d.1 0 ≤ 5 := hb.1
  intro r
  induction r with
  | zero =>
    intro n x v m hv hx hn
    obtain ⟨n, rfl⟩ : ∃ k, n = k + 1 := ⟨n - 1, by omega⟩
    refine ⟨v, ?_⟩
    rw [m_X12_isHeard_L15, if_pos (nI_lt (by omega) (by omega))]
    rfl
  | succ r ih =>
    intro n x v m hv hx hn
    obtain ⟨n, rfl⟩ : ∃ k, n = k + 1 := ⟨n - 1, by omega⟩
    obtain ⟨c1, c2, c3⟩ := hb.2.2.2.2.1 K hK
    obtain ⟨g1, g2⟩ := hm.2.1 K hK
    have hlf : leftN d x K v ≤ 100 := Nat.le_trans (leftN_le d x K v) hv
    have l1 : ldA mLn (wS τ f K (leftN d x K v)) 1 (3 * nI K + 1) = some (nI (d.2 0 K)) := by
      rw [show (3 : Int32) * nI K = nI (3 * K) from pk_mul 3 K, show nI (3 * K) + (1 : Int32) = nI (3 * K + 1) from nI_add _ 1, ldk (n := 30) rfl (by omega) (by decide)]
      exact congrArg some g1
    have l2 : ldA mLn (wS τ f K (leftN d x K v)) 1 (3 * nI K + 2) = some (nI (d.2 1 K)) := by
      rw [show (3 : Int32) * nI K = nI (3 * K) from pk_mul 3 K, show nI (3 * K) + (2 : Int32) = nI (3 * K + 2) from nI_add _ 2, ldk (n := 30) rfl (by omega) (by decide)]
      exact congrArg some g2
    have lv := wS_ld (τ := τ) (f := f) (v := leftN d x K v) (show K < 5 by omega)
    have sv : ∀ w, stA mLn (wS τ f K (leftN d x K v)) 5 (4 + nI K) (nI w) = some (wS τ f K w) := fun w => wS_st (by omega)
    have hmW : mT (wS τ f K (leftN d x K v)) d := hm
    have fin : ∀ on : Bool, on = decide (S ≤ x) → ∃ v', m_X12_isHeard_L15 n (nI K) (nI S) (nI E) (nI (m + missN d x K v)) (nI (x + 1)) (wS τ f K (behN d x K v on)) = some (nI (m + hF d K S (r + 1) x v), wS τ f K v') := fun on e => by
      subst e
      rw [hF, ← Nat.add_assoc]
      exact ih n (x + 1) _ _ (behN_le d x K hv _) (by omega) (by omega)
    rw [m_X12_isHeard_L15, if_neg (nI_nlt (by omega) (by omega)), mmbN hb hm f (by omega) hK hv, bs]
    unfold m_X12_isHeard_J52 m_X12_isHeard_J53
    simp only [if_true, if_neg n10, lv, bs, l1, l2, mlow c3 hlf, mfil c2 hlf, sv, nI_1, nI_add, mdark hb hmW (show x < 2 ^ 31 by omega)]
    by_cases q : x < S
    · rw [if_pos (nI_lt q (by omega))]
      have := fin false (decide_eq_false (by omega)).symm
      unfold behN at this
      exact this
    · rw [if_neg (nI_nlt (by omega) (by omega))]
      have := fin true (decide_eq_true (by omega)).symm
      unfold behN at this
      cases hd : dkN d x with
      | true =>
        rw [hd] at this
        rw [if_neg (by decide)]
        exact this
      | false =>
        rw [hd] at this
        rw [if_pos (show (if false = true then (1 : Int32) else 0) = 0 from rfl)]
        exact this
theorem cho {d : TD} (hb : bT d) {σ : Sx} (hc : cT σ d) {t K S E v : Nat} (hK : K < d.1 0) (hE : E ≤ 60) (hS : S ≤ 100) (h14 : σ.1 14 = nI t) (htE : t ≤ E) (hv : σ.2.2.1 17 K = nI v) (hv100 : v ≤ 100) : m_X11_holdsOut σ (nI K) (nI S) (nI E) = some (if hF d K S (E + 1 - t) t v = 0 then 1 else 0) := by
  have h5 : d.1 0 ≤ 5 := hb.1
  have lv : ldA cLn σ 17 (nI K) = some (nI v) := by
    rw [ldk (n := 5) rfl (by omega) (by decide), hv]
  unfold m_X11_holdsOut
  rw [lv, bs, h14, chl hb hc hK hE hS (E + 1 - t) FU t v hv100 (by omega) (by unfold FU; omega), bs]
  by_cases q : hF d K S (E + 1 - t) t v = 0
  · rw [if_pos q, if_pos q]; rfl
  · rw [if_neg q, if_neg q]; rfl
theorem mih {d : TD} (hb : bT d) {τ : Sx} (hm : mT τ d) {t K S E v : Nat} (hK : K < d.1 0) (hE : E ≤ 60) (hS : S ≤ 100) (h0 : τ.2.2.1 4 0 = nI t) (htE : t ≤ E) (hv : τ.2.2.1 4 (4 + K) = nI v) (hv100 : v ≤ 100) : ∃ f, m_X12_isHeard τ (nI K) (nI S) (nI E) = some (if hF d K S (E + 1 - t) t v = 0 then 1 else 0, sr τ 5 f) := by
  have h5 : d.1 0 ≤ 5 := hb.1
  obtain ⟨f, a1, a2⟩ := asNow_ok τ
  have e : sr τ 5 f = wS τ f K v := by
    unfold wS
    rw [upd_id]
    rw [a2 _ (by omega)]; exact hv
  have l0 : ldA mLn (wS τ f K v) 4 0 = some (nI t) := by
    rw [show (0 : Int32) = nI 0 from rfl, ldk (n := 14) rfl (by decide) (by decide)]
    exact congrArg some h0
  obtain ⟨v', p⟩ := mhl hb hm f hK hE hS (E + 1 - t) FU t v 0 hv100 (by omega) (by unfold FU; omega)
  have p : m_X12_isHeard_L15 FU (nI K) (nI S) (nI E) 0 (nI t) (wS τ f K v) = some (nI (0 + hF d K S (E + 1 - t) t v), wS τ f K v') := p
  rw [Nat.zero_add] at p
  have hl := hF_le hb K S (E + 1 - t) t v
  refine ⟨upd f (4 + K) (nI v'), ?_⟩
  unfold m_X12_isHeard
  rw [a1, bs, e, l0, bs, p, bs]
  by_cases q : hF d K S (E + 1 - t) t v = 0
  · rw [if_pos q, q, if_pos (show nI 0 = 0 from rfl)]; rfl
  · rw [if_neg q, if_neg (nI_ne0 (by omega) (by omega))]; rfl
theorem lat {d : TD} (hb : bT d) {σ : Sx} (hc : cT σ d) {t K E v : Nat} (hK : K < d.1 0) (hE : E ≤ 60) (htE : t ≤ E) (h14 : σ.1 14 = nI t) (hv : σ.2.2.1 17 K = nI v) (hv100 : v ≤ 100) : ∀ (r n : Nat) (τ : Sx), mT τ d → τ.2.2.1 4 0 = nI t → τ.2.2.1 4 (4 + K) = nI v → t + r ≤ E + 2 → r < n → (∃ x f, m_X11_latest_L30 σ n (nI K) (nI E) (nI (t + r) + (-1)) = some (.inl x) ∧ m_X12_latest_L34 n (nI K) (nI E) (nI (t + r) + (-1)) τ = some (.inl (x, sr τ 5 f))) ∨ (∃ f, m_X11_latest_L30 σ n (nI K) (nI E) (nI (t + r) + (-1)) = some (.inr ()) ∧ m_X12_latest_L34 n (nI K) (nI E) (nI (t + r) + (-1)) τ = some (.inr (sr τ 5 f))) := by
  intro r
  induction r with
  | zero =>
    intro n τ hm h0 hv2 hr hn
    obtain ⟨n, rfl⟩ : ∃ k, n = k + 1 := ⟨n - 1, by omega⟩
    have l0 : ldA mLn τ 4 0 = some (nI t) := by
      rw [show (0 : Int32) = nI 0 from rfl, ldk (n := 14) rfl (by decide) (by decide), h0]
    have hlt : nI (t + 0) + (-1) < nI t := by
      rw [← Int32.sub_eq_add_neg, Int32.lt_iff_toInt_lt, Nat.add_zero, nI_m1 t (by omega), nI_toInt (by omega)]
      omega
    right
    refine ⟨τ.2.2.1 5, ?_, ?_⟩
    · rw [m_X11_latest_L30, h14, if_pos hlt]
    · rw [m_X12_latest_L34, l0, bs, if_pos hlt, sr_self]
  | succ r ih =>
    intro n τ hm h0 hv2 hr hn
    obtain ⟨n, rfl⟩ : ∃ k, n = k + 1 := ⟨n - 1, by omega⟩
    have l0 : ldA mLn τ 4 0 = some (nI t) := by
      rw [show (0 : Int32) = nI 0 from rfl, ldk (n := 14) rfl (by decide) (by decide), h0]
    rw [show nI (t + (r + 1)) + (-1) = nI (t + r) from pk_m1 (t + r)]
    obtain ⟨f, p⟩ := mih hb hm (S := t + r) hK hE (by omega) h0 htE hv2 hv100
    rw [m_X11_latest_L30, m_X12_latest_L34, h14, l0, bs, if_neg (nI_nlt (by omega) (by omega)), if_neg (nI_nlt (by omega) (by omega)), cho hb hc hK hE (by omega) h14 htE hv hv100, bs, p, bs]
    by_cases q : hF d K (t + r) (E + 1 - t) t v = 0
    · left
      rw [if_pos q, if_neg n10, if_neg n10]
      exact ⟨_, f, rfl, rfl⟩
    · rw [if_neg q, if_pos rfl, if_pos rfl]
      rcases ih n (sr τ 5 f) hm h0 hv2 (by omega) (by omega) with ⟨x, g, p1, p2⟩ | ⟨g, p1, p2⟩
      · left; exact ⟨x, g, p1, by rw [sr_sr] at p2; exact p2⟩
      · right; exact ⟨g, p1, by rw [sr_sr] at p2; exact p2⟩
theorem OKlatest : OK_latest INV := by
  intro σ τ x y hinv
  have hinv2 : INV σ (sg τ 0 0) := hinv
  unfold m_X12_latest m_X11_latest
  generalize sg τ 0 0 = τ at hinv2 ⊢
  obtain ⟨d, hR, hN⟩ := INV_iff.mp hinv2
  have hR0 := hR
  obtain ⟨hb, hc, hm, -⟩ := hR0
  have h5 : d.1 0 ≤ 5 := hb.1
  obtain ⟨t, o, v, c, n1, n2, n3, n4, n5, n6, n7, n8, n9⟩ := hN.num h5
  have l0 : ldA mLn τ 4 0 = some (nI t) := by
    rw [show (0 : Int32) = nI 0 from rfl, ldk (n := 14) rfl (by decide) (by decide), n3.2]
  rcases iph hb hc hm x with ⟨k, hk, rfl, e1, e2⟩ | ⟨e1, e2⟩
  · simp only [e1, e2, bs, if_neg n10, l0, n3.1]
    rcases wr y t 60 (by omega) (by decide) with ⟨E, hE1, hE2, rfl, q1, q2⟩ | ⟨q1, q2⟩
    · have q1 : m_X11_isWithin (nI E) (nI t) 60 = some 1 := q1
      have q2 : m_X12_in (nI E) (nI t) 60 = some 1 := q2
      simp only [q1, q2, bs, if_neg n10]
      have hl := lat hb hc (t := t) (K := k) (E := E) hk hE2 hE1 n3.1 (n8.1 k hk) (n7 k hk).1 (E + 2 - t) FU τ hm n3.2 (n9.1 k hk) (by omega) (by unfold FU; omega)
      rw [show t + (E + 2 - t) = E + 1 + 1 by omega, pk_m1] at hl
      rw [nI_1]
      rcases hl with ⟨x, g, p1, p2⟩ | ⟨g, p1, p2⟩
      · rw [p1, p2]
        exact ⟨x, sr τ 5 g, rfl, rfl, hinv2⟩
      · rw [p1, p2]
        exact ⟨-9, sr τ 5 g, rfl, rfl, hinv2⟩
    · have q1 : m_X11_isWithin y (nI t) 60 = some 0 := q1
      have q2 : m_X12_in y (nI t) 60 = some 0 := q2
      simp only [q1, q2, bs, if_true]
      exact ⟨_, τ, rfl, rfl, hinv2⟩
  · simp only [e1, e2, bs, if_true]
    exact ⟨_, τ, rfl, rfl, hinv2⟩
