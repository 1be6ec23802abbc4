/-! reading on, both sides at once -/
def ce (σ σ' : Sx) : Prop := (∀ i, i < 4 ∨ i = 8 ∨ 14 ≤ i → σ'.1 i = σ.1 i) ∧ σ'.2.1 = σ.2.1 ∧ ∀ j, j < 8 ∨ 16 ≤ j → σ'.2.2.1 j = σ.2.2.1 j
def me (τ τ' : Sx) : Prop := (∀ i, i = 1 ∨ (7 ≤ i ∧ i < 11) ∨ 15 ≤ i → τ'.1 i = τ.1 i) ∧ τ'.2.1 = τ.2.1 ∧ (∀ j, j = 0 ∨ 4 ≤ j → τ'.2.2.1 j = τ.2.2.1 j) ∧ (∀ z, z < 15 → τ'.2.2.1 1 z = τ.2.2.1 1 z) ∧ (∀ z, z < 24 → τ'.2.2.1 2 z = τ.2.2.1 2 z) ∧ ∀ z, z < 4 → τ'.2.2.1 3 z = τ.2.2.1 3 z
theorem ce.rf (σ : Sx) : ce σ σ := ⟨fun _ _ => rfl, rfl, fun _ _ => rfl⟩
theorem me.rf (τ : Sx) : me τ τ := ⟨fun _ _ => rfl, rfl, fun _ _ => rfl, fun _ _ => rfl, fun _ _ => rfl, fun _ _ => rfl⟩
theorem ce.tr {a b c : Sx} (h : ce a b) (k : ce b c) : ce a c := ⟨fun i hi => (k.1 i hi).trans (h.1 i hi), k.2.1.trans h.2.1, fun j hj => (k.2.2 j hj).trans (h.2.2 j hj)⟩
theorem me.tr {a b c : Sx} (h : me a b) (k : me b c) : me a c := ⟨fun i hi => (k.1 i hi).trans (h.1 i hi), k.2.1.trans h.2.1, fun j hj => (k.2.2.1 j hj).trans (h.2.2.1 j hj), fun z hz => (k.2.2.2.1 z hz).trans (h.2.2.2.1 z hz), fun z hz => (k.2.2.2.2.1 z hz).trans (h.2.2.2.2.1 z hz), fun z hz => (k.2.2.2.2.2 z hz).trans (h.2.2.2.2.2 z hz)⟩
theorem cfr.ce {σ σ' : Sx} (h : cfr σ σ') : ce σ σ' := ⟨fun i hi => h.1 i (by omega), by rw [h.2], fun j _ => by rw [h.2]⟩
theorem mfr.me {τ τ' : Sx} (h : mfr τ τ') : me τ τ' := ⟨fun i hi => h.1 i (by omega), by rw [h.2], fun j _ => by rw [h.2], fun z _ => by rw [h.2], fun z _ => by rw [h.2], fun z _ => by rw [h.2]⟩
theorem ce.sr {σ : Sx} {j : Nat} {f : Nat → Int32} (h : 8 ≤ j ∧ j < 16) : ce σ (sr σ j f) := ⟨fun _ _ => rfl, rfl, fun i hi => sr_ne (by omega)⟩
def zon (j z : Nat) : Prop := (j = 1 ∧ 15 ≤ z) ∨ (j = 2 ∧ 24 ≤ z) ∨ (j = 3 ∧ 4 ≤ z)
theorem me.sr {τ : Sx} {j z : Nat} {x : Int32} (h : zon j z) : me τ (sr τ j (upd (τ.2.2.1 j) z x)) := by
  unfold zon at h
  refine ⟨fun _ _ => rfl, rfl, fun i hi => sr_ne (by omega), fun y hy => ?_, fun y hy => ?_, fun y hy => ?_⟩
  · by_cases q : j = 1
    · subst q
      exact upd_n _ _ (by omega)
    · rw [sr_ne (fun z => q z.symm)]
  · by_cases q : j = 2
    · subst q
      exact upd_n _ _ (by omega)
    · rw [sr_ne (fun z => q z.symm)]
  · by_cases q : j = 3
    · subst q
      exact upd_n _ _ (by omega)
    · rw [sr_ne (fun z => q z.symm)]
theorem me.sg {τ : Sx} {i : Nat} {x : Int32} (h : i ≠ 1 ∧ ¬ (7 ≤ i ∧ i < 11) ∧ i < 15) : me τ (sg τ i x) := ⟨fun j hj => if_neg (by omega), rfl, fun _ _ => rfl, fun _ _ => rfl, fun _ _ => rfl, fun _ _ => rfl⟩
theorem ce.sg {σ : Sx} {i : Nat} {x : Int32} (h : 4 ≤ i ∧ i ≠ 8 ∧ i < 14) : ce σ (sg σ i x) := ⟨fun j hj => if_neg (by omega), rfl, fun _ _ => rfl⟩
def Mw (n : Nat) (ch : Nat → Nat) (τ : Sx) (p : Nat) : Prop := Mx n ch τ ∧ τ.1 6 = -1 ∧ Mt n ch τ p
theorem Mw.keep {n : Nat} {ch : Nat → Nat} {τ τ' : Sx} {p : Nat} (h : Mw n ch τ p) (e1 : ∀ i, i < 7 → τ'.1 i = τ.1 i) (e2 : τ'.2.2.1 0 = τ.2.2.1 0) : Mw n ch τ' p := by
  obtain ⟨⟨a1, a2⟩, b, c1, c2, c3, c4⟩ := h
  exact ⟨⟨(e1 1 (by omega)).trans a1, fun j hj => by rw [e2]; exact a2 j hj⟩, (e1 6 (by omega)).trans b, (e1 2 (by omega)).trans c1, (e1 3 (by omega)).trans c2, (e1 4 (by omega)).trans c3, fun z => (e1 5 (by omega)).trans (c4 z)⟩
theorem Cx.kp {n : Nat} {ch : Nat → Nat} {σ σ' : Sx} (h : Cx n ch σ) (e1 : σ'.1 8 = σ.1 8) (e2 : σ'.2.2.1 16 = σ.2.2.1 16) : Cx n ch σ' := ⟨e1.trans h.1, fun j hj => by rw [e2]; exact h.2 j hj⟩
theorem cd8 {n : Nat} {ch : Nat → Nat} {p : Nat} (hch : ∀ j, j < n → ch j ≤ 255) (hp : p ≤ n) : ((tk n ch p).1 = 0 ∧ cdN (tk n ch p) = -1) ∨ ((tk n ch p).1 = 1 ∧ (tk n ch p).2.1 = 116 ∧ cdN (tk n ch p) = 116) ∨ ((tk n ch p).1 = 1 ∧ (tk n ch p).2.1 = 104 ∧ cdN (tk n ch p) = 104) ∨ ((tk n ch p).1 = 1 ∧ (tk n ch p).2.1 = 99 ∧ cdN (tk n ch p) = 99) ∨ ((tk n ch p).1 = 1 ∧ (tk n ch p).2.1 = 100 ∧ cdN (tk n ch p) = 100) ∨ ((tk n ch p).1 = 2 ∧ cdN (tk n ch p) = -2) ∨ ((tk n ch p).1 = 3 ∧ cdN (tk n ch p) = 59) ∨ ((tk n ch p).1 = 4 ∧ cdN (tk n ch p) = -3) := by
  obtain ⟨-, -, -, -, h5, h6, h7⟩ := tk_b hch hp
  generalize tk n ch p = t at *
  obtain ⟨k, v, q, e⟩ := t
  dsimp only at h5 h6 h7 ⊢
  rcases (show k = 0 ∨ k = 1 ∨ k = 2 ∨ k = 3 ∨ k = 4 by omega) with rfl | rfl | rfl | rfl | rfl
  · left; exact ⟨rfl, rfl⟩
  · rcases h6 rfl with rfl | rfl | rfl | rfl
    · right; left; exact ⟨rfl, rfl, rfl⟩
    · right; right; left; exact ⟨rfl, rfl, rfl⟩
    · right; right; right; left; exact ⟨rfl, rfl, rfl⟩
    · right; right; right; right; left; exact ⟨rfl, rfl, rfl⟩
  · right; right; right; right; right; left; exact ⟨rfl, rfl⟩
  · obtain rfl := h7 rfl
    right; right; right; right; right; right; left; exact ⟨rfl, rfl⟩
  · right; right; right; right; right; right; right; exact ⟨rfl, rfl⟩
theorem cdn2 {n : Nat} {ch : Nat → Nat} {p : Nat} (hch : ∀ j, j < n → ch j ≤ 255) (hp : p ≤ n) (h : (tk n ch p).1 ≠ 2) : ¬ cdN (tk n ch p) = -2 := by
  rcases cd8 hch hp with ⟨a, b⟩ | ⟨a, -, b⟩ | ⟨a, -, b⟩ | ⟨a, -, b⟩ | ⟨a, -, b⟩ | ⟨a, b⟩ | ⟨a, b⟩ | ⟨a, b⟩
  all_goals first | exact absurd a h | (rw [b]; decide)
theorem cdn3 {n : Nat} {ch : Nat → Nat} {p : Nat} (hch : ∀ j, j < n → ch j ≤ 255) (hp : p ≤ n) (h : (tk n ch p).1 ≠ 3) : ¬ cdN (tk n ch p) = 59 := by
  rcases cd8 hch hp with ⟨a, b⟩ | ⟨a, -, b⟩ | ⟨a, -, b⟩ | ⟨a, -, b⟩ | ⟨a, -, b⟩ | ⟨a, b⟩ | ⟨a, b⟩ | ⟨a, b⟩
  all_goals first | exact absurd a h | (rw [b]; decide)
theorem iw (x a b : Int32) : m_X11_isWithin x a b = some 1 ∨ m_X11_isWithin x a b = some 0 := by
  unfold m_X11_isWithin
  split
  · right; rfl
  · split
    · right; rfl
    · left; rfl
theorem tk1 {n : Nat} {ch : Nat → Nat} {τ : Sx} {p : Nat} (hn : n ≤ 200) (hch : ∀ j, j < n → ch j ≤ 255) (hp : p ≤ n) (h : Mw n ch τ p) : ∃ τ', m_X12_takes τ 1 = some (τ.1 5, τ') ∧ mfr τ τ' ∧ Mw n ch τ' (tk n ch p).2.2.2 := by
  obtain ⟨hx, h6, c1, c2, c3, c4⟩ := h
  obtain ⟨τ', a1, a2, a3⟩ := mnx hn hch hx c1 (tk_b hch hp).2.1
  refine ⟨τ', ?_, a2, hx.keep a2, (a2.1 6 (by omega)).trans h6, a3⟩
  unfold m_X12_takes m_X12_isWell
  rw [h6, if_neg (by decide), bs, if_neg n10, if_neg n10, a1, bs]
theorem tk0 {τ : Sx} (h6 : τ.1 6 = -1) : m_X12_takes τ 0 = some (0, sg τ 6 (τ.1 4)) := by
  unfold m_X12_takes m_X12_isWell
  rw [h6, if_neg (by decide), bs, if_neg n10, if_pos rfl]
theorem tkf {τ : Sx} {q : Nat} (h6 : τ.1 6 = nI q) (hq : q ≤ 200) (s : Int32) : m_X12_takes τ s = some (0, τ) := by
  unfold m_X12_takes m_X12_isWell
  rw [h6, if_pos (nI_pos' (by omega)), bs, if_pos rfl]
theorem nmf {τ : Sx} {q : Nat} (h6 : τ.1 6 = nI q) (hq : q ≤ 200) (x1 x2 : Int32) : m_X12_number τ x1 x2 = some (0, τ) := by
  have h := tkf h6 hq
  unfold m_X12_number m_X12_number_J25 m_X12_number_J26
  rw [h, h, bs]
  dsimp only
  split
  · rcases iw (τ.1 5) x1 x2 with e | e
    · have e : m_X12_in (τ.1 5) x1 x2 = some 1 := e
      rw [e, bs, if_neg n10]
    · have e : m_X12_in (τ.1 5) x1 x2 = some 0 := e
      rw [e, bs, if_pos rfl]
  · rfl
theorem stn {n : Nat} {ch : Nat → Nat} {p : Nat} {σ τ : Sx} (hn : n ≤ 200) (hch : ∀ j, j < n → ch j ≤ 255) (hp : p ≤ n) (hx : Cx n ch σ) (h10 : σ.1 10 = nI p) (hw : Mw n ch τ p) (x1 x2 : Int32) : (∃ v σ' τ' p', v ≤ 100 ∧ m_X11_isWithin (nI v) x1 x2 = some 1 ∧ m_X7_nextIsNumber σ x1 x2 = some (1, σ') ∧ σ'.1 12 = nI v ∧ cfr σ σ' ∧ σ'.1 10 = nI p' ∧ p < p' ∧ p' ≤ n ∧ m_X12_number τ x1 x2 = some (nI v, τ') ∧ mfr τ τ' ∧ Mw n ch τ' p') ∨ (∃ σ' q, m_X7_nextIsNumber σ x1 x2 = some (0, σ') ∧ cfr σ σ' ∧ σ'.1 9 = nI q ∧ q ≤ 200 ∧ m_X12_number τ x1 x2 = some (0, sg τ 6 (nI q))) := by
  obtain ⟨σ1, a1, a2, a3, a4, a5, a6⟩ := cnx hn hch hx h10 hp
  obtain ⟨t1, t2, t3, t4, t5, t6, t7⟩ := tk_b hch hp
  have hw0 := hw
  obtain ⟨hmx, h6, c1, c2, c3, c4⟩ := hw0
  unfold m_X7_nextIsNumber m_X12_number m_X12_number_J25 m_X12_number_J26
  rw [a1, bs, a5, c2]
  have hbad : ((m_X12_takes τ 0).bind fun q2 => some (q2.1, q2.2)) = some (0, sg τ 6 (nI (tk n ch p).2.2.1)) := by
    rw [tk0 h6, bs, c3]
  by_cases k2 : (tk n ch p).1 = 2
  · rw [show cdN (tk n ch p) = -2 by unfold cdN; rw [k2]; rfl, k2, if_pos rfl, if_pos (show nI 2 = 2 from rfl), a6 k2, c4 (Or.inr k2)]
    rcases iw (nI (tk n ch p).2.1) x1 x2 with e | e
    · left
      obtain ⟨τ', b1, b2, b3⟩ := tk1 hn hch hp hw
      have e' : m_X12_in (nI (tk n ch p).2.1) x1 x2 = some 1 := e
      refine ⟨(tk n ch p).2.1, σ1, τ', (tk n ch p).2.2.2, t4 k2, e, ?_, a6 k2, a2, a4, t3 (by omega), t2, ?_, b2, b3⟩
      · rw [e, bs, if_neg n10]
      · rw [e', bs, if_neg n10, b1, bs, c4 (Or.inr k2)]
    · right
      have e' : m_X12_in (nI (tk n ch p).2.1) x1 x2 = some 0 := e
      refine ⟨σ1, (tk n ch p).2.2.1, ?_, a2, a3, by omega, ?_⟩
      · rw [e, bs, if_pos rfl]
      · rw [e', bs, if_pos rfl, hbad]
  · right
    rw [if_neg (cdn2 hch hp k2), if_neg (show ¬ nI (tk n ch p).1 = 2 from fun z => k2 ((nI_eq (b := 2) (by omega) (by decide)).mp z)), hbad]
    exact ⟨σ1, (tk n ch p).2.2.1, rfl, a2, a3, by omega, rfl⟩
def Out (n : Nat) (ch : Nat → Nat) (σ0 τ0 : Sx) (p0 : Nat) (G : Sx → Sx → Prop) (c : Option (Int32 × Sx)) (m : Option Sx) : Prop := (∃ σ' τ' p', c = some (1, σ') ∧ m = some τ' ∧ p0 < p' ∧ p' ≤ n ∧ Cx n ch σ' ∧ σ'.1 10 = nI p' ∧ Mw n ch τ' p' ∧ ce σ0 σ' ∧ me τ0 τ' ∧ G σ' τ') ∨ (∃ σ' τ' q, c = some (0, σ') ∧ m = some τ' ∧ σ'.1 9 = nI q ∧ q ≤ 200 ∧ τ'.1 6 = nI q ∧ ce σ0 σ' ∧ me τ0 τ')
def endT (τ : Sx) : Option Sx := (m_X12_takes τ (if τ.1 3 = 3 then 1 else 0)).bind (fun q => some q.2)
def FP (τ0 : Sx) (m : Sx → Option Sx) : Prop := ∀ τ q, τ.1 6 = nI q → q ≤ 200 → me τ0 τ → ∃ τ', m τ = some τ' ∧ τ'.1 6 = nI q ∧ me τ0 τ'
theorem FP_end (τ0 : Sx) : FP τ0 endT := fun τ q h hq hm => ⟨τ, by unfold endT; rw [tkf h hq, bs], h, hm⟩
theorem FP_sg {τ0 : Sx} {m : Sx → Option Sx} (h : FP τ0 m) {i : Nat} {x : Sx → Int32} (hi : i ≠ 1 ∧ ¬ (7 ≤ i ∧ i < 11) ∧ i < 15) (h6 : i ≠ 6) : FP τ0 (fun τ => m (sg τ i (x τ))) := fun τ q e hq hm => h _ q ((if_neg (fun z => h6 z.symm)).trans e) hq (hm.tr (me.sg hi))
theorem FP_st {τ0 : Sx} {m : Sx → Option Sx} (h : FP τ0 m) {j z : Nat} {im : Int32} (x1 x2 : Int32) (hz : zon j z) (hst : ∀ (τ : Sx) x, stA mLn τ j im x = some (sr τ j (upd (τ.2.2.1 j) z x))) : FP τ0 (fun τ => (m_X12_number τ x1 x2).bind (fun q => (stA mLn q.2 j im q.1).bind m)) := fun τ q e hq hm => by
  dsimp only
  rw [nmf e hq, bs, hst, bs]
  exact h _ q e hq (hm.tr (me.sr hz))
theorem itEnd {n : Nat} {ch : Nat → Nat} {p p0 : Nat} {σ0 τ0 σ τ : Sx} {G : Sx → Sx → Prop} (hn : n ≤ 200) (hch : ∀ j, j < n → ch j ≤ 255) (hp0 : p0 ≤ p) (hp : p ≤ n) (hx : Cx n ch σ) (h10 : σ.1 10 = nI p) (hw : Mw n ch τ p) (hc : ce σ0 σ) (hm : me τ0 τ) (hG : ∀ σ' τ', cfr σ σ' → mfr τ τ' → G σ' τ') : Out n ch σ0 τ0 p0 G ((m_X7_nextIsItemEnd σ).bind (fun q10 => (rtZ q10.1).bind (fun v => some (v, q10.2)))) (endT τ) := by
  obtain ⟨σ1, a1, a2, a3, a4, a5, a6⟩ := cnx hn hch hx h10 hp
  obtain ⟨t1, t2, t3, t4, t5, t6, t7⟩ := tk_b hch hp
  have hw0 := hw
  obtain ⟨hmx, h6, c1, c2, c3, c4⟩ := hw0
  unfold m_X7_nextIsItemEnd endT
  rw [a1, bs, a5, c2]
  by_cases k3 : (tk n ch p).1 = 3
  · left
    obtain ⟨τ', b1, b2, b3⟩ := tk1 hn hch hp hw
    refine ⟨σ1, τ', (tk n ch p).2.2.2, ?_, ?_, ?_, t2, hx.keep a2, a4, b3, hc.tr a2.ce, hm.tr b2.me, hG _ _ a2 b2⟩
    · rw [if_pos (show cdN (tk n ch p) = 59 by unfold cdN; rw [k3, t7 k3]; rfl), bs, rt1, bs]
    · rw [k3, if_pos (show nI 3 = 3 from rfl), b1, bs]
    · have := t3 (by omega); omega
  · right
    refine ⟨σ1, sg τ 6 (nI (tk n ch p).2.2.1), (tk n ch p).2.2.1, ?_, ?_, a3, by omega, rfl, hc.tr a2.ce, hm.tr (me.sg (by decide))⟩
    · rw [if_neg (cdn3 hch hp k3), bs, rt0, bs]
    · rw [if_neg (show ¬ nI (tk n ch p).1 = 3 from fun z => k3 ((nI_eq (b := 3) (by omega) (by decide)).mp z)), tk0 h6, bs, c3]
def S1 (σ σ' : Sx) (j z v : Nat) : Prop := (∀ i, i < 9 ∨ 13 ≤ i → σ'.1 i = σ.1 i) ∧ σ'.2.2.1 = va_up σ.2.2.1 j (upd (σ.2.2.1 j) z (nI v))
def T1 (τ τ' : Sx) (j z v : Nat) : Prop := (∀ i, i < 2 ∨ 6 ≤ i → τ'.1 i = τ.1 i) ∧ τ'.2.2.1 = va_up τ.2.2.1 j (upd (τ.2.2.1 j) z (nI v))
theorem stg {n : Nat} {ch : Nat → Nat} {p p0 : Nat} {σ0 τ0 σ τ : Sx} {G : Sx → Sx → Prop} (hn : n ≤ 200) (hch : ∀ j, j < n → ch j ≤ 255) (hp : p ≤ n) (hx : Cx n ch σ) (h10 : σ.1 10 = nI p) (hw : Mw n ch τ p) (hc : ce σ0 σ) (hm : me τ0 τ) {x1 x2 ia im : Int32} {ja jm zc zm : Nat} {K : Sx → Option (Int32 × Sx)} {K' : Sx → Option Sx} (hja : 8 ≤ ja ∧ ja < 16) (hz : zon jm zm) (hsc : ∀ (σ : Sx) x, stA cLn σ ja ia x = some (sr σ ja (upd (σ.2.2.1 ja) zc x))) (hsm : ∀ (τ : Sx) x, stA mLn τ jm im x = some (sr τ jm (upd (τ.2.2.1 jm) zm x))) (hF : FP τ0 K') (good : ∀ v σ2 τ2 p', v ≤ 100 → m_X11_isWithin (nI v) x1 x2 = some 1 → p < p' → p' ≤ n → Cx n ch σ2 → σ2.1 10 = nI p' → Mw n ch τ2 p' → ce σ0 σ2 → me τ0 τ2 → S1 σ σ2 ja zc v → T1 τ τ2 jm zm v → Out n ch σ0 τ0 p0 G (K σ2) (K' τ2)) : Out n ch σ0 τ0 p0 G ((m_X7_nextIsNumber σ x1 x2).bind (fun q1 => if q1.1 = 0 then some (0, q1.2) else (stA cLn q1.2 ja ia (q1.2.1 12)).bind K)) ((m_X12_number τ x1 x2).bind (fun q => (stA mLn q.2 jm im q.1).bind K')) := by
  rcases stn hn hch hp hx h10 hw x1 x2 with ⟨v, σ1, τ1, p', e1, e2, e3, e4, e5, e6, e7, e8, e9, e10, e11⟩ | ⟨σ1, q, e1, e2, e3, e4, e5⟩
  · have z0 : 0 ≠ jm := by unfold zon at hz; omega
    rw [e3, bs, e9, bs]
    dsimp only
    rw [if_neg n10, hsc, bs, hsm, bs, e4]
    refine good v _ _ p' e1 e2 e7 e8 (hx.kp (e5.1 8 (by omega)) ?_) e6 (e11.keep (fun _ _ => rfl) (sr_ne z0)) (hc.tr (e5.ce.tr (ce.sr hja))) (hm.tr (e10.me.tr (me.sr hz))) ⟨e5.1, ?_⟩ ⟨e10.1, ?_⟩
    · rw [sr_ne (by omega), e5.2]
    · show va_up σ1.2.2.1 ja (upd (σ1.2.2.1 ja) zc (nI v)) = _
      rw [e5.2]
    · show va_up τ1.2.2.1 jm (upd (τ1.2.2.1 jm) zm (nI v)) = _
      rw [e10.2]
  · right
    obtain ⟨τ', f1, f2, f3⟩ := hF (sr (sg τ 6 (nI q)) jm (upd ((sg τ 6 (nI q)).2.2.1 jm) zm 0)) q rfl e4 (hm.tr ((me.sg (by decide)).tr (me.sr hz)))
    refine ⟨σ1, τ', q, ?_, ?_, e3, e4, f2, hc.tr e2.ce, f3⟩
    · rw [e1, bs]; rfl
    · rw [e5, bs]
      dsimp only
      rw [hsm, bs]; exact f1
