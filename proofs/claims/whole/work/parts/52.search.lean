/-! the class's search -/
def SC (d : TD) (n t0 j r : Nat) (nd l ac : Nat → Nat) (σ : Sx) : Prop := cT σ d ∧ σ.1 21 = nI n ∧ ∀ k, k < d.1 0 → σ.2.2.1 (42 + j) k = nI (nd k) ∧ 1 ≤ nd k ∧ nd k < 2 ^ (j + 1) ∧ Tr d (σ.2.2.1 (37 + k)) k r (nd k) (t0 + j) (l k) (ac k) ∧ ac k ≤ 800 * j ∧ l k ≤ 100
def SB (n j : Nat) (pre : List Nat) (S : Nat × List Nat) (σ : Sx) : Prop := σ.1 20 = nI S.1 ∧ S.1 < 2 ^ 31 ∧ (S.1 = 2147483647 ∨ ∀ i, i < n → σ.2.2.1 23 i = nI (S.2.getD i 0)) ∧ ∀ i, i < j → σ.2.2.1 24 i = nI (pre.getD i 0)
def sf (j : Nat) (σ σ' : Sx) : Prop := (∀ i, i ≠ 20 → σ'.1 i = σ.1 i) ∧ σ'.2.1 = σ.2.1 ∧ (∀ a, a ≠ 23 → a ≠ 24 → a ≤ 42 + j ∨ 47 ≤ a → σ'.2.2.1 a = σ.2.2.1 a) ∧ ∀ i, i < j → σ'.2.2.1 24 i = σ.2.2.1 24 i
theorem sf.rf (j : Nat) (σ : Sx) : sf j σ σ := ⟨fun _ _ => rfl, rfl, fun _ _ _ _ => rfl, fun _ _ => rfl⟩
theorem sf.tr {j : Nat} {a b c : Sx} (h : sf j a b) (k : sf j b c) : sf j a c := ⟨fun i hi => (k.1 i hi).trans (h.1 i hi), k.2.1.trans h.2.1, fun x h1 h2 h3 => (k.2.2.1 x h1 h2 h3).trans (h.2.2.1 x h1 h2 h3), fun i hi => (k.2.2.2 i hi).trans (h.2.2.2 i hi)⟩
theorem sf.dn {j : Nat} {a b : Sx} (h : sf (j + 1) a b) : sf j a b := ⟨h.1, h.2.1, fun x h1 h2 h3 => h.2.2.1 x h1 h2 (by omega), fun i hi => h.2.2.2 i (by omega)⟩
theorem SC.keep {d : TD} {n t0 j r : Nat} {nd l ac : Nat → Nat} {σ σ' : Sx} (hP : d.1 0 ≤ 5) (h : SC d n t0 j r nd l ac σ) (k : sf j σ σ') : SC d n t0 j r nd l ac σ' := by
  obtain ⟨h1, h2, h3⟩ := h
  refine ⟨h1.keep (fun i hi => k.1 i (by omega)) (fun a q1 q2 => k.2.2.1 a (by omega) (by omega) (by omega)), (k.1 21 (by omega)).trans h2, fun i hi => ?_⟩
  rw [k.2.2.1 (42 + j) (by omega) (by omega) (by omega), k.2.2.1 (37 + i) (by omega) (by omega) (by omega)]
  exact h3 i hi
theorem gd1 {pre : List Nat} {s i : Nat} (h : i < pre.length) : (pre ++ [s]).getD i 0 = pre.getD i 0 := by
  simp [List.getD, List.getElem?_append_left h]
theorem gd2 {pre : List Nat} {s : Nat} : (pre ++ [s]).getD pre.length 0 = s := by
  simp [List.getD]
/-- what lies behind a set -/
def Hrc (d : TD) (n t0 j r : Nat) (pre : List Nat) (rc : Sx → Int32 → Int32 → Int32 → Int32 → Option Sx) : Prop := ∀ (s U M E : Nat) (nd l ac : Nat → Nat) (S : Nat × List Nat) (σ : Sx), SC d n t0 (j + 1) r nd l ac σ → SB n (j + 1) (pre ++ [s]) S σ → U ≤ j + 1 → s < 32 → 100 * M = sF ac (d.1 0) 0 → E = 100 * M + sF (fun k => ls d k r (t0 + (j + 1)) (l k)) (d.1 0) 0 → U + E < S.1 → ∃ σ', rc σ (nI (j + 1)) (nI s) (nI U) (nI (U + E)) = some σ' ∧ sf (j + 1) σ σ' ∧ SB n (j + 1) (pre ++ [s]) (cmp d r (t0 + (j + 1)) l s M U (pre ++ [s]) S) σ'
theorem rc0 {d : TD} {n t0 j : Nat} {pre : List Nat} (hj : j + 1 = n) (hn : n ≤ 4) (hpre : pre.length = j) (rs : Sx → Int32 → Int32 → Int32 → Option Sx) : Hrc d n t0 j 0 pre (m_X5_settle_b rs) := by
  intro s U M E nd l ac S σ hC hB hU hs hM hE hlt
  have cp : cpA cLn (sg σ 20 (nI (U + E))) 24 23 0 0 4 = some (sr (sg σ 20 (nI (U + E))) 23 (cpy (σ.2.2.1 24) (σ.2.2.1 23) 4)) := by
    unfold cpA
    rw [if_pos (by decide)]
    rfl
  unfold m_X5_settle_b
  rw [hC.2.1, if_pos (nI_le (by omega) (by omega)), cp, bs]
  rw [out10] at hE
  have e : 100 * M + 10 * outN l (d.1 0) + U = U + E := by omega
  rw [cmp, e, if_pos hlt]
  refine ⟨_, rfl, ⟨fun i hi => if_neg hi, rfl, fun a h1 h2 h3 => sr_ne h1, fun i hi => rfl⟩, rfl, Nat.lt_trans hlt hB.2.1, Or.inr (fun i hi => ?_), hB.2.2.2⟩
  show cpy (σ.2.2.1 24) (σ.2.2.1 23) 4 i = nI ((pre ++ [s]).getD i 0)
  rw [cpy_in (by omega)]
  exact hB.2.2.2 i (by omega)
theorem csl {d : TD} (hb : bT d) {n t0 j r b U M : Nat} {nd l ac : Nat → Nat} {pre : List Nat} {rc : Sx → Int32 → Int32 → Int32 → Int32 → Option Sx} (hn : n ≤ 4) (hj : j + (r + 1) = n) (hpre : pre.length = j) (hU : U ≤ j) (hbb : b < 32) (hM : 100 * M = sF ac (d.1 0) 0) (hrc : Hrc d n t0 j r pre rc) : ∀ (m f s : Nat) (σ : Sx) (S : Nat × List Nat), SC d n t0 j (r + 1) nd l ac σ → SB n j pre S σ → s + m = 2 ^ d.1 0 → m < f → ∃ σ', m_X5_search_b_L12 rc f (nI j) (nI b) (nI U) (nI s) σ = some σ' ∧ sf j σ σ' ∧ SB n j pre (fo (okS d) (fun s S => cmp d r (t0 + j + 1) (nxv d (t0 + j) s l) s (M + nxm d (t0 + j) l) (U + nxu s b) (pre ++ [s]) S) m s S) σ' := by
  have h5 : d.1 0 ≤ 5 := hb.1
  have h8 : d.1 2 ≤ 8 := hb.2.2.1
  have h32 := pow5 h5
  intro m
  induction m with
  | zero =>
    intro f s σ S hC hB hs hf
    obtain ⟨f, rfl⟩ : ∃ k, f = k + 1 := ⟨f - 1, by omega⟩
    refine ⟨σ, ?_, sf.rf j σ, hB⟩
    rw [m_X5_search_b_L12, hC.1.1.1, shl1 ⟨d.1 0, by omega⟩, if_pos (nI_le (show 2 ^ d.1 0 ≤ s by omega) (by omega))]
  | succ m ih =>
    intro f s σ S hC hB hs hf
    obtain ⟨f, rfl⟩ : ∃ k, f = k + 1 := ⟨f - 1, by omega⟩
    have go : ∀ σ1 S1, sf j σ σ1 → SB n j pre S1 σ1 → S1 = (if okS d s = true then cmp d r (t0 + j + 1) (nxv d (t0 + j) s l) s (M + nxm d (t0 + j) l) (U + nxu s b) (pre ++ [s]) S else S) → ∃ σ', m_X5_search_b_L12 rc f (nI j) (nI b) (nI U) (nI (s + 1)) σ1 = some σ' ∧ sf j σ σ' ∧ SB n j pre (fo (okS d) (fun s S => cmp d r (t0 + j + 1) (nxv d (t0 + j) s l) s (M + nxm d (t0 + j) l) (U + nxu s b) (pre ++ [s]) S) (m + 1) s S) σ' := fun σ1 S1 h1 h2 h3 => by
      obtain ⟨σ', p1, p2, p3⟩ := ih f (s + 1) σ1 S1 (hC.keep h5 h1) h2 (by omega) (by omega)
      refine ⟨σ', p1, h1.tr p2, ?_⟩
      rw [fo, ← h3]
      exact p3
    rw [m_X5_search_b_L12, hC.1.1.1, shl1 ⟨d.1 0, by omega⟩, if_neg (nI_ge (show s < 2 ^ d.1 0 by omega) (by omega)), cbo hb hC.1 (show s < 2 ^ d.1 0 by omega), bs, nI_1]
    by_cases hok : okS d s = true
    · rw [if_pos hok] at go
      rw [if_pos hok, if_neg n10]
      -- behind the set
      have hbody : ∀ U' : Nat, U' = U + nxu s b → ∃ σ', m_X5_search_b_J47 rc (m_X5_search_b_L12 rc f) (nI j) (nI b) (nI U) (nI s) (nI U') σ = some σ' ∧ sf j σ σ' ∧ SB n j pre (fo (okS d) (fun s S => cmp d r (t0 + j + 1) (nxv d (t0 + j) s l) s (M + nxm d (t0 + j) l) (U + nxu s b) (pre ++ [s]) S) (m + 1) s S) σ' := fun U' eU => by
        rw [← eU] at go
        have hU' : U' ≤ j + 1 := by rw [eU]; unfold nxu; split <;> omega
        have hnd16 : ∀ k, k < d.1 0 → nd k < 16 := fun k hk => Nat.lt_of_lt_of_le (hC.2.2 k hk).2.2.1 (Nat.pow_le_pow_right (n := 2) (by decide) (show j + 1 ≤ 4 by omega))
        have hkid : ∀ k, k < d.1 0 → Tr d (σ.2.2.1 (37 + k)) k r (2 * nd k + s / 2 ^ k % 2) (t0 + (j + 1)) (nxv d (t0 + j) s l k) (ac k + 100 * missN d (t0 + j) k (l k)) := fun k hk => by
          have := Tr_kid (hC.2.2 k hk).2.2.2.1 (onB s k)
          rw [onb_bit] at this
          exact this
        obtain ⟨g, e1, e2, -⟩ := cen (P := d.1 0) (j := j) (s := s) h5 (by omega) (by omega) (nd := nd) (val := fun k => ac k + 100 * missN d (t0 + j) k (l k) + ls d k r (t0 + (j + 1)) (nxv d (t0 + j) s l k)) hnd16 (d.1 0) FU 0 0 σ (fun k hk => (hC.2.2 k hk).1) (fun k hk => Tr_top (hkid k hk)) (by omega) (by unfold FU; omega)
        have e1 : m_X5_enter_L6 FU (nI (d.1 0)) (nI j) (nI s) 0 0 σ = _ := e1
        have hM' : 100 * (M + nxm d (t0 + j) l) = sF (fun k => ac k + 100 * missN d (t0 + j) k (l k)) (d.1 0) 0 := by
          rw [sF_add, sF_mul, Nat.mul_add, hM]
          rfl
        have hval : sF (fun k => ac k + 100 * missN d (t0 + j) k (l k) + ls d k r (t0 + (j + 1)) (nxv d (t0 + j) s l k)) (d.1 0) 0 = 100 * (M + nxm d (t0 + j) l) + sF (fun k => ls d k r (t0 + (j + 1)) (nxv d (t0 + j) s l k)) (d.1 0) 0 := by
          rw [sF_add, hM']
        have hbd : sF (fun k => ac k + 100 * missN d (t0 + j) k (l k) + ls d k r (t0 + (j + 1)) (nxv d (t0 + j) s l k)) (d.1 0) 0 ≤ 3210 * d.1 0 := by
          refine sF_bd _ _ (fun k _ hk => ?_)
          have c1 := (hC.2.2 k (by omega)).2.2.2.2.1
          have c2 := missN_le d (t0 + j) k (l k)
          have c3 := ls_le hb k r (t0 + (j + 1)) (nxv d (t0 + j) s l k)
          omega
        rw [Nat.zero_add, hval] at e1
        rw [hval] at hbd
        generalize hE : 100 * (M + nxm d (t0 + j) l) + sF (fun k => ls d k r (t0 + (j + 1)) (nxv d (t0 + j) s l k)) (d.1 0) 0 = E at e1 hbd
        have hE3 : E ≤ 20000 := by omega
        have f1 : sf j σ (sr σ (42 + (j + 1)) g) := ⟨fun _ _ => rfl, rfl, fun a h1 h2 h3 => sr_ne (by omega), fun i hi => by rw [sr_ne (by omega)]⟩
        have b1 : SB n j pre S (sr σ (42 + (j + 1)) g) := ⟨hB.1, hB.2.1, by rw [sr_ne (by omega)]; exact hB.2.2.1, by rw [sr_ne (by omega)]; exact hB.2.2.2⟩
        unfold m_X5_search_b_J47 m_X5_enter
        rw [hC.1.1.1, e1, bs, bs]
        dsimp only
        rw [nI_add, show (sr σ (42 + (j + 1)) g).1 20 = nI S.1 from hB.1, nI_1, nI_1]
        by_cases hle : S.1 ≤ U' + E
        · rw [if_pos (nI_le hle (by omega))]
          refine go _ S f1 b1 ?_
          refine (prune d r _ _ _ _ _ _ S ?_).symm
          rw [show t0 + j + 1 = t0 + (j + 1) by omega]
          omega
        · rw [if_neg (nI_ge (show U' + E < S.1 by omega) hB.2.1), stk (n := 4) rfl (by omega) (by decide), bs]
          have e24 : (sr σ (42 + (j + 1)) g).2.2.1 24 = σ.2.2.1 24 := sr_ne (by omega)
          rw [e24]
          have f2 : sf j (sr σ (42 + (j + 1)) g) (sr (sr σ (42 + (j + 1)) g) 24 (upd (σ.2.2.1 24) j (nI s))) := ⟨fun _ _ => rfl, rfl, fun a h1 h2 h3 => sr_ne h2, fun i hi => by rw [e24]; exact upd_n _ _ (by omega)⟩
          have hC2 : SC d n t0 (j + 1) r (fun k => 2 * nd k + s / 2 ^ k % 2) (nxv d (t0 + j) s l) (fun k => ac k + 100 * missN d (t0 + j) k (l k)) (sr (sr σ (42 + (j + 1)) g) 24 (upd (σ.2.2.1 24) j (nI s))) := by
            refine ⟨(hC.1.keep (fun _ _ => rfl) (fun a h1 h2 => ?_)), hC.2.1, fun k hk => ?_⟩
            · rw [sr_ne (by omega), sr_ne (by omega)]
            · obtain ⟨c1, c2, c3, c4, c5, c6⟩ := hC.2.2 k hk
              have eT : ∀ a, a ≠ 24 → a ≠ 42 + (j + 1) → (sr (sr σ (42 + (j + 1)) g) 24 (upd (σ.2.2.1 24) j (nI s))).2.2.1 a = σ.2.2.1 a := fun a h1 h2 => (sr_ne h1).trans (sr_ne h2)
              have hw : s / 2 ^ k % 2 < 2 := Nat.mod_lt _ (by decide)
              have hp : 2 ^ (j + 1 + 1) = 2 * 2 ^ (j + 1) := by rw [Nat.pow_succ, Nat.mul_comm]
              have hms := missN_le d (t0 + j) k (l k)
              refine ⟨?_, ?_, ?_, ?_, ?_, behN_le d _ k c6 _⟩
              · rw [sr_ne (by omega), show (sr σ (42 + (j + 1)) g).2.2.1 (42 + (j + 1)) = g from if_pos rfl]
                exact e2 k (by omega) hk
              · show 1 ≤ 2 * nd k + s / 2 ^ k % 2
                omega
              · show 2 * nd k + s / 2 ^ k % 2 < 2 ^ (j + 1 + 1)
                omega
              · rw [eT (37 + k) (by omega) (by omega)]
                exact hkid k hk
              · show ac k + 100 * missN d (t0 + j) k (l k) ≤ 800 * (j + 1)
                omega
          have hB2 : SB n (j + 1) (pre ++ [s]) S (sr (sr σ (42 + (j + 1)) g) 24 (upd (σ.2.2.1 24) j (nI s))) := by
            refine ⟨hB.1, hB.2.1, ?_, fun i hi => ?_⟩
            · rw [sr_ne (by omega), sr_ne (by omega)]; exact hB.2.2.1
            · show upd (σ.2.2.1 24) j (nI s) i = _
              by_cases q : i = j
              · rw [q, upd_s, ← hpre, gd2]
              · rw [upd_n _ _ q, gd1 (by omega)]
                exact hB.2.2.2 i (by omega)
          obtain ⟨σ3, r1, r2, r3⟩ := hrc s U' (M + nxm d (t0 + j) l) E _ _ _ S _ hC2 hB2 hU' (by omega) hM' hE.symm (by omega)
          rw [r1, bs]
          refine go σ3 _ (f1.tr (f2.tr r2.dn)) ⟨r3.1, r3.2.1, r3.2.2.1, fun i hi => ?_⟩ rfl
          rw [r3.2.2.2 i (by omega), gd1 (by omega)]
      by_cases hsb : s = b
      · rw [if_pos (congrArg nI hsb)]
        exact hbody U (by unfold nxu; rw [if_pos hsb]; rfl)
      · rw [if_neg (fun z => hsb ((nI_eq (by omega) (by omega)).mp z)), nI_1]
        exact hbody (U + 1) (by unfold nxu; rw [if_neg hsb])
    · rw [if_neg hok] at go
      rw [if_neg hok, if_pos rfl]
      exact go σ S (sf.rf j σ) hB rfl
theorem csr {d : TD} (hb : bT d) {n t0 : Nat} (hn : n ≤ 4) : ∀ (r f j b U M : Nat) (nd l ac : Nat → Nat) (pre : List Nat) (S : Nat × List Nat) (σ : Sx), SC d n t0 j (r + 1) nd l ac σ → SB n j pre S σ → pre.length = j → j + (r + 1) = n → r + 1 < f → U ≤ j → b < 32 → 100 * M = sF ac (d.1 0) 0 → ∃ σ', m_X5_search f σ (nI j) (nI b) (nI U) = some σ' ∧ sf j σ σ' ∧ SB n j pre (cmp d (r + 1) (t0 + j) l b M U pre S) σ' := by
  have h5 : d.1 0 ≤ 5 := hb.1
  have h32 := pow5 h5
  intro r
  induction r with
  | zero =>
    intro f j b U M nd l ac pre S σ hC hB hpre hj hf hU hbb hM
    obtain ⟨f, rfl⟩ : ∃ k, f = k + 1 := ⟨f - 1, by omega⟩
    obtain ⟨σ', p1, p2, p3⟩ := csl hb hn hj hpre hU hbb hM (rc0 (by omega) hn hpre (m_X5_search f)) (2 ^ d.1 0) FU 0 σ S hC hB (by omega) (by unfold FU; omega)
    have p1 : m_X5_search_b_L12 (m_X5_settle_b (m_X5_search f)) FU (nI j) (nI b) (nI U) 0 σ = some σ' := p1
    refine ⟨σ', ?_, p2, p3⟩
    rw [m_X5_search, m_X5_search_b, hC.2.1, if_pos (nI_lt (by omega) (by omega)), p1, bs]
  | succ r ih =>
    intro f j b U M nd l ac pre S σ hC hB hpre hj hf hU hbb hM
    obtain ⟨f, rfl⟩ : ∃ k, f = k + 1 := ⟨f - 1, by omega⟩
    have hrc : Hrc d n t0 j (r + 1) pre (m_X5_settle_b (m_X5_search f)) := by
      intro s U' M' E nd' l' ac' S' σ' hC' hB' hU' hs' hM' hE' hlt'
      obtain ⟨σ2, p1, p2, p3⟩ := ih f (j + 1) s U' M' nd' l' ac' (pre ++ [s]) S' σ' hC' hB' (by rw [List.length_append, hpre]; rfl) (by omega) (by omega) hU' hs' hM'
      refine ⟨σ2, ?_, p2, p3⟩
      unfold m_X5_settle_b
      rw [hC'.2.1, if_neg (nI_ge (by omega) (by omega)), p1, bs]
    obtain ⟨σ', p1, p2, p3⟩ := csl hb hn hj hpre hU hbb hM hrc (2 ^ d.1 0) FU 0 σ S hC hB (by omega) (by unfold FU; omega)
    have p1 : m_X5_search_b_L12 (m_X5_settle_b (m_X5_search f)) FU (nI j) (nI b) (nI U) 0 σ = some σ' := p1
    refine ⟨σ', ?_, p2, p3⟩
    rw [m_X5_search, m_X5_search_b, hC.2.1, if_pos (nI_lt (by omega) (by omega)), p1, bs]
