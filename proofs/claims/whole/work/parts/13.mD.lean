def m_X5_fillTree_b_J119 (rc : Sx → Int32 → Int32 → Int32 → Int32 → Int32 → Option (Int32 × Sx)) (x2 : Int32) (x3 : Int32) (x7 : Int32) (σ : Sx) : Option (Int32 × Sx) :=
  (ixq x2 5).bind (fun k7 => (stA cLn σ ((37 + k7)) x3 x7).bind (fun q8 => some ((x7, q8))))
def m_X5_fillTree_b_J22 (rc : Sx → Int32 → Int32 → Int32 → Int32 → Int32 → Option (Int32 × Sx)) (x2 : Int32) (x3 : Int32) (s0 : Int32) (s1 : Int32) (σ : Sx) : Option (Int32 × Sx) :=
  m_X5_fillTree_b_J119 rc x2 x3 ((s1 + s0)) σ
def m_X5_fillTree_b (rc : Sx → Int32 → Int32 → Int32 → Int32 → Int32 → Option (Int32 × Sx)) (σ : Sx) (x2 : Int32) (x3 : Int32) (x4 : Int32) (x5 : Int32) (x6 : Int32) : Option (Int32 × Sx) :=
  if x4 < (σ.1 21) then ((m_X10_missedAt σ (((σ.1 22) + x4)) x2 x5).bind (fun v2 => (m_X10_levelBehind σ (((σ.1 22) + x4)) x2 x5 0).bind (fun v3 => (m_X10_levelBehind σ (((σ.1 22) + x4)) x2 x5 1).bind (fun v4 => (rc σ x2 ((2 * x3)) ((x4 + 1)) v3 ((x6 + (v2 * 100)))).bind (fun q5 => (rc q5.2 x2 (((2 * x3) + 1)) ((x4 + 1)) v4 ((x6 + (v2 * 100)))).bind (fun q6 => m_X5_fillTree_b_J119 rc x2 x3 ((if q6.1 < q5.1 then q6.1 else q5.1)) q6.2)))))) else (if x5 = 0 then (m_X5_fillTree_b_J22 rc x2 x3 10 x6 σ) else (m_X5_fillTree_b_J22 rc x2 x3 0 x6 σ))
set_option maxHeartbeats 4000000 in
set_option maxRecDepth 100000 in
theorem c_X5_fillTree_b {l : Launch} {D : va_G} {cy : Nat → ClassId} {ad : Nat → Nat} {σ τ : Sx} {rc : Sx → Int32 → Int32 → Int32 → Int32 → Int32 → Option (Int32 × Sx)} {R : Room} {rr : Room} (hrr : rr.cells = 0 ∧ rr.slots = 0) (hr1 : rr.frames + 1 ≤ R.frames ∧ 8 + (12 + 11) + rr.locals ≤ R.locals) (hrc : ∀ (S : Sx) (a1 a2 a3 a4 a5 : Int32) (out : Int32 × Sx), rc S a1 a2 a3 a4 a5 = some out → Met l yX5_fillTree [Cond.code yX5_fillTree cX5_fillTree 12 (some .int)] rr (va_Pc [.ref (ad 6), .ref (ad 1), .int a1, .int a2, .int a3, .int a4, .int a5] (gB D cy ad S τ)) (cQi D cy ad τ out) 0 0 (gA ad)) (hI : gInj ad) (hRf : 3 ≤ R.frames) (hRl : 73 ≤ R.locals) {x2 : Int32} {x3 : Int32} {x4 : Int32} {x5 : Int32} {x6 : Int32} {out : Int32 × Sx} (h : m_X5_fillTree_b rc σ x2 x3 x4 x5 x6 = some out) : Met l yX5_fillTree [Cond.code yX5_fillTree cX5_fillTree 12 (some .int)] R (va_Pc [.ref (ad 6), .ref (ad 1), .int x2, .int x3, .int x4, .int x5, .int x6] (gB D cy ad σ τ)) (cQi D cy ad τ out) 0 0 (gA ad) := by
  refine zstart [.ref (ad 6), .ref (ad 1), .int x2, .int x3, .int x4, .int x5, .int x6] (by decide) rfl hI (Nat.le_of_ble_eq_true rfl) ?_
  intro p e s m below meth c Z hr hlk hP ls hl
  have hx := Z.x
  have hb := Z.b
  generalize hargs : ([.ref (ad 6), .ref (ad 1), .int x2, .int x3, .int x4, .int x5, .int x6] : List Value).toArray = args
  have hl : lv_has ls 12 [(0, .ref (ad 6)), (1, .ref (ad 1)), (2, .int x2), (3, .int x3), (4, .int x4), (5, .int x5), (6, .int x6)] := hl
  have hS : va_S (gA ad) s.heap s.heap [] := va_S.rf
  have J119 : ∀ (x2 : Int32) (x3 : Int32) (x7 : Int32) (σ : Sx), m_X5_fillTree_b_J119 rc x2 x3 x7 σ = some out → ∀ (H : Heap) (locs : List Loc), va_P D vwCl (gW cy ad σ τ) H → va_S (gA ad) s.heap H locs → ∀ ls : Array Slot, lv_has ls 12 [(0, .ref (ad 6)), (2, .int x2), (3, .int x3), (7, .int x7)] → W p l e R s m args below meth c H locs 0 0 (MQ below (cQi D cy ad τ out) args s 0 0 (gA ad)) (F0 m 119 ls []) := by
    intro x2 x3 x7 σ h H locs hP hS ls hl
    unfold m_X5_fillTree_b_J119 at h
    refine lv_aload_n hx hb dX5_fillTree_119 rfl (lv_at hl 0 rfl) ?_
    refine fg_6_2 Z hP wF_X5_20 dX5_fillTree_120 ?_
    refine lv_iload_n hx hb dX5_fillTree_123 rfl (lv_at hl 1 rfl) ?_
    obtain ⟨k7, hk7, h⟩ := bd h
    refine zald (n := 5) (b := 37) Z hP 16 (gW_o rfl) hk7 dX5_fillTree_124 ?_
    refine lv_iload_n hx hb dX5_fillTree_125 rfl (lv_at hl 2 rfl) ?_
    refine lv_iload hx hb dX5_fillTree_126 (lv_at hl 3 rfl) ?_
    obtain ⟨q8, hq8, h⟩ := bd h
    refine zc_st (j := (37 + k7)) Z hP hS hq8 dX5_fillTree_128 (fun H locs hP hS => ?_)
    refine lv_iload hx hb dX5_fillTree_129 (lv_at hl 3 rfl) ?_
    exact zci Z hP hS hr hlk h dX5_fillTree_131
  have J22 : ∀ (x2 : Int32) (x3 : Int32) (s0 : Int32) (s1 : Int32) (σ : Sx), m_X5_fillTree_b_J22 rc x2 x3 s0 s1 σ = some out → ∀ (H : Heap) (locs : List Loc), va_P D vwCl (gW cy ad σ τ) H → va_S (gA ad) s.heap H locs → ∀ ls : Array Slot, lv_has ls 12 [(0, .ref (ad 6)), (2, .int x2), (3, .int x3)] → W p l e R s m args below meth c H locs 0 0 (MQ below (cQi D cy ad τ out) args s 0 0 (gA ad)) (F0 m 22 ls [.int s0, .int s1]) := by
    intro x2 x3 s0 s1 σ h H locs hP hS ls hl
    unfold m_X5_fillTree_b_J22 at h
    refine lv_iadd hx hb dX5_fillTree_22 ?_
    refine lv_istore (lv' := [(7, .int (s1 + s0)), (0, .ref (ad 6)), (2, .int x2), (3, .int x3)]) hx hb dX5_fillTree_23 hl (by decide) rfl (fun ls hl => ?_)
    refine lv_goto (tgt := 119) hx hb dX5_fillTree_25 (by decide) ?_
    exact J119 x2 x3 ((s1 + s0)) σ h _ _ hP hS _ (lv_sub hl [1, 2, 3, 0] rfl)
  unfold m_X5_fillTree_b at h
  refine lv_iload hx hb dX5_fillTree_0 (lv_at hl 4 rfl) ?_
  refine lv_aload_n hx hb dX5_fillTree_2 rfl (lv_at hl 0 rfl) ?_
  refine fg_6_5 Z hP wF_X5_30 dX5_fillTree_3 ?_
  refine lv_icmp_lt (tgt := 28) hx hb dX5_fillTree_6 (by decide) (fun c1 => ?_) (fun c1 => ?_)
  · rw [if_pos c1] at h
    refine lv_aload_n hx hb dX5_fillTree_28 rfl (lv_at hl 0 rfl) ?_
    refine fg_6_6 Z hP wF_X5_33 dX5_fillTree_29 ?_
    refine lv_iload hx hb dX5_fillTree_32 (lv_at hl 4 rfl) ?_
    refine lv_iadd hx hb dX5_fillTree_34 ?_
    refine lv_istore (lv' := [(8, .int ((σ.1 22) + x4)), (0, .ref (ad 6)), (1, .ref (ad 1)), (2, .int x2), (3, .int x3), (4, .int x4), (5, .int x5), (6, .int x6)]) hx hb dX5_fillTree_35 hl (by decide) rfl (fun ls hl => ?_)
    refine lv_iload hx hb dX5_fillTree_37 (lv_at hl 7 rfl) ?_
    refine lv_aload_n hx hb dX5_fillTree_39 rfl (lv_at hl 2 rfl) ?_
    refine lv_iload hx hb dX5_fillTree_40 (lv_at hl 0 rfl) ?_
    refine lv_iload_n hx hb dX5_fillTree_42 rfl (lv_at hl 3 rfl) ?_
    refine lv_iload hx hb dX5_fillTree_43 (lv_at hl 6 rfl) ?_
    obtain ⟨v2, hv2, h⟩ := bd h
    refine zqi (zrunV Z hP (As := [.int ((σ.1 22) + x4), .int x2, .int x5]) (rest := [.int x6]) (c_X10_missedAt (R := { frames := 1, cells := 0, slots := 0, locals := 23 }) Z.i (Nat.le_refl _) (Nat.le_refl _) hv2) cV_X5_63 rfl rfl ⟨(Nat.le_trans (Nat.le_of_ble_eq_true rfl) hRf), (Nat.le_trans (Nat.le_of_ble_eq_true rfl) hRl)⟩ 1 (gW_o rfl) rfl rfl rfl hl.1 rfl (Nat.le_of_ble_eq_true rfl) dX5_fillTree_45 ⟨Nat.zero_le _, Nat.zero_le _⟩) ?_
    refine lv_bipush (v := 100) hx hb dX5_fillTree_48 (by decide) ?_
    refine lv_imul hx hb dX5_fillTree_50 ?_
    refine lv_iadd hx hb dX5_fillTree_51 ?_
    refine lv_istore (lv' := [(9, .int (x6 + (v2 * 100))), (8, .int ((σ.1 22) + x4)), (0, .ref (ad 6)), (1, .ref (ad 1)), (2, .int x2), (3, .int x3), (4, .int x4), (5, .int x5), (6, .int x6)]) hx hb dX5_fillTree_52 hl (by decide) rfl (fun ls hl => ?_)
    refine lv_aload_n hx hb dX5_fillTree_54 rfl (lv_at hl 3 rfl) ?_
    refine lv_iload hx hb dX5_fillTree_55 (lv_at hl 1 rfl) ?_
    refine lv_iload_n hx hb dX5_fillTree_57 rfl (lv_at hl 4 rfl) ?_
    refine lv_iload hx hb dX5_fillTree_58 (lv_at hl 7 rfl) ?_
    refine lv_iconst (v := 0) hx hb dX5_fillTree_60 (by decide) ?_
    obtain ⟨v3, hv3, h⟩ := bd h
    refine zqi (zrunV Z hP (As := [.int ((σ.1 22) + x4), .int x2, .int x5, .int 0]) (rest := []) (c_X10_levelBehind (R := { frames := 2, cells := 0, slots := 0, locals := 48 }) Z.i (Nat.le_refl _) (Nat.le_refl _) hv3) cV_X5_67 rfl rfl ⟨(Nat.le_trans (Nat.le_of_ble_eq_true rfl) hRf), (Nat.le_trans (Nat.le_of_ble_eq_true rfl) hRl)⟩ 1 (gW_o rfl) rfl rfl rfl hl.1 rfl (Nat.le_of_ble_eq_true rfl) dX5_fillTree_61 ⟨Nat.zero_le _, Nat.zero_le _⟩) ?_
    refine lv_istore (lv' := [(10, .int v3), (9, .int (x6 + (v2 * 100))), (8, .int ((σ.1 22) + x4)), (0, .ref (ad 6)), (1, .ref (ad 1)), (2, .int x2), (3, .int x3), (4, .int x4), (5, .int x5), (6, .int x6)]) hx hb dX5_fillTree_64 hl (by decide) rfl (fun ls hl => ?_)
    refine lv_aload_n hx hb dX5_fillTree_66 rfl (lv_at hl 4 rfl) ?_
    refine lv_iload hx hb dX5_fillTree_67 (lv_at hl 2 rfl) ?_
    refine lv_iload_n hx hb dX5_fillTree_69 rfl (lv_at hl 5 rfl) ?_
    refine lv_iload hx hb dX5_fillTree_70 (lv_at hl 8 rfl) ?_
    refine lv_iconst (v := 1) hx hb dX5_fillTree_72 (by decide) ?_
    obtain ⟨v4, hv4, h⟩ := bd h
    refine zqi (zrunV Z hP (As := [.int ((σ.1 22) + x4), .int x2, .int x5, .int 1]) (rest := []) (c_X10_levelBehind (R := { frames := 2, cells := 0, slots := 0, locals := 48 }) Z.i (Nat.le_refl _) (Nat.le_refl _) hv4) cV_X5_67 rfl rfl ⟨(Nat.le_trans (Nat.le_of_ble_eq_true rfl) hRf), (Nat.le_trans (Nat.le_of_ble_eq_true rfl) hRl)⟩ 1 (gW_o rfl) rfl rfl rfl hl.1 rfl (Nat.le_of_ble_eq_true rfl) dX5_fillTree_73 ⟨Nat.zero_le _, Nat.zero_le _⟩) ?_
    refine lv_istore (lv' := [(11, .int v4), (10, .int v3), (9, .int (x6 + (v2 * 100))), (8, .int ((σ.1 22) + x4)), (0, .ref (ad 6)), (1, .ref (ad 1)), (2, .int x2), (3, .int x3), (4, .int x4), (5, .int x5), (6, .int x6)]) hx hb dX5_fillTree_76 hl (by decide) rfl (fun ls hl => ?_)
    refine lv_aload_n hx hb dX5_fillTree_78 rfl (lv_at hl 4 rfl) ?_
    refine lv_aload_n hx hb dX5_fillTree_79 rfl (lv_at hl 5 rfl) ?_
    refine lv_iload_n hx hb dX5_fillTree_80 rfl (lv_at hl 6 rfl) ?_
    refine lv_iconst (v := 2) hx hb dX5_fillTree_81 (by decide) ?_
    refine lv_iload_n hx hb dX5_fillTree_82 rfl (lv_at hl 7 rfl) ?_
    refine lv_imul hx hb dX5_fillTree_83 ?_
    refine lv_iload hx hb dX5_fillTree_84 (lv_at hl 8 rfl) ?_
    refine lv_iconst (v := 1) hx hb dX5_fillTree_86 (by decide) ?_
    refine lv_iadd hx hb dX5_fillTree_87 ?_
    refine lv_iload hx hb dX5_fillTree_88 (lv_at hl 1 rfl) ?_
    refine lv_iload hx hb dX5_fillTree_90 (lv_at hl 2 rfl) ?_
    obtain ⟨q5, hq5, h⟩ := bd h
    refine zwci (zrunV Z hP (As := [.ref (ad 1), .int x2, .int (2 * x3), .int (x4 + 1), .int v3, .int (x6 + (v2 * 100))]) (rest := []) (hrc _ _ _ _ _ _ _ hq5) cV_X5_49 hrr.1 hrr.2 hr1 6 (gW_o rfl) rfl rfl rfl hl.1 rfl (Nat.le_of_ble_eq_true rfl) dX5_fillTree_92 ⟨Nat.zero_le _, Nat.zero_le _⟩) hS (fun H locs hP hS => ?_)
    refine lv_aload_n hx hb dX5_fillTree_95 rfl (lv_at hl 4 rfl) ?_
    refine lv_aload_n hx hb dX5_fillTree_96 rfl (lv_at hl 5 rfl) ?_
    refine lv_iload_n hx hb dX5_fillTree_97 rfl (lv_at hl 6 rfl) ?_
    refine lv_iconst (v := 2) hx hb dX5_fillTree_98 (by decide) ?_
    refine lv_iload_n hx hb dX5_fillTree_99 rfl (lv_at hl 7 rfl) ?_
    refine lv_imul hx hb dX5_fillTree_100 ?_
    refine lv_iconst (v := 1) hx hb dX5_fillTree_101 (by decide) ?_
    refine lv_iadd hx hb dX5_fillTree_102 ?_
    refine lv_iload hx hb dX5_fillTree_103 (lv_at hl 8 rfl) ?_
    refine lv_iconst (v := 1) hx hb dX5_fillTree_105 (by decide) ?_
    refine lv_iadd hx hb dX5_fillTree_106 ?_
    refine lv_iload hx hb dX5_fillTree_107 (lv_at hl 0 rfl) ?_
    refine lv_iload hx hb dX5_fillTree_109 (lv_at hl 2 rfl) ?_
    obtain ⟨q6, hq6, h⟩ := bd h
    refine zwci (zrunV Z hP (As := [.ref (ad 1), .int x2, .int ((2 * x3) + 1), .int (x4 + 1), .int v4, .int (x6 + (v2 * 100))]) (rest := [.int q5.1]) (hrc _ _ _ _ _ _ _ hq6) cV_X5_49 hrr.1 hrr.2 hr1 6 (gW_o rfl) rfl rfl rfl hl.1 rfl (Nat.le_of_ble_eq_true rfl) dX5_fillTree_111 ⟨Nat.zero_le _, Nat.zero_le _⟩) hS (fun H locs hP hS => ?_)
    refine va_mmin (rest := []) hx hb (Z.ml.trans hl.1.symm) Z.o (Z.t _ wA_X5_71 rfl _) (Z.t _ wM_min1 rfl _) (Z.t _ wM_i rfl _) (Z.t _ wM_min2 rfl _) (Nat.le_trans (Nat.le_of_ble_eq_true rfl) hRf) (Nat.le_trans (Nat.le_of_ble_eq_true rfl) hRl) (Nat.zero_le _) (Nat.zero_le _) dX5_fillTree_114 ?_
    refine lv_istore (lv' := [(7, .int (if q6.1 < q5.1 then q6.1 else q5.1)), (11, .int v4), (10, .int v3), (9, .int (x6 + (v2 * 100))), (8, .int ((σ.1 22) + x4)), (0, .ref (ad 6)), (1, .ref (ad 1)), (2, .int x2), (3, .int x3), (4, .int x4), (5, .int x5), (6, .int x6)]) hx hb dX5_fillTree_117 hl (by decide) rfl (fun ls hl => ?_)
    exact J119 x2 x3 ((if q6.1 < q5.1 then q6.1 else q5.1)) q6.2 h _ _ hP hS _ (lv_sub hl [5, 7, 8, 0] rfl)
  · rw [if_neg c1] at h
    refine lv_iload hx hb dX5_fillTree_9 (lv_at hl 6 rfl) ?_
    refine lv_iload hx hb dX5_fillTree_11 (lv_at hl 5 rfl) ?_
    refine lv_if_ne (tgt := 21) hx hb dX5_fillTree_13 (by decide) (fun c9 => ?_) (fun c9 => ?_)
    · rw [if_neg c9] at h
      refine lv_iconst (v := 0) hx hb dX5_fillTree_21 (by decide) ?_
      exact J22 x2 x3 0 x6 σ h _ _ hP hS _ (lv_sub hl [0, 2, 3] rfl)
    · rw [if_pos c9] at h
      refine lv_bipush (v := 10) hx hb dX5_fillTree_16 (by decide) ?_
      refine lv_goto (tgt := 22) hx hb dX5_fillTree_18 (by decide) ?_
      exact J22 x2 x3 10 x6 σ h _ _ hP hS _ (lv_sub hl [0, 2, 3] rfl)
def m_X5_fillTree : Nat → Sx → Int32 → Int32 → Int32 → Int32 → Int32 → Option (Int32 × Sx)
  | 0, _, _, _, _, _, _ => none
  | n + 1, σ, a1, a2, a3, a4, a5 => m_X5_fillTree_b (m_X5_fillTree n) σ a1 a2 a3 a4 a5
def rm_X5_fillTree (n : Nat) : Room := { frames := 3 + n * 1, cells := 0, slots := 0, locals := 73 + n * 31 }
theorem c_X5_fillTree {l : Launch} {D : va_G} {cy : Nat → ClassId} {ad : Nat → Nat} {τ : Sx} (hI : gInj ad) : ∀ (n : Nat) (S : Sx) (a1 a2 a3 a4 a5 : Int32) (out : Int32 × Sx), m_X5_fillTree n S a1 a2 a3 a4 a5 = some out → Met l yX5_fillTree [Cond.code yX5_fillTree cX5_fillTree 12 (some .int)] (rm_X5_fillTree n) (va_Pc [.ref (ad 6), .ref (ad 1), .int a1, .int a2, .int a3, .int a4, .int a5] (gB D cy ad S τ)) (cQi D cy ad τ out) 0 0 (gA ad) := by
  intro n
  induction n with
  | zero => intro S a1 a2 a3 a4 a5 out h; cases h
  | succ n ih =>
    intro S a1 a2 a3 a4 a5 out h
    exact c_X5_fillTree_b (rr := rm_X5_fillTree n) (rc := m_X5_fillTree n) ⟨rfl, rfl⟩ ⟨by simp only [rm_X5_fillTree]; omega, by simp only [rm_X5_fillTree]; omega⟩ ih hI (by simp only [rm_X5_fillTree]; omega) (by simp only [rm_X5_fillTree]; omega) h
def m_X5_settle_b (rc : Sx → Int32 → Int32 → Int32 → Option (Sx)) (σ : Sx) (x2 : Int32) (x3 : Int32) (x4 : Int32) (x5 : Int32) : Option (Sx) :=
  if (σ.1 21) ≤ x2 then ((cpA cLn ((sg σ 20 x5)) 24 23 0 0 4).bind (fun q2 => some q2)) else ((rc σ x2 x3 x4).bind (fun q3 => some q3))
set_option maxHeartbeats 4000000 in
set_option maxRecDepth 100000 in
theorem c_X5_settle_b {l : Launch} {D : va_G} {cy : Nat → ClassId} {ad : Nat → Nat} {σ τ : Sx} {rc : Sx → Int32 → Int32 → Int32 → Option (Sx)} {R : Room} {rr : Room} (hrr : rr.cells = 0 ∧ rr.slots = 0) (hr1 : rr.frames + 1 ≤ R.frames ∧ 8 + (8 + 11) + rr.locals ≤ R.locals) (hrc : ∀ (S : Sx) (a1 a2 a3 : Int32) (out : Sx), rc S a1 a2 a3 = some out → Met l yX5_search [Cond.code yX5_search cX5_search 8 none] rr (va_Pc [.ref (ad 6), .ref (ad 1), .int a1, .int a2, .int a3] (gB D cy ad S τ)) (cQv D cy ad τ out) 0 0 (gA ad)) (hI : gInj ad) (hRf : 1 ≤ R.frames) (hRl : 18 ≤ R.locals) {x2 : Int32} {x3 : Int32} {x4 : Int32} {x5 : Int32} {out : Sx} (h : m_X5_settle_b rc σ x2 x3 x4 x5 = some out) : Met l yX5_settleOrSearch [Cond.code yX5_settleOrSearch cX5_settleOrSearch 6 none] R (va_Pc [.ref (ad 6), .ref (ad 1), .int x2, .int x3, .int x4, .int x5] (gB D cy ad σ τ)) (cQv D cy ad τ out) 0 0 (gA ad) := by
  refine zstart [.ref (ad 6), .ref (ad 1), .int x2, .int x3, .int x4, .int x5] (by decide) rfl hI (Nat.le_of_ble_eq_true rfl) ?_
  intro p e s m below meth c Z hr hlk hP ls hl
  have hx := Z.x
  have hb := Z.b
  generalize hargs : ([.ref (ad 6), .ref (ad 1), .int x2, .int x3, .int x4, .int x5] : List Value).toArray = args
  have hl : lv_has ls 6 [(0, .ref (ad 6)), (1, .ref (ad 1)), (2, .int x2), (3, .int x3), (4, .int x4), (5, .int x5)] := hl
  have hS : va_S (gA ad) s.heap s.heap [] := va_S.rf
  unfold m_X5_settle_b at h
  refine lv_iload_n hx hb dX5_settleOrSearch_0 rfl (lv_at hl 2 rfl) ?_
  refine lv_aload_n hx hb dX5_settleOrSearch_1 rfl (lv_at hl 0 rfl) ?_
  refine fg_6_5 Z hP wF_X5_30 dX5_settleOrSearch_2 ?_
  refine lv_icmp_ge (tgt := 20) hx hb dX5_settleOrSearch_5 (by decide) (fun c1 => ?_) (fun c1 => ?_)
  · rw [if_pos c1] at h
    refine lv_aload_n hx hb dX5_settleOrSearch_20 rfl (lv_at hl 0 rfl) ?_
    refine lv_iload hx hb dX5_settleOrSearch_21 (lv_at hl 5 rfl) ?_
    refine fp_6_4 Z hP hS wF_X5_26 dX5_settleOrSearch_23 (fun H locs hP hS => ?_)
    refine lv_aload_n hx hb dX5_settleOrSearch_26 rfl (lv_at hl 0 rfl) ?_
    refine fg_6_1 Z hP wF_X5_15 dX5_settleOrSearch_27 ?_
    refine lv_iconst (v := 0) hx hb dX5_settleOrSearch_30 (by decide) ?_
    refine lv_aload_n hx hb dX5_settleOrSearch_31 rfl (lv_at hl 0 rfl) ?_
    refine fg_6_0 Z hP wF_X5_9 dX5_settleOrSearch_32 ?_
    refine lv_iconst (v := 0) hx hb dX5_settleOrSearch_35 (by decide) ?_
    refine lv_iconst (v := 4) hx hb dX5_settleOrSearch_36 (by decide) ?_
    obtain ⟨q2, hq2, h⟩ := bd h
    refine zc_cp (rest := []) (i := 24) (j := 23) Z hP hS hl.1 wA_X5_88 wA_1 wA_2 wA_3 hq2 (Nat.le_trans (Nat.le_of_ble_eq_true rfl) hRf) (Nat.le_trans (Nat.le_of_ble_eq_true rfl) hRl) dX5_settleOrSearch_37 (fun H locs hP hS => ?_)
    exact zcv Z hP hS hr hlk h dX5_settleOrSearch_40
  · rw [if_neg c1] at h
    refine lv_aload_n hx hb dX5_settleOrSearch_8 rfl (lv_at hl 0 rfl) ?_
    refine lv_aload_n hx hb dX5_settleOrSearch_9 rfl (lv_at hl 1 rfl) ?_
    refine lv_iload_n hx hb dX5_settleOrSearch_10 rfl (lv_at hl 2 rfl) ?_
    refine lv_iload_n hx hb dX5_settleOrSearch_11 rfl (lv_at hl 3 rfl) ?_
    refine lv_iload hx hb dX5_settleOrSearch_12 (lv_at hl 4 rfl) ?_
    obtain ⟨q3, hq3, h⟩ := bd h
    refine zwcv (zrunV Z hP (As := [.ref (ad 1), .int x2, .int x3, .int x4]) (rest := []) (hrc _ _ _ _ _ hq3) cV_X5_59 hrr.1 hrr.2 hr1 6 (gW_o rfl) rfl rfl rfl hl.1 rfl (Nat.le_of_ble_eq_true rfl) dX5_settleOrSearch_14 ⟨Nat.zero_le _, Nat.zero_le _⟩) hS (fun H locs hP hS => ?_)
    refine lv_goto (tgt := 40) hx hb dX5_settleOrSearch_17 (by decide) ?_
    exact zcv Z hP hS hr hlk h dX5_settleOrSearch_40
def m_X5_search_b_J47 (rc : Sx → Int32 → Int32 → Int32 → Int32 → Option (Sx)) (rec : Int32 → Int32 → Int32 → Int32 → Sx → Option (Sx)) (x2 : Int32) (x3 : Int32) (x4 : Int32) (x5 : Int32) (s0 : Int32) (σ : Sx) : Option (Sx) :=
  (m_X5_enter σ ((σ.1 0)) x2 x5).bind (fun q6 => if (q6.2.1 20) ≤ (s0 + q6.1) then (rec x2 x3 x4 ((x5 + 1)) q6.2) else ((stA cLn q6.2 24 x2 x5).bind (fun q8 => (rc q8 ((x2 + 1)) x5 s0 ((s0 + q6.1))).bind (fun q9 => rec x2 x3 x4 ((x5 + 1)) q9))))
def m_X5_search_b_L12 (rc : Sx → Int32 → Int32 → Int32 → Int32 → Option (Sx)) : Nat → Int32 → Int32 → Int32 → Int32 → Sx → Option (Sx)
  | 0, _, _, _, _, _ => none
  | n + 1, x2, x3, x4, x5, σ =>
  if ((1 : Int32) <<< ((σ.1 0) &&& 31)) ≤ x5 then (some σ) else ((m_X10_canBeOn σ x5).bind (fun v3 => if v3 = 0 then (m_X5_search_b_L12 rc n x2 x3 x4 ((x5 + 1)) σ) else (if x5 = x3 then (m_X5_search_b_J47 rc (m_X5_search_b_L12 rc n) x2 x3 x4 x5 x4 σ) else (m_X5_search_b_J47 rc (m_X5_search_b_L12 rc n) x2 x3 x4 x5 ((x4 + 1)) σ))))
def m_X5_search_b (rc : Sx → Int32 → Int32 → Int32 → Int32 → Option (Sx)) (σ : Sx) (x2 : Int32) (x3 : Int32) (x4 : Int32) : Option (Sx) :=
  if x2 < (σ.1 21) then ((m_X5_search_b_L12 rc FU x2 x3 x4 0 σ).bind (fun y10 => some y10)) else (some σ)
set_option maxHeartbeats 4000000 in
set_option maxRecDepth 100000 in
theorem w_X5_search_b_L12 {l : Launch} {D : va_G} {cy : Nat → ClassId} {ad : Nat → Nat} {τ : Sx} {rc : Sx → Int32 → Int32 → Int32 → Int32 → Option (Sx)} {p : Program} {e : Env} {R : Room} {s : State} {m : MethodId} {args : Array Value} {below : List Frame} {meth : Method} {c : Code} {rr : Room} (hrr : rr.cells = 0 ∧ rr.slots = 0) (hr1 : rr.frames + 1 ≤ R.frames ∧ 8 + (6 + 11) + rr.locals ≤ R.locals) (hrc : ∀ (S : Sx) (a1 a2 a3 a4 : Int32) (out : Sx), rc S a1 a2 a3 a4 = some out → Met l yX5_settleOrSearch [Cond.code yX5_settleOrSearch cX5_settleOrSearch 6 none] rr (va_Pc [.ref (ad 6), .ref (ad 1), .int a1, .int a2, .int a3, .int a4] (gB D cy ad S τ)) (cQv D cy ad τ out) 0 0 (gA ad)) (Z : Zc p s m c cX5_search 8 RX5 D cy ad) (hr : meth.sig.returnType = none) (hlk : meth.locks = false) (hRf : 2 ≤ R.frames) (hRl : 41 ≤ R.locals) (out : Sx) : ∀ (n : Nat) (x2 : Int32) (x3 : Int32) (x4 : Int32) (x5 : Int32) (σ : Sx) (res : Sx), m_X5_search_b_L12 rc n x2 x3 x4 x5 σ = some res → ∀ (H : Heap) (locs : List Loc), va_P D vwCl (gW cy ad σ τ) H → va_S (gA ad) s.heap H locs → ∀ ls : Array Slot, lv_has ls 8 [(0, .ref (ad 6)), (1, .ref (ad 1)), (2, .int x2), (3, .int x3), (4, .int x4), (5, .int x5)] → (∀ (H : Heap) (locs : List Loc), va_P D vwCl (gW cy ad res τ) H → va_S (gA ad) s.heap H locs → ∀ ls : Array Slot, lv_has ls 8 [] → W p l e R s m args below meth c H locs 0 0 (MQ below (cQv D cy ad τ out) args s 0 0 (gA ad)) (F0 m 102 ls [])) → W p l e R s m args below meth c H locs 0 0 (MQ below (cQv D cy ad τ out) args s 0 0 (gA ad)) (F0 m 12 ls []) := by
  have hx := Z.x
  have hb := Z.b
  intro n
  induction n with
  | zero => intro x2 x3 x4 x5 σ res h; cases h
  | succ n ih =>
    intro x2 x3 x4 x5 σ res h H locs hP hS ls hl kx
    have J47 : ∀ (x2 : Int32) (x3 : Int32) (x4 : Int32) (x5 : Int32) (s0 : Int32) (σ : Sx), m_X5_search_b_J47 rc (m_X5_search_b_L12 rc n) x2 x3 x4 x5 s0 σ = some res → ∀ (H : Heap) (locs : List Loc), va_P D vwCl (gW cy ad σ τ) H → va_S (gA ad) s.heap H locs → ∀ ls : Array Slot, lv_has ls 8 [(0, .ref (ad 6)), (1, .ref (ad 1)), (2, .int x2), (3, .int x3), (4, .int x4), (5, .int x5)] → W p l e R s m args below meth c H locs 0 0 (MQ below (cQv D cy ad τ out) args s 0 0 (gA ad)) (F0 m 47 ls [.int s0]) := by
      intro x2 x3 x4 x5 s0 σ h H locs hP hS ls hl
      unfold m_X5_search_b_J47 at h
      refine lv_istore (lv' := [(6, .int s0), (0, .ref (ad 6)), (1, .ref (ad 1)), (2, .int x2), (3, .int x3), (4, .int x4), (5, .int x5)]) hx hb dX5_search_47 hl (by decide) rfl (fun ls hl => ?_)
      refine lv_iload hx hb dX5_search_49 (lv_at hl 0 rfl) ?_
      refine lv_aload_n hx hb dX5_search_51 rfl (lv_at hl 1 rfl) ?_
      refine lv_aload_n hx hb dX5_search_52 rfl (lv_at hl 2 rfl) ?_
      refine fg_1_0 Z hP wF_X5_41 dX5_search_53 ?_
      refine lv_iload_n hx hb dX5_search_56 rfl (lv_at hl 3 rfl) ?_
      refine lv_iload hx hb dX5_search_57 (lv_at hl 6 rfl) ?_
      obtain ⟨q6, hq6, h⟩ := bd h
      refine zwci (zrunV Z hP (As := [.int (σ.1 0), .int x2, .int x5]) (rest := [.int s0]) (c_X5_enter (R := { frames := 0, cells := 0, slots := 0, locals := 0 }) Z.i (Nat.le_refl _) (Nat.le_refl _) hq6) cV_X5_81 rfl rfl ⟨(Nat.le_trans (Nat.le_of_ble_eq_true rfl) hRf), (Nat.le_trans (Nat.le_of_ble_eq_true rfl) hRl)⟩ 6 (gW_o rfl) rfl rfl rfl hl.1 rfl (Nat.le_of_ble_eq_true rfl) dX5_search_59 ⟨Nat.zero_le _, Nat.zero_le _⟩) hS (fun H locs hP hS => ?_)
      refine lv_iadd hx hb dX5_search_62 ?_
      refine lv_istore (lv' := [(7, .int (s0 + q6.1)), (6, .int s0), (0, .ref (ad 6)), (1, .ref (ad 1)), (2, .int x2), (3, .int x3), (4, .int x4), (5, .int x5)]) hx hb dX5_search_63 hl (by decide) rfl (fun ls hl => ?_)
      refine lv_iload hx hb dX5_search_65 (lv_at hl 0 rfl) ?_
      refine lv_aload_n hx hb dX5_search_67 rfl (lv_at hl 2 rfl) ?_
      refine fg_6_4 Z hP wF_X5_26 dX5_search_68 ?_
      refine lv_icmp_ge (tgt := 96) hx hb dX5_search_71 (by decide) (fun c7 => ?_) (fun c7 => ?_)
      · rw [if_pos c7] at h
        refine lv_iinc (v := (x5 + 1)) (lv' := [(5, .int (x5 + 1)), (7, .int (s0 + q6.1)), (6, .int s0), (0, .ref (ad 6)), (1, .ref (ad 1)), (2, .int x2), (3, .int x3), (4, .int x4)]) hx hb dX5_search_96 hl (k := 7) rfl rfl (by decide) rfl (fun ls hl => ?_)
        refine lv_goto (tgt := 12) hx hb dX5_search_99 (by decide) ?_
        exact ih x2 x3 x4 ((x5 + 1)) q6.2 _ h _ _ hP hS _ (lv_sub hl [3, 4, 5, 6, 7, 0] rfl) kx
      · rw [if_neg c7] at h
        refine lv_aload_n hx hb dX5_search_74 rfl (lv_at hl 2 rfl) ?_
        refine fg_6_1 Z hP wF_X5_15 dX5_search_75 ?_
        refine lv_iload_n hx hb dX5_search_78 rfl (lv_at hl 4 rfl) ?_
        refine lv_iload hx hb dX5_search_79 (lv_at hl 7 rfl) ?_
        obtain ⟨q8, hq8, h⟩ := bd h
        refine zc_st (j := 24) Z hP hS hq8 dX5_search_81 (fun H locs hP hS => ?_)
        refine lv_aload_n hx hb dX5_search_82 rfl (lv_at hl 2 rfl) ?_
        refine lv_aload_n hx hb dX5_search_83 rfl (lv_at hl 3 rfl) ?_
        refine lv_iload_n hx hb dX5_search_84 rfl (lv_at hl 4 rfl) ?_
        refine lv_iconst (v := 1) hx hb dX5_search_85 (by decide) ?_
        refine lv_iadd hx hb dX5_search_86 ?_
        refine lv_iload hx hb dX5_search_87 (lv_at hl 7 rfl) ?_
        refine lv_iload hx hb dX5_search_89 (lv_at hl 1 rfl) ?_
        refine lv_iload hx hb dX5_search_91 (lv_at hl 0 rfl) ?_
        obtain ⟨q9, hq9, h⟩ := bd h
        refine zwcv (zrunV Z hP (As := [.ref (ad 1), .int (x2 + 1), .int x5, .int s0, .int (s0 + q6.1)]) (rest := []) (hrc _ _ _ _ _ _ hq9) cV_X5_84 hrr.1 hrr.2 hr1 6 (gW_o rfl) rfl rfl rfl hl.1 rfl (Nat.le_of_ble_eq_true rfl) dX5_search_93 ⟨Nat.zero_le _, Nat.zero_le _⟩) hS (fun H locs hP hS => ?_)
        refine lv_iinc (v := (x5 + 1)) (lv' := [(5, .int (x5 + 1)), (7, .int (s0 + q6.1)), (6, .int s0), (0, .ref (ad 6)), (1, .ref (ad 1)), (2, .int x2), (3, .int x3), (4, .int x4)]) hx hb dX5_search_96 hl (k := 7) rfl rfl (by decide) rfl (fun ls hl => ?_)
        refine lv_goto (tgt := 12) hx hb dX5_search_99 (by decide) ?_
        exact ih x2 x3 x4 ((x5 + 1)) q9 _ h _ _ hP hS _ (lv_sub hl [3, 4, 5, 6, 7, 0] rfl) kx
    rw [m_X5_search_b_L12] at h
    refine lv_iload hx hb dX5_search_12 (lv_at hl 5 rfl) ?_
    refine lv_iconst (v := 1) hx hb dX5_search_14 (by decide) ?_
    refine lv_aload_n hx hb dX5_search_15 rfl (lv_at hl 1 rfl) ?_
    refine fg_1_0 Z hP wF_X5_41 dX5_search_16 ?_
    refine lv_ishl hx hb dX5_search_19 ?_
    refine lv_icmp_ge (tgt := 102) hx hb dX5_search_20 (by decide) (fun c2 => ?_) (fun c2 => ?_)
    · rw [if_pos c2] at h
      obtain rfl := Option.some.inj h
      exact kx _ _ hP hS _ (lv_sub hl [] rfl)
    · rw [if_neg c2] at h
      refine lv_aload_n hx hb dX5_search_23 rfl (lv_at hl 1 rfl) ?_
      refine lv_iload hx hb dX5_search_24 (lv_at hl 5 rfl) ?_
      obtain ⟨v3, hv3, h⟩ := bd h
      refine zqi (zrunV Z hP (As := [.int x5]) (rest := []) (c_X10_canBeOn (R := { frames := 1, cells := 0, slots := 0, locals := 20 }) Z.i (Nat.le_refl _) (Nat.le_refl _) hv3) cV_X5_77 rfl rfl ⟨(Nat.le_trans (Nat.le_of_ble_eq_true rfl) hRf), (Nat.le_trans (Nat.le_of_ble_eq_true rfl) hRl)⟩ 1 (gW_o rfl) rfl rfl rfl hl.1 rfl (Nat.le_of_ble_eq_true rfl) dX5_search_26 ⟨Nat.zero_le _, Nat.zero_le _⟩) ?_
      refine lv_if_eq (tgt := 96) hx hb dX5_search_29 (by decide) (fun c4 => ?_) (fun c4 => ?_)
      · rw [if_pos c4] at h
        refine lv_iinc (v := (x5 + 1)) (lv' := [(5, .int (x5 + 1)), (0, .ref (ad 6)), (1, .ref (ad 1)), (2, .int x2), (3, .int x3), (4, .int x4)]) hx hb dX5_search_96 hl (k := 5) rfl rfl (by decide) rfl (fun ls hl => ?_)
        refine lv_goto (tgt := 12) hx hb dX5_search_99 (by decide) ?_
        exact ih x2 x3 x4 ((x5 + 1)) σ _ h _ _ hP hS _ (lv_sub hl [1, 2, 3, 4, 5, 0] rfl) kx
      · rw [if_neg c4] at h
        refine lv_iload hx hb dX5_search_32 (lv_at hl 5 rfl) ?_
        refine lv_iload_n hx hb dX5_search_34 rfl (lv_at hl 3 rfl) ?_
        refine lv_icmp_ne (tgt := 43) hx hb dX5_search_35 (by decide) (fun c5 => ?_) (fun c5 => ?_)
        · rw [if_neg c5] at h
          refine lv_iload hx hb dX5_search_43 (lv_at hl 4 rfl) ?_
          refine lv_iconst (v := 1) hx hb dX5_search_45 (by decide) ?_
          refine lv_iadd hx hb dX5_search_46 ?_
          exact J47 x2 x3 x4 x5 ((x4 + 1)) σ h _ _ hP hS _ (lv_sub hl [0, 1, 2, 3, 4, 5] rfl)
        · rw [if_pos c5] at h
          refine lv_iload hx hb dX5_search_38 (lv_at hl 4 rfl) ?_
          refine lv_goto (tgt := 47) hx hb dX5_search_40 (by decide) ?_
          exact J47 x2 x3 x4 x5 x4 σ h _ _ hP hS _ (lv_sub hl [0, 1, 2, 3, 4, 5] rfl)
set_option maxHeartbeats 4000000 in
set_option maxRecDepth 100000 in
theorem c_X5_search_b {l : Launch} {D : va_G} {cy : Nat → ClassId} {ad : Nat → Nat} {σ τ : Sx} {rc : Sx → Int32 → Int32 → Int32 → Int32 → Option (Sx)} {R : Room} {rr : Room} (hrr : rr.cells = 0 ∧ rr.slots = 0) (hr1 : rr.frames + 1 ≤ R.frames ∧ 8 + (6 + 11) + rr.locals ≤ R.locals) (hrc : ∀ (S : Sx) (a1 a2 a3 a4 : Int32) (out : Sx), rc S a1 a2 a3 a4 = some out → Met l yX5_settleOrSearch [Cond.code yX5_settleOrSearch cX5_settleOrSearch 6 none] rr (va_Pc [.ref (ad 6), .ref (ad 1), .int a1, .int a2, .int a3, .int a4] (gB D cy ad S τ)) (cQv D cy ad τ out) 0 0 (gA ad)) (hI : gInj ad) (hRf : 2 ≤ R.frames) (hRl : 41 ≤ R.locals) {x2 : Int32} {x3 : Int32} {x4 : Int32} {out : Sx} (h : m_X5_search_b rc σ x2 x3 x4 = some out) : Met l yX5_search [Cond.code yX5_search cX5_search 8 none] R (va_Pc [.ref (ad 6), .ref (ad 1), .int x2, .int x3, .int x4] (gB D cy ad σ τ)) (cQv D cy ad τ out) 0 0 (gA ad) := by
  refine zstart [.ref (ad 6), .ref (ad 1), .int x2, .int x3, .int x4] (by decide) rfl hI (Nat.le_of_ble_eq_true rfl) ?_
  intro p e s m below meth c Z hr hlk hP ls hl
  have hx := Z.x
  have hb := Z.b
  generalize hargs : ([.ref (ad 6), .ref (ad 1), .int x2, .int x3, .int x4] : List Value).toArray = args
  have hl : lv_has ls 8 [(0, .ref (ad 6)), (1, .ref (ad 1)), (2, .int x2), (3, .int x3), (4, .int x4)] := hl
  have hS : va_S (gA ad) s.heap s.heap [] := va_S.rf
  unfold m_X5_search_b at h
  refine lv_iload_n hx hb dX5_search_0 rfl (lv_at hl 2 rfl) ?_
  refine lv_aload_n hx hb dX5_search_1 rfl (lv_at hl 0 rfl) ?_
  refine fg_6_5 Z hP wF_X5_30 dX5_search_2 ?_
  refine lv_icmp_lt (tgt := 9) hx hb dX5_search_5 (by decide) (fun c1 => ?_) (fun c1 => ?_)
  · rw [if_pos c1] at h
    refine lv_iconst (v := 0) hx hb dX5_search_9 (by decide) ?_
    refine lv_istore (lv' := [(5, .int 0), (0, .ref (ad 6)), (1, .ref (ad 1)), (2, .int x2), (3, .int x3), (4, .int x4)]) hx hb dX5_search_10 hl (by decide) rfl (fun ls hl => ?_)
    obtain ⟨y10, hy10, h⟩ := bd h
    refine w_X5_search_b_L12 hrr hr1 hrc Z hr hlk hRf hRl out FU x2 x3 x4 0 σ y10 hy10 _ _ hP hS _ (lv_sub hl [1, 2, 3, 4, 5, 0] rfl) (fun H locs hP hS ls hl => ?_)
    exact zcv Z hP hS hr hlk h dX5_search_102
  · rw [if_neg c1] at h
    exact zcv Z hP hS hr hlk h dX5_search_8
def m_X5_search : Nat → Sx → Int32 → Int32 → Int32 → Option (Sx)
  | 0, _, _, _, _ => none
  | n + 1, σ, a1, a2, a3 => m_X5_search_b (m_X5_settle_b (m_X5_search n)) σ a1 a2 a3
def rm_X5_search (n : Nat) : Room := { frames := 2 + n * 2, cells := 0, slots := 0, locals := 41 + n * 52 }
def rt_X5_search (n : Nat) : Room := { frames := 2 + n * 2 + 1, cells := 0, slots := 0, locals := 41 + n * 52 + 27 }
theorem c_X5_search {l : Launch} {D : va_G} {cy : Nat → ClassId} {ad : Nat → Nat} {τ : Sx} (hI : gInj ad) : ∀ (n : Nat) (S : Sx) (a1 a2 a3 : Int32) (out : Sx), m_X5_search n S a1 a2 a3 = some out → Met l yX5_search [Cond.code yX5_search cX5_search 8 none] (rm_X5_search n) (va_Pc [.ref (ad 6), .ref (ad 1), .int a1, .int a2, .int a3] (gB D cy ad S τ)) (cQv D cy ad τ out) 0 0 (gA ad) := by
  intro n
  induction n with
  | zero => intro S a1 a2 a3 out h; cases h
  | succ n ih =>
    intro S a1 a2 a3 out h
    exact c_X5_search_b (rr := rt_X5_search n) (rc := m_X5_settle_b (m_X5_search n)) ⟨rfl, rfl⟩ ⟨by simp only [rm_X5_search, rt_X5_search]; omega, by simp only [rm_X5_search, rt_X5_search]; omega⟩ (fun S2 b1 b2 b3 b4 out2 h2 => c_X5_settle_b (rr := rm_X5_search n) (rc := m_X5_search n) ⟨rfl, rfl⟩ ⟨by simp only [rm_X5_search, rt_X5_search]; omega, by simp only [rm_X5_search, rt_X5_search]; omega⟩ ih hI (by simp only [rt_X5_search]; omega) (by simp only [rt_X5_search]; omega) h2) hI (by simp only [rm_X5_search]; omega) (by simp only [rm_X5_search]; omega) h
def m_X5_make_L21  : Nat → Int32 → Int32 → Sx → Option (Int32 × Sx)
  | 0, _, _, _ => none
  | n + 1, x3, x4, σ =>
  if (σ.1 0) ≤ x4 then (some ((x3, σ))) else ((ixq 0 5).bind (fun k2 => (stA cLn σ ((42 + k2)) x4 1).bind (fun q3 => (ldA cLn q3 17 x4).bind (fun v4 => (m_X5_fillTree 8 q3 x4 1 0 v4 0).bind (fun q5 => m_X5_make_L21 n x3 ((x4 + 1)) ((sg q5.2 20 (((q3.1 20) + q5.1)))))))))
def m_X5_make (σ : Sx) (x3 : Int32) : Option (Sx) :=
  (m_X5_make_L21 FU x3 0 ((sg (sg (sg σ 21 x3) 22 ((((sg σ 21 x3)).1 14))) 20 0))).bind (fun y6 => if y6.1 ≤ 0 then (some y6.2) else ((m_X5_search 8 ((sg y6.2 20 2147483647)) 0 ((((sg y6.2 20 2147483647)).1 15)) 0).bind (fun q8 => some q8)))
set_option maxHeartbeats 4000000 in
set_option maxRecDepth 100000 in
theorem w_X5_make_L21 {l : Launch} {D : va_G} {cy : Nat → ClassId} {ad : Nat → Nat} {τ : Sx} {p : Program} {e : Env} {R : Room} {s : State} {m : MethodId} {args : Array Value} {below : List Frame} {meth : Method} {c : Code} (Z : Zc p s m c cX5_make 5 RX5 D cy ad) (hr : meth.sig.returnType = none) (hlk : meth.locks = false) (hRf : 19 ≤ R.frames) (hRl : 484 ≤ R.locals) (out : Sx) : ∀ (n : Nat) (x3 : Int32) (x4 : Int32) (σ : Sx) (res : Int32 × Sx), m_X5_make_L21 n x3 x4 σ = some res → ∀ (H : Heap) (locs : List Loc), va_P D vwCl (gW cy ad σ τ) H → va_S (gA ad) s.heap H locs → ∀ ls : Array Slot, lv_has ls 5 [(0, .ref (ad 6)), (1, .ref (ad 1)), (2, .ref (ad 4)), (3, .int x3), (4, .int x4)] → (∀ (H : Heap) (locs : List Loc), va_P D vwCl (gW cy ad res.2 τ) H → va_S (gA ad) s.heap H locs → ∀ ls : Array Slot, lv_has ls 5 [(0, .ref (ad 6)), (1, .ref (ad 1)), (2, .ref (ad 4)), (3, .int res.1)] → W p l e R s m args below meth c H locs 0 0 (MQ below (cQv D cy ad τ out) args s 0 0 (gA ad)) (F0 m 72 ls [])) → W p l e R s m args below meth c H locs 0 0 (MQ below (cQv D cy ad τ out) args s 0 0 (gA ad)) (F0 m 21 ls []) := by
  have hx := Z.x
  have hb := Z.b
  intro n
  induction n with
  | zero => intro x3 x4 σ res h; cases h
  | succ n ih =>
    intro x3 x4 σ res h H locs hP hS ls hl kx
    rw [m_X5_make_L21] at h
    refine lv_iload hx hb dX5_make_21 (lv_at hl 4 rfl) ?_
    refine lv_aload_n hx hb dX5_make_23 rfl (lv_at hl 1 rfl) ?_
    refine fg_1_0 Z hP wF_X5_41 dX5_make_24 ?_
    refine lv_icmp_ge (tgt := 72) hx hb dX5_make_27 (by decide) (fun c1 => ?_) (fun c1 => ?_)
    · rw [if_pos c1] at h
      obtain rfl := Option.some.inj h
      exact kx _ _ hP hS _ (lv_sub hl [0, 1, 2, 3] rfl)
    · rw [if_neg c1] at h
      refine lv_aload_n hx hb dX5_make_30 rfl (lv_at hl 0 rfl) ?_
      refine fg_6_3 Z hP wF_X5_23 dX5_make_31 ?_
      refine lv_iconst (v := 0) hx hb dX5_make_34 (by decide) ?_
      obtain ⟨k2, hk2, h⟩ := bd h
      refine zald (n := 5) (b := 42) Z hP 17 (gW_o rfl) hk2 dX5_make_35 ?_
      refine lv_iload hx hb dX5_make_36 (lv_at hl 4 rfl) ?_
      refine lv_iconst (v := 1) hx hb dX5_make_38 (by decide) ?_
      obtain ⟨q3, hq3, h⟩ := bd h
      refine zc_st (j := (42 + k2)) Z hP hS hq3 dX5_make_39 (fun H locs hP hS => ?_)
      refine lv_aload_n hx hb dX5_make_40 rfl (lv_at hl 0 rfl) ?_
      refine lv_dup hx hb dX5_make_41 rfl ?_
      refine fg_6_4 Z hP wF_X5_26 dX5_make_42 ?_
      refine lv_aload_n hx hb dX5_make_45 rfl (lv_at hl 0 rfl) ?_
      refine lv_aload_n hx hb dX5_make_46 rfl (lv_at hl 1 rfl) ?_
      refine lv_iload hx hb dX5_make_47 (lv_at hl 4 rfl) ?_
      refine lv_iconst (v := 1) hx hb dX5_make_49 (by decide) ?_
      refine lv_iconst (v := 0) hx hb dX5_make_50 (by decide) ?_
      refine lv_aload_n hx hb dX5_make_51 rfl (lv_at hl 2 rfl) ?_
      refine fg_4_4 Z hP wF_X5_46 dX5_make_52 ?_
      refine lv_iload hx hb dX5_make_55 (lv_at hl 4 rfl) ?_
      obtain ⟨v4, hv4, h⟩ := bd h
      refine zc_ld (j := 17) Z hP hv4 dX5_make_57 ?_
      refine lv_iconst (v := 0) hx hb dX5_make_58 (by decide) ?_
      obtain ⟨q5, hq5, h⟩ := bd h
      refine zwci (zrunV Z hP (As := [.ref (ad 1), .int x4, .int 1, .int 0, .int v4, .int 0]) (rest := [.int (q3.1 20), .ref (ad 6)]) (c_X5_fillTree Z.i 8 _ _ _ _ _ _ _ hq5) cV_X5_49 rfl rfl ⟨(Nat.le_trans (Nat.le_of_ble_eq_true rfl) hRf), (Nat.le_trans (Nat.le_of_ble_eq_true rfl) hRl)⟩ 6 (gW_o rfl) rfl rfl rfl hl.1 rfl (Nat.le_of_ble_eq_true rfl) dX5_make_59 ⟨Nat.zero_le _, Nat.zero_le _⟩) hS (fun H locs hP hS => ?_)
      refine lv_iadd hx hb dX5_make_62 ?_
      refine fp_6_4 Z hP hS wF_X5_26 dX5_make_63 (fun H locs hP hS => ?_)
      refine lv_iinc (v := (x4 + 1)) (lv' := [(4, .int (x4 + 1)), (0, .ref (ad 6)), (1, .ref (ad 1)), (2, .ref (ad 4)), (3, .int x3)]) hx hb dX5_make_66 hl (k := 4) rfl rfl (by decide) rfl (fun ls hl => ?_)
      refine lv_goto (tgt := 21) hx hb dX5_make_69 (by decide) ?_
      exact ih x3 ((x4 + 1)) ((sg q5.2 20 (((q3.1 20) + q5.1)))) _ h _ _ hP hS _ (lv_sub hl [1, 2, 3, 4, 0] rfl) kx
set_option maxHeartbeats 4000000 in
set_option maxRecDepth 100000 in
theorem c_X5_make {l : Launch} {D : va_G} {cy : Nat → ClassId} {ad : Nat → Nat} {σ τ : Sx} {R : Room} (hI : gInj ad) (hRf : 19 ≤ R.frames) (hRl : 484 ≤ R.locals) {x3 : Int32} {out : Sx} (h : m_X5_make σ x3 = some out) : Met l yX5_make [Cond.code yX5_make cX5_make 5 none] R (va_Pc [.ref (ad 6), .ref (ad 1), .ref (ad 4), .int x3] (gB D cy ad σ τ)) (cQv D cy ad τ out) 0 0 (gA ad) := by
  refine zstart [.ref (ad 6), .ref (ad 1), .ref (ad 4), .int x3] (by decide) rfl hI (Nat.le_of_ble_eq_true rfl) ?_
  intro p e s m below meth c Z hr hlk hP ls hl
  have hx := Z.x
  have hb := Z.b
  generalize hargs : ([.ref (ad 6), .ref (ad 1), .ref (ad 4), .int x3] : List Value).toArray = args
  have hl : lv_has ls 5 [(0, .ref (ad 6)), (1, .ref (ad 1)), (2, .ref (ad 4)), (3, .int x3)] := hl
  have hS : va_S (gA ad) s.heap s.heap [] := va_S.rf
  unfold m_X5_make at h
  refine lv_aload_n hx hb dX5_make_0 rfl (lv_at hl 0 rfl) ?_
  refine lv_iload_n hx hb dX5_make_1 rfl (lv_at hl 3 rfl) ?_
  refine fp_6_5 Z hP hS wF_X5_30 dX5_make_2 (fun H locs hP hS => ?_)
  refine lv_aload_n hx hb dX5_make_5 rfl (lv_at hl 0 rfl) ?_
  refine lv_aload_n hx hb dX5_make_6 rfl (lv_at hl 2 rfl) ?_
  refine fg_4_0 Z hP wF_X5_36 dX5_make_7 ?_
  refine fp_6_6 Z hP hS wF_X5_33 dX5_make_10 (fun H locs hP hS => ?_)
  refine lv_aload_n hx hb dX5_make_13 rfl (lv_at hl 0 rfl) ?_
  refine lv_iconst (v := 0) hx hb dX5_make_14 (by decide) ?_
  refine fp_6_4 Z hP hS wF_X5_26 dX5_make_15 (fun H locs hP hS => ?_)
  refine lv_iconst (v := 0) hx hb dX5_make_18 (by decide) ?_
  refine lv_istore (lv' := [(4, .int 0), (0, .ref (ad 6)), (1, .ref (ad 1)), (2, .ref (ad 4)), (3, .int x3)]) hx hb dX5_make_19 hl (by decide) rfl (fun ls hl => ?_)
  obtain ⟨y6, hy6, h⟩ := bd h
  refine w_X5_make_L21 Z hr hlk hRf hRl out FU x3 0 ((sg (sg (sg σ 21 x3) 22 ((((sg σ 21 x3)).1 14))) 20 0)) y6 hy6 _ _ hP hS _ (lv_sub hl [1, 2, 3, 4, 0] rfl) (fun H locs hP hS ls hl => ?_)
  refine lv_iload_n hx hb dX5_make_72 rfl (lv_at hl 3 rfl) ?_
  refine lv_if_le (tgt := 93) hx hb dX5_make_73 (by decide) (fun c7 => ?_) (fun c7 => ?_)
  · rw [if_pos c7] at h
    exact zcv Z hP hS hr hlk h dX5_make_93
  · rw [if_neg c7] at h
    refine lv_aload_n hx hb dX5_make_76 rfl (lv_at hl 0 rfl) ?_
    refine lv_ldc hx hb Z.o (Z.t _ wK_X5_55 rfl _) dX5_make_77 ?_
    refine fp_6_4 Z hP hS wF_X5_26 dX5_make_79 (fun H locs hP hS => ?_)
    refine lv_aload_n hx hb dX5_make_82 rfl (lv_at hl 0 rfl) ?_
    refine lv_aload_n hx hb dX5_make_83 rfl (lv_at hl 1 rfl) ?_
    refine lv_iconst (v := 0) hx hb dX5_make_84 (by decide) ?_
    refine lv_aload_n hx hb dX5_make_85 rfl (lv_at hl 2 rfl) ?_
    refine fg_4_1 Z hP wF_X5_56 dX5_make_86 ?_
    refine lv_iconst (v := 0) hx hb dX5_make_89 (by decide) ?_
    obtain ⟨q8, hq8, h⟩ := bd h
    refine zwcv (zrunV Z hP (As := [.ref (ad 1), .int 0, .int (((sg y6.2 20 2147483647)).1 15), .int 0]) (rest := []) (c_X5_search Z.i 8 _ _ _ _ _ hq8) cV_X5_59 rfl rfl ⟨(Nat.le_trans (Nat.le_of_ble_eq_true rfl) hRf), (Nat.le_trans (Nat.le_of_ble_eq_true rfl) hRl)⟩ 6 (gW_o rfl) rfl rfl rfl hl.1 rfl (Nat.le_of_ble_eq_true rfl) dX5_make_90 ⟨Nat.zero_le _, Nat.zero_le _⟩) hS (fun H locs hP hS => ?_)
    exact zcv Z hP hS hr hlk h dX5_make_93
def m_X11_ways_b (rc : Sx → Int32 → Int32 → Int32 → Int32 → Int32 → Option (Int64)) (σ : Sx) (x1 : Int32) (x2 : Int32) (x3 : Int32) (x4 : Int32) (x5 : Int32) : Option (Int64) :=
  if 0 < x5 then ((m_X10_drained σ x1 x4).bind (fun v2 => (rc σ x1 x2 x3 v2 ((x5 - 1))).bind (fun v3 => (m_X10_filled σ x1 x4).bind (fun v4 => (rc σ x1 x2 x3 v4 ((x5 - 1))).bind (fun v5 => some ((((Int32.toInt64 x3) * v3) + ((Int32.toInt64 ((10 - x3))) * v5)))))))) else (if x4 < x2 then (some 0) else (some 1))
set_option maxHeartbeats 4000000 in
set_option maxRecDepth 100000 in
theorem c_X11_ways_b {l : Launch} {D : va_G} {cy : Nat → ClassId} {ad : Nat → Nat} {σ τ : Sx} {rc : Sx → Int32 → Int32 → Int32 → Int32 → Int32 → Option (Int64)} {R : Room} {rr : Room} (hrr : rr.cells = 0 ∧ rr.slots = 0) (hr1 : rr.frames + 1 ≤ R.frames ∧ 8 + (6 + 11) + rr.locals ≤ R.locals) (hrc : ∀ (S : Sx) (a1 a2 a3 a4 a5 : Int32) (out : Int64), rc S a1 a2 a3 a4 a5 = some out → Met l yX11_waysOfTen [Cond.code yX11_waysOfTen cX11_waysOfTen 6 (some .long)] rr (va_Pc [.ref (ad 0), .int a1, .int a2, .int a3, .int a4, .int a5] (gB D cy ad S τ)) (rQl out) 0 0 noA) (hI : gInj ad) (hRf : 2 ≤ R.frames) (hRl : 36 ≤ R.locals) {x1 : Int32} {x2 : Int32} {x3 : Int32} {x4 : Int32} {x5 : Int32} {out : Int64} (h : m_X11_ways_b rc σ x1 x2 x3 x4 x5 = some out) : Met l yX11_waysOfTen [Cond.code yX11_waysOfTen cX11_waysOfTen 6 (some .long)] R (va_Pc [.ref (ad 0), .int x1, .int x2, .int x3, .int x4, .int x5] (gB D cy ad σ τ)) (rQl out) 0 0 noA := by
  refine zstart [.ref (ad 0), .int x1, .int x2, .int x3, .int x4, .int x5] (by decide) rfl hI (Nat.le_of_ble_eq_true rfl) ?_
  intro p e s m below meth c Z hr hlk hP ls hl
  have hx := Z.x
  have hb := Z.b
  generalize hargs : ([.ref (ad 0), .int x1, .int x2, .int x3, .int x4, .int x5] : List Value).toArray = args
  have hl : lv_has ls 6 [(0, .ref (ad 0)), (1, .int x1), (2, .int x2), (3, .int x3), (4, .int x4), (5, .int x5)] := hl
  unfold m_X11_ways_b at h
  refine lv_iload hx hb dX11_waysOfTen_0 (lv_at hl 5 rfl) ?_
  refine lv_if_gt (tgt := 17) hx hb dX11_waysOfTen_2 (by decide) (fun c1 => ?_) (fun c1 => ?_)
  · rw [if_pos c1] at h
    refine lv_iload_n hx hb dX11_waysOfTen_17 rfl (lv_at hl 3 rfl) ?_
    refine lv_i2l (v := (Int32.toInt64 x3)) hx hb dX11_waysOfTen_18 rfl ?_
    refine lv_aload_n hx hb dX11_waysOfTen_19 rfl (lv_at hl 0 rfl) ?_
    refine lv_iload_n hx hb dX11_waysOfTen_20 rfl (lv_at hl 1 rfl) ?_
    refine lv_iload_n hx hb dX11_waysOfTen_21 rfl (lv_at hl 2 rfl) ?_
    refine lv_iload_n hx hb dX11_waysOfTen_22 rfl (lv_at hl 3 rfl) ?_
    refine lv_aload_n hx hb dX11_waysOfTen_23 rfl (lv_at hl 0 rfl) ?_
    refine fg_0_0 Z hP wF_X11_10 dX11_waysOfTen_24 ?_
    refine lv_iload_n hx hb dX11_waysOfTen_27 rfl (lv_at hl 1 rfl) ?_
    refine lv_iload hx hb dX11_waysOfTen_28 (lv_at hl 4 rfl) ?_
    obtain ⟨v2, hv2, h⟩ := bd h
    refine zqi (zrunV Z hP (As := [.int x1, .int x4]) (rest := [.int x3, .int x2, .int x1, .ref (ad 0), .long (Int32.toInt64 x3)]) (c_X10_drained (R := { frames := 1, cells := 0, slots := 0, locals := 13 }) Z.i (Nat.le_refl _) (Nat.le_refl _) hv2) cV_X11_248 rfl rfl ⟨(Nat.le_trans (Nat.le_of_ble_eq_true rfl) hRf), (Nat.le_trans (Nat.le_of_ble_eq_true rfl) hRl)⟩ 1 (gW_o rfl) rfl rfl rfl hl.1 rfl (Nat.le_of_ble_eq_true rfl) dX11_waysOfTen_30 ⟨Nat.zero_le _, Nat.zero_le _⟩) ?_
    refine lv_iload hx hb dX11_waysOfTen_33 (lv_at hl 5 rfl) ?_
    refine lv_iconst (v := 1) hx hb dX11_waysOfTen_35 (by decide) ?_
    refine lv_isub hx hb dX11_waysOfTen_36 ?_
    obtain ⟨v3, hv3, h⟩ := bd h
    refine zql (zrunV Z hP (As := [.int x1, .int x2, .int x3, .int v2, .int (x5 - 1)]) (rest := [.long (Int32.toInt64 x3)]) (hrc _ _ _ _ _ _ _ hv3) cV_X11_238 hrr.1 hrr.2 hr1 0 (gW_o rfl) rfl rfl rfl hl.1 rfl (Nat.le_of_ble_eq_true rfl) dX11_waysOfTen_37 ⟨Nat.zero_le _, Nat.zero_le _⟩) ?_
    refine lv_lmul hx hb dX11_waysOfTen_40 ?_
    refine lv_bipush (v := 10) hx hb dX11_waysOfTen_41 (by decide) ?_
    refine lv_iload_n hx hb dX11_waysOfTen_43 rfl (lv_at hl 3 rfl) ?_
    refine lv_isub hx hb dX11_waysOfTen_44 ?_
    refine lv_i2l (v := (Int32.toInt64 ((10 - x3)))) hx hb dX11_waysOfTen_45 rfl ?_
    refine lv_aload_n hx hb dX11_waysOfTen_46 rfl (lv_at hl 0 rfl) ?_
    refine lv_iload_n hx hb dX11_waysOfTen_47 rfl (lv_at hl 1 rfl) ?_
    refine lv_iload_n hx hb dX11_waysOfTen_48 rfl (lv_at hl 2 rfl) ?_
    refine lv_iload_n hx hb dX11_waysOfTen_49 rfl (lv_at hl 3 rfl) ?_
    refine lv_aload_n hx hb dX11_waysOfTen_50 rfl (lv_at hl 0 rfl) ?_
    refine fg_0_0 Z hP wF_X11_10 dX11_waysOfTen_51 ?_
    refine lv_iload_n hx hb dX11_waysOfTen_54 rfl (lv_at hl 1 rfl) ?_
    refine lv_iload hx hb dX11_waysOfTen_55 (lv_at hl 4 rfl) ?_
    obtain ⟨v4, hv4, h⟩ := bd h
    refine zqi (zrunV Z hP (As := [.int x1, .int x4]) (rest := [.int x3, .int x2, .int x1, .ref (ad 0), .long (Int32.toInt64 ((10 - x3))), .long ((Int32.toInt64 x3) * v3)]) (c_X10_filled (R := { frames := 1, cells := 0, slots := 0, locals := 13 }) Z.i (Nat.le_refl _) (Nat.le_refl _) hv4) cV_X11_232 rfl rfl ⟨(Nat.le_trans (Nat.le_of_ble_eq_true rfl) hRf), (Nat.le_trans (Nat.le_of_ble_eq_true rfl) hRl)⟩ 1 (gW_o rfl) rfl rfl rfl hl.1 rfl (Nat.le_of_ble_eq_true rfl) dX11_waysOfTen_57 ⟨Nat.zero_le _, Nat.zero_le _⟩) ?_
    refine lv_iload hx hb dX11_waysOfTen_60 (lv_at hl 5 rfl) ?_
    refine lv_iconst (v := 1) hx hb dX11_waysOfTen_62 (by decide) ?_
    refine lv_isub hx hb dX11_waysOfTen_63 ?_
    obtain ⟨v5, hv5, h⟩ := bd h
    refine zql (zrunV Z hP (As := [.int x1, .int x2, .int x3, .int v4, .int (x5 - 1)]) (rest := [.long (Int32.toInt64 ((10 - x3))), .long ((Int32.toInt64 x3) * v3)]) (hrc _ _ _ _ _ _ _ hv5) cV_X11_238 hrr.1 hrr.2 hr1 0 (gW_o rfl) rfl rfl rfl hl.1 rfl (Nat.le_of_ble_eq_true rfl) dX11_waysOfTen_64 ⟨Nat.zero_le _, Nat.zero_le _⟩) ?_
    refine lv_lmul hx hb dX11_waysOfTen_67 ?_
    refine lv_ladd hx hb dX11_waysOfTen_68 ?_
    exact zrl Z hr hlk h dX11_waysOfTen_69
  · rw [if_neg c1] at h
    refine lv_iload hx hb dX11_waysOfTen_5 (lv_at hl 4 rfl) ?_
    refine lv_iload_n hx hb dX11_waysOfTen_7 rfl (lv_at hl 2 rfl) ?_
    refine lv_icmp_lt (tgt := 15) hx hb dX11_waysOfTen_8 (by decide) (fun c6 => ?_) (fun c6 => ?_)
    · rw [if_pos c6] at h
      refine lv_lconst (v := 0) hx hb dX11_waysOfTen_15 (by decide) ?_
      exact zrl Z hr hlk h dX11_waysOfTen_16
    · rw [if_neg c6] at h
      refine lv_lconst (v := 1) hx hb dX11_waysOfTen_11 (by decide) ?_
      refine lv_goto (tgt := 16) hx hb dX11_waysOfTen_12 (by decide) ?_
      exact zrl Z hr hlk h dX11_waysOfTen_16
def m_X11_waysOfTen : Nat → Sx → Int32 → Int32 → Int32 → Int32 → Int32 → Option (Int64)
  | 0, _, _, _, _, _, _ => none
  | n + 1, σ, a1, a2, a3, a4, a5 => m_X11_ways_b (m_X11_waysOfTen n) σ a1 a2 a3 a4 a5
def rm_X11_waysOfTen (n : Nat) : Room := { frames := 2 + n * 1, cells := 0, slots := 0, locals := 36 + n * 25 }
theorem c_X11_waysOfTen {l : Launch} {D : va_G} {cy : Nat → ClassId} {ad : Nat → Nat} {τ : Sx} (hI : gInj ad) : ∀ (n : Nat) (S : Sx) (a1 a2 a3 a4 a5 : Int32) (out : Int64), m_X11_waysOfTen n S a1 a2 a3 a4 a5 = some out → Met l yX11_waysOfTen [Cond.code yX11_waysOfTen cX11_waysOfTen 6 (some .long)] (rm_X11_waysOfTen n) (va_Pc [.ref (ad 0), .int a1, .int a2, .int a3, .int a4, .int a5] (gB D cy ad S τ)) (rQl out) 0 0 noA := by
  intro n
  induction n with
  | zero => intro S a1 a2 a3 a4 a5 out h; cases h
  | succ n ih =>
    intro S a1 a2 a3 a4 a5 out h
    exact c_X11_ways_b (rr := rm_X11_waysOfTen n) (rc := m_X11_waysOfTen n) ⟨rfl, rfl⟩ ⟨by simp only [rm_X11_waysOfTen]; omega, by simp only [rm_X11_waysOfTen]; omega⟩ ih hI (by simp only [rm_X11_waysOfTen]; omega) (by simp only [rm_X11_waysOfTen]; omega) h
