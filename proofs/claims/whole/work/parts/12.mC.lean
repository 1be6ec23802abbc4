def m_X7_add (σ : Sx) (x1 : Int32) : Option (Int32 × Sx) :=
  if (σ.1 8) < 200 then ((stA cLn σ 16 ((σ.1 8)) x1).bind (fun q2 => some ((1, (sg q2 8 (((q2.1 8) + 1))))))) else (some ((0, σ)))
set_option maxHeartbeats 4000000 in
set_option maxRecDepth 100000 in
theorem c_X7_add {l : Launch} {D : va_G} {cy : Nat → ClassId} {ad : Nat → Nat} {σ τ : Sx} {R : Room} (hI : gInj ad) (hRf : 0 ≤ R.frames) (hRl : 0 ≤ R.locals) {x1 : Int32} {out : Int32 × Sx} (h : m_X7_add σ x1 = some out) : Met l yX7_add [Cond.code yX7_add cX7_add 2 (some .boolean)] R (va_Pc [.ref (ad 3), .int x1] (gB D cy ad σ τ)) (cQi D cy ad τ out) 0 0 (gA ad) := by
  refine zstart [.ref (ad 3), .int x1] (by decide) rfl hI (Nat.le_of_ble_eq_true rfl) ?_
  intro p e s m below meth c Z hr hlk hP ls hl
  have hx := Z.x
  have hb := Z.b
  generalize hargs : ([.ref (ad 3), .int x1] : List Value).toArray = args
  have hl : lv_has ls 2 [(0, .ref (ad 3)), (1, .int x1)] := hl
  have hS : va_S (gA ad) s.heap s.heap [] := va_S.rf
  unfold m_X7_add at h
  refine lv_aload_n hx hb dX7_add_0 rfl (lv_at hl 0 rfl) ?_
  refine fg_3_1 Z hP wF_X7_15 dX7_add_1 ?_
  refine lv_sipush (v := 200) hx hb dX7_add_4 (by decide) ?_
  refine lv_icmp_lt (tgt := 12) hx hb dX7_add_7 (by decide) (fun c1 => ?_) (fun c1 => ?_)
  · rw [if_pos c1] at h
    refine lv_aload_n hx hb dX7_add_12 rfl (lv_at hl 0 rfl) ?_
    refine fg_3_0 Z hP wF_X7_9 dX7_add_13 ?_
    refine lv_aload_n hx hb dX7_add_16 rfl (lv_at hl 0 rfl) ?_
    refine fg_3_1 Z hP wF_X7_15 dX7_add_17 ?_
    refine lv_iload_n hx hb dX7_add_20 rfl (lv_at hl 1 rfl) ?_
    obtain ⟨q2, hq2, h⟩ := bd h
    refine zc_st (j := 16) Z hP hS hq2 dX7_add_21 (fun H locs hP hS => ?_)
    refine lv_aload_n hx hb dX7_add_22 rfl (lv_at hl 0 rfl) ?_
    refine lv_dup hx hb dX7_add_23 rfl ?_
    refine fg_3_1 Z hP wF_X7_15 dX7_add_24 ?_
    refine lv_iconst (v := 1) hx hb dX7_add_27 (by decide) ?_
    refine lv_iadd hx hb dX7_add_28 ?_
    refine fp_3_1 Z hP hS wF_X7_15 dX7_add_29 (fun H locs hP hS => ?_)
    refine lv_iconst (v := 1) hx hb dX7_add_32 (by decide) ?_
    exact zczc Z hP hS hr hlk (Or.inr rfl) h dX7_add_33
  · rw [if_neg c1] at h
    refine lv_iconst (v := 0) hx hb dX7_add_10 (by decide) ?_
    exact zczc Z hP hS hr hlk (Or.inl rfl) h dX7_add_11
def m_X7_scanNumber_L5  : Nat → Sx → Option (Sx)
  | 0, _ => none
  | n + 1, σ =>
  if (σ.1 8) ≤ (σ.1 10) then (some σ) else ((ldA cLn σ 16 ((σ.1 10))).bind (fun v2 => (m_X7_isDigit v2).bind (fun v3 => if v3 = 0 then (some σ) else ((ldA cLn σ 16 ((σ.1 10))).bind (fun v5 => m_X7_scanNumber_L5 n ((sg (sg σ 12 ((if ((((σ.1 12) * 10) + v5) - 48) < 101 then ((((σ.1 12) * 10) + v5) - 48) else 101))) 10 (((((sg σ 12 ((if ((((σ.1 12) * 10) + v5) - 48) < 101 then ((((σ.1 12) * 10) + v5) - 48) else 101)))).1 10) + 1)))))))))
def m_X7_scanNumber_J105 (s0 : Int32) (σ : Sx) : Option (Sx) :=
  if s0 = 0 then (if (σ.1 12) ≤ 100 then (some ((sg σ 11 ((-2))))) else (some ((sg σ 11 ((-3)))))) else (some ((sg σ 11 ((-3)))))
def m_X7_scanNumber_J104 (σ : Sx) : Option (Sx) :=
  m_X7_scanNumber_J105 0 σ
def m_X7_scanNumber_J73 (σ : Sx) : Option (Sx) :=
  (ldA cLn σ 16 ((σ.1 9))).bind (fun v7 => if v7 = 48 then (if ((σ.1 10) - (σ.1 9)) ≤ 1 then (m_X7_scanNumber_J104 σ) else (m_X7_scanNumber_J105 1 σ)) else (m_X7_scanNumber_J104 σ))
def m_X7_scanNumber (σ : Sx) : Option (Sx) :=
  (m_X7_scanNumber_L5 FU ((sg σ 12 0))).bind (fun y6 => m_X7_scanNumber_J73 y6)
set_option maxHeartbeats 4000000 in
set_option maxRecDepth 100000 in
theorem w_X7_scanNumber_L5 {l : Launch} {D : va_G} {cy : Nat → ClassId} {ad : Nat → Nat} {τ : Sx} {p : Program} {e : Env} {R : Room} {s : State} {m : MethodId} {args : Array Value} {below : List Frame} {meth : Method} {c : Code} (Z : Zc p s m c cX7_scanNumber 2 RX7 D cy ad) (hr : meth.sig.returnType = none) (hlk : meth.locks = false) (hRf : 1 ≤ R.frames) (hRl : 20 ≤ R.locals) (out : Sx) : ∀ (n : Nat)  (σ : Sx) (res : Sx), m_X7_scanNumber_L5 n σ = some res → ∀ (H : Heap) (locs : List Loc), va_P D vwCl (gW cy ad σ τ) H → va_S (gA ad) s.heap H locs → ∀ ls : Array Slot, lv_has ls 2 [(0, .ref (ad 3))] → (∀ (H : Heap) (locs : List Loc), va_P D vwCl (gW cy ad res τ) H → va_S (gA ad) s.heap H locs → ∀ ls : Array Slot, lv_has ls 2 [(0, .ref (ad 3))] → W p l e R s m args below meth c H locs 0 0 (MQ below (cQv D cy ad τ out) args s 0 0 (gA ad)) (F0 m 73 ls [])) → W p l e R s m args below meth c H locs 0 0 (MQ below (cQv D cy ad τ out) args s 0 0 (gA ad)) (F0 m 5 ls []) := by
  have hx := Z.x
  have hb := Z.b
  intro n
  induction n with
  | zero => intro σ res h; cases h
  | succ n ih =>
    intro σ res h H locs hP hS ls hl kx
    rw [m_X7_scanNumber_L5] at h
    refine lv_aload_n hx hb dX7_scanNumber_5 rfl (lv_at hl 0 rfl) ?_
    refine fg_3_3 Z hP wF_X7_22 dX7_scanNumber_6 ?_
    refine lv_aload_n hx hb dX7_scanNumber_9 rfl (lv_at hl 0 rfl) ?_
    refine fg_3_1 Z hP wF_X7_15 dX7_scanNumber_10 ?_
    refine lv_icmp_ge (tgt := 73) hx hb dX7_scanNumber_13 (by decide) (fun c1 => ?_) (fun c1 => ?_)
    · rw [if_pos c1] at h
      obtain rfl := Option.some.inj h
      exact kx _ _ hP hS _ (lv_sub hl [0] rfl)
    · rw [if_neg c1] at h
      refine lv_aload_n hx hb dX7_scanNumber_16 rfl (lv_at hl 0 rfl) ?_
      refine fg_3_0 Z hP wF_X7_9 dX7_scanNumber_17 ?_
      refine lv_aload_n hx hb dX7_scanNumber_20 rfl (lv_at hl 0 rfl) ?_
      refine fg_3_3 Z hP wF_X7_22 dX7_scanNumber_21 ?_
      obtain ⟨v2, hv2, h⟩ := bd h
      refine zc_ld (j := 16) Z hP hv2 dX7_scanNumber_24 ?_
      obtain ⟨v3, hv3, h⟩ := bd h
      refine zqi (zrunS Z hP (As := [.int v2]) (rest := []) (c_X7_isDigit (R := { frames := 0, cells := 0, slots := 0, locals := 0 }) Z.i (Nat.le_refl _) (Nat.le_refl _) hv3) cV_X7_104 rfl rfl ⟨(Nat.le_trans (Nat.le_of_ble_eq_true rfl) hRf), (Nat.le_trans (Nat.le_of_ble_eq_true rfl) hRl)⟩ rfl hl.1 rfl (Nat.le_of_ble_eq_true rfl) dX7_scanNumber_25 ⟨Nat.zero_le _, Nat.zero_le _⟩) ?_
      refine lv_if_eq (tgt := 73) hx hb dX7_scanNumber_28 (by decide) (fun c4 => ?_) (fun c4 => ?_)
      · rw [if_pos c4] at h
        obtain rfl := Option.some.inj h
        exact kx _ _ hP hS _ (lv_sub hl [0] rfl)
      · rw [if_neg c4] at h
        refine lv_aload_n hx hb dX7_scanNumber_31 rfl (lv_at hl 0 rfl) ?_
        refine lv_bipush (v := 101) hx hb dX7_scanNumber_32 (by decide) ?_
        refine lv_aload_n hx hb dX7_scanNumber_34 rfl (lv_at hl 0 rfl) ?_
        refine fg_3_5 Z hP wF_X7_28 dX7_scanNumber_35 ?_
        refine lv_bipush (v := 10) hx hb dX7_scanNumber_38 (by decide) ?_
        refine lv_imul hx hb dX7_scanNumber_40 ?_
        refine lv_aload_n hx hb dX7_scanNumber_41 rfl (lv_at hl 0 rfl) ?_
        refine fg_3_0 Z hP wF_X7_9 dX7_scanNumber_42 ?_
        refine lv_aload_n hx hb dX7_scanNumber_45 rfl (lv_at hl 0 rfl) ?_
        refine fg_3_3 Z hP wF_X7_22 dX7_scanNumber_46 ?_
        obtain ⟨v5, hv5, h⟩ := bd h
        refine zc_ld (j := 16) Z hP hv5 dX7_scanNumber_49 ?_
        refine lv_iadd hx hb dX7_scanNumber_50 ?_
        refine lv_bipush (v := 48) hx hb dX7_scanNumber_51 (by decide) ?_
        refine lv_isub hx hb dX7_scanNumber_53 ?_
        refine va_mmin (rest := [.ref (ad 3)]) hx hb (Z.ml.trans hl.1.symm) Z.o (Z.t _ wA_X7_114 rfl _) (Z.t _ wM_min1 rfl _) (Z.t _ wM_i rfl _) (Z.t _ wM_min2 rfl _) (Nat.le_trans (Nat.le_of_ble_eq_true rfl) hRf) (Nat.le_trans (Nat.le_of_ble_eq_true rfl) hRl) (Nat.zero_le _) (Nat.zero_le _) dX7_scanNumber_54 ?_
        refine fp_3_5 Z hP hS wF_X7_28 dX7_scanNumber_57 (fun H locs hP hS => ?_)
        refine lv_aload_n hx hb dX7_scanNumber_60 rfl (lv_at hl 0 rfl) ?_
        refine lv_dup hx hb dX7_scanNumber_61 rfl ?_
        refine fg_3_3 Z hP wF_X7_22 dX7_scanNumber_62 ?_
        refine lv_iconst (v := 1) hx hb dX7_scanNumber_65 (by decide) ?_
        refine lv_iadd hx hb dX7_scanNumber_66 ?_
        refine fp_3_3 Z hP hS wF_X7_22 dX7_scanNumber_67 (fun H locs hP hS => ?_)
        refine lv_goto (tgt := 5) hx hb dX7_scanNumber_70 (by decide) ?_
        exact ih ((sg (sg σ 12 ((if ((((σ.1 12) * 10) + v5) - 48) < 101 then ((((σ.1 12) * 10) + v5) - 48) else 101))) 10 (((((sg σ 12 ((if ((((σ.1 12) * 10) + v5) - 48) < 101 then ((((σ.1 12) * 10) + v5) - 48) else 101)))).1 10) + 1)))) _ h _ _ hP hS _ (lv_sub hl [0] rfl) kx
set_option maxHeartbeats 4000000 in
set_option maxRecDepth 100000 in
theorem c_X7_scanNumber {l : Launch} {D : va_G} {cy : Nat → ClassId} {ad : Nat → Nat} {σ τ : Sx} {R : Room} (hI : gInj ad) (hRf : 1 ≤ R.frames) (hRl : 20 ≤ R.locals) {out : Sx} (h : m_X7_scanNumber σ = some out) : Met l yX7_scanNumber [Cond.code yX7_scanNumber cX7_scanNumber 2 none] R (va_Pc [.ref (ad 3)] (gB D cy ad σ τ)) (cQv D cy ad τ out) 0 0 (gA ad) := by
  refine zstart [.ref (ad 3)] (by decide) rfl hI (Nat.le_of_ble_eq_true rfl) ?_
  intro p e s m below meth c Z hr hlk hP ls hl
  have hx := Z.x
  have hb := Z.b
  generalize hargs : ([.ref (ad 3)] : List Value).toArray = args
  have hl : lv_has ls 2 [(0, .ref (ad 3))] := hl
  have hS : va_S (gA ad) s.heap s.heap [] := va_S.rf
  have J105 : ∀ (s0 : Int32) (σ : Sx), m_X7_scanNumber_J105 s0 σ = some out → ∀ (H : Heap) (locs : List Loc), va_P D vwCl (gW cy ad σ τ) H → va_S (gA ad) s.heap H locs → ∀ ls : Array Slot, lv_has ls 2 [(0, .ref (ad 3))] → W p l e R s m args below meth c H locs 0 0 (MQ below (cQv D cy ad τ out) args s 0 0 (gA ad)) (F0 m 105 ls [.int s0]) := by
    intro s0 σ h H locs hP hS ls hl
    unfold m_X7_scanNumber_J105 at h
    refine lv_istore_n (lv' := [(1, .int s0), (0, .ref (ad 3))]) hx hb dX7_scanNumber_105 rfl hl (by decide) rfl (fun ls hl => ?_)
    refine lv_aload_n hx hb dX7_scanNumber_106 rfl (lv_at hl 1 rfl) ?_
    refine lv_iload_n hx hb dX7_scanNumber_107 rfl (lv_at hl 0 rfl) ?_
    refine lv_if_ne (tgt := 120) hx hb dX7_scanNumber_108 (by decide) (fun c9 => ?_) (fun c9 => ?_)
    · rw [if_neg c9] at h
      refine lv_bipush (v := (-3)) hx hb dX7_scanNumber_120 (by decide) ?_
      refine lv_goto (tgt := 127) hx hb dX7_scanNumber_122 (by decide) ?_
      refine fp_3_4 Z hP hS wF_X7_25 dX7_scanNumber_127 (fun H locs hP hS => ?_)
      exact zcv Z hP hS hr hlk h dX7_scanNumber_130
    · rw [if_pos c9] at h
      refine lv_aload_n hx hb dX7_scanNumber_111 rfl (lv_at hl 1 rfl) ?_
      refine fg_3_5 Z hP wF_X7_28 dX7_scanNumber_112 ?_
      refine lv_bipush (v := 100) hx hb dX7_scanNumber_115 (by decide) ?_
      refine lv_icmp_le (tgt := 125) hx hb dX7_scanNumber_117 (by decide) (fun c10 => ?_) (fun c10 => ?_)
      · rw [if_pos c10] at h
        refine lv_bipush (v := (-2)) hx hb dX7_scanNumber_125 (by decide) ?_
        refine fp_3_4 Z hP hS wF_X7_25 dX7_scanNumber_127 (fun H locs hP hS => ?_)
        exact zcv Z hP hS hr hlk h dX7_scanNumber_130
      · rw [if_neg c10] at h
        refine lv_bipush (v := (-3)) hx hb dX7_scanNumber_120 (by decide) ?_
        refine lv_goto (tgt := 127) hx hb dX7_scanNumber_122 (by decide) ?_
        refine fp_3_4 Z hP hS wF_X7_25 dX7_scanNumber_127 (fun H locs hP hS => ?_)
        exact zcv Z hP hS hr hlk h dX7_scanNumber_130
  have J104 : ∀  (σ : Sx), m_X7_scanNumber_J104 σ = some out → ∀ (H : Heap) (locs : List Loc), va_P D vwCl (gW cy ad σ τ) H → va_S (gA ad) s.heap H locs → ∀ ls : Array Slot, lv_has ls 2 [(0, .ref (ad 3))] → W p l e R s m args below meth c H locs 0 0 (MQ below (cQv D cy ad τ out) args s 0 0 (gA ad)) (F0 m 104 ls []) := by
    intro σ h H locs hP hS ls hl
    unfold m_X7_scanNumber_J104 at h
    refine lv_iconst (v := 0) hx hb dX7_scanNumber_104 (by decide) ?_
    exact J105 0 σ h _ _ hP hS _ (lv_sub hl [0] rfl)
  have J73 : ∀  (σ : Sx), m_X7_scanNumber_J73 σ = some out → ∀ (H : Heap) (locs : List Loc), va_P D vwCl (gW cy ad σ τ) H → va_S (gA ad) s.heap H locs → ∀ ls : Array Slot, lv_has ls 2 [(0, .ref (ad 3))] → W p l e R s m args below meth c H locs 0 0 (MQ below (cQv D cy ad τ out) args s 0 0 (gA ad)) (F0 m 73 ls []) := by
    intro σ h H locs hP hS ls hl
    unfold m_X7_scanNumber_J73 at h
    refine lv_aload_n hx hb dX7_scanNumber_73 rfl (lv_at hl 0 rfl) ?_
    refine fg_3_0 Z hP wF_X7_9 dX7_scanNumber_74 ?_
    refine lv_aload_n hx hb dX7_scanNumber_77 rfl (lv_at hl 0 rfl) ?_
    refine fg_3_2 Z hP wF_X7_19 dX7_scanNumber_78 ?_
    obtain ⟨v7, hv7, h⟩ := bd h
    refine zc_ld (j := 16) Z hP hv7 dX7_scanNumber_81 ?_
    refine lv_bipush (v := 48) hx hb dX7_scanNumber_82 (by decide) ?_
    refine lv_icmp_ne (tgt := 104) hx hb dX7_scanNumber_84 (by decide) (fun c8 => ?_) (fun c8 => ?_)
    · rw [if_neg c8] at h
      exact J104 σ h _ _ hP hS _ (lv_sub hl [0] rfl)
    · rw [if_pos c8] at h
      refine lv_aload_n hx hb dX7_scanNumber_87 rfl (lv_at hl 0 rfl) ?_
      refine fg_3_3 Z hP wF_X7_22 dX7_scanNumber_88 ?_
      refine lv_aload_n hx hb dX7_scanNumber_91 rfl (lv_at hl 0 rfl) ?_
      refine fg_3_2 Z hP wF_X7_19 dX7_scanNumber_92 ?_
      refine lv_isub hx hb dX7_scanNumber_95 ?_
      refine lv_iconst (v := 1) hx hb dX7_scanNumber_96 (by decide) ?_
      refine lv_icmp_le (tgt := 104) hx hb dX7_scanNumber_97 (by decide) (fun c11 => ?_) (fun c11 => ?_)
      · rw [if_pos c11] at h
        exact J104 σ h _ _ hP hS _ (lv_sub hl [0] rfl)
      · rw [if_neg c11] at h
        refine lv_iconst (v := 1) hx hb dX7_scanNumber_100 (by decide) ?_
        refine lv_goto (tgt := 105) hx hb dX7_scanNumber_101 (by decide) ?_
        exact J105 1 σ h _ _ hP hS _ (lv_sub hl [0] rfl)
  unfold m_X7_scanNumber at h
  refine lv_aload_n hx hb dX7_scanNumber_0 rfl (lv_at hl 0 rfl) ?_
  refine lv_iconst (v := 0) hx hb dX7_scanNumber_1 (by decide) ?_
  refine fp_3_5 Z hP hS wF_X7_28 dX7_scanNumber_2 (fun H locs hP hS => ?_)
  obtain ⟨y6, hy6, h⟩ := bd h
  refine w_X7_scanNumber_L5 Z hr hlk hRf hRl out FU ((sg σ 12 0)) y6 hy6 _ _ hP hS _ (lv_sub hl [0] rfl) (fun H locs hP hS ls hl => ?_)
  exact J73 y6 h _ _ hP hS _ (lv_sub hl [0] rfl)
def m_X7_next_L0  : Nat → Sx → Option (Sx)
  | 0, _ => none
  | n + 1, σ =>
  if (σ.1 8) ≤ (σ.1 10) then (some σ) else ((ldA cLn σ 16 ((σ.1 10))).bind (fun v2 => if v2 = 32 then (m_X7_next_L0 n ((sg σ 10 (((σ.1 10) + 1))))) else (some σ)))
def m_X7_next_J117 (s0 : Int32) (σ : Sx) : Option (Sx) :=
  some ((sg (sg σ 11 s0) 10 (((((sg σ 11 s0)).1 10) + 1))))
def m_X7_next_J38 (σ : Sx) : Option (Sx) :=
  if (((sg σ 9 ((σ.1 10)))).1 10) < (((sg σ 9 ((σ.1 10)))).1 8) then ((ldA cLn ((sg σ 9 ((σ.1 10)))) 16 ((((sg σ 9 ((σ.1 10)))).1 10))).bind (fun v6 => (m_X7_isDigit v6).bind (fun v7 => if v7 = 0 then ((ldA cLn ((sg σ 9 ((σ.1 10)))) 16 ((((sg σ 9 ((σ.1 10)))).1 10))).bind (fun v9 => (m_X7_isSign v9).bind (fun v10 => if v10 = 0 then (m_X7_next_J117 ((-3)) ((sg σ 9 ((σ.1 10))))) else ((ldA cLn ((sg σ 9 ((σ.1 10)))) 16 ((((sg σ 9 ((σ.1 10)))).1 10))).bind (fun v12 => m_X7_next_J117 v12 ((sg σ 9 ((σ.1 10))))))))) else ((m_X7_scanNumber ((sg σ 9 ((σ.1 10))))).bind (fun q13 => some q13))))) else (some ((sg (sg σ 9 ((σ.1 10))) 11 ((-1)))))
def m_X7_next (σ : Sx) : Option (Sx) :=
  (m_X7_next_L0 FU σ).bind (fun y4 => m_X7_next_J38 y4)
set_option maxHeartbeats 4000000 in
set_option maxRecDepth 100000 in
theorem w_X7_next_L0 {l : Launch} {D : va_G} {cy : Nat → ClassId} {ad : Nat → Nat} {τ : Sx} {p : Program} {e : Env} {R : Room} {s : State} {m : MethodId} {args : Array Value} {below : List Frame} {meth : Method} {c : Code} (Z : Zc p s m c cX7_next 1 RX7 D cy ad) (hr : meth.sig.returnType = none) (hlk : meth.locks = false) (hRf : 2 ≤ R.frames) (hRl : 41 ≤ R.locals) (out : Sx) : ∀ (n : Nat)  (σ : Sx) (res : Sx), m_X7_next_L0 n σ = some res → ∀ (H : Heap) (locs : List Loc), va_P D vwCl (gW cy ad σ τ) H → va_S (gA ad) s.heap H locs → ∀ ls : Array Slot, lv_has ls 1 [(0, .ref (ad 3))] → (∀ (H : Heap) (locs : List Loc), va_P D vwCl (gW cy ad res τ) H → va_S (gA ad) s.heap H locs → ∀ ls : Array Slot, lv_has ls 1 [(0, .ref (ad 3))] → W p l e R s m args below meth c H locs 0 0 (MQ below (cQv D cy ad τ out) args s 0 0 (gA ad)) (F0 m 38 ls [])) → W p l e R s m args below meth c H locs 0 0 (MQ below (cQv D cy ad τ out) args s 0 0 (gA ad)) (F0 m 0 ls []) := by
  have hx := Z.x
  have hb := Z.b
  intro n
  induction n with
  | zero => intro σ res h; cases h
  | succ n ih =>
    intro σ res h H locs hP hS ls hl kx
    rw [m_X7_next_L0] at h
    refine lv_aload_n hx hb dX7_next_0 rfl (lv_at hl 0 rfl) ?_
    refine fg_3_3 Z hP wF_X7_22 dX7_next_1 ?_
    refine lv_aload_n hx hb dX7_next_4 rfl (lv_at hl 0 rfl) ?_
    refine fg_3_1 Z hP wF_X7_15 dX7_next_5 ?_
    refine lv_icmp_ge (tgt := 38) hx hb dX7_next_8 (by decide) (fun c1 => ?_) (fun c1 => ?_)
    · rw [if_pos c1] at h
      obtain rfl := Option.some.inj h
      exact kx _ _ hP hS _ (lv_sub hl [0] rfl)
    · rw [if_neg c1] at h
      refine lv_aload_n hx hb dX7_next_11 rfl (lv_at hl 0 rfl) ?_
      refine fg_3_0 Z hP wF_X7_9 dX7_next_12 ?_
      refine lv_aload_n hx hb dX7_next_15 rfl (lv_at hl 0 rfl) ?_
      refine fg_3_3 Z hP wF_X7_22 dX7_next_16 ?_
      obtain ⟨v2, hv2, h⟩ := bd h
      refine zc_ld (j := 16) Z hP hv2 dX7_next_19 ?_
      refine lv_bipush (v := 32) hx hb dX7_next_20 (by decide) ?_
      refine lv_icmp_ne (tgt := 38) hx hb dX7_next_22 (by decide) (fun c3 => ?_) (fun c3 => ?_)
      · rw [if_neg c3] at h
        obtain rfl := Option.some.inj h
        exact kx _ _ hP hS _ (lv_sub hl [0] rfl)
      · rw [if_pos c3] at h
        refine lv_aload_n hx hb dX7_next_25 rfl (lv_at hl 0 rfl) ?_
        refine lv_dup hx hb dX7_next_26 rfl ?_
        refine fg_3_3 Z hP wF_X7_22 dX7_next_27 ?_
        refine lv_iconst (v := 1) hx hb dX7_next_30 (by decide) ?_
        refine lv_iadd hx hb dX7_next_31 ?_
        refine fp_3_3 Z hP hS wF_X7_22 dX7_next_32 (fun H locs hP hS => ?_)
        refine lv_goto (tgt := 0) hx hb dX7_next_35 (by decide) ?_
        exact ih ((sg σ 10 (((σ.1 10) + 1)))) _ h _ _ hP hS _ (lv_sub hl [0] rfl) kx
set_option maxHeartbeats 4000000 in
set_option maxRecDepth 100000 in
theorem c_X7_next {l : Launch} {D : va_G} {cy : Nat → ClassId} {ad : Nat → Nat} {σ τ : Sx} {R : Room} (hI : gInj ad) (hRf : 2 ≤ R.frames) (hRl : 41 ≤ R.locals) {out : Sx} (h : m_X7_next σ = some out) : Met l yX7_next [Cond.code yX7_next cX7_next 1 none] R (va_Pc [.ref (ad 3)] (gB D cy ad σ τ)) (cQv D cy ad τ out) 0 0 (gA ad) := by
  refine zstart [.ref (ad 3)] (by decide) rfl hI (Nat.le_of_ble_eq_true rfl) ?_
  intro p e s m below meth c Z hr hlk hP ls hl
  have hx := Z.x
  have hb := Z.b
  generalize hargs : ([.ref (ad 3)] : List Value).toArray = args
  have hl : lv_has ls 1 [(0, .ref (ad 3))] := hl
  have hS : va_S (gA ad) s.heap s.heap [] := va_S.rf
  have J117 : ∀ (s0 : Int32) (σ : Sx), m_X7_next_J117 s0 σ = some out → ∀ (H : Heap) (locs : List Loc), va_P D vwCl (gW cy ad σ τ) H → va_S (gA ad) s.heap H locs → ∀ ls : Array Slot, lv_has ls 1 [(0, .ref (ad 3))] → W p l e R s m args below meth c H locs 0 0 (MQ below (cQv D cy ad τ out) args s 0 0 (gA ad)) (F0 m 117 ls [.int s0, .ref (ad 3)]) := by
    intro s0 σ h H locs hP hS ls hl
    unfold m_X7_next_J117 at h
    refine fp_3_4 Z hP hS wF_X7_25 dX7_next_117 (fun H locs hP hS => ?_)
    refine lv_aload_n hx hb dX7_next_120 rfl (lv_at hl 0 rfl) ?_
    refine lv_dup hx hb dX7_next_121 rfl ?_
    refine fg_3_3 Z hP wF_X7_22 dX7_next_122 ?_
    refine lv_iconst (v := 1) hx hb dX7_next_125 (by decide) ?_
    refine lv_iadd hx hb dX7_next_126 ?_
    refine fp_3_3 Z hP hS wF_X7_22 dX7_next_127 (fun H locs hP hS => ?_)
    exact zcv Z hP hS hr hlk h dX7_next_130
  have J38 : ∀  (σ : Sx), m_X7_next_J38 σ = some out → ∀ (H : Heap) (locs : List Loc), va_P D vwCl (gW cy ad σ τ) H → va_S (gA ad) s.heap H locs → ∀ ls : Array Slot, lv_has ls 1 [(0, .ref (ad 3))] → W p l e R s m args below meth c H locs 0 0 (MQ below (cQv D cy ad τ out) args s 0 0 (gA ad)) (F0 m 38 ls []) := by
    intro σ h H locs hP hS ls hl
    unfold m_X7_next_J38 at h
    refine lv_aload_n hx hb dX7_next_38 rfl (lv_at hl 0 rfl) ?_
    refine lv_aload_n hx hb dX7_next_39 rfl (lv_at hl 0 rfl) ?_
    refine fg_3_3 Z hP wF_X7_22 dX7_next_40 ?_
    refine fp_3_2 Z hP hS wF_X7_19 dX7_next_43 (fun H locs hP hS => ?_)
    refine lv_aload_n hx hb dX7_next_46 rfl (lv_at hl 0 rfl) ?_
    refine fg_3_3 Z hP wF_X7_22 dX7_next_47 ?_
    refine lv_aload_n hx hb dX7_next_50 rfl (lv_at hl 0 rfl) ?_
    refine fg_3_1 Z hP wF_X7_15 dX7_next_51 ?_
    refine lv_icmp_lt (tgt := 65) hx hb dX7_next_54 (by decide) (fun c5 => ?_) (fun c5 => ?_)
    · rw [if_pos c5] at h
      refine lv_aload_n hx hb dX7_next_65 rfl (lv_at hl 0 rfl) ?_
      refine fg_3_0 Z hP wF_X7_9 dX7_next_66 ?_
      refine lv_aload_n hx hb dX7_next_69 rfl (lv_at hl 0 rfl) ?_
      refine fg_3_3 Z hP wF_X7_22 dX7_next_70 ?_
      obtain ⟨v6, hv6, h⟩ := bd h
      refine zc_ld (j := 16) Z hP hv6 dX7_next_73 ?_
      obtain ⟨v7, hv7, h⟩ := bd h
      refine zqi (zrunS Z hP (As := [.int v6]) (rest := []) (c_X7_isDigit (R := { frames := 0, cells := 0, slots := 0, locals := 0 }) Z.i (Nat.le_refl _) (Nat.le_refl _) hv7) cV_X7_104 rfl rfl ⟨(Nat.le_trans (Nat.le_of_ble_eq_true rfl) hRf), (Nat.le_trans (Nat.le_of_ble_eq_true rfl) hRl)⟩ rfl hl.1 rfl (Nat.le_of_ble_eq_true rfl) dX7_next_74 ⟨Nat.zero_le _, Nat.zero_le _⟩) ?_
      refine lv_if_eq (tgt := 87) hx hb dX7_next_77 (by decide) (fun c8 => ?_) (fun c8 => ?_)
      · rw [if_pos c8] at h
        refine lv_aload_n hx hb dX7_next_87 rfl (lv_at hl 0 rfl) ?_
        refine lv_aload_n hx hb dX7_next_88 rfl (lv_at hl 0 rfl) ?_
        refine fg_3_0 Z hP wF_X7_9 dX7_next_89 ?_
        refine lv_aload_n hx hb dX7_next_92 rfl (lv_at hl 0 rfl) ?_
        refine fg_3_3 Z hP wF_X7_22 dX7_next_93 ?_
        obtain ⟨v9, hv9, h⟩ := bd h
        refine zc_ld (j := 16) Z hP hv9 dX7_next_96 ?_
        obtain ⟨v10, hv10, h⟩ := bd h
        refine zqi (zrunS Z hP (As := [.int v9]) (rest := [.ref (ad 3)]) (c_X7_isSign (R := { frames := 0, cells := 0, slots := 0, locals := 0 }) Z.i (Nat.le_refl _) (Nat.le_refl _) hv10) cV_X7_111 rfl rfl ⟨(Nat.le_trans (Nat.le_of_ble_eq_true rfl) hRf), (Nat.le_trans (Nat.le_of_ble_eq_true rfl) hRl)⟩ rfl hl.1 rfl (Nat.le_of_ble_eq_true rfl) dX7_next_97 ⟨Nat.zero_le _, Nat.zero_le _⟩) ?_
        refine lv_if_eq (tgt := 115) hx hb dX7_next_100 (by decide) (fun c11 => ?_) (fun c11 => ?_)
        · rw [if_pos c11] at h
          refine lv_bipush (v := (-3)) hx hb dX7_next_115 (by decide) ?_
          exact J117 ((-3)) ((sg σ 9 ((σ.1 10)))) h _ _ hP hS _ (lv_sub hl [0] rfl)
        · rw [if_neg c11] at h
          refine lv_aload_n hx hb dX7_next_103 rfl (lv_at hl 0 rfl) ?_
          refine fg_3_0 Z hP wF_X7_9 dX7_next_104 ?_
          refine lv_aload_n hx hb dX7_next_107 rfl (lv_at hl 0 rfl) ?_
          refine fg_3_3 Z hP wF_X7_22 dX7_next_108 ?_
          obtain ⟨v12, hv12, h⟩ := bd h
          refine zc_ld (j := 16) Z hP hv12 dX7_next_111 ?_
          refine lv_goto (tgt := 117) hx hb dX7_next_112 (by decide) ?_
          exact J117 v12 ((sg σ 9 ((σ.1 10)))) h _ _ hP hS _ (lv_sub hl [0] rfl)
      · rw [if_neg c8] at h
        refine lv_aload_n hx hb dX7_next_80 rfl (lv_at hl 0 rfl) ?_
        obtain ⟨q13, hq13, h⟩ := bd h
        refine zwcv (zrunV Z hP (As := []) (rest := []) (c_X7_scanNumber (R := { frames := 1, cells := 0, slots := 0, locals := 20 }) Z.i (Nat.le_refl _) (Nat.le_refl _) hq13) cV_X7_108 rfl rfl ⟨(Nat.le_trans (Nat.le_of_ble_eq_true rfl) hRf), (Nat.le_trans (Nat.le_of_ble_eq_true rfl) hRl)⟩ 3 (gW_o rfl) rfl rfl rfl hl.1 rfl (Nat.le_of_ble_eq_true rfl) dX7_next_81 ⟨Nat.zero_le _, Nat.zero_le _⟩) hS (fun H locs hP hS => ?_)
        refine lv_goto (tgt := 130) hx hb dX7_next_84 (by decide) ?_
        exact zcv Z hP hS hr hlk h dX7_next_130
    · rw [if_neg c5] at h
      refine lv_aload_n hx hb dX7_next_57 rfl (lv_at hl 0 rfl) ?_
      refine lv_iconst (v := (-1)) hx hb dX7_next_58 (by decide) ?_
      refine fp_3_4 Z hP hS wF_X7_25 dX7_next_59 (fun H locs hP hS => ?_)
      refine lv_goto (tgt := 130) hx hb dX7_next_62 (by decide) ?_
      exact zcv Z hP hS hr hlk h dX7_next_130
  unfold m_X7_next at h
  obtain ⟨y4, hy4, h⟩ := bd h
  refine w_X7_next_L0 Z hr hlk hRf hRl out FU σ y4 hy4 _ _ hP hS _ (lv_sub hl [0] rfl) (fun H locs hP hS ls hl => ?_)
  exact J38 y4 h _ _ hP hS _ (lv_sub hl [0] rfl)
def m_X7_nextIsItemEnd (σ : Sx) : Option (Int32 × Sx) :=
  (m_X7_next σ).bind (fun q1 => if (q1.1 11) = 59 then (some ((1, q1))) else (some ((0, q1))))
set_option maxHeartbeats 4000000 in
set_option maxRecDepth 100000 in
theorem c_X7_nextIsItemEnd {l : Launch} {D : va_G} {cy : Nat → ClassId} {ad : Nat → Nat} {σ τ : Sx} {R : Room} (hI : gInj ad) (hRf : 3 ≤ R.frames) (hRl : 61 ≤ R.locals) {out : Int32 × Sx} (h : m_X7_nextIsItemEnd σ = some out) : Met l yX7_nextIsItemEnd [Cond.code yX7_nextIsItemEnd cX7_nextIsItemEnd 1 (some .boolean)] R (va_Pc [.ref (ad 3)] (gB D cy ad σ τ)) (cQi D cy ad τ out) 0 0 (gA ad) := by
  refine zstart [.ref (ad 3)] (by decide) rfl hI (Nat.le_of_ble_eq_true rfl) ?_
  intro p e s m below meth c Z hr hlk hP ls hl
  have hx := Z.x
  have hb := Z.b
  generalize hargs : ([.ref (ad 3)] : List Value).toArray = args
  have hl : lv_has ls 1 [(0, .ref (ad 3))] := hl
  have hS : va_S (gA ad) s.heap s.heap [] := va_S.rf
  unfold m_X7_nextIsItemEnd at h
  refine lv_aload_n hx hb dX7_nextIsItemEnd_0 rfl (lv_at hl 0 rfl) ?_
  obtain ⟨q1, hq1, h⟩ := bd h
  refine zwcv (zrunV Z hP (As := []) (rest := []) (c_X7_next (R := { frames := 2, cells := 0, slots := 0, locals := 41 }) Z.i (Nat.le_refl _) (Nat.le_refl _) hq1) cV_X7_40 rfl rfl ⟨(Nat.le_trans (Nat.le_of_ble_eq_true rfl) hRf), (Nat.le_trans (Nat.le_of_ble_eq_true rfl) hRl)⟩ 3 (gW_o rfl) rfl rfl rfl hl.1 rfl (Nat.le_of_ble_eq_true rfl) dX7_nextIsItemEnd_1 ⟨Nat.zero_le _, Nat.zero_le _⟩) hS (fun H locs hP hS => ?_)
  refine lv_aload_n hx hb dX7_nextIsItemEnd_4 rfl (lv_at hl 0 rfl) ?_
  refine fg_3_4 Z hP wF_X7_25 dX7_nextIsItemEnd_5 ?_
  refine lv_bipush (v := 59) hx hb dX7_nextIsItemEnd_8 (by decide) ?_
  refine lv_icmp_ne (tgt := 17) hx hb dX7_nextIsItemEnd_10 (by decide) (fun c2 => ?_) (fun c2 => ?_)
  · rw [if_neg c2] at h
    refine lv_iconst (v := 0) hx hb dX7_nextIsItemEnd_17 (by decide) ?_
    exact zczc Z hP hS hr hlk (Or.inl rfl) h dX7_nextIsItemEnd_18
  · rw [if_pos c2] at h
    refine lv_iconst (v := 1) hx hb dX7_nextIsItemEnd_13 (by decide) ?_
    refine lv_goto (tgt := 18) hx hb dX7_nextIsItemEnd_14 (by decide) ?_
    exact zczc Z hP hS hr hlk (Or.inr rfl) h dX7_nextIsItemEnd_18
def m_X7_nextIsNumber (σ : Sx) (x1 : Int32) (x2 : Int32) : Option (Int32 × Sx) :=
  (m_X7_next σ).bind (fun q1 => if (q1.1 11) = (-2) then ((m_X11_isWithin ((q1.1 12)) x1 x2).bind (fun v3 => if v3 = 0 then (some ((0, q1))) else (some ((1, q1))))) else (some ((0, q1))))
set_option maxHeartbeats 4000000 in
set_option maxRecDepth 100000 in
theorem c_X7_nextIsNumber {l : Launch} {D : va_G} {cy : Nat → ClassId} {ad : Nat → Nat} {σ τ : Sx} {R : Room} (hI : gInj ad) (hRf : 3 ≤ R.frames) (hRl : 61 ≤ R.locals) {x1 : Int32} {x2 : Int32} {out : Int32 × Sx} (h : m_X7_nextIsNumber σ x1 x2 = some out) : Met l yX7_nextIsNumber [Cond.code yX7_nextIsNumber cX7_nextIsNumber 3 (some .boolean)] R (va_Pc [.ref (ad 3), .int x1, .int x2] (gB D cy ad σ τ)) (cQi D cy ad τ out) 0 0 (gA ad) := by
  refine zstart [.ref (ad 3), .int x1, .int x2] (by decide) rfl hI (Nat.le_of_ble_eq_true rfl) ?_
  intro p e s m below meth c Z hr hlk hP ls hl
  have hx := Z.x
  have hb := Z.b
  generalize hargs : ([.ref (ad 3), .int x1, .int x2] : List Value).toArray = args
  have hl : lv_has ls 3 [(0, .ref (ad 3)), (1, .int x1), (2, .int x2)] := hl
  have hS : va_S (gA ad) s.heap s.heap [] := va_S.rf
  unfold m_X7_nextIsNumber at h
  refine lv_aload_n hx hb dX7_nextIsNumber_0 rfl (lv_at hl 0 rfl) ?_
  obtain ⟨q1, hq1, h⟩ := bd h
  refine zwcv (zrunV Z hP (As := []) (rest := []) (c_X7_next (R := { frames := 2, cells := 0, slots := 0, locals := 41 }) Z.i (Nat.le_refl _) (Nat.le_refl _) hq1) cV_X7_40 rfl rfl ⟨(Nat.le_trans (Nat.le_of_ble_eq_true rfl) hRf), (Nat.le_trans (Nat.le_of_ble_eq_true rfl) hRl)⟩ 3 (gW_o rfl) rfl rfl rfl hl.1 rfl (Nat.le_of_ble_eq_true rfl) dX7_nextIsNumber_1 ⟨Nat.zero_le _, Nat.zero_le _⟩) hS (fun H locs hP hS => ?_)
  refine lv_aload_n hx hb dX7_nextIsNumber_4 rfl (lv_at hl 0 rfl) ?_
  refine fg_3_4 Z hP wF_X7_25 dX7_nextIsNumber_5 ?_
  refine lv_bipush (v := (-2)) hx hb dX7_nextIsNumber_8 (by decide) ?_
  refine lv_icmp_ne (tgt := 29) hx hb dX7_nextIsNumber_10 (by decide) (fun c2 => ?_) (fun c2 => ?_)
  · rw [if_neg c2] at h
    refine lv_iconst (v := 0) hx hb dX7_nextIsNumber_29 (by decide) ?_
    exact zczc Z hP hS hr hlk (Or.inl rfl) h dX7_nextIsNumber_30
  · rw [if_pos c2] at h
    refine lv_aload_n hx hb dX7_nextIsNumber_13 rfl (lv_at hl 0 rfl) ?_
    refine fg_3_5 Z hP wF_X7_28 dX7_nextIsNumber_14 ?_
    refine lv_iload_n hx hb dX7_nextIsNumber_17 rfl (lv_at hl 1 rfl) ?_
    refine lv_iload_n hx hb dX7_nextIsNumber_18 rfl (lv_at hl 2 rfl) ?_
    obtain ⟨v3, hv3, h⟩ := bd h
    refine zqi (zrunSN Z hP (As := [.int (q1.1 12), .int x1, .int x2]) (rest := []) (c_X11_isWithin (R := { frames := 0, cells := 0, slots := 0, locals := 0 }) Z.i (Nat.le_refl _) (Nat.le_refl _) hv3) cV_X7_100 rfl rfl ⟨(Nat.le_trans (Nat.le_of_ble_eq_true rfl) hRf), (Nat.le_trans (Nat.le_of_ble_eq_true rfl) hRl)⟩ rfl hl.1 rfl (Nat.le_of_ble_eq_true rfl) dX7_nextIsNumber_19 ⟨Nat.zero_le _, Nat.zero_le _⟩) ?_
    refine lv_if_eq (tgt := 29) hx hb dX7_nextIsNumber_22 (by decide) (fun c4 => ?_) (fun c4 => ?_)
    · rw [if_pos c4] at h
      refine lv_iconst (v := 0) hx hb dX7_nextIsNumber_29 (by decide) ?_
      exact zczc Z hP hS hr hlk (Or.inl rfl) h dX7_nextIsNumber_30
    · rw [if_neg c4] at h
      refine lv_iconst (v := 1) hx hb dX7_nextIsNumber_25 (by decide) ?_
      refine lv_goto (tgt := 30) hx hb dX7_nextIsNumber_26 (by decide) ?_
      exact zczc Z hP hS hr hlk (Or.inr rfl) h dX7_nextIsNumber_30
def m_X7_readPhone (σ : Sx) : Option (Int32 × Sx) :=
  (m_X7_nextIsNumber σ 0 100).bind (fun q1 => if q1.1 = 0 then (some ((0, q1.2))) else ((stA cLn q1.2 8 ((σ.1 4)) ((q1.2.1 12))).bind (fun q3 => (m_X7_nextIsNumber q3 1 30).bind (fun q4 => if q4.1 = 0 then (some ((0, q4.2))) else ((stA cLn q4.2 9 ((σ.1 4)) ((q4.2.1 12))).bind (fun q6 => (m_X7_nextIsNumber q6 0 9).bind (fun q7 => if q7.1 = 0 then (some ((0, q7.2))) else ((stA cLn q7.2 10 ((σ.1 4)) ((q7.2.1 12))).bind (fun q9 => (m_X7_nextIsItemEnd ((sg q9 4 (((q9.1 4) + 1))))).bind (fun q10 => (rtZ q10.1).bind (fun v => some (v, q10.2))))))))))))
set_option maxHeartbeats 4000000 in
set_option maxRecDepth 100000 in
theorem c_X7_readPhone {l : Launch} {D : va_G} {cy : Nat → ClassId} {ad : Nat → Nat} {σ τ : Sx} {R : Room} (hI : gInj ad) (hRf : 4 ≤ R.frames) (hRl : 83 ≤ R.locals) {out : Int32 × Sx} (h : m_X7_readPhone σ = some out) : Met l yX7_readPhone [Cond.code yX7_readPhone cX7_readPhone 3 (some .boolean)] R (va_Pc [.ref (ad 3), .ref (ad 2)] (gB D cy ad σ τ)) (cQi D cy ad τ out) 0 0 (gA ad) := by
  refine zstart [.ref (ad 3), .ref (ad 2)] (by decide) rfl hI (Nat.le_of_ble_eq_true rfl) ?_
  intro p e s m below meth c Z hr hlk hP ls hl
  have hx := Z.x
  have hb := Z.b
  generalize hargs : ([.ref (ad 3), .ref (ad 2)] : List Value).toArray = args
  have hl : lv_has ls 3 [(0, .ref (ad 3)), (1, .ref (ad 2))] := hl
  have hS : va_S (gA ad) s.heap s.heap [] := va_S.rf
  unfold m_X7_readPhone at h
  refine lv_aload_n hx hb dX7_readPhone_0 rfl (lv_at hl 1 rfl) ?_
  refine fg_2_0 Z hP wF_X7_43 dX7_readPhone_1 ?_
  refine lv_istore_n (lv' := [(2, .int (σ.1 4)), (0, .ref (ad 3)), (1, .ref (ad 2))]) hx hb dX7_readPhone_4 rfl hl (by decide) rfl (fun ls hl => ?_)
  refine lv_aload_n hx hb dX7_readPhone_5 rfl (lv_at hl 1 rfl) ?_
  refine lv_iconst (v := 0) hx hb dX7_readPhone_6 (by decide) ?_
  refine lv_bipush (v := 100) hx hb dX7_readPhone_7 (by decide) ?_
  obtain ⟨q1, hq1, h⟩ := bd h
  refine zwci (zrunV Z hP (As := [.int 0, .int 100]) (rest := []) (c_X7_nextIsNumber (R := { frames := 3, cells := 0, slots := 0, locals := 61 }) Z.i (Nat.le_refl _) (Nat.le_refl _) hq1) cV_X7_65 rfl rfl ⟨(Nat.le_trans (Nat.le_of_ble_eq_true rfl) hRf), (Nat.le_trans (Nat.le_of_ble_eq_true rfl) hRl)⟩ 3 (gW_o rfl) rfl rfl rfl hl.1 rfl (Nat.le_of_ble_eq_true rfl) dX7_readPhone_9 ⟨Nat.zero_le _, Nat.zero_le _⟩) hS (fun H locs hP hS => ?_)
  refine lv_if_ne (tgt := 17) hx hb dX7_readPhone_12 (by decide) (fun c2 => ?_) (fun c2 => ?_)
  · rw [if_neg c2] at h
    refine lv_aload_n hx hb dX7_readPhone_17 rfl (lv_at hl 2 rfl) ?_
    refine fg_2_4 Z hP wF_X7_69 dX7_readPhone_18 ?_
    refine lv_iload_n hx hb dX7_readPhone_21 rfl (lv_at hl 0 rfl) ?_
    refine lv_aload_n hx hb dX7_readPhone_22 rfl (lv_at hl 1 rfl) ?_
    refine fg_3_5 Z hP wF_X7_28 dX7_readPhone_23 ?_
    obtain ⟨q3, hq3, h⟩ := bd h
    refine zc_st (j := 8) Z hP hS hq3 dX7_readPhone_26 (fun H locs hP hS => ?_)
    refine lv_aload_n hx hb dX7_readPhone_27 rfl (lv_at hl 1 rfl) ?_
    refine lv_iconst (v := 1) hx hb dX7_readPhone_28 (by decide) ?_
    refine lv_bipush (v := 30) hx hb dX7_readPhone_29 (by decide) ?_
    obtain ⟨q4, hq4, h⟩ := bd h
    refine zwci (zrunV Z hP (As := [.int 1, .int 30]) (rest := []) (c_X7_nextIsNumber (R := { frames := 3, cells := 0, slots := 0, locals := 61 }) Z.i (Nat.le_refl _) (Nat.le_refl _) hq4) cV_X7_65 rfl rfl ⟨(Nat.le_trans (Nat.le_of_ble_eq_true rfl) hRf), (Nat.le_trans (Nat.le_of_ble_eq_true rfl) hRl)⟩ 3 (gW_o rfl) rfl rfl rfl hl.1 rfl (Nat.le_of_ble_eq_true rfl) dX7_readPhone_31 ⟨Nat.zero_le _, Nat.zero_le _⟩) hS (fun H locs hP hS => ?_)
    refine lv_if_ne (tgt := 39) hx hb dX7_readPhone_34 (by decide) (fun c5 => ?_) (fun c5 => ?_)
    · rw [if_neg c5] at h
      refine lv_aload_n hx hb dX7_readPhone_39 rfl (lv_at hl 2 rfl) ?_
      refine fg_2_5 Z hP wF_X7_72 dX7_readPhone_40 ?_
      refine lv_iload_n hx hb dX7_readPhone_43 rfl (lv_at hl 0 rfl) ?_
      refine lv_aload_n hx hb dX7_readPhone_44 rfl (lv_at hl 1 rfl) ?_
      refine fg_3_5 Z hP wF_X7_28 dX7_readPhone_45 ?_
      obtain ⟨q6, hq6, h⟩ := bd h
      refine zc_st (j := 9) Z hP hS hq6 dX7_readPhone_48 (fun H locs hP hS => ?_)
      refine lv_aload_n hx hb dX7_readPhone_49 rfl (lv_at hl 1 rfl) ?_
      refine lv_iconst (v := 0) hx hb dX7_readPhone_50 (by decide) ?_
      refine lv_bipush (v := 9) hx hb dX7_readPhone_51 (by decide) ?_
      obtain ⟨q7, hq7, h⟩ := bd h
      refine zwci (zrunV Z hP (As := [.int 0, .int 9]) (rest := []) (c_X7_nextIsNumber (R := { frames := 3, cells := 0, slots := 0, locals := 61 }) Z.i (Nat.le_refl _) (Nat.le_refl _) hq7) cV_X7_65 rfl rfl ⟨(Nat.le_trans (Nat.le_of_ble_eq_true rfl) hRf), (Nat.le_trans (Nat.le_of_ble_eq_true rfl) hRl)⟩ 3 (gW_o rfl) rfl rfl rfl hl.1 rfl (Nat.le_of_ble_eq_true rfl) dX7_readPhone_53 ⟨Nat.zero_le _, Nat.zero_le _⟩) hS (fun H locs hP hS => ?_)
      refine lv_if_ne (tgt := 61) hx hb dX7_readPhone_56 (by decide) (fun c8 => ?_) (fun c8 => ?_)
      · rw [if_neg c8] at h
        refine lv_aload_n hx hb dX7_readPhone_61 rfl (lv_at hl 2 rfl) ?_
        refine fg_2_6 Z hP wF_X7_75 dX7_readPhone_62 ?_
        refine lv_iload_n hx hb dX7_readPhone_65 rfl (lv_at hl 0 rfl) ?_
        refine lv_aload_n hx hb dX7_readPhone_66 rfl (lv_at hl 1 rfl) ?_
        refine fg_3_5 Z hP wF_X7_28 dX7_readPhone_67 ?_
        obtain ⟨q9, hq9, h⟩ := bd h
        refine zc_st (j := 10) Z hP hS hq9 dX7_readPhone_70 (fun H locs hP hS => ?_)
        refine lv_aload_n hx hb dX7_readPhone_71 rfl (lv_at hl 2 rfl) ?_
        refine lv_dup hx hb dX7_readPhone_72 rfl ?_
        refine fg_2_0 Z hP wF_X7_43 dX7_readPhone_73 ?_
        refine lv_iconst (v := 1) hx hb dX7_readPhone_76 (by decide) ?_
        refine lv_iadd hx hb dX7_readPhone_77 ?_
        refine fp_2_0 Z hP hS wF_X7_43 dX7_readPhone_78 (fun H locs hP hS => ?_)
        refine lv_aload_n hx hb dX7_readPhone_81 rfl (lv_at hl 1 rfl) ?_
        obtain ⟨q10, hq10, h⟩ := bd h
        refine zwci (zrunV Z hP (As := []) (rest := []) (c_X7_nextIsItemEnd (R := { frames := 3, cells := 0, slots := 0, locals := 61 }) Z.i (Nat.le_refl _) (Nat.le_refl _) hq10) cV_X7_78 rfl rfl ⟨(Nat.le_trans (Nat.le_of_ble_eq_true rfl) hRf), (Nat.le_trans (Nat.le_of_ble_eq_true rfl) hRl)⟩ 3 (gW_o rfl) rfl rfl rfl hl.1 rfl (Nat.le_of_ble_eq_true rfl) dX7_readPhone_82 ⟨Nat.zero_le _, Nat.zero_le _⟩) hS (fun H locs hP hS => ?_)
        exact zcz Z hP hS hr hlk h dX7_readPhone_85
      · rw [if_pos c8] at h
        refine lv_iconst (v := 0) hx hb dX7_readPhone_59 (by decide) ?_
        exact zczc Z hP hS hr hlk (Or.inl rfl) h dX7_readPhone_60
    · rw [if_pos c5] at h
      refine lv_iconst (v := 0) hx hb dX7_readPhone_37 (by decide) ?_
      exact zczc Z hP hS hr hlk (Or.inl rfl) h dX7_readPhone_38
  · rw [if_pos c2] at h
    refine lv_iconst (v := 0) hx hb dX7_readPhone_15 (by decide) ?_
    exact zczc Z hP hS hr hlk (Or.inl rfl) h dX7_readPhone_16
def m_X7_readHoles (σ : Sx) : Option (Int32 × Sx) :=
  (m_X7_nextIsNumber σ 1 2).bind (fun q1 => if q1.1 = 0 then (some ((0, q1.2))) else ((m_X7_nextIsItemEnd ((sg (sg q1.2 5 ((q1.2.1 12))) 13 1))).bind (fun q3 => (rtZ q3.1).bind (fun v => some (v, q3.2)))))
set_option maxHeartbeats 4000000 in
set_option maxRecDepth 100000 in
theorem c_X7_readHoles {l : Launch} {D : va_G} {cy : Nat → ClassId} {ad : Nat → Nat} {σ τ : Sx} {R : Room} (hI : gInj ad) (hRf : 4 ≤ R.frames) (hRl : 83 ≤ R.locals) {out : Int32 × Sx} (h : m_X7_readHoles σ = some out) : Met l yX7_readHoles [Cond.code yX7_readHoles cX7_readHoles 2 (some .boolean)] R (va_Pc [.ref (ad 3), .ref (ad 2)] (gB D cy ad σ τ)) (cQi D cy ad τ out) 0 0 (gA ad) := by
  refine zstart [.ref (ad 3), .ref (ad 2)] (by decide) rfl hI (Nat.le_of_ble_eq_true rfl) ?_
  intro p e s m below meth c Z hr hlk hP ls hl
  have hx := Z.x
  have hb := Z.b
  generalize hargs : ([.ref (ad 3), .ref (ad 2)] : List Value).toArray = args
  have hl : lv_has ls 2 [(0, .ref (ad 3)), (1, .ref (ad 2))] := hl
  have hS : va_S (gA ad) s.heap s.heap [] := va_S.rf
  unfold m_X7_readHoles at h
  refine lv_aload_n hx hb dX7_readHoles_0 rfl (lv_at hl 0 rfl) ?_
  refine lv_iconst (v := 1) hx hb dX7_readHoles_1 (by decide) ?_
  refine lv_iconst (v := 2) hx hb dX7_readHoles_2 (by decide) ?_
  obtain ⟨q1, hq1, h⟩ := bd h
  refine zwci (zrunV Z hP (As := [.int 1, .int 2]) (rest := []) (c_X7_nextIsNumber (R := { frames := 3, cells := 0, slots := 0, locals := 61 }) Z.i (Nat.le_refl _) (Nat.le_refl _) hq1) cV_X7_65 rfl rfl ⟨(Nat.le_trans (Nat.le_of_ble_eq_true rfl) hRf), (Nat.le_trans (Nat.le_of_ble_eq_true rfl) hRl)⟩ 3 (gW_o rfl) rfl rfl rfl hl.1 rfl (Nat.le_of_ble_eq_true rfl) dX7_readHoles_3 ⟨Nat.zero_le _, Nat.zero_le _⟩) hS (fun H locs hP hS => ?_)
  refine lv_if_ne (tgt := 11) hx hb dX7_readHoles_6 (by decide) (fun c2 => ?_) (fun c2 => ?_)
  · rw [if_neg c2] at h
    refine lv_aload_n hx hb dX7_readHoles_11 rfl (lv_at hl 1 rfl) ?_
    refine lv_aload_n hx hb dX7_readHoles_12 rfl (lv_at hl 0 rfl) ?_
    refine fg_3_5 Z hP wF_X7_28 dX7_readHoles_13 ?_
    refine fp_2_1 Z hP hS wF_X7_82 dX7_readHoles_16 (fun H locs hP hS => ?_)
    refine lv_aload_n hx hb dX7_readHoles_19 rfl (lv_at hl 0 rfl) ?_
    refine lv_iconst (v := 1) hx hb dX7_readHoles_20 (by decide) ?_
    refine fp_3_6 Z hP hS wF_X7_31 rfl rfl dX7_readHoles_21 (fun H locs hP hS => ?_)
    refine lv_aload_n hx hb dX7_readHoles_24 rfl (lv_at hl 0 rfl) ?_
    obtain ⟨q3, hq3, h⟩ := bd h
    refine zwci (zrunV Z hP (As := []) (rest := []) (c_X7_nextIsItemEnd (R := { frames := 3, cells := 0, slots := 0, locals := 61 }) Z.i (Nat.le_refl _) (Nat.le_refl _) hq3) cV_X7_78 rfl rfl ⟨(Nat.le_trans (Nat.le_of_ble_eq_true rfl) hRf), (Nat.le_trans (Nat.le_of_ble_eq_true rfl) hRl)⟩ 3 (gW_o rfl) rfl rfl rfl hl.1 rfl (Nat.le_of_ble_eq_true rfl) dX7_readHoles_25 ⟨Nat.zero_le _, Nat.zero_le _⟩) hS (fun H locs hP hS => ?_)
    exact zcz Z hP hS hr hlk h dX7_readHoles_28
  · rw [if_pos c2] at h
    refine lv_iconst (v := 0) hx hb dX7_readHoles_9 (by decide) ?_
    exact zczc Z hP hS hr hlk (Or.inl rfl) h dX7_readHoles_10
def m_X7_readCall (σ : Sx) : Option (Int32 × Sx) :=
  (m_X7_nextIsNumber σ 0 (((σ.1 4) - 1))).bind (fun q1 => if q1.1 = 0 then (some ((0, q1.2))) else ((stA cLn q1.2 11 ((σ.1 6)) ((q1.2.1 12))).bind (fun q3 => (m_X7_nextIsNumber q3 0 60).bind (fun q4 => if q4.1 = 0 then (some ((0, q4.2))) else ((stA cLn q4.2 12 ((σ.1 6)) ((q4.2.1 12))).bind (fun q6 => (m_X7_nextIsNumber q6 1 50).bind (fun q7 => if q7.1 = 0 then (some ((0, q7.2))) else ((stA cLn q7.2 13 ((σ.1 6)) ((q7.2.1 12))).bind (fun q9 => (m_X7_nextIsItemEnd ((sg q9 6 (((q9.1 6) + 1))))).bind (fun q10 => (rtZ q10.1).bind (fun v => some (v, q10.2))))))))))))
set_option maxHeartbeats 4000000 in
set_option maxRecDepth 100000 in
theorem c_X7_readCall {l : Launch} {D : va_G} {cy : Nat → ClassId} {ad : Nat → Nat} {σ τ : Sx} {R : Room} (hI : gInj ad) (hRf : 4 ≤ R.frames) (hRl : 83 ≤ R.locals) {out : Int32 × Sx} (h : m_X7_readCall σ = some out) : Met l yX7_readCall [Cond.code yX7_readCall cX7_readCall 3 (some .boolean)] R (va_Pc [.ref (ad 3), .ref (ad 2)] (gB D cy ad σ τ)) (cQi D cy ad τ out) 0 0 (gA ad) := by
  refine zstart [.ref (ad 3), .ref (ad 2)] (by decide) rfl hI (Nat.le_of_ble_eq_true rfl) ?_
  intro p e s m below meth c Z hr hlk hP ls hl
  have hx := Z.x
  have hb := Z.b
  generalize hargs : ([.ref (ad 3), .ref (ad 2)] : List Value).toArray = args
  have hl : lv_has ls 3 [(0, .ref (ad 3)), (1, .ref (ad 2))] := hl
  have hS : va_S (gA ad) s.heap s.heap [] := va_S.rf
  unfold m_X7_readCall at h
  refine lv_aload_n hx hb dX7_readCall_0 rfl (lv_at hl 1 rfl) ?_
  refine fg_2_2 Z hP wF_X7_53 dX7_readCall_1 ?_
  refine lv_istore_n (lv' := [(2, .int (σ.1 6)), (0, .ref (ad 3)), (1, .ref (ad 2))]) hx hb dX7_readCall_4 rfl hl (by decide) rfl (fun ls hl => ?_)
  refine lv_aload_n hx hb dX7_readCall_5 rfl (lv_at hl 1 rfl) ?_
  refine lv_iconst (v := 0) hx hb dX7_readCall_6 (by decide) ?_
  refine lv_aload_n hx hb dX7_readCall_7 rfl (lv_at hl 2 rfl) ?_
  refine fg_2_0 Z hP wF_X7_43 dX7_readCall_8 ?_
  refine lv_iconst (v := 1) hx hb dX7_readCall_11 (by decide) ?_
  refine lv_isub hx hb dX7_readCall_12 ?_
  obtain ⟨q1, hq1, h⟩ := bd h
  refine zwci (zrunV Z hP (As := [.int 0, .int ((σ.1 4) - 1)]) (rest := []) (c_X7_nextIsNumber (R := { frames := 3, cells := 0, slots := 0, locals := 61 }) Z.i (Nat.le_refl _) (Nat.le_refl _) hq1) cV_X7_65 rfl rfl ⟨(Nat.le_trans (Nat.le_of_ble_eq_true rfl) hRf), (Nat.le_trans (Nat.le_of_ble_eq_true rfl) hRl)⟩ 3 (gW_o rfl) rfl rfl rfl hl.1 rfl (Nat.le_of_ble_eq_true rfl) dX7_readCall_13 ⟨Nat.zero_le _, Nat.zero_le _⟩) hS (fun H locs hP hS => ?_)
  refine lv_if_ne (tgt := 21) hx hb dX7_readCall_16 (by decide) (fun c2 => ?_) (fun c2 => ?_)
  · rw [if_neg c2] at h
    refine lv_aload_n hx hb dX7_readCall_21 rfl (lv_at hl 2 rfl) ?_
    refine fg_2_7 Z hP wF_X7_85 dX7_readCall_22 ?_
    refine lv_iload_n hx hb dX7_readCall_25 rfl (lv_at hl 0 rfl) ?_
    refine lv_aload_n hx hb dX7_readCall_26 rfl (lv_at hl 1 rfl) ?_
    refine fg_3_5 Z hP wF_X7_28 dX7_readCall_27 ?_
    obtain ⟨q3, hq3, h⟩ := bd h
    refine zc_st (j := 11) Z hP hS hq3 dX7_readCall_30 (fun H locs hP hS => ?_)
    refine lv_aload_n hx hb dX7_readCall_31 rfl (lv_at hl 1 rfl) ?_
    refine lv_iconst (v := 0) hx hb dX7_readCall_32 (by decide) ?_
    refine lv_bipush (v := 60) hx hb dX7_readCall_33 (by decide) ?_
    obtain ⟨q4, hq4, h⟩ := bd h
    refine zwci (zrunV Z hP (As := [.int 0, .int 60]) (rest := []) (c_X7_nextIsNumber (R := { frames := 3, cells := 0, slots := 0, locals := 61 }) Z.i (Nat.le_refl _) (Nat.le_refl _) hq4) cV_X7_65 rfl rfl ⟨(Nat.le_trans (Nat.le_of_ble_eq_true rfl) hRf), (Nat.le_trans (Nat.le_of_ble_eq_true rfl) hRl)⟩ 3 (gW_o rfl) rfl rfl rfl hl.1 rfl (Nat.le_of_ble_eq_true rfl) dX7_readCall_35 ⟨Nat.zero_le _, Nat.zero_le _⟩) hS (fun H locs hP hS => ?_)
    refine lv_if_ne (tgt := 43) hx hb dX7_readCall_38 (by decide) (fun c5 => ?_) (fun c5 => ?_)
    · rw [if_neg c5] at h
      refine lv_aload_n hx hb dX7_readCall_43 rfl (lv_at hl 2 rfl) ?_
      refine fg_2_8 Z hP wF_X7_88 dX7_readCall_44 ?_
      refine lv_iload_n hx hb dX7_readCall_47 rfl (lv_at hl 0 rfl) ?_
      refine lv_aload_n hx hb dX7_readCall_48 rfl (lv_at hl 1 rfl) ?_
      refine fg_3_5 Z hP wF_X7_28 dX7_readCall_49 ?_
      obtain ⟨q6, hq6, h⟩ := bd h
      refine zc_st (j := 12) Z hP hS hq6 dX7_readCall_52 (fun H locs hP hS => ?_)
      refine lv_aload_n hx hb dX7_readCall_53 rfl (lv_at hl 1 rfl) ?_
      refine lv_iconst (v := 1) hx hb dX7_readCall_54 (by decide) ?_
      refine lv_bipush (v := 50) hx hb dX7_readCall_55 (by decide) ?_
      obtain ⟨q7, hq7, h⟩ := bd h
      refine zwci (zrunV Z hP (As := [.int 1, .int 50]) (rest := []) (c_X7_nextIsNumber (R := { frames := 3, cells := 0, slots := 0, locals := 61 }) Z.i (Nat.le_refl _) (Nat.le_refl _) hq7) cV_X7_65 rfl rfl ⟨(Nat.le_trans (Nat.le_of_ble_eq_true rfl) hRf), (Nat.le_trans (Nat.le_of_ble_eq_true rfl) hRl)⟩ 3 (gW_o rfl) rfl rfl rfl hl.1 rfl (Nat.le_of_ble_eq_true rfl) dX7_readCall_57 ⟨Nat.zero_le _, Nat.zero_le _⟩) hS (fun H locs hP hS => ?_)
      refine lv_if_ne (tgt := 65) hx hb dX7_readCall_60 (by decide) (fun c8 => ?_) (fun c8 => ?_)
      · rw [if_neg c8] at h
        refine lv_aload_n hx hb dX7_readCall_65 rfl (lv_at hl 2 rfl) ?_
        refine fg_2_9 Z hP wF_X7_91 dX7_readCall_66 ?_
        refine lv_iload_n hx hb dX7_readCall_69 rfl (lv_at hl 0 rfl) ?_
        refine lv_aload_n hx hb dX7_readCall_70 rfl (lv_at hl 1 rfl) ?_
        refine fg_3_5 Z hP wF_X7_28 dX7_readCall_71 ?_
        obtain ⟨q9, hq9, h⟩ := bd h
        refine zc_st (j := 13) Z hP hS hq9 dX7_readCall_74 (fun H locs hP hS => ?_)
        refine lv_aload_n hx hb dX7_readCall_75 rfl (lv_at hl 2 rfl) ?_
        refine lv_dup hx hb dX7_readCall_76 rfl ?_
        refine fg_2_2 Z hP wF_X7_53 dX7_readCall_77 ?_
        refine lv_iconst (v := 1) hx hb dX7_readCall_80 (by decide) ?_
        refine lv_iadd hx hb dX7_readCall_81 ?_
        refine fp_2_2 Z hP hS wF_X7_53 dX7_readCall_82 (fun H locs hP hS => ?_)
        refine lv_aload_n hx hb dX7_readCall_85 rfl (lv_at hl 1 rfl) ?_
        obtain ⟨q10, hq10, h⟩ := bd h
        refine zwci (zrunV Z hP (As := []) (rest := []) (c_X7_nextIsItemEnd (R := { frames := 3, cells := 0, slots := 0, locals := 61 }) Z.i (Nat.le_refl _) (Nat.le_refl _) hq10) cV_X7_78 rfl rfl ⟨(Nat.le_trans (Nat.le_of_ble_eq_true rfl) hRf), (Nat.le_trans (Nat.le_of_ble_eq_true rfl) hRl)⟩ 3 (gW_o rfl) rfl rfl rfl hl.1 rfl (Nat.le_of_ble_eq_true rfl) dX7_readCall_86 ⟨Nat.zero_le _, Nat.zero_le _⟩) hS (fun H locs hP hS => ?_)
        exact zcz Z hP hS hr hlk h dX7_readCall_89
      · rw [if_pos c8] at h
        refine lv_iconst (v := 0) hx hb dX7_readCall_63 (by decide) ?_
        exact zczc Z hP hS hr hlk (Or.inl rfl) h dX7_readCall_64
    · rw [if_pos c5] at h
      refine lv_iconst (v := 0) hx hb dX7_readCall_41 (by decide) ?_
      exact zczc Z hP hS hr hlk (Or.inl rfl) h dX7_readCall_42
  · rw [if_pos c2] at h
    refine lv_iconst (v := 0) hx hb dX7_readCall_19 (by decide) ?_
    exact zczc Z hP hS hr hlk (Or.inl rfl) h dX7_readCall_20
def m_X7_readDark (σ : Sx) : Option (Int32 × Sx) :=
  (m_X7_nextIsNumber σ 0 60).bind (fun q1 => if q1.1 = 0 then (some ((0, q1.2))) else ((stA cLn q1.2 14 ((σ.1 7)) ((q1.2.1 12))).bind (fun q3 => (ldA cLn q3 14 ((σ.1 7))).bind (fun v4 => (m_X7_nextIsNumber q3 v4 60).bind (fun q5 => if q5.1 = 0 then (some ((0, q5.2))) else ((stA cLn q5.2 15 ((σ.1 7)) ((q5.2.1 12))).bind (fun q7 => (m_X7_nextIsItemEnd ((sg q7 7 (((q7.1 7) + 1))))).bind (fun q8 => (rtZ q8.1).bind (fun v => some (v, q8.2))))))))))
set_option maxHeartbeats 4000000 in
set_option maxRecDepth 100000 in
theorem c_X7_readDark {l : Launch} {D : va_G} {cy : Nat → ClassId} {ad : Nat → Nat} {σ τ : Sx} {R : Room} (hI : gInj ad) (hRf : 4 ≤ R.frames) (hRl : 83 ≤ R.locals) {out : Int32 × Sx} (h : m_X7_readDark σ = some out) : Met l yX7_readDark [Cond.code yX7_readDark cX7_readDark 3 (some .boolean)] R (va_Pc [.ref (ad 3), .ref (ad 2)] (gB D cy ad σ τ)) (cQi D cy ad τ out) 0 0 (gA ad) := by
  refine zstart [.ref (ad 3), .ref (ad 2)] (by decide) rfl hI (Nat.le_of_ble_eq_true rfl) ?_
  intro p e s m below meth c Z hr hlk hP ls hl
  have hx := Z.x
  have hb := Z.b
  generalize hargs : ([.ref (ad 3), .ref (ad 2)] : List Value).toArray = args
  have hl : lv_has ls 3 [(0, .ref (ad 3)), (1, .ref (ad 2))] := hl
  have hS : va_S (gA ad) s.heap s.heap [] := va_S.rf
  unfold m_X7_readDark at h
  refine lv_aload_n hx hb dX7_readDark_0 rfl (lv_at hl 1 rfl) ?_
  refine fg_2_3 Z hP wF_X7_59 dX7_readDark_1 ?_
  refine lv_istore_n (lv' := [(2, .int (σ.1 7)), (0, .ref (ad 3)), (1, .ref (ad 2))]) hx hb dX7_readDark_4 rfl hl (by decide) rfl (fun ls hl => ?_)
  refine lv_aload_n hx hb dX7_readDark_5 rfl (lv_at hl 1 rfl) ?_
  refine lv_iconst (v := 0) hx hb dX7_readDark_6 (by decide) ?_
  refine lv_bipush (v := 60) hx hb dX7_readDark_7 (by decide) ?_
  obtain ⟨q1, hq1, h⟩ := bd h
  refine zwci (zrunV Z hP (As := [.int 0, .int 60]) (rest := []) (c_X7_nextIsNumber (R := { frames := 3, cells := 0, slots := 0, locals := 61 }) Z.i (Nat.le_refl _) (Nat.le_refl _) hq1) cV_X7_65 rfl rfl ⟨(Nat.le_trans (Nat.le_of_ble_eq_true rfl) hRf), (Nat.le_trans (Nat.le_of_ble_eq_true rfl) hRl)⟩ 3 (gW_o rfl) rfl rfl rfl hl.1 rfl (Nat.le_of_ble_eq_true rfl) dX7_readDark_9 ⟨Nat.zero_le _, Nat.zero_le _⟩) hS (fun H locs hP hS => ?_)
  refine lv_if_ne (tgt := 17) hx hb dX7_readDark_12 (by decide) (fun c2 => ?_) (fun c2 => ?_)
  · rw [if_neg c2] at h
    refine lv_aload_n hx hb dX7_readDark_17 rfl (lv_at hl 2 rfl) ?_
    refine fg_2_10 Z hP wF_X7_94 dX7_readDark_18 ?_
    refine lv_iload_n hx hb dX7_readDark_21 rfl (lv_at hl 0 rfl) ?_
    refine lv_aload_n hx hb dX7_readDark_22 rfl (lv_at hl 1 rfl) ?_
    refine fg_3_5 Z hP wF_X7_28 dX7_readDark_23 ?_
    obtain ⟨q3, hq3, h⟩ := bd h
    refine zc_st (j := 14) Z hP hS hq3 dX7_readDark_26 (fun H locs hP hS => ?_)
    refine lv_aload_n hx hb dX7_readDark_27 rfl (lv_at hl 1 rfl) ?_
    refine lv_aload_n hx hb dX7_readDark_28 rfl (lv_at hl 2 rfl) ?_
    refine fg_2_10 Z hP wF_X7_94 dX7_readDark_29 ?_
    refine lv_iload_n hx hb dX7_readDark_32 rfl (lv_at hl 0 rfl) ?_
    obtain ⟨v4, hv4, h⟩ := bd h
    refine zc_ld (j := 14) Z hP hv4 dX7_readDark_33 ?_
    refine lv_bipush (v := 60) hx hb dX7_readDark_34 (by decide) ?_
    obtain ⟨q5, hq5, h⟩ := bd h
    refine zwci (zrunV Z hP (As := [.int v4, .int 60]) (rest := []) (c_X7_nextIsNumber (R := { frames := 3, cells := 0, slots := 0, locals := 61 }) Z.i (Nat.le_refl _) (Nat.le_refl _) hq5) cV_X7_65 rfl rfl ⟨(Nat.le_trans (Nat.le_of_ble_eq_true rfl) hRf), (Nat.le_trans (Nat.le_of_ble_eq_true rfl) hRl)⟩ 3 (gW_o rfl) rfl rfl rfl hl.1 rfl (Nat.le_of_ble_eq_true rfl) dX7_readDark_36 ⟨Nat.zero_le _, Nat.zero_le _⟩) hS (fun H locs hP hS => ?_)
    refine lv_if_ne (tgt := 44) hx hb dX7_readDark_39 (by decide) (fun c6 => ?_) (fun c6 => ?_)
    · rw [if_neg c6] at h
      refine lv_aload_n hx hb dX7_readDark_44 rfl (lv_at hl 2 rfl) ?_
      refine fg_2_11 Z hP wF_X7_97 dX7_readDark_45 ?_
      refine lv_iload_n hx hb dX7_readDark_48 rfl (lv_at hl 0 rfl) ?_
      refine lv_aload_n hx hb dX7_readDark_49 rfl (lv_at hl 1 rfl) ?_
      refine fg_3_5 Z hP wF_X7_28 dX7_readDark_50 ?_
      obtain ⟨q7, hq7, h⟩ := bd h
      refine zc_st (j := 15) Z hP hS hq7 dX7_readDark_53 (fun H locs hP hS => ?_)
      refine lv_aload_n hx hb dX7_readDark_54 rfl (lv_at hl 2 rfl) ?_
      refine lv_dup hx hb dX7_readDark_55 rfl ?_
      refine fg_2_3 Z hP wF_X7_59 dX7_readDark_56 ?_
      refine lv_iconst (v := 1) hx hb dX7_readDark_59 (by decide) ?_
      refine lv_iadd hx hb dX7_readDark_60 ?_
      refine fp_2_3 Z hP hS wF_X7_59 dX7_readDark_61 (fun H locs hP hS => ?_)
      refine lv_aload_n hx hb dX7_readDark_64 rfl (lv_at hl 1 rfl) ?_
      obtain ⟨q8, hq8, h⟩ := bd h
      refine zwci (zrunV Z hP (As := []) (rest := []) (c_X7_nextIsItemEnd (R := { frames := 3, cells := 0, slots := 0, locals := 61 }) Z.i (Nat.le_refl _) (Nat.le_refl _) hq8) cV_X7_78 rfl rfl ⟨(Nat.le_trans (Nat.le_of_ble_eq_true rfl) hRf), (Nat.le_trans (Nat.le_of_ble_eq_true rfl) hRl)⟩ 3 (gW_o rfl) rfl rfl rfl hl.1 rfl (Nat.le_of_ble_eq_true rfl) dX7_readDark_65 ⟨Nat.zero_le _, Nat.zero_le _⟩) hS (fun H locs hP hS => ?_)
      exact zcz Z hP hS hr hlk h dX7_readDark_68
    · rw [if_pos c6] at h
      refine lv_iconst (v := 0) hx hb dX7_readDark_42 (by decide) ?_
      exact zczc Z hP hS hr hlk (Or.inl rfl) h dX7_readDark_43
  · rw [if_pos c2] at h
    refine lv_iconst (v := 0) hx hb dX7_readDark_15 (by decide) ?_
    exact zczc Z hP hS hr hlk (Or.inl rfl) h dX7_readDark_16
def m_X7_readInto_J186 (rec : Int32 → Sx → Option (Sum (Int32 × Sx) (Sx))) (x2 : Int32) (x3 : Int32) (σ : Sx) : Option (Sum (Int32 × Sx) (Sx)) :=
  if x3 = 0 then (some (.inl (((-3), σ)))) else (rec ((x2 + 1)) σ)
def m_X7_readInto_J157 (rec : Int32 → Sx → Option (Sum (Int32 × Sx) (Sx))) (x2 : Int32) (s0 : Int32) (σ : Sx) : Option (Sum (Int32 × Sx) (Sx)) :=
  m_X7_readInto_J186 rec x2 s0 σ
def m_X7_readInto_J156 (rec : Int32 → Sx → Option (Sum (Int32 × Sx) (Sx))) (x2 : Int32) (σ : Sx) : Option (Sum (Int32 × Sx) (Sx)) :=
  m_X7_readInto_J157 rec x2 0 σ
def m_X7_readInto_J182 (rec : Int32 → Sx → Option (Sum (Int32 × Sx) (Sx))) (x2 : Int32) (s0 : Int32) (σ : Sx) : Option (Sum (Int32 × Sx) (Sx)) :=
  m_X7_readInto_J186 rec x2 s0 σ
def m_X7_readInto_J181 (rec : Int32 → Sx → Option (Sum (Int32 × Sx) (Sx))) (x2 : Int32) (σ : Sx) : Option (Sum (Int32 × Sx) (Sx)) :=
  m_X7_readInto_J182 rec x2 0 σ
def m_X7_readInto_J131 (rec : Int32 → Sx → Option (Sum (Int32 × Sx) (Sx))) (x2 : Int32) (s0 : Int32) (σ : Sx) : Option (Sum (Int32 × Sx) (Sx)) :=
  m_X7_readInto_J186 rec x2 s0 σ
def m_X7_readInto_J130 (rec : Int32 → Sx → Option (Sum (Int32 × Sx) (Sx))) (x2 : Int32) (σ : Sx) : Option (Sum (Int32 × Sx) (Sx)) :=
  m_X7_readInto_J131 rec x2 0 σ
def m_X7_readInto_J107 (rec : Int32 → Sx → Option (Sum (Int32 × Sx) (Sx))) (x2 : Int32) (s0 : Int32) (σ : Sx) : Option (Sum (Int32 × Sx) (Sx)) :=
  m_X7_readInto_J186 rec x2 s0 σ
def m_X7_readInto_J106 (rec : Int32 → Sx → Option (Sum (Int32 × Sx) (Sx))) (x2 : Int32) (σ : Sx) : Option (Sum (Int32 × Sx) (Sx)) :=
  m_X7_readInto_J107 rec x2 0 σ
def m_X7_readInto_L16  : Nat → Int32 → Sx → Option (Sum (Int32 × Sx) (Sx))
  | 0, _, _ => none
  | n + 1, x2, σ =>
  if 200 < x2 then (some (.inr σ)) else ((m_X7_next σ).bind (fun q3 => if (q3.1 11) = (-1) then (some (.inl ((x2, q3)))) else (if (q3.1 11) = 99 then (if 8 ≤ (q3.1 6) then (m_X7_readInto_J156 (m_X7_readInto_L16 n) x2 q3) else ((m_X7_readCall q3).bind (fun q8 => if q8.1 = 0 then (m_X7_readInto_J156 (m_X7_readInto_L16 n) x2 q8.2) else (m_X7_readInto_J157 (m_X7_readInto_L16 n) x2 1 q8.2)))) else (if (q3.1 11) = 100 then (if 2 ≤ (q3.1 7) then (m_X7_readInto_J181 (m_X7_readInto_L16 n) x2 q3) else ((m_X7_readDark q3).bind (fun q12 => if q12.1 = 0 then (m_X7_readInto_J181 (m_X7_readInto_L16 n) x2 q12.2) else (m_X7_readInto_J182 (m_X7_readInto_L16 n) x2 1 q12.2)))) else (if (q3.1 11) = 104 then (if (q3.1 13) = 0 then ((m_X7_readHoles q3).bind (fun q16 => if q16.1 = 0 then (m_X7_readInto_J130 (m_X7_readInto_L16 n) x2 q16.2) else (m_X7_readInto_J131 (m_X7_readInto_L16 n) x2 1 q16.2))) else (m_X7_readInto_J130 (m_X7_readInto_L16 n) x2 q3)) else (if (q3.1 11) = 116 then (if 5 ≤ (q3.1 4) then (m_X7_readInto_J106 (m_X7_readInto_L16 n) x2 q3) else ((m_X7_readPhone q3).bind (fun q20 => if q20.1 = 0 then (m_X7_readInto_J106 (m_X7_readInto_L16 n) x2 q20.2) else (m_X7_readInto_J107 (m_X7_readInto_L16 n) x2 1 q20.2)))) else (m_X7_readInto_J186 (m_X7_readInto_L16 n) x2 0 q3)))))))
def m_X7_readInto (σ : Sx) : Option (Int32 × Sx) :=
  (m_X10_empty σ).bind (fun q1 => (m_X7_readInto_L16 FU 0 ((sg (sg q1 10 0) 13 0))).bind (fun rs24 => Sum.elim (fun r23 => some r23) (fun y22 => some (((-3), y22))) rs24))
set_option maxHeartbeats 4000000 in
set_option maxRecDepth 100000 in
theorem w_X7_readInto_L16 {l : Launch} {D : va_G} {cy : Nat → ClassId} {ad : Nat → Nat} {τ : Sx} {p : Program} {e : Env} {R : Room} {s : State} {m : MethodId} {args : Array Value} {below : List Frame} {meth : Method} {c : Code} (Z : Zc p s m c cX7_readInto 4 RX7 D cy ad) (hr : meth.sig.returnType = (some .int)) (hlk : meth.locks = false) (hRf : 5 ≤ R.frames) (hRl : 105 ≤ R.locals) (out : Int32 × Sx) : ∀ (n : Nat) (x2 : Int32) (σ : Sx) (res : Sum (Int32 × Sx) (Sx)), m_X7_readInto_L16 n x2 σ = some res → ∀ (H : Heap) (locs : List Loc), va_P D vwCl (gW cy ad σ τ) H → va_S (gA ad) s.heap H locs → ∀ ls : Array Slot, lv_has ls 4 [(0, .ref (ad 3)), (1, .ref (ad 2)), (2, .int x2)] → (∀ r : Int32 × Sx, res = .inl r → r = out) → (∀ y : Sx, res = .inr y → ∀ (H : Heap) (locs : List Loc), va_P D vwCl (gW cy ad y τ) H → va_S (gA ad) s.heap H locs → ∀ ls : Array Slot, lv_has ls 4 [] → W p l e R s m args below meth c H locs 0 0 (MQ below (cQi D cy ad τ out) args s 0 0 (gA ad)) (F0 m 199 ls [])) → W p l e R s m args below meth c H locs 0 0 (MQ below (cQi D cy ad τ out) args s 0 0 (gA ad)) (F0 m 16 ls []) := by
  have hx := Z.x
  have hb := Z.b
  intro n
  induction n with
  | zero => intro x2 σ res h; cases h
  | succ n ih =>
    intro x2 σ res h H locs hP hS ls hl hri kx
    have J186 : ∀ (x2 : Int32) (x3 : Int32) (σ : Sx), m_X7_readInto_J186 (m_X7_readInto_L16 n) x2 x3 σ = some res → ∀ (H : Heap) (locs : List Loc), va_P D vwCl (gW cy ad σ τ) H → va_S (gA ad) s.heap H locs → ∀ ls : Array Slot, lv_has ls 4 [(0, .ref (ad 3)), (1, .ref (ad 2)), (2, .int x2), (3, .int x3)] → W p l e R s m args below meth c H locs 0 0 (MQ below (cQi D cy ad τ out) args s 0 0 (gA ad)) (F0 m 186 ls []) := by
      intro x2 x3 σ h H locs hP hS ls hl
      unfold m_X7_readInto_J186 at h
      refine lv_iload_n hx hb dX7_readInto_186 rfl (lv_at hl 3 rfl) ?_
      refine lv_if_ne (tgt := 193) hx hb dX7_readInto_187 (by decide) (fun c7 => ?_) (fun c7 => ?_)
      · rw [if_neg c7] at h
        refine lv_iinc (v := (x2 + 1)) (lv' := [(2, .int (x2 + 1)), (0, .ref (ad 3)), (1, .ref (ad 2)), (3, .int x3)]) hx hb dX7_readInto_193 hl (k := 2) rfl rfl (by decide) rfl (fun ls hl => ?_)
        refine lv_goto (tgt := 16) hx hb dX7_readInto_196 (by decide) ?_
        exact ih ((x2 + 1)) σ _ h _ _ hP hS _ (lv_sub hl [1, 2, 0] rfl) hri kx
      · rw [if_pos c7] at h
        refine lv_bipush (v := (-3)) hx hb dX7_readInto_190 (by decide) ?_
        exact zci Z hP hS hr hlk (congrArg some (hri _ (Option.some.inj h).symm)) dX7_readInto_192
    have J157 : ∀ (x2 : Int32) (s0 : Int32) (σ : Sx), m_X7_readInto_J157 (m_X7_readInto_L16 n) x2 s0 σ = some res → ∀ (H : Heap) (locs : List Loc), va_P D vwCl (gW cy ad σ τ) H → va_S (gA ad) s.heap H locs → ∀ ls : Array Slot, lv_has ls 4 [(0, .ref (ad 3)), (1, .ref (ad 2)), (2, .int x2)] → W p l e R s m args below meth c H locs 0 0 (MQ below (cQi D cy ad τ out) args s 0 0 (gA ad)) (F0 m 157 ls [.int s0]) := by
      intro x2 s0 σ h H locs hP hS ls hl
      unfold m_X7_readInto_J157 at h
      refine lv_istore_n (lv' := [(3, .int s0), (0, .ref (ad 3)), (1, .ref (ad 2)), (2, .int x2)]) hx hb dX7_readInto_157 rfl hl (by decide) rfl (fun ls hl => ?_)
      refine lv_goto (tgt := 186) hx hb dX7_readInto_158 (by decide) ?_
      exact J186 x2 s0 σ h _ _ hP hS _ (lv_sub hl [1, 2, 3, 0] rfl)
    have J156 : ∀ (x2 : Int32) (σ : Sx), m_X7_readInto_J156 (m_X7_readInto_L16 n) x2 σ = some res → ∀ (H : Heap) (locs : List Loc), va_P D vwCl (gW cy ad σ τ) H → va_S (gA ad) s.heap H locs → ∀ ls : Array Slot, lv_has ls 4 [(0, .ref (ad 3)), (1, .ref (ad 2)), (2, .int x2)] → W p l e R s m args below meth c H locs 0 0 (MQ below (cQi D cy ad τ out) args s 0 0 (gA ad)) (F0 m 156 ls []) := by
      intro x2 σ h H locs hP hS ls hl
      unfold m_X7_readInto_J156 at h
      refine lv_iconst (v := 0) hx hb dX7_readInto_156 (by decide) ?_
      exact J157 x2 0 σ h _ _ hP hS _ (lv_sub hl [0, 1, 2] rfl)
    have J182 : ∀ (x2 : Int32) (s0 : Int32) (σ : Sx), m_X7_readInto_J182 (m_X7_readInto_L16 n) x2 s0 σ = some res → ∀ (H : Heap) (locs : List Loc), va_P D vwCl (gW cy ad σ τ) H → va_S (gA ad) s.heap H locs → ∀ ls : Array Slot, lv_has ls 4 [(0, .ref (ad 3)), (1, .ref (ad 2)), (2, .int x2)] → W p l e R s m args below meth c H locs 0 0 (MQ below (cQi D cy ad τ out) args s 0 0 (gA ad)) (F0 m 182 ls [.int s0]) := by
      intro x2 s0 σ h H locs hP hS ls hl
      unfold m_X7_readInto_J182 at h
      refine lv_istore_n (lv' := [(3, .int s0), (0, .ref (ad 3)), (1, .ref (ad 2)), (2, .int x2)]) hx hb dX7_readInto_182 rfl hl (by decide) rfl (fun ls hl => ?_)
      refine lv_goto (tgt := 186) hx hb dX7_readInto_183 (by decide) ?_
      exact J186 x2 s0 σ h _ _ hP hS _ (lv_sub hl [1, 2, 3, 0] rfl)
    have J181 : ∀ (x2 : Int32) (σ : Sx), m_X7_readInto_J181 (m_X7_readInto_L16 n) x2 σ = some res → ∀ (H : Heap) (locs : List Loc), va_P D vwCl (gW cy ad σ τ) H → va_S (gA ad) s.heap H locs → ∀ ls : Array Slot, lv_has ls 4 [(0, .ref (ad 3)), (1, .ref (ad 2)), (2, .int x2)] → W p l e R s m args below meth c H locs 0 0 (MQ below (cQi D cy ad τ out) args s 0 0 (gA ad)) (F0 m 181 ls []) := by
      intro x2 σ h H locs hP hS ls hl
      unfold m_X7_readInto_J181 at h
      refine lv_iconst (v := 0) hx hb dX7_readInto_181 (by decide) ?_
      exact J182 x2 0 σ h _ _ hP hS _ (lv_sub hl [0, 1, 2] rfl)
    have J131 : ∀ (x2 : Int32) (s0 : Int32) (σ : Sx), m_X7_readInto_J131 (m_X7_readInto_L16 n) x2 s0 σ = some res → ∀ (H : Heap) (locs : List Loc), va_P D vwCl (gW cy ad σ τ) H → va_S (gA ad) s.heap H locs → ∀ ls : Array Slot, lv_has ls 4 [(0, .ref (ad 3)), (1, .ref (ad 2)), (2, .int x2)] → W p l e R s m args below meth c H locs 0 0 (MQ below (cQi D cy ad τ out) args s 0 0 (gA ad)) (F0 m 131 ls [.int s0]) := by
      intro x2 s0 σ h H locs hP hS ls hl
      unfold m_X7_readInto_J131 at h
      refine lv_istore_n (lv' := [(3, .int s0), (0, .ref (ad 3)), (1, .ref (ad 2)), (2, .int x2)]) hx hb dX7_readInto_131 rfl hl (by decide) rfl (fun ls hl => ?_)
      refine lv_goto (tgt := 186) hx hb dX7_readInto_132 (by decide) ?_
      exact J186 x2 s0 σ h _ _ hP hS _ (lv_sub hl [1, 2, 3, 0] rfl)
    have J130 : ∀ (x2 : Int32) (σ : Sx), m_X7_readInto_J130 (m_X7_readInto_L16 n) x2 σ = some res → ∀ (H : Heap) (locs : List Loc), va_P D vwCl (gW cy ad σ τ) H → va_S (gA ad) s.heap H locs → ∀ ls : Array Slot, lv_has ls 4 [(0, .ref (ad 3)), (1, .ref (ad 2)), (2, .int x2)] → W p l e R s m args below meth c H locs 0 0 (MQ below (cQi D cy ad τ out) args s 0 0 (gA ad)) (F0 m 130 ls []) := by
      intro x2 σ h H locs hP hS ls hl
      unfold m_X7_readInto_J130 at h
      refine lv_iconst (v := 0) hx hb dX7_readInto_130 (by decide) ?_
      exact J131 x2 0 σ h _ _ hP hS _ (lv_sub hl [0, 1, 2] rfl)
    have J107 : ∀ (x2 : Int32) (s0 : Int32) (σ : Sx), m_X7_readInto_J107 (m_X7_readInto_L16 n) x2 s0 σ = some res → ∀ (H : Heap) (locs : List Loc), va_P D vwCl (gW cy ad σ τ) H → va_S (gA ad) s.heap H locs → ∀ ls : Array Slot, lv_has ls 4 [(0, .ref (ad 3)), (1, .ref (ad 2)), (2, .int x2)] → W p l e R s m args below meth c H locs 0 0 (MQ below (cQi D cy ad τ out) args s 0 0 (gA ad)) (F0 m 107 ls [.int s0]) := by
      intro x2 s0 σ h H locs hP hS ls hl
      unfold m_X7_readInto_J107 at h
      refine lv_istore_n (lv' := [(3, .int s0), (0, .ref (ad 3)), (1, .ref (ad 2)), (2, .int x2)]) hx hb dX7_readInto_107 rfl hl (by decide) rfl (fun ls hl => ?_)
      refine lv_goto (tgt := 186) hx hb dX7_readInto_108 (by decide) ?_
      exact J186 x2 s0 σ h _ _ hP hS _ (lv_sub hl [1, 2, 3, 0] rfl)
    have J106 : ∀ (x2 : Int32) (σ : Sx), m_X7_readInto_J106 (m_X7_readInto_L16 n) x2 σ = some res → ∀ (H : Heap) (locs : List Loc), va_P D vwCl (gW cy ad σ τ) H → va_S (gA ad) s.heap H locs → ∀ ls : Array Slot, lv_has ls 4 [(0, .ref (ad 3)), (1, .ref (ad 2)), (2, .int x2)] → W p l e R s m args below meth c H locs 0 0 (MQ below (cQi D cy ad τ out) args s 0 0 (gA ad)) (F0 m 106 ls []) := by
      intro x2 σ h H locs hP hS ls hl
      unfold m_X7_readInto_J106 at h
      refine lv_iconst (v := 0) hx hb dX7_readInto_106 (by decide) ?_
      exact J107 x2 0 σ h _ _ hP hS _ (lv_sub hl [0, 1, 2] rfl)
    rw [m_X7_readInto_L16] at h
    refine lv_iload_n hx hb dX7_readInto_16 rfl (lv_at hl 2 rfl) ?_
    refine lv_sipush (v := 200) hx hb dX7_readInto_17 (by decide) ?_
    refine lv_icmp_gt (tgt := 199) hx hb dX7_readInto_20 (by decide) (fun c2 => ?_) (fun c2 => ?_)
    · rw [if_pos c2] at h
      exact kx _ (Option.some.inj h).symm _ _ hP hS _ (lv_sub hl [] rfl)
    · rw [if_neg c2] at h
      refine lv_aload_n hx hb dX7_readInto_23 rfl (lv_at hl 0 rfl) ?_
      obtain ⟨q3, hq3, h⟩ := bd h
      refine zwcv (zrunV Z hP (As := []) (rest := []) (c_X7_next (R := { frames := 2, cells := 0, slots := 0, locals := 41 }) Z.i (Nat.le_refl _) (Nat.le_refl _) hq3) cV_X7_40 rfl rfl ⟨(Nat.le_trans (Nat.le_of_ble_eq_true rfl) hRf), (Nat.le_trans (Nat.le_of_ble_eq_true rfl) hRl)⟩ 3 (gW_o rfl) rfl rfl rfl hl.1 rfl (Nat.le_of_ble_eq_true rfl) dX7_readInto_24 ⟨Nat.zero_le _, Nat.zero_le _⟩) hS (fun H locs hP hS => ?_)
      refine lv_iconst (v := 0) hx hb dX7_readInto_27 (by decide) ?_
      refine lv_istore_n (lv' := [(3, .int 0), (0, .ref (ad 3)), (1, .ref (ad 2)), (2, .int x2)]) hx hb dX7_readInto_28 rfl hl (by decide) rfl (fun ls hl => ?_)
      refine lv_aload_n hx hb dX7_readInto_29 rfl (lv_at hl 1 rfl) ?_
      refine fg_3_4 Z hP wF_X7_25 dX7_readInto_30 ?_
      by_cases c4 : (q3.1 11) = (-1)
      · rw [if_pos c4] at h
        refine lv_lookup (off := 51) (tgt := 84) hx hb dX7_readInto_33 (by decide) (by rw [c4]; rfl) (by decide) ?_
        refine lv_iload_n hx hb dX7_readInto_84 rfl (lv_at hl 3 rfl) ?_
        exact zci Z hP hS hr hlk (congrArg some (hri _ (Option.some.inj h).symm)) dX7_readInto_85
      · rw [if_neg c4] at h
        by_cases c5 : (q3.1 11) = 99
        · rw [if_pos c5] at h
          refine lv_lookup (off := 102) (tgt := 135) hx hb dX7_readInto_33 (by decide) (by rw [c5]; rfl) (by decide) ?_
          refine lv_aload_n hx hb dX7_readInto_135 rfl (lv_at hl 2 rfl) ?_
          refine fg_2_2 Z hP wF_X7_53 dX7_readInto_136 ?_
          refine lv_bipush (v := 8) hx hb dX7_readInto_139 (by decide) ?_
          refine lv_icmp_ge (tgt := 156) hx hb dX7_readInto_141 (by decide) (fun c6 => ?_) (fun c6 => ?_)
          · rw [if_pos c6] at h
            exact J156 x2 q3 h _ _ hP hS _ (lv_sub hl [1, 2, 3] rfl)
          · rw [if_neg c6] at h
            refine lv_aload_n hx hb dX7_readInto_144 rfl (lv_at hl 1 rfl) ?_
            refine lv_aload_n hx hb dX7_readInto_145 rfl (lv_at hl 2 rfl) ?_
            obtain ⟨q8, hq8, h⟩ := bd h
            refine zwci (zrunV Z hP (As := [.ref (ad 2)]) (rest := []) (c_X7_readCall (R := { frames := 4, cells := 0, slots := 0, locals := 83 }) Z.i (Nat.le_refl _) (Nat.le_refl _) hq8) cV_X7_56 rfl rfl ⟨(Nat.le_trans (Nat.le_of_ble_eq_true rfl) hRf), (Nat.le_trans (Nat.le_of_ble_eq_true rfl) hRl)⟩ 3 (gW_o rfl) rfl rfl rfl hl.1 rfl (Nat.le_of_ble_eq_true rfl) dX7_readInto_146 ⟨Nat.zero_le _, Nat.zero_le _⟩) hS (fun H locs hP hS => ?_)
            refine lv_if_eq (tgt := 156) hx hb dX7_readInto_149 (by decide) (fun c9 => ?_) (fun c9 => ?_)
            · rw [if_pos c9] at h
              exact J156 x2 q8.2 h _ _ hP hS _ (lv_sub hl [1, 2, 3] rfl)
            · rw [if_neg c9] at h
              refine lv_iconst (v := 1) hx hb dX7_readInto_152 (by decide) ?_
              refine lv_goto (tgt := 157) hx hb dX7_readInto_153 (by decide) ?_
              exact J157 x2 1 q8.2 h _ _ hP hS _ (lv_sub hl [1, 2, 3] rfl)
        · rw [if_neg c5] at h
          by_cases c10 : (q3.1 11) = 100
          · rw [if_pos c10] at h
            refine lv_lookup (off := 128) (tgt := 161) hx hb dX7_readInto_33 (by decide) (by rw [c10]; rfl) (by decide) ?_
            refine lv_aload_n hx hb dX7_readInto_161 rfl (lv_at hl 2 rfl) ?_
            refine fg_2_3 Z hP wF_X7_59 dX7_readInto_162 ?_
            refine lv_iconst (v := 2) hx hb dX7_readInto_165 (by decide) ?_
            refine lv_icmp_ge (tgt := 181) hx hb dX7_readInto_166 (by decide) (fun c11 => ?_) (fun c11 => ?_)
            · rw [if_pos c11] at h
              exact J181 x2 q3 h _ _ hP hS _ (lv_sub hl [1, 2, 3] rfl)
            · rw [if_neg c11] at h
              refine lv_aload_n hx hb dX7_readInto_169 rfl (lv_at hl 1 rfl) ?_
              refine lv_aload_n hx hb dX7_readInto_170 rfl (lv_at hl 2 rfl) ?_
              obtain ⟨q12, hq12, h⟩ := bd h
              refine zwci (zrunV Z hP (As := [.ref (ad 2)]) (rest := []) (c_X7_readDark (R := { frames := 4, cells := 0, slots := 0, locals := 83 }) Z.i (Nat.le_refl _) (Nat.le_refl _) hq12) cV_X7_62 rfl rfl ⟨(Nat.le_trans (Nat.le_of_ble_eq_true rfl) hRf), (Nat.le_trans (Nat.le_of_ble_eq_true rfl) hRl)⟩ 3 (gW_o rfl) rfl rfl rfl hl.1 rfl (Nat.le_of_ble_eq_true rfl) dX7_readInto_171 ⟨Nat.zero_le _, Nat.zero_le _⟩) hS (fun H locs hP hS => ?_)
              refine lv_if_eq (tgt := 181) hx hb dX7_readInto_174 (by decide) (fun c13 => ?_) (fun c13 => ?_)
              · rw [if_pos c13] at h
                exact J181 x2 q12.2 h _ _ hP hS _ (lv_sub hl [1, 2, 3] rfl)
              · rw [if_neg c13] at h
                refine lv_iconst (v := 1) hx hb dX7_readInto_177 (by decide) ?_
                refine lv_goto (tgt := 182) hx hb dX7_readInto_178 (by decide) ?_
                exact J182 x2 1 q12.2 h _ _ hP hS _ (lv_sub hl [1, 2, 3] rfl)
          · rw [if_neg c10] at h
            by_cases c14 : (q3.1 11) = 104
            · rw [if_pos c14] at h
              refine lv_lookup (off := 78) (tgt := 111) hx hb dX7_readInto_33 (by decide) (by rw [c14]; rfl) (by decide) ?_
              refine lv_aload_n hx hb dX7_readInto_111 rfl (lv_at hl 1 rfl) ?_
              refine fg_3_6 Z hP wF_X7_31 dX7_readInto_112 ?_
              refine lv_if_ne (tgt := 130) hx hb dX7_readInto_115 (by decide) (fun c15 => ?_) (fun c15 => ?_)
              · rw [if_neg c15] at h
                exact J130 x2 q3 h _ _ hP hS _ (lv_sub hl [1, 2, 3] rfl)
              · rw [if_pos c15] at h
                refine lv_aload_n hx hb dX7_readInto_118 rfl (lv_at hl 1 rfl) ?_
                refine lv_aload_n hx hb dX7_readInto_119 rfl (lv_at hl 2 rfl) ?_
                obtain ⟨q16, hq16, h⟩ := bd h
                refine zwci (zrunV Z hP (As := [.ref (ad 2)]) (rest := []) (c_X7_readHoles (R := { frames := 4, cells := 0, slots := 0, locals := 83 }) Z.i (Nat.le_refl _) (Nat.le_refl _) hq16) cV_X7_50 rfl rfl ⟨(Nat.le_trans (Nat.le_of_ble_eq_true rfl) hRf), (Nat.le_trans (Nat.le_of_ble_eq_true rfl) hRl)⟩ 3 (gW_o rfl) rfl rfl rfl hl.1 rfl (Nat.le_of_ble_eq_true rfl) dX7_readInto_120 ⟨Nat.zero_le _, Nat.zero_le _⟩) hS (fun H locs hP hS => ?_)
                refine lv_if_eq (tgt := 130) hx hb dX7_readInto_123 (by decide) (fun c17 => ?_) (fun c17 => ?_)
                · rw [if_pos c17] at h
                  exact J130 x2 q16.2 h _ _ hP hS _ (lv_sub hl [1, 2, 3] rfl)
                · rw [if_neg c17] at h
                  refine lv_iconst (v := 1) hx hb dX7_readInto_126 (by decide) ?_
                  refine lv_goto (tgt := 131) hx hb dX7_readInto_127 (by decide) ?_
                  exact J131 x2 1 q16.2 h _ _ hP hS _ (lv_sub hl [1, 2, 3] rfl)
            · rw [if_neg c14] at h
              by_cases c18 : (q3.1 11) = 116
              · rw [if_pos c18] at h
                refine lv_lookup (off := 53) (tgt := 86) hx hb dX7_readInto_33 (by decide) (by rw [c18]; rfl) (by decide) ?_
                refine lv_aload_n hx hb dX7_readInto_86 rfl (lv_at hl 2 rfl) ?_
                refine fg_2_0 Z hP wF_X7_43 dX7_readInto_87 ?_
                refine lv_iconst (v := 5) hx hb dX7_readInto_90 (by decide) ?_
                refine lv_icmp_ge (tgt := 106) hx hb dX7_readInto_91 (by decide) (fun c19 => ?_) (fun c19 => ?_)
                · rw [if_pos c19] at h
                  exact J106 x2 q3 h _ _ hP hS _ (lv_sub hl [1, 2, 3] rfl)
                · rw [if_neg c19] at h
                  refine lv_aload_n hx hb dX7_readInto_94 rfl (lv_at hl 1 rfl) ?_
                  refine lv_aload_n hx hb dX7_readInto_95 rfl (lv_at hl 2 rfl) ?_
                  obtain ⟨q20, hq20, h⟩ := bd h
                  refine zwci (zrunV Z hP (As := [.ref (ad 2)]) (rest := []) (c_X7_readPhone (R := { frames := 4, cells := 0, slots := 0, locals := 83 }) Z.i (Nat.le_refl _) (Nat.le_refl _) hq20) cV_X7_46 rfl rfl ⟨(Nat.le_trans (Nat.le_of_ble_eq_true rfl) hRf), (Nat.le_trans (Nat.le_of_ble_eq_true rfl) hRl)⟩ 3 (gW_o rfl) rfl rfl rfl hl.1 rfl (Nat.le_of_ble_eq_true rfl) dX7_readInto_96 ⟨Nat.zero_le _, Nat.zero_le _⟩) hS (fun H locs hP hS => ?_)
                  refine lv_if_eq (tgt := 106) hx hb dX7_readInto_99 (by decide) (fun c21 => ?_) (fun c21 => ?_)
                  · rw [if_pos c21] at h
                    exact J106 x2 q20.2 h _ _ hP hS _ (lv_sub hl [1, 2, 3] rfl)
                  · rw [if_neg c21] at h
                    refine lv_iconst (v := 1) hx hb dX7_readInto_102 (by decide) ?_
                    refine lv_goto (tgt := 107) hx hb dX7_readInto_103 (by decide) ?_
                    exact J107 x2 1 q20.2 h _ _ hP hS _ (lv_sub hl [1, 2, 3] rfl)
              · rw [if_neg c18] at h
                refine lv_lookup (off := 153) (tgt := 186) hx hb dX7_readInto_33 (by decide) ((lv_osw c4 rfl).trans ((lv_osw c5 rfl).trans ((lv_osw c10 rfl).trans ((lv_osw c14 rfl).trans ((lv_osw c18 rfl).trans rfl))))) (by decide) ?_
                exact J186 x2 0 q3 h _ _ hP hS _ (lv_sub hl [1, 2, 3, 0] rfl)
set_option maxHeartbeats 4000000 in
set_option maxRecDepth 100000 in
theorem c_X7_readInto {l : Launch} {D : va_G} {cy : Nat → ClassId} {ad : Nat → Nat} {σ τ : Sx} {R : Room} (hI : gInj ad) (hRf : 5 ≤ R.frames) (hRl : 105 ≤ R.locals) {out : Int32 × Sx} (h : m_X7_readInto σ = some out) : Met l yX7_readInto [Cond.code yX7_readInto cX7_readInto 4 (some .int)] R (va_Pc [.ref (ad 3), .ref (ad 2)] (gB D cy ad σ τ)) (cQi D cy ad τ out) 0 0 (gA ad) := by
  refine zstart [.ref (ad 3), .ref (ad 2)] (by decide) rfl hI (Nat.le_of_ble_eq_true rfl) ?_
  intro p e s m below meth c Z hr hlk hP ls hl
  have hx := Z.x
  have hb := Z.b
  generalize hargs : ([.ref (ad 3), .ref (ad 2)] : List Value).toArray = args
  have hl : lv_has ls 4 [(0, .ref (ad 3)), (1, .ref (ad 2))] := hl
  have hS : va_S (gA ad) s.heap s.heap [] := va_S.rf
  unfold m_X7_readInto at h
  refine lv_aload_n hx hb dX7_readInto_0 rfl (lv_at hl 1 rfl) ?_
  obtain ⟨q1, hq1, h⟩ := bd h
  refine zwcv (zrunV Z hP (As := []) (rest := []) (c_X10_empty (R := { frames := 0, cells := 0, slots := 0, locals := 0 }) Z.i (Nat.le_refl _) (Nat.le_refl _) hq1) cV_X7_35 rfl rfl ⟨(Nat.le_trans (Nat.le_of_ble_eq_true rfl) hRf), (Nat.le_trans (Nat.le_of_ble_eq_true rfl) hRl)⟩ 2 (gW_o rfl) rfl rfl rfl hl.1 rfl (Nat.le_of_ble_eq_true rfl) dX7_readInto_1 ⟨Nat.zero_le _, Nat.zero_le _⟩) hS (fun H locs hP hS => ?_)
  refine lv_aload_n hx hb dX7_readInto_4 rfl (lv_at hl 0 rfl) ?_
  refine lv_iconst (v := 0) hx hb dX7_readInto_5 (by decide) ?_
  refine fp_3_3 Z hP hS wF_X7_22 dX7_readInto_6 (fun H locs hP hS => ?_)
  refine lv_aload_n hx hb dX7_readInto_9 rfl (lv_at hl 0 rfl) ?_
  refine lv_iconst (v := 0) hx hb dX7_readInto_10 (by decide) ?_
  refine fp_3_6 Z hP hS wF_X7_31 rfl rfl dX7_readInto_11 (fun H locs hP hS => ?_)
  refine lv_iconst (v := 0) hx hb dX7_readInto_14 (by decide) ?_
  refine lv_istore_n (lv' := [(2, .int 0), (0, .ref (ad 3)), (1, .ref (ad 2))]) hx hb dX7_readInto_15 rfl hl (by decide) rfl (fun ls hl => ?_)
  obtain ⟨rs24, hrs24, h⟩ := bd h
  refine w_X7_readInto_L16 Z hr hlk hRf hRl out FU 0 ((sg (sg q1 10 0) 13 0)) rs24 hrs24 _ _ hP hS _ (lv_sub hl [1, 2, 0] rfl) (fun r23 e1 => ?_) (fun y22 e1 H locs hP hS ls hl => ?_)
  · subst e1
    rw [Sum.elim_inl] at h
    exact (Option.some.inj h)
  · subst e1
    rw [Sum.elim_inr] at h
    refine lv_bipush (v := (-3)) hx hb dX7_readInto_199 (by decide) ?_
    exact zci Z hP hS hr hlk h dX7_readInto_201
