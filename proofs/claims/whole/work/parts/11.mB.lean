def m_X10_empty (σ : Sx) : Option (Sx) :=
  some ((sg (sg (sg (sg σ 4 0) 5 1) 6 0) 7 0))
set_option maxHeartbeats 4000000 in
set_option maxRecDepth 100000 in
theorem c_X10_empty {l : Launch} {D : va_G} {cy : Nat → ClassId} {ad : Nat → Nat} {σ τ : Sx} {R : Room} (hI : gInj ad) (hRf : 0 ≤ R.frames) (hRl : 0 ≤ R.locals) {out : Sx} (h : m_X10_empty σ = some out) : Met l yX10_empty [Cond.code yX10_empty cX10_empty 1 none] R (va_Pc [.ref (ad 2)] (gB D cy ad σ τ)) (cQv D cy ad τ out) 0 0 (gA ad) := by
  refine zstart [.ref (ad 2)] (by decide) rfl hI (Nat.le_of_ble_eq_true rfl) ?_
  intro p e s m below meth c Z hr hlk hP ls hl
  have hx := Z.x
  have hb := Z.b
  generalize hargs : ([.ref (ad 2)] : List Value).toArray = args
  have hl : lv_has ls 1 [(0, .ref (ad 2))] := hl
  have hS : va_S (gA ad) s.heap s.heap [] := va_S.rf
  unfold m_X10_empty at h
  refine lv_aload_n hx hb dX10_empty_0 rfl (lv_at hl 0 rfl) ?_
  refine lv_iconst (v := 0) hx hb dX10_empty_1 (by decide) ?_
  refine fp_2_0 Z hP hS wF_X10_9 dX10_empty_2 (fun H locs hP hS => ?_)
  refine lv_aload_n hx hb dX10_empty_5 rfl (lv_at hl 0 rfl) ?_
  refine lv_iconst (v := 1) hx hb dX10_empty_6 (by decide) ?_
  refine fp_2_1 Z hP hS wF_X10_15 dX10_empty_7 (fun H locs hP hS => ?_)
  refine lv_aload_n hx hb dX10_empty_10 rfl (lv_at hl 0 rfl) ?_
  refine lv_iconst (v := 0) hx hb dX10_empty_11 (by decide) ?_
  refine fp_2_2 Z hP hS wF_X10_18 dX10_empty_12 (fun H locs hP hS => ?_)
  refine lv_aload_n hx hb dX10_empty_15 rfl (lv_at hl 0 rfl) ?_
  refine lv_iconst (v := 0) hx hb dX10_empty_16 (by decide) ?_
  refine fp_2_3 Z hP hS wF_X10_21 dX10_empty_17 (fun H locs hP hS => ?_)
  exact zcv Z hP hS hr hlk h dX10_empty_20
def m_X10_take (σ : Sx) : Option (Sx) :=
  (cpA cLn ((sg (sg (sg (sg σ 0 ((σ.1 4))) 1 ((((sg σ 0 ((σ.1 4)))).1 5))) 2 ((((sg (sg σ 0 ((σ.1 4))) 1 ((((sg σ 0 ((σ.1 4)))).1 5)))).1 6))) 3 ((((sg (sg (sg σ 0 ((σ.1 4))) 1 ((((sg σ 0 ((σ.1 4)))).1 5))) 2 ((((sg (sg σ 0 ((σ.1 4))) 1 ((((sg σ 0 ((σ.1 4)))).1 5)))).1 6)))).1 7)))) 8 0 0 0 5).bind (fun q1 => (cpA cLn q1 9 1 0 0 5).bind (fun q2 => (cpA cLn q2 10 2 0 0 5).bind (fun q3 => (cpA cLn q3 11 3 0 0 8).bind (fun q4 => (cpA cLn q4 12 4 0 0 8).bind (fun q5 => (cpA cLn q5 13 5 0 0 8).bind (fun q6 => (cpA cLn q6 14 6 0 0 2).bind (fun q7 => (cpA cLn q7 15 7 0 0 2).bind (fun q8 => some q8))))))))
set_option maxHeartbeats 4000000 in
set_option maxRecDepth 100000 in
theorem c_X10_take {l : Launch} {D : va_G} {cy : Nat → ClassId} {ad : Nat → Nat} {σ τ : Sx} {R : Room} (hI : gInj ad) (hRf : 1 ≤ R.frames) (hRl : 18 ≤ R.locals) {out : Sx} (h : m_X10_take σ = some out) : Met l yX10_take [Cond.code yX10_take cX10_take 2 none] R (va_Pc [.ref (ad 1), .ref (ad 2)] (gB D cy ad σ τ)) (cQv D cy ad τ out) 0 0 (gA ad) := by
  refine zstart [.ref (ad 1), .ref (ad 2)] (by decide) rfl hI (Nat.le_of_ble_eq_true rfl) ?_
  intro p e s m below meth c Z hr hlk hP ls hl
  have hx := Z.x
  have hb := Z.b
  generalize hargs : ([.ref (ad 1), .ref (ad 2)] : List Value).toArray = args
  have hl : lv_has ls 2 [(0, .ref (ad 1)), (1, .ref (ad 2))] := hl
  have hS : va_S (gA ad) s.heap s.heap [] := va_S.rf
  unfold m_X10_take at h
  refine lv_aload_n hx hb dX10_take_0 rfl (lv_at hl 0 rfl) ?_
  refine lv_aload_n hx hb dX10_take_1 rfl (lv_at hl 1 rfl) ?_
  refine fg_2_0 Z hP wF_X10_9 dX10_take_2 ?_
  refine fp_1_0 Z hP hS wF_X10_9 dX10_take_5 (fun H locs hP hS => ?_)
  refine lv_aload_n hx hb dX10_take_8 rfl (lv_at hl 0 rfl) ?_
  refine lv_aload_n hx hb dX10_take_9 rfl (lv_at hl 1 rfl) ?_
  refine fg_2_1 Z hP wF_X10_15 dX10_take_10 ?_
  refine fp_1_1 Z hP hS wF_X10_15 dX10_take_13 (fun H locs hP hS => ?_)
  refine lv_aload_n hx hb dX10_take_16 rfl (lv_at hl 0 rfl) ?_
  refine lv_aload_n hx hb dX10_take_17 rfl (lv_at hl 1 rfl) ?_
  refine fg_2_2 Z hP wF_X10_18 dX10_take_18 ?_
  refine fp_1_2 Z hP hS wF_X10_18 dX10_take_21 (fun H locs hP hS => ?_)
  refine lv_aload_n hx hb dX10_take_24 rfl (lv_at hl 0 rfl) ?_
  refine lv_aload_n hx hb dX10_take_25 rfl (lv_at hl 1 rfl) ?_
  refine fg_2_3 Z hP wF_X10_21 dX10_take_26 ?_
  refine fp_1_3 Z hP hS wF_X10_21 dX10_take_29 (fun H locs hP hS => ?_)
  refine lv_aload_n hx hb dX10_take_32 rfl (lv_at hl 1 rfl) ?_
  refine fg_2_4 Z hP wF_X10_24 dX10_take_33 ?_
  refine lv_iconst (v := 0) hx hb dX10_take_36 (by decide) ?_
  refine lv_aload_n hx hb dX10_take_37 rfl (lv_at hl 0 rfl) ?_
  refine fg_1_4 Z hP wF_X10_24 dX10_take_38 ?_
  refine lv_iconst (v := 0) hx hb dX10_take_41 (by decide) ?_
  refine lv_iconst (v := 5) hx hb dX10_take_42 (by decide) ?_
  obtain ⟨q1, hq1, h⟩ := bd h
  refine zc_cp (rest := []) (i := 8) (j := 0) Z hP hS hl.1 wA_X10_49 wA_1 wA_2 wA_3 hq1 (Nat.le_trans (Nat.le_of_ble_eq_true rfl) hRf) (Nat.le_trans (Nat.le_of_ble_eq_true rfl) hRl) dX10_take_43 (fun H locs hP hS => ?_)
  refine lv_aload_n hx hb dX10_take_46 rfl (lv_at hl 1 rfl) ?_
  refine fg_2_5 Z hP wF_X10_28 dX10_take_47 ?_
  refine lv_iconst (v := 0) hx hb dX10_take_50 (by decide) ?_
  refine lv_aload_n hx hb dX10_take_51 rfl (lv_at hl 0 rfl) ?_
  refine fg_1_5 Z hP wF_X10_28 dX10_take_52 ?_
  refine lv_iconst (v := 0) hx hb dX10_take_55 (by decide) ?_
  refine lv_iconst (v := 5) hx hb dX10_take_56 (by decide) ?_
  obtain ⟨q2, hq2, h⟩ := bd h
  refine zc_cp (rest := []) (i := 9) (j := 1) Z hP hS hl.1 wA_X10_49 wA_1 wA_2 wA_3 hq2 (Nat.le_trans (Nat.le_of_ble_eq_true rfl) hRf) (Nat.le_trans (Nat.le_of_ble_eq_true rfl) hRl) dX10_take_57 (fun H locs hP hS => ?_)
  refine lv_aload_n hx hb dX10_take_60 rfl (lv_at hl 1 rfl) ?_
  refine fg_2_6 Z hP wF_X10_31 dX10_take_61 ?_
  refine lv_iconst (v := 0) hx hb dX10_take_64 (by decide) ?_
  refine lv_aload_n hx hb dX10_take_65 rfl (lv_at hl 0 rfl) ?_
  refine fg_1_6 Z hP wF_X10_31 dX10_take_66 ?_
  refine lv_iconst (v := 0) hx hb dX10_take_69 (by decide) ?_
  refine lv_iconst (v := 5) hx hb dX10_take_70 (by decide) ?_
  obtain ⟨q3, hq3, h⟩ := bd h
  refine zc_cp (rest := []) (i := 10) (j := 2) Z hP hS hl.1 wA_X10_49 wA_1 wA_2 wA_3 hq3 (Nat.le_trans (Nat.le_of_ble_eq_true rfl) hRf) (Nat.le_trans (Nat.le_of_ble_eq_true rfl) hRl) dX10_take_71 (fun H locs hP hS => ?_)
  refine lv_aload_n hx hb dX10_take_74 rfl (lv_at hl 1 rfl) ?_
  refine fg_2_7 Z hP wF_X10_34 dX10_take_75 ?_
  refine lv_iconst (v := 0) hx hb dX10_take_78 (by decide) ?_
  refine lv_aload_n hx hb dX10_take_79 rfl (lv_at hl 0 rfl) ?_
  refine fg_1_7 Z hP wF_X10_34 dX10_take_80 ?_
  refine lv_iconst (v := 0) hx hb dX10_take_83 (by decide) ?_
  refine lv_bipush (v := 8) hx hb dX10_take_84 (by decide) ?_
  obtain ⟨q4, hq4, h⟩ := bd h
  refine zc_cp (rest := []) (i := 11) (j := 3) Z hP hS hl.1 wA_X10_49 wA_1 wA_2 wA_3 hq4 (Nat.le_trans (Nat.le_of_ble_eq_true rfl) hRf) (Nat.le_trans (Nat.le_of_ble_eq_true rfl) hRl) dX10_take_86 (fun H locs hP hS => ?_)
  refine lv_aload_n hx hb dX10_take_89 rfl (lv_at hl 1 rfl) ?_
  refine fg_2_8 Z hP wF_X10_37 dX10_take_90 ?_
  refine lv_iconst (v := 0) hx hb dX10_take_93 (by decide) ?_
  refine lv_aload_n hx hb dX10_take_94 rfl (lv_at hl 0 rfl) ?_
  refine fg_1_8 Z hP wF_X10_37 dX10_take_95 ?_
  refine lv_iconst (v := 0) hx hb dX10_take_98 (by decide) ?_
  refine lv_bipush (v := 8) hx hb dX10_take_99 (by decide) ?_
  obtain ⟨q5, hq5, h⟩ := bd h
  refine zc_cp (rest := []) (i := 12) (j := 4) Z hP hS hl.1 wA_X10_49 wA_1 wA_2 wA_3 hq5 (Nat.le_trans (Nat.le_of_ble_eq_true rfl) hRf) (Nat.le_trans (Nat.le_of_ble_eq_true rfl) hRl) dX10_take_101 (fun H locs hP hS => ?_)
  refine lv_aload_n hx hb dX10_take_104 rfl (lv_at hl 1 rfl) ?_
  refine fg_2_9 Z hP wF_X10_40 dX10_take_105 ?_
  refine lv_iconst (v := 0) hx hb dX10_take_108 (by decide) ?_
  refine lv_aload_n hx hb dX10_take_109 rfl (lv_at hl 0 rfl) ?_
  refine fg_1_9 Z hP wF_X10_40 dX10_take_110 ?_
  refine lv_iconst (v := 0) hx hb dX10_take_113 (by decide) ?_
  refine lv_bipush (v := 8) hx hb dX10_take_114 (by decide) ?_
  obtain ⟨q6, hq6, h⟩ := bd h
  refine zc_cp (rest := []) (i := 13) (j := 5) Z hP hS hl.1 wA_X10_49 wA_1 wA_2 wA_3 hq6 (Nat.le_trans (Nat.le_of_ble_eq_true rfl) hRf) (Nat.le_trans (Nat.le_of_ble_eq_true rfl) hRl) dX10_take_116 (fun H locs hP hS => ?_)
  refine lv_aload_n hx hb dX10_take_119 rfl (lv_at hl 1 rfl) ?_
  refine fg_2_10 Z hP wF_X10_43 dX10_take_120 ?_
  refine lv_iconst (v := 0) hx hb dX10_take_123 (by decide) ?_
  refine lv_aload_n hx hb dX10_take_124 rfl (lv_at hl 0 rfl) ?_
  refine fg_1_10 Z hP wF_X10_43 dX10_take_125 ?_
  refine lv_iconst (v := 0) hx hb dX10_take_128 (by decide) ?_
  refine lv_iconst (v := 2) hx hb dX10_take_129 (by decide) ?_
  obtain ⟨q7, hq7, h⟩ := bd h
  refine zc_cp (rest := []) (i := 14) (j := 6) Z hP hS hl.1 wA_X10_49 wA_1 wA_2 wA_3 hq7 (Nat.le_trans (Nat.le_of_ble_eq_true rfl) hRf) (Nat.le_trans (Nat.le_of_ble_eq_true rfl) hRl) dX10_take_130 (fun H locs hP hS => ?_)
  refine lv_aload_n hx hb dX10_take_133 rfl (lv_at hl 1 rfl) ?_
  refine fg_2_11 Z hP wF_X10_46 dX10_take_134 ?_
  refine lv_iconst (v := 0) hx hb dX10_take_137 (by decide) ?_
  refine lv_aload_n hx hb dX10_take_138 rfl (lv_at hl 0 rfl) ?_
  refine fg_1_11 Z hP wF_X10_46 dX10_take_139 ?_
  refine lv_iconst (v := 0) hx hb dX10_take_142 (by decide) ?_
  refine lv_iconst (v := 2) hx hb dX10_take_143 (by decide) ?_
  obtain ⟨q8, hq8, h⟩ := bd h
  refine zc_cp (rest := []) (i := 15) (j := 7) Z hP hS hl.1 wA_X10_49 wA_1 wA_2 wA_3 hq8 (Nat.le_trans (Nat.le_of_ble_eq_true rfl) hRf) (Nat.le_trans (Nat.le_of_ble_eq_true rfl) hRl) dX10_take_144 (fun H locs hP hS => ?_)
  exact zcv Z hP hS hr hlk h dX10_take_147
def m_X4_begin_L22  : Nat → Int32 → Sx → Option (Sx)
  | 0, _, _ => none
  | n + 1, x2, σ =>
  if 5 ≤ x2 then (some σ) else ((ldA cLn σ 0 x2).bind (fun v2 => (stA cLn σ 17 x2 v2).bind (fun q3 => (stA cLn q3 18 x2 0).bind (fun q4 => m_X4_begin_L22 n ((x2 + 1)) q4))))
def m_X4_begin (σ : Sx) : Option (Sx) :=
  (m_X4_begin_L22 FU 0 ((sg (sg (sg (sg σ 14 0) 15 0) 16 0) 17 0))).bind (fun y5 => some y5)
set_option maxHeartbeats 4000000 in
set_option maxRecDepth 100000 in
theorem w_X4_begin_L22 {l : Launch} {D : va_G} {cy : Nat → ClassId} {ad : Nat → Nat} {τ : Sx} {p : Program} {e : Env} {R : Room} {s : State} {m : MethodId} {args : Array Value} {below : List Frame} {meth : Method} {c : Code} (Z : Zc p s m c cX4_begin 3 RX4 D cy ad) (hr : meth.sig.returnType = none) (hlk : meth.locks = false) (hRf : 0 ≤ R.frames) (hRl : 0 ≤ R.locals) (out : Sx) : ∀ (n : Nat) (x2 : Int32) (σ : Sx) (res : Sx), m_X4_begin_L22 n x2 σ = some res → ∀ (H : Heap) (locs : List Loc), va_P D vwCl (gW cy ad σ τ) H → va_S (gA ad) s.heap H locs → ∀ ls : Array Slot, lv_has ls 3 [(0, .ref (ad 4)), (1, .ref (ad 1)), (2, .int x2)] → (∀ (H : Heap) (locs : List Loc), va_P D vwCl (gW cy ad res τ) H → va_S (gA ad) s.heap H locs → ∀ ls : Array Slot, lv_has ls 3 [] → W p l e R s m args below meth c H locs 0 0 (MQ below (cQv D cy ad τ out) args s 0 0 (gA ad)) (F0 m 52 ls [])) → W p l e R s m args below meth c H locs 0 0 (MQ below (cQv D cy ad τ out) args s 0 0 (gA ad)) (F0 m 22 ls []) := by
  have hx := Z.x
  have hb := Z.b
  intro n
  induction n with
  | zero => intro x2 σ res h; cases h
  | succ n ih =>
    intro x2 σ res h H locs hP hS ls hl kx
    rw [m_X4_begin_L22] at h
    refine lv_iload_n hx hb dX4_begin_22 rfl (lv_at hl 2 rfl) ?_
    refine lv_iconst (v := 5) hx hb dX4_begin_23 (by decide) ?_
    refine lv_icmp_ge (tgt := 52) hx hb dX4_begin_24 (by decide) (fun c1 => ?_) (fun c1 => ?_)
    · rw [if_pos c1] at h
      obtain rfl := Option.some.inj h
      exact kx _ _ hP hS _ (lv_sub hl [] rfl)
    · rw [if_neg c1] at h
      refine lv_aload_n hx hb dX4_begin_27 rfl (lv_at hl 0 rfl) ?_
      refine fg_4_4 Z hP wF_X4_24 dX4_begin_28 ?_
      refine lv_iload_n hx hb dX4_begin_31 rfl (lv_at hl 2 rfl) ?_
      refine lv_aload_n hx hb dX4_begin_32 rfl (lv_at hl 1 rfl) ?_
      refine fg_1_4 Z hP wF_X4_31 dX4_begin_33 ?_
      refine lv_iload_n hx hb dX4_begin_36 rfl (lv_at hl 2 rfl) ?_
      obtain ⟨v2, hv2, h⟩ := bd h
      refine zc_ld (j := 0) Z hP hv2 dX4_begin_37 ?_
      obtain ⟨q3, hq3, h⟩ := bd h
      refine zc_st (j := 17) Z hP hS hq3 dX4_begin_38 (fun H locs hP hS => ?_)
      refine lv_aload_n hx hb dX4_begin_39 rfl (lv_at hl 0 rfl) ?_
      refine fg_4_5 Z hP wF_X4_28 dX4_begin_40 ?_
      refine lv_iload_n hx hb dX4_begin_43 rfl (lv_at hl 2 rfl) ?_
      refine lv_iconst (v := 0) hx hb dX4_begin_44 (by decide) ?_
      obtain ⟨q4, hq4, h⟩ := bd h
      refine zc_st (j := 18) Z hP hS hq4 dX4_begin_45 (fun H locs hP hS => ?_)
      refine lv_iinc (v := (x2 + 1)) (lv' := [(2, .int (x2 + 1)), (0, .ref (ad 4)), (1, .ref (ad 1))]) hx hb dX4_begin_46 hl (k := 2) rfl rfl (by decide) rfl (fun ls hl => ?_)
      refine lv_goto (tgt := 22) hx hb dX4_begin_49 (by decide) ?_
      exact ih ((x2 + 1)) q4 _ h _ _ hP hS _ (lv_sub hl [1, 2, 0] rfl) kx
set_option maxHeartbeats 4000000 in
set_option maxRecDepth 100000 in
theorem c_X4_begin {l : Launch} {D : va_G} {cy : Nat → ClassId} {ad : Nat → Nat} {σ τ : Sx} {R : Room} (hI : gInj ad) (hRf : 0 ≤ R.frames) (hRl : 0 ≤ R.locals) {out : Sx} (h : m_X4_begin σ = some out) : Met l yX4_begin [Cond.code yX4_begin cX4_begin 3 none] R (va_Pc [.ref (ad 4), .ref (ad 1)] (gB D cy ad σ τ)) (cQv D cy ad τ out) 0 0 (gA ad) := by
  refine zstart [.ref (ad 4), .ref (ad 1)] (by decide) rfl hI (Nat.le_of_ble_eq_true rfl) ?_
  intro p e s m below meth c Z hr hlk hP ls hl
  have hx := Z.x
  have hb := Z.b
  generalize hargs : ([.ref (ad 4), .ref (ad 1)] : List Value).toArray = args
  have hl : lv_has ls 3 [(0, .ref (ad 4)), (1, .ref (ad 1))] := hl
  have hS : va_S (gA ad) s.heap s.heap [] := va_S.rf
  unfold m_X4_begin at h
  refine lv_aload_n hx hb dX4_begin_0 rfl (lv_at hl 0 rfl) ?_
  refine lv_iconst (v := 0) hx hb dX4_begin_1 (by decide) ?_
  refine fp_4_0 Z hP hS wF_X4_11 dX4_begin_2 (fun H locs hP hS => ?_)
  refine lv_aload_n hx hb dX4_begin_5 rfl (lv_at hl 0 rfl) ?_
  refine lv_iconst (v := 0) hx hb dX4_begin_6 (by decide) ?_
  refine fp_4_1 Z hP hS wF_X4_15 dX4_begin_7 (fun H locs hP hS => ?_)
  refine lv_aload_n hx hb dX4_begin_10 rfl (lv_at hl 0 rfl) ?_
  refine lv_iconst (v := 0) hx hb dX4_begin_11 (by decide) ?_
  refine fp_4_2 Z hP hS wF_X4_18 dX4_begin_12 (fun H locs hP hS => ?_)
  refine lv_aload_n hx hb dX4_begin_15 rfl (lv_at hl 0 rfl) ?_
  refine lv_iconst (v := 0) hx hb dX4_begin_16 (by decide) ?_
  refine fp_4_3 Z hP hS wF_X4_21 dX4_begin_17 (fun H locs hP hS => ?_)
  refine lv_iconst (v := 0) hx hb dX4_begin_20 (by decide) ?_
  refine lv_istore_n (lv' := [(2, .int 0), (0, .ref (ad 4)), (1, .ref (ad 1))]) hx hb dX4_begin_21 rfl hl (by decide) rfl (fun ls hl => ?_)
  obtain ⟨y5, hy5, h⟩ := bd h
  refine w_X4_begin_L22 Z hr hlk hRf hRl out FU 0 ((sg (sg (sg (sg σ 14 0) 15 0) 16 0) 17 0)) y5 hy5 _ _ hP hS _ (lv_sub hl [1, 2, 0] rfl) (fun H locs hP hS ls hl => ?_)
  exact zcv Z hP hS hr hlk h dX4_begin_52
def m_X4_isOn (σ : Sx) (x1 : Int32) : Option (Int32) :=
  if (((σ.1 15) >>> (x1 &&& 31)) &&& 1) = 1 then (some 1) else (some 0)
set_option maxHeartbeats 4000000 in
set_option maxRecDepth 100000 in
theorem c_X4_isOn {l : Launch} {D : va_G} {cy : Nat → ClassId} {ad : Nat → Nat} {σ τ : Sx} {R : Room} (hI : gInj ad) (hRf : 0 ≤ R.frames) (hRl : 0 ≤ R.locals) {x1 : Int32} {out : Int32} (h : m_X4_isOn σ x1 = some out) : Met l yX4_isOn [Cond.code yX4_isOn cX4_isOn 2 (some .boolean)] R (va_Pc [.ref (ad 4), .int x1] (gB D cy ad σ τ)) (rQi out) 0 0 noA := by
  refine zstart [.ref (ad 4), .int x1] (by decide) rfl hI (Nat.le_of_ble_eq_true rfl) ?_
  intro p e s m below meth c Z hr hlk hP ls hl
  have hx := Z.x
  have hb := Z.b
  generalize hargs : ([.ref (ad 4), .int x1] : List Value).toArray = args
  have hl : lv_has ls 2 [(0, .ref (ad 4)), (1, .int x1)] := hl
  unfold m_X4_isOn at h
  refine lv_aload_n hx hb dX4_isOn_0 rfl (lv_at hl 0 rfl) ?_
  refine fg_4_1 Z hP wF_X4_15 dX4_isOn_1 ?_
  refine lv_iload_n hx hb dX4_isOn_4 rfl (lv_at hl 1 rfl) ?_
  refine lv_ishr hx hb dX4_isOn_5 ?_
  refine lv_iconst (v := 1) hx hb dX4_isOn_6 (by decide) ?_
  refine lv_iand hx hb dX4_isOn_7 ?_
  refine lv_iconst (v := 1) hx hb dX4_isOn_8 (by decide) ?_
  refine lv_icmp_ne (tgt := 16) hx hb dX4_isOn_9 (by decide) (fun c1 => ?_) (fun c1 => ?_)
  · rw [if_neg c1] at h
    refine lv_iconst (v := 0) hx hb dX4_isOn_16 (by decide) ?_
    exact zrzc Z hr hlk (Or.inl rfl) h dX4_isOn_17
  · rw [if_pos c1] at h
    refine lv_iconst (v := 1) hx hb dX4_isOn_12 (by decide) ?_
    refine lv_goto (tgt := 17) hx hb dX4_isOn_13 (by decide) ?_
    exact zrzc Z hr hlk (Or.inr rfl) h dX4_isOn_17
def m_X4_goOn_L19  : Nat → Int32 → Int32 → Sx → Option (Sx)
  | 0, _, _, _ => none
  | n + 1, x2, x3, σ =>
  if (σ.1 0) ≤ x3 then (some σ) else ((ldA cLn σ 17 x3).bind (fun v4 => (m_X10_missedAt σ ((σ.1 14)) x3 v4).bind (fun v5 => (ldA cLn ((sg σ 17 (((σ.1 17) + v5)))) 17 x3).bind (fun v6 => (m_X4_isOn ((sg σ 17 (((σ.1 17) + v5)))) x3).bind (fun v7 => (m_X10_levelBehind ((sg σ 17 (((σ.1 17) + v5)))) ((((sg σ 17 (((σ.1 17) + v5)))).1 14)) x3 v6 v7).bind (fun v8 => (stA cLn ((sg σ 17 (((σ.1 17) + v5)))) 17 x3 v8).bind (fun q9 => if x2 = 0 then (m_X4_goOn_L19 n x2 ((x3 + 1)) q9) else ((m_X4_isOn q9 x3).bind (fun v11 => if v11 = 0 then (m_X4_goOn_L19 n x2 ((x3 + 1)) q9) else ((ldA cLn q9 18 x3).bind (fun v13 => (stA cLn q9 18 x3 ((v13 + 1))).bind (fun q14 => m_X4_goOn_L19 n x2 ((x3 + 1)) q14))))))))))))
def m_X4_goOn_J16 (s0 : Int32) (σ : Sx) : Option (Sx) :=
  (m_X4_goOn_L19 FU s0 0 σ).bind (fun y15 => some ((sg y15 14 (((y15.1 14) + 1)))))
def m_X4_goOn (σ : Sx) : Option (Sx) :=
  (m_X10_isDark σ ((σ.1 14))).bind (fun v1 => if v1 = 0 then (m_X4_goOn_J16 1 σ) else (m_X4_goOn_J16 0 σ))
set_option maxHeartbeats 4000000 in
set_option maxRecDepth 100000 in
theorem w_X4_goOn_L19 {l : Launch} {D : va_G} {cy : Nat → ClassId} {ad : Nat → Nat} {τ : Sx} {p : Program} {e : Env} {R : Room} {s : State} {m : MethodId} {args : Array Value} {below : List Frame} {meth : Method} {c : Code} (Z : Zc p s m c cX4_goOn 4 RX4 D cy ad) (hr : meth.sig.returnType = none) (hlk : meth.locks = false) (hRf : 3 ≤ R.frames) (hRl : 73 ≤ R.locals) (out : Sx) : ∀ (n : Nat) (x2 : Int32) (x3 : Int32) (σ : Sx) (res : Sx), m_X4_goOn_L19 n x2 x3 σ = some res → ∀ (H : Heap) (locs : List Loc), va_P D vwCl (gW cy ad σ τ) H → va_S (gA ad) s.heap H locs → ∀ ls : Array Slot, lv_has ls 4 [(0, .ref (ad 4)), (1, .ref (ad 1)), (2, .int x2), (3, .int x3)] → (∀ (H : Heap) (locs : List Loc), va_P D vwCl (gW cy ad res τ) H → va_S (gA ad) s.heap H locs → ∀ ls : Array Slot, lv_has ls 4 [(0, .ref (ad 4))] → W p l e R s m args below meth c H locs 0 0 (MQ below (cQv D cy ad τ out) args s 0 0 (gA ad)) (F0 m 105 ls [])) → W p l e R s m args below meth c H locs 0 0 (MQ below (cQv D cy ad τ out) args s 0 0 (gA ad)) (F0 m 19 ls []) := by
  have hx := Z.x
  have hb := Z.b
  intro n
  induction n with
  | zero => intro x2 x3 σ res h; cases h
  | succ n ih =>
    intro x2 x3 σ res h H locs hP hS ls hl kx
    rw [m_X4_goOn_L19] at h
    refine lv_iload_n hx hb dX4_goOn_19 rfl (lv_at hl 3 rfl) ?_
    refine lv_aload_n hx hb dX4_goOn_20 rfl (lv_at hl 1 rfl) ?_
    refine fg_1_0 Z hP wF_X4_38 dX4_goOn_21 ?_
    refine lv_icmp_ge (tgt := 105) hx hb dX4_goOn_24 (by decide) (fun c3 => ?_) (fun c3 => ?_)
    · rw [if_pos c3] at h
      obtain rfl := Option.some.inj h
      exact kx _ _ hP hS _ (lv_sub hl [0] rfl)
    · rw [if_neg c3] at h
      refine lv_aload_n hx hb dX4_goOn_27 rfl (lv_at hl 0 rfl) ?_
      refine lv_dup hx hb dX4_goOn_28 rfl ?_
      refine fg_4_3 Z hP wF_X4_21 dX4_goOn_29 ?_
      refine lv_aload_n hx hb dX4_goOn_32 rfl (lv_at hl 1 rfl) ?_
      refine lv_aload_n hx hb dX4_goOn_33 rfl (lv_at hl 0 rfl) ?_
      refine fg_4_0 Z hP wF_X4_11 dX4_goOn_34 ?_
      refine lv_iload_n hx hb dX4_goOn_37 rfl (lv_at hl 3 rfl) ?_
      refine lv_aload_n hx hb dX4_goOn_38 rfl (lv_at hl 0 rfl) ?_
      refine fg_4_4 Z hP wF_X4_24 dX4_goOn_39 ?_
      refine lv_iload_n hx hb dX4_goOn_42 rfl (lv_at hl 3 rfl) ?_
      obtain ⟨v4, hv4, h⟩ := bd h
      refine zc_ld (j := 17) Z hP hv4 dX4_goOn_43 ?_
      obtain ⟨v5, hv5, h⟩ := bd h
      refine zqi (zrunV Z hP (As := [.int (σ.1 14), .int x3, .int v4]) (rest := [.int (σ.1 17), .ref (ad 4)]) (c_X10_missedAt (R := { frames := 1, cells := 0, slots := 0, locals := 23 }) Z.i (Nat.le_refl _) (Nat.le_refl _) hv5) cV_X4_41 rfl rfl ⟨(Nat.le_trans (Nat.le_of_ble_eq_true rfl) hRf), (Nat.le_trans (Nat.le_of_ble_eq_true rfl) hRl)⟩ 1 (gW_o rfl) rfl rfl rfl hl.1 rfl (Nat.le_of_ble_eq_true rfl) dX4_goOn_44 ⟨Nat.zero_le _, Nat.zero_le _⟩) ?_
      refine lv_iadd hx hb dX4_goOn_47 ?_
      refine fp_4_3 Z hP hS wF_X4_21 dX4_goOn_48 (fun H locs hP hS => ?_)
      refine lv_aload_n hx hb dX4_goOn_51 rfl (lv_at hl 0 rfl) ?_
      refine fg_4_4 Z hP wF_X4_24 dX4_goOn_52 ?_
      refine lv_iload_n hx hb dX4_goOn_55 rfl (lv_at hl 3 rfl) ?_
      refine lv_aload_n hx hb dX4_goOn_56 rfl (lv_at hl 1 rfl) ?_
      refine lv_aload_n hx hb dX4_goOn_57 rfl (lv_at hl 0 rfl) ?_
      refine fg_4_0 Z hP wF_X4_11 dX4_goOn_58 ?_
      refine lv_iload_n hx hb dX4_goOn_61 rfl (lv_at hl 3 rfl) ?_
      refine lv_aload_n hx hb dX4_goOn_62 rfl (lv_at hl 0 rfl) ?_
      refine fg_4_4 Z hP wF_X4_24 dX4_goOn_63 ?_
      refine lv_iload_n hx hb dX4_goOn_66 rfl (lv_at hl 3 rfl) ?_
      obtain ⟨v6, hv6, h⟩ := bd h
      refine zc_ld (j := 17) Z hP hv6 dX4_goOn_67 ?_
      refine lv_aload_n hx hb dX4_goOn_68 rfl (lv_at hl 0 rfl) ?_
      refine lv_iload_n hx hb dX4_goOn_69 rfl (lv_at hl 3 rfl) ?_
      obtain ⟨v7, hv7, h⟩ := bd h
      refine zqi (zrunV Z hP (As := [.int x3]) (rest := [.int v6, .int x3, .int (((sg σ 17 (((σ.1 17) + v5)))).1 14), .ref (ad 1), .int x3, .ref (ad (19 + 17))]) (c_X4_isOn (R := { frames := 0, cells := 0, slots := 0, locals := 0 }) Z.i (Nat.le_refl _) (Nat.le_refl _) hv7) cV_X4_45 rfl rfl ⟨(Nat.le_trans (Nat.le_of_ble_eq_true rfl) hRf), (Nat.le_trans (Nat.le_of_ble_eq_true rfl) hRl)⟩ 4 (gW_o rfl) rfl rfl rfl hl.1 rfl (Nat.le_of_ble_eq_true rfl) dX4_goOn_70 ⟨Nat.zero_le _, Nat.zero_le _⟩) ?_
      obtain ⟨v8, hv8, h⟩ := bd h
      refine zqi (zrunV Z hP (As := [.int (((sg σ 17 (((σ.1 17) + v5)))).1 14), .int x3, .int v6, .int v7]) (rest := [.int x3, .ref (ad (19 + 17))]) (c_X10_levelBehind (R := { frames := 2, cells := 0, slots := 0, locals := 48 }) Z.i (Nat.le_refl _) (Nat.le_refl _) hv8) cV_X4_48 rfl rfl ⟨(Nat.le_trans (Nat.le_of_ble_eq_true rfl) hRf), (Nat.le_trans (Nat.le_of_ble_eq_true rfl) hRl)⟩ 1 (gW_o rfl) rfl rfl rfl hl.1 rfl (Nat.le_of_ble_eq_true rfl) dX4_goOn_73 ⟨Nat.zero_le _, Nat.zero_le _⟩) ?_
      obtain ⟨q9, hq9, h⟩ := bd h
      refine zc_st (j := 17) Z hP hS hq9 dX4_goOn_76 (fun H locs hP hS => ?_)
      refine lv_iload_n hx hb dX4_goOn_77 rfl (lv_at hl 2 rfl) ?_
      refine lv_if_eq (tgt := 99) hx hb dX4_goOn_78 (by decide) (fun c10 => ?_) (fun c10 => ?_)
      · rw [if_pos c10] at h
        refine lv_iinc (v := (x3 + 1)) (lv' := [(3, .int (x3 + 1)), (0, .ref (ad 4)), (1, .ref (ad 1)), (2, .int x2)]) hx hb dX4_goOn_99 hl (k := 3) rfl rfl (by decide) rfl (fun ls hl => ?_)
        refine lv_goto (tgt := 19) hx hb dX4_goOn_102 (by decide) ?_
        exact ih x2 ((x3 + 1)) q9 _ h _ _ hP hS _ (lv_sub hl [1, 2, 3, 0] rfl) kx
      · rw [if_neg c10] at h
        refine lv_aload_n hx hb dX4_goOn_81 rfl (lv_at hl 0 rfl) ?_
        refine lv_iload_n hx hb dX4_goOn_82 rfl (lv_at hl 3 rfl) ?_
        obtain ⟨v11, hv11, h⟩ := bd h
        refine zqi (zrunV Z hP (As := [.int x3]) (rest := []) (c_X4_isOn (R := { frames := 0, cells := 0, slots := 0, locals := 0 }) Z.i (Nat.le_refl _) (Nat.le_refl _) hv11) cV_X4_45 rfl rfl ⟨(Nat.le_trans (Nat.le_of_ble_eq_true rfl) hRf), (Nat.le_trans (Nat.le_of_ble_eq_true rfl) hRl)⟩ 4 (gW_o rfl) rfl rfl rfl hl.1 rfl (Nat.le_of_ble_eq_true rfl) dX4_goOn_83 ⟨Nat.zero_le _, Nat.zero_le _⟩) ?_
        refine lv_if_eq (tgt := 99) hx hb dX4_goOn_86 (by decide) (fun c12 => ?_) (fun c12 => ?_)
        · rw [if_pos c12] at h
          refine lv_iinc (v := (x3 + 1)) (lv' := [(3, .int (x3 + 1)), (0, .ref (ad 4)), (1, .ref (ad 1)), (2, .int x2)]) hx hb dX4_goOn_99 hl (k := 3) rfl rfl (by decide) rfl (fun ls hl => ?_)
          refine lv_goto (tgt := 19) hx hb dX4_goOn_102 (by decide) ?_
          exact ih x2 ((x3 + 1)) q9 _ h _ _ hP hS _ (lv_sub hl [1, 2, 3, 0] rfl) kx
        · rw [if_neg c12] at h
          refine lv_aload_n hx hb dX4_goOn_89 rfl (lv_at hl 0 rfl) ?_
          refine fg_4_5 Z hP wF_X4_28 dX4_goOn_90 ?_
          refine lv_iload_n hx hb dX4_goOn_93 rfl (lv_at hl 3 rfl) ?_
          refine lv_dup2_11 hx hb dX4_goOn_94 rfl rfl ?_
          obtain ⟨v13, hv13, h⟩ := bd h
          refine zc_ld (j := 18) Z hP hv13 dX4_goOn_95 ?_
          refine lv_iconst (v := 1) hx hb dX4_goOn_96 (by decide) ?_
          refine lv_iadd hx hb dX4_goOn_97 ?_
          obtain ⟨q14, hq14, h⟩ := bd h
          refine zc_st (j := 18) Z hP hS hq14 dX4_goOn_98 (fun H locs hP hS => ?_)
          refine lv_iinc (v := (x3 + 1)) (lv' := [(3, .int (x3 + 1)), (0, .ref (ad 4)), (1, .ref (ad 1)), (2, .int x2)]) hx hb dX4_goOn_99 hl (k := 3) rfl rfl (by decide) rfl (fun ls hl => ?_)
          refine lv_goto (tgt := 19) hx hb dX4_goOn_102 (by decide) ?_
          exact ih x2 ((x3 + 1)) q14 _ h _ _ hP hS _ (lv_sub hl [1, 2, 3, 0] rfl) kx
set_option maxHeartbeats 4000000 in
set_option maxRecDepth 100000 in
theorem c_X4_goOn {l : Launch} {D : va_G} {cy : Nat → ClassId} {ad : Nat → Nat} {σ τ : Sx} {R : Room} (hI : gInj ad) (hRf : 3 ≤ R.frames) (hRl : 73 ≤ R.locals) {out : Sx} (h : m_X4_goOn σ = some out) : Met l yX4_goOn [Cond.code yX4_goOn cX4_goOn 4 none] R (va_Pc [.ref (ad 4), .ref (ad 1)] (gB D cy ad σ τ)) (cQv D cy ad τ out) 0 0 (gA ad) := by
  refine zstart [.ref (ad 4), .ref (ad 1)] (by decide) rfl hI (Nat.le_of_ble_eq_true rfl) ?_
  intro p e s m below meth c Z hr hlk hP ls hl
  have hx := Z.x
  have hb := Z.b
  generalize hargs : ([.ref (ad 4), .ref (ad 1)] : List Value).toArray = args
  have hl : lv_has ls 4 [(0, .ref (ad 4)), (1, .ref (ad 1))] := hl
  have hS : va_S (gA ad) s.heap s.heap [] := va_S.rf
  have J16 : ∀ (s0 : Int32) (σ : Sx), m_X4_goOn_J16 s0 σ = some out → ∀ (H : Heap) (locs : List Loc), va_P D vwCl (gW cy ad σ τ) H → va_S (gA ad) s.heap H locs → ∀ ls : Array Slot, lv_has ls 4 [(0, .ref (ad 4)), (1, .ref (ad 1))] → W p l e R s m args below meth c H locs 0 0 (MQ below (cQv D cy ad τ out) args s 0 0 (gA ad)) (F0 m 16 ls [.int s0]) := by
    intro s0 σ h H locs hP hS ls hl
    unfold m_X4_goOn_J16 at h
    refine lv_istore_n (lv' := [(2, .int s0), (0, .ref (ad 4)), (1, .ref (ad 1))]) hx hb dX4_goOn_16 rfl hl (by decide) rfl (fun ls hl => ?_)
    refine lv_iconst (v := 0) hx hb dX4_goOn_17 (by decide) ?_
    refine lv_istore_n (lv' := [(3, .int 0), (2, .int s0), (0, .ref (ad 4)), (1, .ref (ad 1))]) hx hb dX4_goOn_18 rfl hl (by decide) rfl (fun ls hl => ?_)
    obtain ⟨y15, hy15, h⟩ := bd h
    refine w_X4_goOn_L19 Z hr hlk hRf hRl out FU s0 0 σ y15 hy15 _ _ hP hS _ (lv_sub hl [2, 3, 1, 0] rfl) (fun H locs hP hS ls hl => ?_)
    refine lv_aload_n hx hb dX4_goOn_105 rfl (lv_at hl 0 rfl) ?_
    refine lv_dup hx hb dX4_goOn_106 rfl ?_
    refine fg_4_0 Z hP wF_X4_11 dX4_goOn_107 ?_
    refine lv_iconst (v := 1) hx hb dX4_goOn_110 (by decide) ?_
    refine lv_iadd hx hb dX4_goOn_111 ?_
    refine fp_4_0 Z hP hS wF_X4_11 dX4_goOn_112 (fun H locs hP hS => ?_)
    exact zcv Z hP hS hr hlk h dX4_goOn_115
  unfold m_X4_goOn at h
  refine lv_aload_n hx hb dX4_goOn_0 rfl (lv_at hl 1 rfl) ?_
  refine lv_aload_n hx hb dX4_goOn_1 rfl (lv_at hl 0 rfl) ?_
  refine fg_4_0 Z hP wF_X4_11 dX4_goOn_2 ?_
  obtain ⟨v1, hv1, h⟩ := bd h
  refine zqi (zrunV Z hP (As := [.int (σ.1 14)]) (rest := []) (c_X10_isDark (R := { frames := 0, cells := 0, slots := 0, locals := 0 }) Z.i (Nat.le_refl _) (Nat.le_refl _) hv1) cV_X4_34 rfl rfl ⟨(Nat.le_trans (Nat.le_of_ble_eq_true rfl) hRf), (Nat.le_trans (Nat.le_of_ble_eq_true rfl) hRl)⟩ 1 (gW_o rfl) rfl rfl rfl hl.1 rfl (Nat.le_of_ble_eq_true rfl) dX4_goOn_5 ⟨Nat.zero_le _, Nat.zero_le _⟩) ?_
  refine lv_if_ne (tgt := 15) hx hb dX4_goOn_8 (by decide) (fun c2 => ?_) (fun c2 => ?_)
  · rw [if_neg c2] at h
    refine lv_iconst (v := 0) hx hb dX4_goOn_15 (by decide) ?_
    exact J16 0 σ h _ _ hP hS _ (lv_sub hl [0, 1] rfl)
  · rw [if_pos c2] at h
    refine lv_iconst (v := 1) hx hb dX4_goOn_11 (by decide) ?_
    refine lv_goto (tgt := 16) hx hb dX4_goOn_12 (by decide) ?_
    exact J16 1 σ h _ _ hP hS _ (lv_sub hl [0, 1] rfl)
def m_X4_out_L4 (σ : Sx) : Nat → Int32 → Int32 → Int32 → Option (Int32)
  | 0, _, _, _ => none
  | n + 1, x1, x2, x3 =>
  if x1 ≤ x3 then (some x2) else ((ldA cLn σ 17 x3).bind (fun v2 => if v2 = 0 then (m_X4_out_L4 σ n x1 ((x2 ||| ((1 : Int32) <<< (x3 &&& 31)))) ((x3 + 1))) else (m_X4_out_L4 σ n x1 x2 ((x3 + 1)))))
def m_X4_out (σ : Sx) (x1 : Int32) : Option (Int32) :=
  (m_X4_out_L4 σ FU x1 0 0).bind (fun y4 => some y4)
set_option maxHeartbeats 4000000 in
set_option maxRecDepth 100000 in
theorem w_X4_out_L4 {l : Launch} {D : va_G} {cy : Nat → ClassId} {ad : Nat → Nat} {σ τ : Sx} {p : Program} {e : Env} {R : Room} {s : State} {m : MethodId} {args : Array Value} {below : List Frame} {meth : Method} {c : Code} (Z : Zc p s m c cX4_out 4 RX4 D cy ad) (hP : va_P D vwCl (gW cy ad σ τ) s.heap) (hr : meth.sig.returnType = (some .int)) (hlk : meth.locks = false) (hRf : 0 ≤ R.frames) (hRl : 0 ≤ R.locals) (out : Int32) : ∀ (n : Nat) (x1 : Int32) (x2 : Int32) (x3 : Int32) (res : Int32), m_X4_out_L4 σ n x1 x2 x3 = some res → ∀ ls : Array Slot, lv_has ls 4 [(0, .ref (ad 4)), (1, .int x1), (2, .int x2), (3, .int x3)] → (∀ ls : Array Slot, lv_has ls 4 [(2, .int res)] → W p l e R s m args below meth c s.heap [] 0 0 (MQ below (rQi out) args s 0 0 noA) (F0 m 30 ls [])) → W p l e R s m args below meth c s.heap [] 0 0 (MQ below (rQi out) args s 0 0 noA) (F0 m 4 ls []) := by
  have hx := Z.x
  have hb := Z.b
  intro n
  induction n with
  | zero => intro x1 x2 x3 res h; cases h
  | succ n ih =>
    intro x1 x2 x3 res h ls hl kx
    rw [m_X4_out_L4] at h
    refine lv_iload_n hx hb dX4_out_4 rfl (lv_at hl 3 rfl) ?_
    refine lv_iload_n hx hb dX4_out_5 rfl (lv_at hl 1 rfl) ?_
    refine lv_icmp_ge (tgt := 30) hx hb dX4_out_6 (by decide) (fun c1 => ?_) (fun c1 => ?_)
    · rw [if_pos c1] at h
      obtain rfl := Option.some.inj h
      exact kx _ (lv_sub hl [2] rfl)
    · rw [if_neg c1] at h
      refine lv_aload_n hx hb dX4_out_9 rfl (lv_at hl 0 rfl) ?_
      refine fg_4_4 Z hP wF_X4_24 dX4_out_10 ?_
      refine lv_iload_n hx hb dX4_out_13 rfl (lv_at hl 3 rfl) ?_
      obtain ⟨v2, hv2, h⟩ := bd h
      refine zc_ld (j := 17) Z hP hv2 dX4_out_14 ?_
      refine lv_if_ne (tgt := 24) hx hb dX4_out_15 (by decide) (fun c3 => ?_) (fun c3 => ?_)
      · rw [if_neg c3] at h
        refine lv_iinc (v := (x3 + 1)) (lv' := [(3, .int (x3 + 1)), (0, .ref (ad 4)), (1, .int x1), (2, .int x2)]) hx hb dX4_out_24 hl (k := 3) rfl rfl (by decide) rfl (fun ls hl => ?_)
        refine lv_goto (tgt := 4) hx hb dX4_out_27 (by decide) ?_
        exact ih x1 x2 ((x3 + 1)) _ h _ (lv_sub hl [1, 2, 3, 0] rfl) kx
      · rw [if_pos c3] at h
        refine lv_iload_n hx hb dX4_out_18 rfl (lv_at hl 2 rfl) ?_
        refine lv_iconst (v := 1) hx hb dX4_out_19 (by decide) ?_
        refine lv_iload_n hx hb dX4_out_20 rfl (lv_at hl 3 rfl) ?_
        refine lv_ishl hx hb dX4_out_21 ?_
        refine lv_ior hx hb dX4_out_22 ?_
        refine lv_istore_n (lv' := [(2, .int (x2 ||| ((1 : Int32) <<< (x3 &&& 31)))), (0, .ref (ad 4)), (1, .int x1), (3, .int x3)]) hx hb dX4_out_23 rfl hl (by decide) rfl (fun ls hl => ?_)
        refine lv_iinc (v := (x3 + 1)) (lv' := [(3, .int (x3 + 1)), (2, .int (x2 ||| ((1 : Int32) <<< (x3 &&& 31)))), (0, .ref (ad 4)), (1, .int x1)]) hx hb dX4_out_24 hl (k := 3) rfl rfl (by decide) rfl (fun ls hl => ?_)
        refine lv_goto (tgt := 4) hx hb dX4_out_27 (by decide) ?_
        exact ih x1 ((x2 ||| ((1 : Int32) <<< (x3 &&& 31)))) ((x3 + 1)) _ h _ (lv_sub hl [2, 3, 1, 0] rfl) kx
set_option maxHeartbeats 4000000 in
set_option maxRecDepth 100000 in
theorem c_X4_out {l : Launch} {D : va_G} {cy : Nat → ClassId} {ad : Nat → Nat} {σ τ : Sx} {R : Room} (hI : gInj ad) (hRf : 0 ≤ R.frames) (hRl : 0 ≤ R.locals) {x1 : Int32} {out : Int32} (h : m_X4_out σ x1 = some out) : Met l yX4_out [Cond.code yX4_out cX4_out 4 (some .int)] R (va_Pc [.ref (ad 4), .int x1] (gB D cy ad σ τ)) (rQi out) 0 0 noA := by
  refine zstart [.ref (ad 4), .int x1] (by decide) rfl hI (Nat.le_of_ble_eq_true rfl) ?_
  intro p e s m below meth c Z hr hlk hP ls hl
  have hx := Z.x
  have hb := Z.b
  generalize hargs : ([.ref (ad 4), .int x1] : List Value).toArray = args
  have hl : lv_has ls 4 [(0, .ref (ad 4)), (1, .int x1)] := hl
  unfold m_X4_out at h
  refine lv_iconst (v := 0) hx hb dX4_out_0 (by decide) ?_
  refine lv_istore_n (lv' := [(2, .int 0), (0, .ref (ad 4)), (1, .int x1)]) hx hb dX4_out_1 rfl hl (by decide) rfl (fun ls hl => ?_)
  refine lv_iconst (v := 0) hx hb dX4_out_2 (by decide) ?_
  refine lv_istore_n (lv' := [(3, .int 0), (2, .int 0), (0, .ref (ad 4)), (1, .int x1)]) hx hb dX4_out_3 rfl hl (by decide) rfl (fun ls hl => ?_)
  obtain ⟨y4, hy4, h⟩ := bd h
  refine w_X4_out_L4 Z hP hr hlk hRf hRl out FU x1 0 0 y4 hy4 _ (lv_sub hl [2, 3, 1, 0] rfl) (fun ls hl => ?_)
  refine lv_iload_n hx hb dX4_out_30 rfl (lv_at hl 0 rfl) ?_
  exact zri Z hr hlk h dX4_out_31
def m_X4_fair_L20 (σ : Sx) : Nat → Int32 → Int32 → Int32 → Int32 → Option (Int32 × Int32)
  | 0, _, _, _, _ => none
  | n + 1, x1, x2, x3, x4 =>
  if x1 ≤ x4 then (some ((x2, x3))) else ((ldA cLn σ 18 x4).bind (fun v4 => (ldA cLn σ 18 x4).bind (fun v5 => m_X4_fair_L20 σ n x1 ((if x2 < v4 then v4 else x2)) ((if v5 < x3 then v5 else x3)) ((x4 + 1)))))
def m_X4_fair_J16 (σ : Sx) (x1 : Int32) (x2 : Int32) (s0 : Int32) : Option (Int32) :=
  (m_X4_fair_L20 σ FU x1 x2 s0 0).bind (fun y6 => some ((y6.1 - y6.2)))
def m_X4_fair (σ : Sx) (x1 : Int32) : Option (Int32) :=
  if x1 = 0 then (m_X4_fair_J16 σ x1 0 0) else ((ldA cLn σ 18 0).bind (fun v2 => m_X4_fair_J16 σ x1 0 v2))
set_option maxHeartbeats 4000000 in
set_option maxRecDepth 100000 in
theorem w_X4_fair_L20 {l : Launch} {D : va_G} {cy : Nat → ClassId} {ad : Nat → Nat} {σ τ : Sx} {p : Program} {e : Env} {R : Room} {s : State} {m : MethodId} {args : Array Value} {below : List Frame} {meth : Method} {c : Code} (Z : Zc p s m c cX4_fair 5 RX4 D cy ad) (hP : va_P D vwCl (gW cy ad σ τ) s.heap) (hr : meth.sig.returnType = (some .int)) (hlk : meth.locks = false) (hRf : 1 ≤ R.frames) (hRl : 13 ≤ R.locals) (out : Int32) : ∀ (n : Nat) (x1 : Int32) (x2 : Int32) (x3 : Int32) (x4 : Int32) (res : Int32 × Int32), m_X4_fair_L20 σ n x1 x2 x3 x4 = some res → ∀ ls : Array Slot, lv_has ls 5 [(0, .ref (ad 4)), (1, .int x1), (2, .int x2), (3, .int x3), (4, .int x4)] → (∀ ls : Array Slot, lv_has ls 5 [(2, .int res.1), (3, .int res.2)] → W p l e R s m args below meth c s.heap [] 0 0 (MQ below (rQi out) args s 0 0 noA) (F0 m 56 ls [])) → W p l e R s m args below meth c s.heap [] 0 0 (MQ below (rQi out) args s 0 0 noA) (F0 m 20 ls []) := by
  have hx := Z.x
  have hb := Z.b
  intro n
  induction n with
  | zero => intro x1 x2 x3 x4 res h; cases h
  | succ n ih =>
    intro x1 x2 x3 x4 res h ls hl kx
    rw [m_X4_fair_L20] at h
    refine lv_iload hx hb dX4_fair_20 (lv_at hl 4 rfl) ?_
    refine lv_iload_n hx hb dX4_fair_22 rfl (lv_at hl 1 rfl) ?_
    refine lv_icmp_ge (tgt := 56) hx hb dX4_fair_23 (by decide) (fun c3 => ?_) (fun c3 => ?_)
    · rw [if_pos c3] at h
      obtain rfl := Option.some.inj h
      exact kx _ (lv_sub hl [2, 3] rfl)
    · rw [if_neg c3] at h
      refine lv_iload_n hx hb dX4_fair_26 rfl (lv_at hl 2 rfl) ?_
      refine lv_aload_n hx hb dX4_fair_27 rfl (lv_at hl 0 rfl) ?_
      refine fg_4_5 Z hP wF_X4_28 dX4_fair_28 ?_
      refine lv_iload hx hb dX4_fair_31 (lv_at hl 4 rfl) ?_
      obtain ⟨v4, hv4, h⟩ := bd h
      refine zc_ld (j := 18) Z hP hv4 dX4_fair_33 ?_
      refine va_mmax (rest := []) hx hb (Z.ml.trans hl.1.symm) Z.o (Z.t _ wA_X4_52 rfl _) (Z.t _ wM_max1 rfl _) (Z.t _ wM_i rfl _) (Z.t _ wM_max2 rfl _) (Nat.le_trans (Nat.le_of_ble_eq_true rfl) hRf) (Nat.le_trans (Nat.le_of_ble_eq_true rfl) hRl) (Nat.zero_le _) (Nat.zero_le _) dX4_fair_34 ?_
      refine lv_istore_n (lv' := [(2, .int (if x2 < v4 then v4 else x2)), (0, .ref (ad 4)), (1, .int x1), (3, .int x3), (4, .int x4)]) hx hb dX4_fair_37 rfl hl (by decide) rfl (fun ls hl => ?_)
      refine lv_iload_n hx hb dX4_fair_38 rfl (lv_at hl 3 rfl) ?_
      refine lv_aload_n hx hb dX4_fair_39 rfl (lv_at hl 1 rfl) ?_
      refine fg_4_5 Z hP wF_X4_28 dX4_fair_40 ?_
      refine lv_iload hx hb dX4_fair_43 (lv_at hl 4 rfl) ?_
      obtain ⟨v5, hv5, h⟩ := bd h
      refine zc_ld (j := 18) Z hP hv5 dX4_fair_45 ?_
      refine va_mmin (rest := []) hx hb (Z.ml.trans hl.1.symm) Z.o (Z.t _ wA_X4_58 rfl _) (Z.t _ wM_min1 rfl _) (Z.t _ wM_i rfl _) (Z.t _ wM_min2 rfl _) (Nat.le_trans (Nat.le_of_ble_eq_true rfl) hRf) (Nat.le_trans (Nat.le_of_ble_eq_true rfl) hRl) (Nat.zero_le _) (Nat.zero_le _) dX4_fair_46 ?_
      refine lv_istore_n (lv' := [(3, .int (if v5 < x3 then v5 else x3)), (2, .int (if x2 < v4 then v4 else x2)), (0, .ref (ad 4)), (1, .int x1), (4, .int x4)]) hx hb dX4_fair_49 rfl hl (by decide) rfl (fun ls hl => ?_)
      refine lv_iinc (v := (x4 + 1)) (lv' := [(4, .int (x4 + 1)), (3, .int (if v5 < x3 then v5 else x3)), (2, .int (if x2 < v4 then v4 else x2)), (0, .ref (ad 4)), (1, .int x1)]) hx hb dX4_fair_50 hl (k := 4) rfl rfl (by decide) rfl (fun ls hl => ?_)
      refine lv_goto (tgt := 20) hx hb dX4_fair_53 (by decide) ?_
      exact ih x1 ((if x2 < v4 then v4 else x2)) ((if v5 < x3 then v5 else x3)) ((x4 + 1)) _ h _ (lv_sub hl [3, 4, 2, 1, 0] rfl) kx
set_option maxHeartbeats 4000000 in
set_option maxRecDepth 100000 in
theorem c_X4_fair {l : Launch} {D : va_G} {cy : Nat → ClassId} {ad : Nat → Nat} {σ τ : Sx} {R : Room} (hI : gInj ad) (hRf : 1 ≤ R.frames) (hRl : 13 ≤ R.locals) {x1 : Int32} {out : Int32} (h : m_X4_fair σ x1 = some out) : Met l yX4_fair [Cond.code yX4_fair cX4_fair 5 (some .int)] R (va_Pc [.ref (ad 4), .int x1] (gB D cy ad σ τ)) (rQi out) 0 0 noA := by
  refine zstart [.ref (ad 4), .int x1] (by decide) rfl hI (Nat.le_of_ble_eq_true rfl) ?_
  intro p e s m below meth c Z hr hlk hP ls hl
  have hx := Z.x
  have hb := Z.b
  generalize hargs : ([.ref (ad 4), .int x1] : List Value).toArray = args
  have hl : lv_has ls 5 [(0, .ref (ad 4)), (1, .int x1)] := hl
  have J16 : ∀ (x1 : Int32) (x2 : Int32) (s0 : Int32), m_X4_fair_J16 σ x1 x2 s0 = some out → ∀ ls : Array Slot, lv_has ls 5 [(0, .ref (ad 4)), (1, .int x1), (2, .int x2)] → W p l e R s m args below meth c s.heap [] 0 0 (MQ below (rQi out) args s 0 0 noA) (F0 m 16 ls [.int s0]) := by
    intro x1 x2 s0 h ls hl
    unfold m_X4_fair_J16 at h
    refine lv_istore_n (lv' := [(3, .int s0), (0, .ref (ad 4)), (1, .int x1), (2, .int x2)]) hx hb dX4_fair_16 rfl hl (by decide) rfl (fun ls hl => ?_)
    refine lv_iconst (v := 0) hx hb dX4_fair_17 (by decide) ?_
    refine lv_istore (lv' := [(4, .int 0), (3, .int s0), (0, .ref (ad 4)), (1, .int x1), (2, .int x2)]) hx hb dX4_fair_18 hl (by decide) rfl (fun ls hl => ?_)
    obtain ⟨y6, hy6, h⟩ := bd h
    refine w_X4_fair_L20 Z hP hr hlk hRf hRl out FU x1 x2 s0 0 y6 hy6 _ (lv_sub hl [2, 3, 4, 1, 0] rfl) (fun ls hl => ?_)
    refine lv_iload_n hx hb dX4_fair_56 rfl (lv_at hl 0 rfl) ?_
    refine lv_iload_n hx hb dX4_fair_57 rfl (lv_at hl 1 rfl) ?_
    refine lv_isub hx hb dX4_fair_58 ?_
    exact zri Z hr hlk h dX4_fair_59
  unfold m_X4_fair at h
  refine lv_iconst (v := 0) hx hb dX4_fair_0 (by decide) ?_
  refine lv_istore_n (lv' := [(2, .int 0), (0, .ref (ad 4)), (1, .int x1)]) hx hb dX4_fair_1 rfl hl (by decide) rfl (fun ls hl => ?_)
  refine lv_iload_n hx hb dX4_fair_2 rfl (lv_at hl 2 rfl) ?_
  refine lv_if_ne (tgt := 10) hx hb dX4_fair_3 (by decide) (fun c1 => ?_) (fun c1 => ?_)
  · rw [if_neg c1] at h
    refine lv_aload_n hx hb dX4_fair_10 rfl (lv_at hl 1 rfl) ?_
    refine fg_4_5 Z hP wF_X4_28 dX4_fair_11 ?_
    refine lv_iconst (v := 0) hx hb dX4_fair_14 (by decide) ?_
    obtain ⟨v2, hv2, h⟩ := bd h
    refine zc_ld (j := 18) Z hP hv2 dX4_fair_15 ?_
    exact J16 x1 0 v2 h _ (lv_sub hl [1, 2, 0] rfl)
  · rw [if_pos c1] at h
    refine lv_iconst (v := 0) hx hb dX4_fair_6 (by decide) ?_
    refine lv_goto (tgt := 16) hx hb dX4_fair_7 (by decide) ?_
    exact J16 x1 0 0 h _ (lv_sub hl [1, 2, 0] rfl)
def m_X4_leans_J43 (rec : Int32 → Int32 → Int32 → Int32 → Option (Int32 × Int32)) (σ : Sx) (x1 : Int32) (x3 : Int32) (x4 : Int32) (s0 : Int32) : Option (Int32 × Int32) :=
  (ldA cLn σ 17 x4).bind (fun v6 => (ldA cLn σ 17 x3).bind (fun v7 => if v7 ≤ v6 then (rec x1 s0 x3 ((x4 + 1))) else (rec x1 s0 x4 ((x4 + 1)))))
def m_X4_leans_L15 (σ : Sx) : Nat → Int32 → Int32 → Int32 → Int32 → Option (Int32 × Int32)
  | 0, _, _, _, _ => none
  | n + 1, x1, x2, x3, x4 =>
  if x1 ≤ x4 then (some ((x2, x3))) else ((ldA cLn σ 17 x4).bind (fun v3 => (ldA cLn σ 17 x2).bind (fun v4 => if v3 ≤ v4 then (m_X4_leans_J43 (m_X4_leans_L15 σ n) σ x1 x3 x4 x2) else (m_X4_leans_J43 (m_X4_leans_L15 σ n) σ x1 x3 x4 x4))))
def m_X4_leans (σ : Sx) (x1 : Int32) : Option (Int32) :=
  if 2 ≤ x1 then ((m_X4_leans_L15 σ FU x1 0 0 1).bind (fun y9 => some (((10 * y9.1) + y9.2)))) else (some ((-9)))
set_option maxHeartbeats 4000000 in
set_option maxRecDepth 100000 in
theorem w_X4_leans_L15 {l : Launch} {D : va_G} {cy : Nat → ClassId} {ad : Nat → Nat} {σ τ : Sx} {p : Program} {e : Env} {R : Room} {s : State} {m : MethodId} {args : Array Value} {below : List Frame} {meth : Method} {c : Code} (Z : Zc p s m c cX4_leans 5 RX4 D cy ad) (hP : va_P D vwCl (gW cy ad σ τ) s.heap) (hr : meth.sig.returnType = (some .int)) (hlk : meth.locks = false) (hRf : 0 ≤ R.frames) (hRl : 0 ≤ R.locals) (out : Int32) : ∀ (n : Nat) (x1 : Int32) (x2 : Int32) (x3 : Int32) (x4 : Int32) (res : Int32 × Int32), m_X4_leans_L15 σ n x1 x2 x3 x4 = some res → ∀ ls : Array Slot, lv_has ls 5 [(0, .ref (ad 4)), (1, .int x1), (2, .int x2), (3, .int x3), (4, .int x4)] → (∀ ls : Array Slot, lv_has ls 5 [(2, .int res.1), (3, .int res.2)] → W p l e R s m args below meth c s.heap [] 0 0 (MQ below (rQi out) args s 0 0 noA) (F0 m 73 ls [])) → W p l e R s m args below meth c s.heap [] 0 0 (MQ below (rQi out) args s 0 0 noA) (F0 m 15 ls []) := by
  have hx := Z.x
  have hb := Z.b
  intro n
  induction n with
  | zero => intro x1 x2 x3 x4 res h; cases h
  | succ n ih =>
    intro x1 x2 x3 x4 res h ls hl kx
    have J43 : ∀ (x1 : Int32) (x3 : Int32) (x4 : Int32) (s0 : Int32), m_X4_leans_J43 (m_X4_leans_L15 σ n) σ x1 x3 x4 s0 = some res → ∀ ls : Array Slot, lv_has ls 5 [(0, .ref (ad 4)), (1, .int x1), (3, .int x3), (4, .int x4)] → W p l e R s m args below meth c s.heap [] 0 0 (MQ below (rQi out) args s 0 0 noA) (F0 m 43 ls [.int s0]) := by
      intro x1 x3 x4 s0 h ls hl
      unfold m_X4_leans_J43 at h
      refine lv_istore_n (lv' := [(2, .int s0), (0, .ref (ad 4)), (1, .int x1), (3, .int x3), (4, .int x4)]) hx hb dX4_leans_43 rfl hl (by decide) rfl (fun ls hl => ?_)
      refine lv_aload_n hx hb dX4_leans_44 rfl (lv_at hl 1 rfl) ?_
      refine fg_4_4 Z hP wF_X4_24 dX4_leans_45 ?_
      refine lv_iload hx hb dX4_leans_48 (lv_at hl 4 rfl) ?_
      obtain ⟨v6, hv6, h⟩ := bd h
      refine zc_ld (j := 17) Z hP hv6 dX4_leans_50 ?_
      refine lv_aload_n hx hb dX4_leans_51 rfl (lv_at hl 1 rfl) ?_
      refine fg_4_4 Z hP wF_X4_24 dX4_leans_52 ?_
      refine lv_iload_n hx hb dX4_leans_55 rfl (lv_at hl 3 rfl) ?_
      obtain ⟨v7, hv7, h⟩ := bd h
      refine zc_ld (j := 17) Z hP hv7 dX4_leans_56 ?_
      refine lv_icmp_ge (tgt := 65) hx hb dX4_leans_57 (by decide) (fun c8 => ?_) (fun c8 => ?_)
      · rw [if_pos c8] at h
        refine lv_iload_n hx hb dX4_leans_65 rfl (lv_at hl 3 rfl) ?_
        refine lv_istore_n (lv' := [(3, .int x3), (2, .int s0), (0, .ref (ad 4)), (1, .int x1), (4, .int x4)]) hx hb dX4_leans_66 rfl hl (by decide) rfl (fun ls hl => ?_)
        refine lv_iinc (v := (x4 + 1)) (lv' := [(4, .int (x4 + 1)), (3, .int x3), (2, .int s0), (0, .ref (ad 4)), (1, .int x1)]) hx hb dX4_leans_67 hl (k := 4) rfl rfl (by decide) rfl (fun ls hl => ?_)
        refine lv_goto (tgt := 15) hx hb dX4_leans_70 (by decide) ?_
        exact ih x1 s0 x3 ((x4 + 1)) _ h _ (lv_sub hl [3, 4, 2, 1, 0] rfl) kx
      · rw [if_neg c8] at h
        refine lv_iload hx hb dX4_leans_60 (lv_at hl 4 rfl) ?_
        refine lv_goto (tgt := 66) hx hb dX4_leans_62 (by decide) ?_
        refine lv_istore_n (lv' := [(3, .int x4), (2, .int s0), (0, .ref (ad 4)), (1, .int x1), (4, .int x4)]) hx hb dX4_leans_66 rfl hl (by decide) rfl (fun ls hl => ?_)
        refine lv_iinc (v := (x4 + 1)) (lv' := [(4, .int (x4 + 1)), (3, .int x4), (2, .int s0), (0, .ref (ad 4)), (1, .int x1)]) hx hb dX4_leans_67 hl (k := 4) rfl rfl (by decide) rfl (fun ls hl => ?_)
        refine lv_goto (tgt := 15) hx hb dX4_leans_70 (by decide) ?_
        exact ih x1 s0 x4 ((x4 + 1)) _ h _ (lv_sub hl [3, 4, 2, 1, 0] rfl) kx
    rw [m_X4_leans_L15] at h
    refine lv_iload hx hb dX4_leans_15 (lv_at hl 4 rfl) ?_
    refine lv_iload_n hx hb dX4_leans_17 rfl (lv_at hl 1 rfl) ?_
    refine lv_icmp_ge (tgt := 73) hx hb dX4_leans_18 (by decide) (fun c2 => ?_) (fun c2 => ?_)
    · rw [if_pos c2] at h
      obtain rfl := Option.some.inj h
      exact kx _ (lv_sub hl [2, 3] rfl)
    · rw [if_neg c2] at h
      refine lv_aload_n hx hb dX4_leans_21 rfl (lv_at hl 0 rfl) ?_
      refine fg_4_4 Z hP wF_X4_24 dX4_leans_22 ?_
      refine lv_iload hx hb dX4_leans_25 (lv_at hl 4 rfl) ?_
      obtain ⟨v3, hv3, h⟩ := bd h
      refine zc_ld (j := 17) Z hP hv3 dX4_leans_27 ?_
      refine lv_aload_n hx hb dX4_leans_28 rfl (lv_at hl 0 rfl) ?_
      refine fg_4_4 Z hP wF_X4_24 dX4_leans_29 ?_
      refine lv_iload_n hx hb dX4_leans_32 rfl (lv_at hl 2 rfl) ?_
      obtain ⟨v4, hv4, h⟩ := bd h
      refine zc_ld (j := 17) Z hP hv4 dX4_leans_33 ?_
      refine lv_icmp_le (tgt := 42) hx hb dX4_leans_34 (by decide) (fun c5 => ?_) (fun c5 => ?_)
      · rw [if_pos c5] at h
        refine lv_iload_n hx hb dX4_leans_42 rfl (lv_at hl 2 rfl) ?_
        exact J43 x1 x3 x4 x2 h _ (lv_sub hl [0, 1, 3, 4] rfl)
      · rw [if_neg c5] at h
        refine lv_iload hx hb dX4_leans_37 (lv_at hl 4 rfl) ?_
        refine lv_goto (tgt := 43) hx hb dX4_leans_39 (by decide) ?_
        exact J43 x1 x3 x4 x4 h _ (lv_sub hl [0, 1, 3, 4] rfl)
set_option maxHeartbeats 4000000 in
set_option maxRecDepth 100000 in
theorem c_X4_leans {l : Launch} {D : va_G} {cy : Nat → ClassId} {ad : Nat → Nat} {σ τ : Sx} {R : Room} (hI : gInj ad) (hRf : 0 ≤ R.frames) (hRl : 0 ≤ R.locals) {x1 : Int32} {out : Int32} (h : m_X4_leans σ x1 = some out) : Met l yX4_leans [Cond.code yX4_leans cX4_leans 5 (some .int)] R (va_Pc [.ref (ad 4), .int x1] (gB D cy ad σ τ)) (rQi out) 0 0 noA := by
  refine zstart [.ref (ad 4), .int x1] (by decide) rfl hI (Nat.le_of_ble_eq_true rfl) ?_
  intro p e s m below meth c Z hr hlk hP ls hl
  have hx := Z.x
  have hb := Z.b
  generalize hargs : ([.ref (ad 4), .int x1] : List Value).toArray = args
  have hl : lv_has ls 5 [(0, .ref (ad 4)), (1, .int x1)] := hl
  unfold m_X4_leans at h
  refine lv_iload_n hx hb dX4_leans_0 rfl (lv_at hl 1 rfl) ?_
  refine lv_iconst (v := 2) hx hb dX4_leans_1 (by decide) ?_
  refine lv_icmp_ge (tgt := 8) hx hb dX4_leans_2 (by decide) (fun c1 => ?_) (fun c1 => ?_)
  · rw [if_pos c1] at h
    refine lv_iconst (v := 0) hx hb dX4_leans_8 (by decide) ?_
    refine lv_istore_n (lv' := [(2, .int 0), (0, .ref (ad 4)), (1, .int x1)]) hx hb dX4_leans_9 rfl hl (by decide) rfl (fun ls hl => ?_)
    refine lv_iconst (v := 0) hx hb dX4_leans_10 (by decide) ?_
    refine lv_istore_n (lv' := [(3, .int 0), (2, .int 0), (0, .ref (ad 4)), (1, .int x1)]) hx hb dX4_leans_11 rfl hl (by decide) rfl (fun ls hl => ?_)
    refine lv_iconst (v := 1) hx hb dX4_leans_12 (by decide) ?_
    refine lv_istore (lv' := [(4, .int 1), (3, .int 0), (2, .int 0), (0, .ref (ad 4)), (1, .int x1)]) hx hb dX4_leans_13 hl (by decide) rfl (fun ls hl => ?_)
    obtain ⟨y9, hy9, h⟩ := bd h
    refine w_X4_leans_L15 Z hP hr hlk hRf hRl out FU x1 0 0 1 y9 hy9 _ (lv_sub hl [3, 4, 2, 1, 0] rfl) (fun ls hl => ?_)
    refine lv_bipush (v := 10) hx hb dX4_leans_73 (by decide) ?_
    refine lv_iload_n hx hb dX4_leans_75 rfl (lv_at hl 0 rfl) ?_
    refine lv_imul hx hb dX4_leans_76 ?_
    refine lv_iload_n hx hb dX4_leans_77 rfl (lv_at hl 1 rfl) ?_
    refine lv_iadd hx hb dX4_leans_78 ?_
    exact zri Z hr hlk h dX4_leans_79
  · rw [if_neg c1] at h
    refine lv_bipush (v := (-9)) hx hb dX4_leans_5 (by decide) ?_
    exact zri Z hr hlk h dX4_leans_7
def m_X4_copyTo (σ : Sx) (x1 : Nat) : Option (Sx) :=
  (stA cLn σ x1 0 ((σ.1 14))).bind (fun q1 => (stA cLn q1 x1 1 ((q1.1 15))).bind (fun q2 => (stA cLn q2 x1 2 ((q2.1 16))).bind (fun q3 => (stA cLn q3 x1 3 ((q3.1 17))).bind (fun q4 => (cpA cLn q4 17 x1 0 4 5).bind (fun q5 => (cpA cLn q5 18 x1 0 9 5).bind (fun q6 => some q6))))))
set_option maxHeartbeats 4000000 in
set_option maxRecDepth 100000 in
theorem c_X4_copyTo {l : Launch} {D : va_G} {cy : Nat → ClassId} {ad : Nat → Nat} {σ τ : Sx} {R : Room} (hI : gInj ad) (hRf : 1 ≤ R.frames) (hRl : 18 ≤ R.locals) {x1 : Nat} {out : Sx} (h : m_X4_copyTo σ x1 = some out) : Met l yX4_copyTo [Cond.code yX4_copyTo cX4_copyTo 2 none] R (va_Pc [.ref (ad 4), .ref (ad (19 + x1))] (gB D cy ad σ τ)) (cQv D cy ad τ out) 0 0 (gA ad) := by
  refine zstart [.ref (ad 4), .ref (ad (19 + x1))] (by decide) rfl hI (Nat.le_of_ble_eq_true rfl) ?_
  intro p e s m below meth c Z hr hlk hP ls hl
  have hx := Z.x
  have hb := Z.b
  generalize hargs : ([.ref (ad 4), .ref (ad (19 + x1))] : List Value).toArray = args
  have hl : lv_has ls 2 [(0, .ref (ad 4)), (1, .ref (ad (19 + x1)))] := hl
  have hS : va_S (gA ad) s.heap s.heap [] := va_S.rf
  unfold m_X4_copyTo at h
  refine lv_aload_n hx hb dX4_copyTo_0 rfl (lv_at hl 1 rfl) ?_
  refine lv_iconst (v := 0) hx hb dX4_copyTo_1 (by decide) ?_
  refine lv_aload_n hx hb dX4_copyTo_2 rfl (lv_at hl 0 rfl) ?_
  refine fg_4_0 Z hP wF_X4_11 dX4_copyTo_3 ?_
  obtain ⟨q1, hq1, h⟩ := bd h
  refine zc_st (j := x1) Z hP hS hq1 dX4_copyTo_6 (fun H locs hP hS => ?_)
  refine lv_aload_n hx hb dX4_copyTo_7 rfl (lv_at hl 1 rfl) ?_
  refine lv_iconst (v := 1) hx hb dX4_copyTo_8 (by decide) ?_
  refine lv_aload_n hx hb dX4_copyTo_9 rfl (lv_at hl 0 rfl) ?_
  refine fg_4_1 Z hP wF_X4_15 dX4_copyTo_10 ?_
  obtain ⟨q2, hq2, h⟩ := bd h
  refine zc_st (j := x1) Z hP hS hq2 dX4_copyTo_13 (fun H locs hP hS => ?_)
  refine lv_aload_n hx hb dX4_copyTo_14 rfl (lv_at hl 1 rfl) ?_
  refine lv_iconst (v := 2) hx hb dX4_copyTo_15 (by decide) ?_
  refine lv_aload_n hx hb dX4_copyTo_16 rfl (lv_at hl 0 rfl) ?_
  refine fg_4_2 Z hP wF_X4_18 dX4_copyTo_17 ?_
  obtain ⟨q3, hq3, h⟩ := bd h
  refine zc_st (j := x1) Z hP hS hq3 dX4_copyTo_20 (fun H locs hP hS => ?_)
  refine lv_aload_n hx hb dX4_copyTo_21 rfl (lv_at hl 1 rfl) ?_
  refine lv_iconst (v := 3) hx hb dX4_copyTo_22 (by decide) ?_
  refine lv_aload_n hx hb dX4_copyTo_23 rfl (lv_at hl 0 rfl) ?_
  refine fg_4_3 Z hP wF_X4_21 dX4_copyTo_24 ?_
  obtain ⟨q4, hq4, h⟩ := bd h
  refine zc_st (j := x1) Z hP hS hq4 dX4_copyTo_27 (fun H locs hP hS => ?_)
  refine lv_aload_n hx hb dX4_copyTo_28 rfl (lv_at hl 0 rfl) ?_
  refine fg_4_4 Z hP wF_X4_24 dX4_copyTo_29 ?_
  refine lv_iconst (v := 0) hx hb dX4_copyTo_32 (by decide) ?_
  refine lv_aload_n hx hb dX4_copyTo_33 rfl (lv_at hl 1 rfl) ?_
  refine lv_iconst (v := 4) hx hb dX4_copyTo_34 (by decide) ?_
  refine lv_iconst (v := 5) hx hb dX4_copyTo_35 (by decide) ?_
  obtain ⟨q5, hq5, h⟩ := bd h
  refine zc_cp (rest := []) (i := 17) (j := x1) Z hP hS hl.1 wA_X4_61 wA_1 wA_2 wA_3 hq5 (Nat.le_trans (Nat.le_of_ble_eq_true rfl) hRf) (Nat.le_trans (Nat.le_of_ble_eq_true rfl) hRl) dX4_copyTo_36 (fun H locs hP hS => ?_)
  refine lv_aload_n hx hb dX4_copyTo_39 rfl (lv_at hl 0 rfl) ?_
  refine fg_4_5 Z hP wF_X4_28 dX4_copyTo_40 ?_
  refine lv_iconst (v := 0) hx hb dX4_copyTo_43 (by decide) ?_
  refine lv_aload_n hx hb dX4_copyTo_44 rfl (lv_at hl 1 rfl) ?_
  refine lv_bipush (v := 9) hx hb dX4_copyTo_45 (by decide) ?_
  refine lv_iconst (v := 5) hx hb dX4_copyTo_47 (by decide) ?_
  obtain ⟨q6, hq6, h⟩ := bd h
  refine zc_cp (rest := []) (i := 18) (j := x1) Z hP hS hl.1 wA_X4_61 wA_1 wA_2 wA_3 hq6 (Nat.le_trans (Nat.le_of_ble_eq_true rfl) hRf) (Nat.le_trans (Nat.le_of_ble_eq_true rfl) hRl) dX4_copyTo_48 (fun H locs hP hS => ?_)
  exact zcv Z hP hS hr hlk h dX4_copyTo_51
def m_X4_copyFrom (σ : Sx) (x1 : Nat) : Option (Sx) :=
  (ldA cLn σ x1 0).bind (fun v1 => (ldA cLn ((sg σ 14 v1)) x1 1).bind (fun v2 => (ldA cLn ((sg (sg σ 14 v1) 15 v2)) x1 2).bind (fun v3 => (ldA cLn ((sg (sg (sg σ 14 v1) 15 v2) 16 v3)) x1 3).bind (fun v4 => (cpA cLn ((sg (sg (sg (sg σ 14 v1) 15 v2) 16 v3) 17 v4)) x1 17 4 0 5).bind (fun q5 => (cpA cLn q5 x1 18 9 0 5).bind (fun q6 => some q6))))))
set_option maxHeartbeats 4000000 in
set_option maxRecDepth 100000 in
theorem c_X4_copyFrom {l : Launch} {D : va_G} {cy : Nat → ClassId} {ad : Nat → Nat} {σ τ : Sx} {R : Room} (hI : gInj ad) (hRf : 1 ≤ R.frames) (hRl : 18 ≤ R.locals) {x1 : Nat} {out : Sx} (h : m_X4_copyFrom σ x1 = some out) : Met l yX4_copyFrom [Cond.code yX4_copyFrom cX4_copyFrom 2 none] R (va_Pc [.ref (ad 4), .ref (ad (19 + x1))] (gB D cy ad σ τ)) (cQv D cy ad τ out) 0 0 (gA ad) := by
  refine zstart [.ref (ad 4), .ref (ad (19 + x1))] (by decide) rfl hI (Nat.le_of_ble_eq_true rfl) ?_
  intro p e s m below meth c Z hr hlk hP ls hl
  have hx := Z.x
  have hb := Z.b
  generalize hargs : ([.ref (ad 4), .ref (ad (19 + x1))] : List Value).toArray = args
  have hl : lv_has ls 2 [(0, .ref (ad 4)), (1, .ref (ad (19 + x1)))] := hl
  have hS : va_S (gA ad) s.heap s.heap [] := va_S.rf
  unfold m_X4_copyFrom at h
  refine lv_aload_n hx hb dX4_copyFrom_0 rfl (lv_at hl 0 rfl) ?_
  refine lv_aload_n hx hb dX4_copyFrom_1 rfl (lv_at hl 1 rfl) ?_
  refine lv_iconst (v := 0) hx hb dX4_copyFrom_2 (by decide) ?_
  obtain ⟨v1, hv1, h⟩ := bd h
  refine zc_ld (j := x1) Z hP hv1 dX4_copyFrom_3 ?_
  refine fp_4_0 Z hP hS wF_X4_11 dX4_copyFrom_4 (fun H locs hP hS => ?_)
  refine lv_aload_n hx hb dX4_copyFrom_7 rfl (lv_at hl 0 rfl) ?_
  refine lv_aload_n hx hb dX4_copyFrom_8 rfl (lv_at hl 1 rfl) ?_
  refine lv_iconst (v := 1) hx hb dX4_copyFrom_9 (by decide) ?_
  obtain ⟨v2, hv2, h⟩ := bd h
  refine zc_ld (j := x1) Z hP hv2 dX4_copyFrom_10 ?_
  refine fp_4_1 Z hP hS wF_X4_15 dX4_copyFrom_11 (fun H locs hP hS => ?_)
  refine lv_aload_n hx hb dX4_copyFrom_14 rfl (lv_at hl 0 rfl) ?_
  refine lv_aload_n hx hb dX4_copyFrom_15 rfl (lv_at hl 1 rfl) ?_
  refine lv_iconst (v := 2) hx hb dX4_copyFrom_16 (by decide) ?_
  obtain ⟨v3, hv3, h⟩ := bd h
  refine zc_ld (j := x1) Z hP hv3 dX4_copyFrom_17 ?_
  refine fp_4_2 Z hP hS wF_X4_18 dX4_copyFrom_18 (fun H locs hP hS => ?_)
  refine lv_aload_n hx hb dX4_copyFrom_21 rfl (lv_at hl 0 rfl) ?_
  refine lv_aload_n hx hb dX4_copyFrom_22 rfl (lv_at hl 1 rfl) ?_
  refine lv_iconst (v := 3) hx hb dX4_copyFrom_23 (by decide) ?_
  obtain ⟨v4, hv4, h⟩ := bd h
  refine zc_ld (j := x1) Z hP hv4 dX4_copyFrom_24 ?_
  refine fp_4_3 Z hP hS wF_X4_21 dX4_copyFrom_25 (fun H locs hP hS => ?_)
  refine lv_aload_n hx hb dX4_copyFrom_28 rfl (lv_at hl 1 rfl) ?_
  refine lv_iconst (v := 4) hx hb dX4_copyFrom_29 (by decide) ?_
  refine lv_aload_n hx hb dX4_copyFrom_30 rfl (lv_at hl 0 rfl) ?_
  refine fg_4_4 Z hP wF_X4_24 dX4_copyFrom_31 ?_
  refine lv_iconst (v := 0) hx hb dX4_copyFrom_34 (by decide) ?_
  refine lv_iconst (v := 5) hx hb dX4_copyFrom_35 (by decide) ?_
  obtain ⟨q5, hq5, h⟩ := bd h
  refine zc_cp (rest := []) (i := x1) (j := 17) Z hP hS hl.1 wA_X4_61 wA_1 wA_2 wA_3 hq5 (Nat.le_trans (Nat.le_of_ble_eq_true rfl) hRf) (Nat.le_trans (Nat.le_of_ble_eq_true rfl) hRl) dX4_copyFrom_36 (fun H locs hP hS => ?_)
  refine lv_aload_n hx hb dX4_copyFrom_39 rfl (lv_at hl 1 rfl) ?_
  refine lv_bipush (v := 9) hx hb dX4_copyFrom_40 (by decide) ?_
  refine lv_aload_n hx hb dX4_copyFrom_42 rfl (lv_at hl 0 rfl) ?_
  refine fg_4_5 Z hP wF_X4_28 dX4_copyFrom_43 ?_
  refine lv_iconst (v := 0) hx hb dX4_copyFrom_46 (by decide) ?_
  refine lv_iconst (v := 5) hx hb dX4_copyFrom_47 (by decide) ?_
  obtain ⟨q6, hq6, h⟩ := bd h
  refine zc_cp (rest := []) (i := x1) (j := 18) Z hP hS hl.1 wA_X4_61 wA_1 wA_2 wA_3 hq6 (Nat.le_trans (Nat.le_of_ble_eq_true rfl) hRf) (Nat.le_trans (Nat.le_of_ble_eq_true rfl) hRl) dX4_copyFrom_48 (fun H locs hP hS => ?_)
  exact zcv Z hP hS hr hlk h dX4_copyFrom_51
def m_X2_write (σ : Sx) : Option (Sx) :=
  (rmI (((σ.1 18) + 1)) 10).bind (fun v1 => (ixq ((((sg σ 18 v1)).1 18)) 10).bind (fun k2 => (m_X4_copyTo ((sg σ 18 v1)) ((25 + k2))).bind (fun q3 => some ((sg q3 19 ((if ((q3.1 19) + 1) < 10 then ((q3.1 19) + 1) else 10)))))))
set_option maxHeartbeats 4000000 in
set_option maxRecDepth 100000 in
theorem c_X2_write {l : Launch} {D : va_G} {cy : Nat → ClassId} {ad : Nat → Nat} {σ τ : Sx} {R : Room} (hI : gInj ad) (hRf : 2 ≤ R.frames) (hRl : 39 ≤ R.locals) {out : Sx} (h : m_X2_write σ = some out) : Met l yX2_write [Cond.code yX2_write cX2_write 2 none] R (va_Pc [.ref (ad 5), .ref (ad 4)] (gB D cy ad σ τ)) (cQv D cy ad τ out) 0 0 (gA ad) := by
  refine zstart [.ref (ad 5), .ref (ad 4)] (by decide) rfl hI (Nat.le_of_ble_eq_true rfl) ?_
  intro p e s m below meth c Z hr hlk hP ls hl
  have hx := Z.x
  have hb := Z.b
  generalize hargs : ([.ref (ad 5), .ref (ad 4)] : List Value).toArray = args
  have hl : lv_has ls 2 [(0, .ref (ad 5)), (1, .ref (ad 4))] := hl
  have hS : va_S (gA ad) s.heap s.heap [] := va_S.rf
  unfold m_X2_write at h
  refine lv_aload_n hx hb dX2_write_0 rfl (lv_at hl 0 rfl) ?_
  refine lv_aload_n hx hb dX2_write_1 rfl (lv_at hl 0 rfl) ?_
  refine fg_5_1 Z hP wF_X2_16 dX2_write_2 ?_
  refine lv_iconst (v := 1) hx hb dX2_write_5 (by decide) ?_
  refine lv_iadd hx hb dX2_write_6 ?_
  refine lv_bipush (v := 10) hx hb dX2_write_7 (by decide) ?_
  obtain ⟨v1, hv1, h⟩ := bd h
  refine zrem Z hv1 dX2_write_9 ?_
  refine fp_5_1 Z hP hS wF_X2_16 dX2_write_10 (fun H locs hP hS => ?_)
  refine lv_aload_n hx hb dX2_write_13 rfl (lv_at hl 1 rfl) ?_
  refine lv_aload_n hx hb dX2_write_14 rfl (lv_at hl 0 rfl) ?_
  refine fg_5_0 Z hP wF_X2_13 dX2_write_15 ?_
  refine lv_aload_n hx hb dX2_write_18 rfl (lv_at hl 0 rfl) ?_
  refine fg_5_1 Z hP wF_X2_16 dX2_write_19 ?_
  obtain ⟨k2, hk2, h⟩ := bd h
  refine zald (n := 10) (b := 25) Z hP 15 (gW_o rfl) hk2 dX2_write_22 ?_
  obtain ⟨q3, hq3, h⟩ := bd h
  refine zwcv (zrunV Z hP (As := [.ref (ad (19 + (25 + k2)))]) (rest := []) (c_X4_copyTo (R := { frames := 1, cells := 0, slots := 0, locals := 18 }) Z.i (Nat.le_refl _) (Nat.le_refl _) hq3) cV_X2_23 rfl rfl ⟨(Nat.le_trans (Nat.le_of_ble_eq_true rfl) hRf), (Nat.le_trans (Nat.le_of_ble_eq_true rfl) hRl)⟩ 4 (gW_o rfl) rfl rfl rfl hl.1 rfl (Nat.le_of_ble_eq_true rfl) dX2_write_23 ⟨Nat.zero_le _, Nat.zero_le _⟩) hS (fun H locs hP hS => ?_)
  refine lv_aload_n hx hb dX2_write_26 rfl (lv_at hl 0 rfl) ?_
  refine lv_bipush (v := 10) hx hb dX2_write_27 (by decide) ?_
  refine lv_aload_n hx hb dX2_write_29 rfl (lv_at hl 0 rfl) ?_
  refine fg_5_2 Z hP wF_X2_20 dX2_write_30 ?_
  refine lv_iconst (v := 1) hx hb dX2_write_33 (by decide) ?_
  refine lv_iadd hx hb dX2_write_34 ?_
  refine va_mmin (rest := [.ref (ad 5)]) hx hb (Z.ml.trans hl.1.symm) Z.o (Z.t _ wA_X2_27 rfl _) (Z.t _ wM_min1 rfl _) (Z.t _ wM_i rfl _) (Z.t _ wM_min2 rfl _) (Nat.le_trans (Nat.le_of_ble_eq_true rfl) hRf) (Nat.le_trans (Nat.le_of_ble_eq_true rfl) hRl) (Nat.zero_le _) (Nat.zero_le _) dX2_write_35 ?_
  refine fp_5_2 Z hP hS wF_X2_20 dX2_write_38 (fun H locs hP hS => ?_)
  exact zcv Z hP hS hr hlk h dX2_write_41
def m_X2_takeBack (σ : Sx) : Option (Sx) :=
  (ixq ((σ.1 18)) 10).bind (fun k1 => (m_X4_copyFrom σ ((25 + k1))).bind (fun q2 => (rmI ((((q2.1 18) + 10) - 1)) 10).bind (fun v3 => some ((sg (sg q2 18 v3) 19 (((((sg q2 18 v3)).1 19) - 1)))))))
set_option maxHeartbeats 4000000 in
set_option maxRecDepth 100000 in
theorem c_X2_takeBack {l : Launch} {D : va_G} {cy : Nat → ClassId} {ad : Nat → Nat} {σ τ : Sx} {R : Room} (hI : gInj ad) (hRf : 2 ≤ R.frames) (hRl : 39 ≤ R.locals) {out : Sx} (h : m_X2_takeBack σ = some out) : Met l yX2_takeBack [Cond.code yX2_takeBack cX2_takeBack 2 none] R (va_Pc [.ref (ad 5), .ref (ad 4)] (gB D cy ad σ τ)) (cQv D cy ad τ out) 0 0 (gA ad) := by
  refine zstart [.ref (ad 5), .ref (ad 4)] (by decide) rfl hI (Nat.le_of_ble_eq_true rfl) ?_
  intro p e s m below meth c Z hr hlk hP ls hl
  have hx := Z.x
  have hb := Z.b
  generalize hargs : ([.ref (ad 5), .ref (ad 4)] : List Value).toArray = args
  have hl : lv_has ls 2 [(0, .ref (ad 5)), (1, .ref (ad 4))] := hl
  have hS : va_S (gA ad) s.heap s.heap [] := va_S.rf
  unfold m_X2_takeBack at h
  refine lv_aload_n hx hb dX2_takeBack_0 rfl (lv_at hl 1 rfl) ?_
  refine lv_aload_n hx hb dX2_takeBack_1 rfl (lv_at hl 0 rfl) ?_
  refine fg_5_0 Z hP wF_X2_13 dX2_takeBack_2 ?_
  refine lv_aload_n hx hb dX2_takeBack_5 rfl (lv_at hl 0 rfl) ?_
  refine fg_5_1 Z hP wF_X2_16 dX2_takeBack_6 ?_
  obtain ⟨k1, hk1, h⟩ := bd h
  refine zald (n := 10) (b := 25) Z hP 15 (gW_o rfl) hk1 dX2_takeBack_9 ?_
  obtain ⟨q2, hq2, h⟩ := bd h
  refine zwcv (zrunV Z hP (As := [.ref (ad (19 + (25 + k1)))]) (rest := []) (c_X4_copyFrom (R := { frames := 1, cells := 0, slots := 0, locals := 18 }) Z.i (Nat.le_refl _) (Nat.le_refl _) hq2) cV_X2_33 rfl rfl ⟨(Nat.le_trans (Nat.le_of_ble_eq_true rfl) hRf), (Nat.le_trans (Nat.le_of_ble_eq_true rfl) hRl)⟩ 4 (gW_o rfl) rfl rfl rfl hl.1 rfl (Nat.le_of_ble_eq_true rfl) dX2_takeBack_10 ⟨Nat.zero_le _, Nat.zero_le _⟩) hS (fun H locs hP hS => ?_)
  refine lv_aload_n hx hb dX2_takeBack_13 rfl (lv_at hl 0 rfl) ?_
  refine lv_aload_n hx hb dX2_takeBack_14 rfl (lv_at hl 0 rfl) ?_
  refine fg_5_1 Z hP wF_X2_16 dX2_takeBack_15 ?_
  refine lv_bipush (v := 10) hx hb dX2_takeBack_18 (by decide) ?_
  refine lv_iadd hx hb dX2_takeBack_20 ?_
  refine lv_iconst (v := 1) hx hb dX2_takeBack_21 (by decide) ?_
  refine lv_isub hx hb dX2_takeBack_22 ?_
  refine lv_bipush (v := 10) hx hb dX2_takeBack_23 (by decide) ?_
  obtain ⟨v3, hv3, h⟩ := bd h
  refine zrem Z hv3 dX2_takeBack_25 ?_
  refine fp_5_1 Z hP hS wF_X2_16 dX2_takeBack_26 (fun H locs hP hS => ?_)
  refine lv_aload_n hx hb dX2_takeBack_29 rfl (lv_at hl 0 rfl) ?_
  refine lv_dup hx hb dX2_takeBack_30 rfl ?_
  refine fg_5_2 Z hP wF_X2_20 dX2_takeBack_31 ?_
  refine lv_iconst (v := 1) hx hb dX2_takeBack_34 (by decide) ?_
  refine lv_isub hx hb dX2_takeBack_35 ?_
  refine fp_5_2 Z hP hS wF_X2_20 dX2_takeBack_36 (fun H locs hP hS => ?_)
  exact zcv Z hP hS hr hlk h dX2_takeBack_39
def m_X5_missed (σ : Sx) : Option (Int32) :=
  (dvI ((σ.1 20)) 100).bind (fun v1 => some v1)
set_option maxHeartbeats 4000000 in
set_option maxRecDepth 100000 in
theorem c_X5_missed {l : Launch} {D : va_G} {cy : Nat → ClassId} {ad : Nat → Nat} {σ τ : Sx} {R : Room} (hI : gInj ad) (hRf : 0 ≤ R.frames) (hRl : 0 ≤ R.locals) {out : Int32} (h : m_X5_missed σ = some out) : Met l yX5_missed [Cond.code yX5_missed cX5_missed 1 (some .int)] R (va_Pc [.ref (ad 6)] (gB D cy ad σ τ)) (rQi out) 0 0 noA := by
  refine zstart [.ref (ad 6)] (by decide) rfl hI (Nat.le_of_ble_eq_true rfl) ?_
  intro p e s m below meth c Z hr hlk hP ls hl
  have hx := Z.x
  have hb := Z.b
  generalize hargs : ([.ref (ad 6)] : List Value).toArray = args
  have hl : lv_has ls 1 [(0, .ref (ad 6))] := hl
  unfold m_X5_missed at h
  refine lv_aload_n hx hb dX5_missed_0 rfl (lv_at hl 0 rfl) ?_
  refine fg_6_4 Z hP wF_X5_26 dX5_missed_1 ?_
  refine lv_bipush (v := 100) hx hb dX5_missed_4 (by decide) ?_
  obtain ⟨v1, hv1, h⟩ := bd h
  refine zdiv Z hv1 dX5_missed_6 ?_
  exact zri Z hr hlk h dX5_missed_7
def m_X5_out (σ : Sx) : Option (Int32) :=
  (rmI ((σ.1 20)) 100).bind (fun v1 => (dvI v1 10).bind (fun v2 => some v2))
set_option maxHeartbeats 4000000 in
set_option maxRecDepth 100000 in
theorem c_X5_out {l : Launch} {D : va_G} {cy : Nat → ClassId} {ad : Nat → Nat} {σ τ : Sx} {R : Room} (hI : gInj ad) (hRf : 0 ≤ R.frames) (hRl : 0 ≤ R.locals) {out : Int32} (h : m_X5_out σ = some out) : Met l yX5_out [Cond.code yX5_out cX5_out 1 (some .int)] R (va_Pc [.ref (ad 6)] (gB D cy ad σ τ)) (rQi out) 0 0 noA := by
  refine zstart [.ref (ad 6)] (by decide) rfl hI (Nat.le_of_ble_eq_true rfl) ?_
  intro p e s m below meth c Z hr hlk hP ls hl
  have hx := Z.x
  have hb := Z.b
  generalize hargs : ([.ref (ad 6)] : List Value).toArray = args
  have hl : lv_has ls 1 [(0, .ref (ad 6))] := hl
  unfold m_X5_out at h
  refine lv_aload_n hx hb dX5_out_0 rfl (lv_at hl 0 rfl) ?_
  refine fg_6_4 Z hP wF_X5_26 dX5_out_1 ?_
  refine lv_bipush (v := 100) hx hb dX5_out_4 (by decide) ?_
  obtain ⟨v1, hv1, h⟩ := bd h
  refine zrem Z hv1 dX5_out_6 ?_
  refine lv_bipush (v := 10) hx hb dX5_out_7 (by decide) ?_
  obtain ⟨v2, hv2, h⟩ := bd h
  refine zdiv Z hv2 dX5_out_9 ?_
  exact zri Z hr hlk h dX5_out_10
def m_X5_gotUp (σ : Sx) : Option (Int32) :=
  (rmI ((σ.1 20)) 10).bind (fun v1 => some v1)
set_option maxHeartbeats 4000000 in
set_option maxRecDepth 100000 in
theorem c_X5_gotUp {l : Launch} {D : va_G} {cy : Nat → ClassId} {ad : Nat → Nat} {σ τ : Sx} {R : Room} (hI : gInj ad) (hRf : 0 ≤ R.frames) (hRl : 0 ≤ R.locals) {out : Int32} (h : m_X5_gotUp σ = some out) : Met l yX5_gotUp [Cond.code yX5_gotUp cX5_gotUp 1 (some .int)] R (va_Pc [.ref (ad 6)] (gB D cy ad σ τ)) (rQi out) 0 0 noA := by
  refine zstart [.ref (ad 6)] (by decide) rfl hI (Nat.le_of_ble_eq_true rfl) ?_
  intro p e s m below meth c Z hr hlk hP ls hl
  have hx := Z.x
  have hb := Z.b
  generalize hargs : ([.ref (ad 6)] : List Value).toArray = args
  have hl : lv_has ls 1 [(0, .ref (ad 6))] := hl
  unfold m_X5_gotUp at h
  refine lv_aload_n hx hb dX5_gotUp_0 rfl (lv_at hl 0 rfl) ?_
  refine fg_6_4 Z hP wF_X5_26 dX5_gotUp_1 ?_
  refine lv_bipush (v := 10) hx hb dX5_gotUp_4 (by decide) ?_
  obtain ⟨v1, hv1, h⟩ := bd h
  refine zrem Z hv1 dX5_gotUp_6 ?_
  exact zri Z hr hlk h dX5_gotUp_7
def m_X5_enter_L6  : Nat → Int32 → Int32 → Int32 → Int32 → Int32 → Sx → Option (Int32 × Sx)
  | 0, _, _, _, _, _, _ => none
  | n + 1, x1, x2, x3, x4, x5, σ =>
  if x1 ≤ x5 then (some ((x4, σ))) else ((ixq x2 5).bind (fun k2 => (ldA cLn σ ((42 + k2)) x5).bind (fun v3 => (ixq ((x2 + 1)) 5).bind (fun k4 => (stA cLn σ ((42 + k4)) x5 (((2 * v3) + ((x3 >>> (x5 &&& 31)) &&& 1)))).bind (fun q5 => (ixq x5 5).bind (fun k6 => (ldA cLn q5 ((37 + k6)) (((2 * v3) + ((x3 >>> (x5 &&& 31)) &&& 1)))).bind (fun v7 => m_X5_enter_L6 n x1 x2 x3 ((x4 + v7)) ((x5 + 1)) q5)))))))
def m_X5_enter (σ : Sx) (x1 : Int32) (x2 : Int32) (x3 : Int32) : Option (Int32 × Sx) :=
  (m_X5_enter_L6 FU x1 x2 x3 0 0 σ).bind (fun y8 => some ((y8.1, y8.2)))
set_option maxHeartbeats 4000000 in
set_option maxRecDepth 100000 in
theorem w_X5_enter_L6 {l : Launch} {D : va_G} {cy : Nat → ClassId} {ad : Nat → Nat} {τ : Sx} {p : Program} {e : Env} {R : Room} {s : State} {m : MethodId} {args : Array Value} {below : List Frame} {meth : Method} {c : Code} (Z : Zc p s m c cX5_enter 7 RX5 D cy ad) (hr : meth.sig.returnType = (some .int)) (hlk : meth.locks = false) (hRf : 0 ≤ R.frames) (hRl : 0 ≤ R.locals) (out : Int32 × Sx) : ∀ (n : Nat) (x1 : Int32) (x2 : Int32) (x3 : Int32) (x4 : Int32) (x5 : Int32) (σ : Sx) (res : Int32 × Sx), m_X5_enter_L6 n x1 x2 x3 x4 x5 σ = some res → ∀ (H : Heap) (locs : List Loc), va_P D vwCl (gW cy ad σ τ) H → va_S (gA ad) s.heap H locs → ∀ ls : Array Slot, lv_has ls 7 [(0, .ref (ad 6)), (1, .int x1), (2, .int x2), (3, .int x3), (4, .int x4), (5, .int x5)] → (∀ (H : Heap) (locs : List Loc), va_P D vwCl (gW cy ad res.2 τ) H → va_S (gA ad) s.heap H locs → ∀ ls : Array Slot, lv_has ls 7 [(4, .int res.1)] → W p l e R s m args below meth c H locs 0 0 (MQ below (cQi D cy ad τ out) args s 0 0 (gA ad)) (F0 m 66 ls [])) → W p l e R s m args below meth c H locs 0 0 (MQ below (cQi D cy ad τ out) args s 0 0 (gA ad)) (F0 m 6 ls []) := by
  have hx := Z.x
  have hb := Z.b
  intro n
  induction n with
  | zero => intro x1 x2 x3 x4 x5 σ res h; cases h
  | succ n ih =>
    intro x1 x2 x3 x4 x5 σ res h H locs hP hS ls hl kx
    rw [m_X5_enter_L6] at h
    refine lv_iload hx hb dX5_enter_6 (lv_at hl 5 rfl) ?_
    refine lv_iload_n hx hb dX5_enter_8 rfl (lv_at hl 1 rfl) ?_
    refine lv_icmp_ge (tgt := 66) hx hb dX5_enter_9 (by decide) (fun c1 => ?_) (fun c1 => ?_)
    · rw [if_pos c1] at h
      obtain rfl := Option.some.inj h
      exact kx _ _ hP hS _ (lv_sub hl [4] rfl)
    · rw [if_neg c1] at h
      refine lv_iconst (v := 2) hx hb dX5_enter_12 (by decide) ?_
      refine lv_aload_n hx hb dX5_enter_13 rfl (lv_at hl 0 rfl) ?_
      refine fg_6_3 Z hP wF_X5_23 dX5_enter_14 ?_
      refine lv_iload_n hx hb dX5_enter_17 rfl (lv_at hl 2 rfl) ?_
      obtain ⟨k2, hk2, h⟩ := bd h
      refine zald (n := 5) (b := 42) Z hP 17 (gW_o rfl) hk2 dX5_enter_18 ?_
      refine lv_iload hx hb dX5_enter_19 (lv_at hl 5 rfl) ?_
      obtain ⟨v3, hv3, h⟩ := bd h
      refine zc_ld (j := (42 + k2)) Z hP hv3 dX5_enter_21 ?_
      refine lv_imul hx hb dX5_enter_22 ?_
      refine lv_iload_n hx hb dX5_enter_23 rfl (lv_at hl 3 rfl) ?_
      refine lv_iload hx hb dX5_enter_24 (lv_at hl 5 rfl) ?_
      refine lv_ishr hx hb dX5_enter_26 ?_
      refine lv_iconst (v := 1) hx hb dX5_enter_27 (by decide) ?_
      refine lv_iand hx hb dX5_enter_28 ?_
      refine lv_iadd hx hb dX5_enter_29 ?_
      refine lv_istore (lv' := [(6, .int ((2 * v3) + ((x3 >>> (x5 &&& 31)) &&& 1))), (0, .ref (ad 6)), (1, .int x1), (2, .int x2), (3, .int x3), (4, .int x4), (5, .int x5)]) hx hb dX5_enter_30 hl (by decide) rfl (fun ls hl => ?_)
      refine lv_aload_n hx hb dX5_enter_32 rfl (lv_at hl 1 rfl) ?_
      refine fg_6_3 Z hP wF_X5_23 dX5_enter_33 ?_
      refine lv_iload_n hx hb dX5_enter_36 rfl (lv_at hl 3 rfl) ?_
      refine lv_iconst (v := 1) hx hb dX5_enter_37 (by decide) ?_
      refine lv_iadd hx hb dX5_enter_38 ?_
      obtain ⟨k4, hk4, h⟩ := bd h
      refine zald (n := 5) (b := 42) Z hP 17 (gW_o rfl) hk4 dX5_enter_39 ?_
      refine lv_iload hx hb dX5_enter_40 (lv_at hl 6 rfl) ?_
      refine lv_iload hx hb dX5_enter_42 (lv_at hl 0 rfl) ?_
      obtain ⟨q5, hq5, h⟩ := bd h
      refine zc_st (j := (42 + k4)) Z hP hS hq5 dX5_enter_44 (fun H locs hP hS => ?_)
      refine lv_iload hx hb dX5_enter_45 (lv_at hl 5 rfl) ?_
      refine lv_aload_n hx hb dX5_enter_47 rfl (lv_at hl 1 rfl) ?_
      refine fg_6_2 Z hP wF_X5_20 dX5_enter_48 ?_
      refine lv_iload hx hb dX5_enter_51 (lv_at hl 6 rfl) ?_
      obtain ⟨k6, hk6, h⟩ := bd h
      refine zald (n := 5) (b := 37) Z hP 16 (gW_o rfl) hk6 dX5_enter_53 ?_
      refine lv_iload hx hb dX5_enter_54 (lv_at hl 0 rfl) ?_
      obtain ⟨v7, hv7, h⟩ := bd h
      refine zc_ld (j := (37 + k6)) Z hP hv7 dX5_enter_56 ?_
      refine lv_iadd hx hb dX5_enter_57 ?_
      refine lv_istore (lv' := [(4, .int (x4 + v7)), (6, .int ((2 * v3) + ((x3 >>> (x5 &&& 31)) &&& 1))), (0, .ref (ad 6)), (1, .int x1), (2, .int x2), (3, .int x3), (5, .int x5)]) hx hb dX5_enter_58 hl (by decide) rfl (fun ls hl => ?_)
      refine lv_iinc (v := (x5 + 1)) (lv' := [(5, .int (x5 + 1)), (4, .int (x4 + v7)), (6, .int ((2 * v3) + ((x3 >>> (x5 &&& 31)) &&& 1))), (0, .ref (ad 6)), (1, .int x1), (2, .int x2), (3, .int x3)]) hx hb dX5_enter_60 hl (k := 6) rfl rfl (by decide) rfl (fun ls hl => ?_)
      refine lv_goto (tgt := 6) hx hb dX5_enter_63 (by decide) ?_
      exact ih x1 x2 x3 ((x4 + v7)) ((x5 + 1)) q5 _ h _ _ hP hS _ (lv_sub hl [3, 4, 5, 6, 1, 0] rfl) kx
set_option maxHeartbeats 4000000 in
set_option maxRecDepth 100000 in
theorem c_X5_enter {l : Launch} {D : va_G} {cy : Nat → ClassId} {ad : Nat → Nat} {σ τ : Sx} {R : Room} (hI : gInj ad) (hRf : 0 ≤ R.frames) (hRl : 0 ≤ R.locals) {x1 : Int32} {x2 : Int32} {x3 : Int32} {out : Int32 × Sx} (h : m_X5_enter σ x1 x2 x3 = some out) : Met l yX5_enter [Cond.code yX5_enter cX5_enter 7 (some .int)] R (va_Pc [.ref (ad 6), .int x1, .int x2, .int x3] (gB D cy ad σ τ)) (cQi D cy ad τ out) 0 0 (gA ad) := by
  refine zstart [.ref (ad 6), .int x1, .int x2, .int x3] (by decide) rfl hI (Nat.le_of_ble_eq_true rfl) ?_
  intro p e s m below meth c Z hr hlk hP ls hl
  have hx := Z.x
  have hb := Z.b
  generalize hargs : ([.ref (ad 6), .int x1, .int x2, .int x3] : List Value).toArray = args
  have hl : lv_has ls 7 [(0, .ref (ad 6)), (1, .int x1), (2, .int x2), (3, .int x3)] := hl
  have hS : va_S (gA ad) s.heap s.heap [] := va_S.rf
  unfold m_X5_enter at h
  refine lv_iconst (v := 0) hx hb dX5_enter_0 (by decide) ?_
  refine lv_istore (lv' := [(4, .int 0), (0, .ref (ad 6)), (1, .int x1), (2, .int x2), (3, .int x3)]) hx hb dX5_enter_1 hl (by decide) rfl (fun ls hl => ?_)
  refine lv_iconst (v := 0) hx hb dX5_enter_3 (by decide) ?_
  refine lv_istore (lv' := [(5, .int 0), (4, .int 0), (0, .ref (ad 6)), (1, .int x1), (2, .int x2), (3, .int x3)]) hx hb dX5_enter_4 hl (by decide) rfl (fun ls hl => ?_)
  obtain ⟨y8, hy8, h⟩ := bd h
  refine w_X5_enter_L6 Z hr hlk hRf hRl out FU x1 x2 x3 0 0 σ y8 hy8 _ _ hP hS _ (lv_sub hl [2, 3, 4, 5, 1, 0] rfl) (fun H locs hP hS ls hl => ?_)
  refine lv_iload hx hb dX5_enter_66 (lv_at hl 0 rfl) ?_
  exact zci Z hP hS hr hlk h dX5_enter_68
