def m_X12_type (τ : Sx) (x1 : Int32) : Option (Int32 × Sx) :=
  (m_X12_in x1 0 255).bind (fun v1 => if v1 = 0 then (some (((-1), (sg τ 0 0)))) else (if (((sg τ 0 0)).1 1) = 200 then (some (((-3), (sg τ 0 0)))) else ((stA mLn ((sg τ 0 0)) 0 ((((sg τ 0 0)).1 1)) x1).bind (fun q4 => some (((((sg q4 1 (((q4.1 1) + 1)))).1 1), (sg q4 1 (((q4.1 1) + 1)))))))))
set_option maxHeartbeats 4000000 in
set_option maxRecDepth 100000 in
theorem c_X12_type {l : Launch} {D : va_G} {cy : Nat → ClassId} {ad : Nat → Nat} {σ τ : Sx} {R : Room} (hI : gInj ad) (hRf : 1 ≤ R.frames) (hRl : 22 ≤ R.locals) {x1 : Int32} {out : Int32 × Sx} (h : m_X12_type τ x1 = some out) : Met l yX12_type [Cond.code yX12_type cX12_type 2 (some .int)] R (va_Pc [.ref (ad 66), .int x1] (gB D cy ad σ τ)) (mQi D cy ad σ out) 0 0 (gA ad) := by
  refine zstart [.ref (ad 66), .int x1] (by decide) rfl hI (Nat.le_of_ble_eq_true rfl) ?_
  intro p e s m below meth c Z hr hlk hP ls hl
  have hx := Z.x
  have hb := Z.b
  generalize hargs : ([.ref (ad 66), .int x1] : List Value).toArray = args
  have hl : lv_has ls 2 [(0, .ref (ad 66)), (1, .int x1)] := hl
  have hS : va_S (gA ad) s.heap s.heap [] := va_S.rf
  unfold m_X12_type at h
  refine lv_aload_n hx hb dX12_type_0 rfl (lv_at hl 0 rfl) ?_
  refine lv_iconst (v := 0) hx hb dX12_type_1 (by decide) ?_
  refine fp_66_0 Z hP hS wF_X12_61 dX12_type_2 (fun H locs hP hS => ?_)
  refine lv_iload_n hx hb dX12_type_5 rfl (lv_at hl 1 rfl) ?_
  refine lv_iconst (v := 0) hx hb dX12_type_6 (by decide) ?_
  refine lv_sipush (v := 255) hx hb dX12_type_7 (by decide) ?_
  obtain ⟨v1, hv1, h⟩ := bd h
  refine zqi (zrunS Z hP (As := [.int x1, .int 0, .int 255]) (rest := []) (c_X12_in (R := { frames := 0, cells := 0, slots := 0, locals := 0 }) Z.i (Nat.le_refl _) (Nat.le_refl _) hv1) cV_X12_64 rfl rfl ⟨(Nat.le_trans (Nat.le_of_ble_eq_true rfl) hRf), (Nat.le_trans (Nat.le_of_ble_eq_true rfl) hRl)⟩ rfl hl.1 rfl (Nat.le_of_ble_eq_true rfl) dX12_type_10 ⟨Nat.zero_le _, Nat.zero_le _⟩) ?_
  refine lv_if_ne (tgt := 18) hx hb dX12_type_13 (by decide) (fun c2 => ?_) (fun c2 => ?_)
  · rw [if_neg c2] at h
    refine lv_aload_n hx hb dX12_type_18 rfl (lv_at hl 0 rfl) ?_
    refine fg_66_3 Z hP wF_X12_68 dX12_type_19 ?_
    refine lv_sipush (v := 200) hx hb dX12_type_22 (by decide) ?_
    refine lv_icmp_ne (tgt := 31) hx hb dX12_type_25 (by decide) (fun c3 => ?_) (fun c3 => ?_)
    · rw [if_neg c3] at h
      refine lv_aload_n hx hb dX12_type_31 rfl (lv_at hl 0 rfl) ?_
      refine fg_66_2 Z hP wF_X12_7 dX12_type_32 ?_
      refine lv_aload_n hx hb dX12_type_35 rfl (lv_at hl 0 rfl) ?_
      refine fg_66_3 Z hP wF_X12_68 dX12_type_36 ?_
      refine lv_iload_n hx hb dX12_type_39 rfl (lv_at hl 1 rfl) ?_
      obtain ⟨q4, hq4, h⟩ := bd h
      refine zm_st (j := 0) Z hP hS hq4 dX12_type_40 (fun H locs hP hS => ?_)
      refine lv_aload_n hx hb dX12_type_41 rfl (lv_at hl 0 rfl) ?_
      refine lv_dup hx hb dX12_type_42 rfl ?_
      refine fg_66_3 Z hP wF_X12_68 dX12_type_43 ?_
      refine lv_iconst (v := 1) hx hb dX12_type_46 (by decide) ?_
      refine lv_iadd hx hb dX12_type_47 ?_
      refine fp_66_3 Z hP hS wF_X12_68 dX12_type_48 (fun H locs hP hS => ?_)
      refine lv_aload_n hx hb dX12_type_51 rfl (lv_at hl 0 rfl) ?_
      refine fg_66_3 Z hP wF_X12_68 dX12_type_52 ?_
      exact zmi Z hP hS hr hlk h dX12_type_55
    · rw [if_pos c3] at h
      refine lv_bipush (v := (-3)) hx hb dX12_type_28 (by decide) ?_
      exact zmi Z hP hS hr hlk h dX12_type_30
  · rw [if_pos c2] at h
    refine lv_iconst (v := (-1)) hx hb dX12_type_16 (by decide) ?_
    exact zmi Z hP hS hr hlk h dX12_type_17
def m_X12_clear (τ : Sx) : Option (Int32 × Sx) :=
  some (((((sg τ 0 0)).1 1), (sg (sg τ 0 0) 1 0)))
set_option maxHeartbeats 4000000 in
set_option maxRecDepth 100000 in
theorem c_X12_clear {l : Launch} {D : va_G} {cy : Nat → ClassId} {ad : Nat → Nat} {σ τ : Sx} {R : Room} (hI : gInj ad) (hRf : 0 ≤ R.frames) (hRl : 0 ≤ R.locals) {out : Int32 × Sx} (h : m_X12_clear τ = some out) : Met l yX12_clear [Cond.code yX12_clear cX12_clear 2 (some .int)] R (va_Pc [.ref (ad 66)] (gB D cy ad σ τ)) (mQi D cy ad σ out) 0 0 (gA ad) := by
  refine zstart [.ref (ad 66)] (by decide) rfl hI (Nat.le_of_ble_eq_true rfl) ?_
  intro p e s m below meth c Z hr hlk hP ls hl
  have hx := Z.x
  have hb := Z.b
  generalize hargs : ([.ref (ad 66)] : List Value).toArray = args
  have hl : lv_has ls 2 [(0, .ref (ad 66))] := hl
  have hS : va_S (gA ad) s.heap s.heap [] := va_S.rf
  unfold m_X12_clear at h
  refine lv_aload_n hx hb dX12_clear_0 rfl (lv_at hl 0 rfl) ?_
  refine lv_iconst (v := 0) hx hb dX12_clear_1 (by decide) ?_
  refine fp_66_0 Z hP hS wF_X12_61 dX12_clear_2 (fun H locs hP hS => ?_)
  refine lv_aload_n hx hb dX12_clear_5 rfl (lv_at hl 0 rfl) ?_
  refine fg_66_3 Z hP wF_X12_68 dX12_clear_6 ?_
  refine lv_istore_n (lv' := [(1, .int (((sg τ 0 0)).1 1)), (0, .ref (ad 66))]) hx hb dX12_clear_9 rfl hl (by decide) rfl (fun ls hl => ?_)
  refine lv_aload_n hx hb dX12_clear_10 rfl (lv_at hl 1 rfl) ?_
  refine lv_iconst (v := 0) hx hb dX12_clear_11 (by decide) ?_
  refine fp_66_3 Z hP hS wF_X12_68 dX12_clear_12 (fun H locs hP hS => ?_)
  refine lv_iload_n hx hb dX12_clear_15 rfl (lv_at hl 0 rfl) ?_
  exact zmi Z hP hS hr hlk h dX12_clear_16
def m_X12_letterAt (τ : Sx) (x1 : Int32) : Option (Int32) :=
  if (τ.1 1) ≤ x1 then (some ((-1))) else ((ldA mLn τ 0 x1).bind (fun v2 => some v2))
set_option maxHeartbeats 4000000 in
set_option maxRecDepth 100000 in
theorem c_X12_letterAt {l : Launch} {D : va_G} {cy : Nat → ClassId} {ad : Nat → Nat} {σ τ : Sx} {R : Room} (hI : gInj ad) (hRf : 0 ≤ R.frames) (hRl : 0 ≤ R.locals) {x1 : Int32} {out : Int32} (h : m_X12_letterAt τ x1 = some out) : Met l yX12_letterAt [Cond.code yX12_letterAt cX12_letterAt 2 (some .int)] R (va_Pc [.ref (ad 66), .int x1] (gB D cy ad σ τ)) (rQi out) 0 0 noA := by
  refine zstart [.ref (ad 66), .int x1] (by decide) rfl hI (Nat.le_of_ble_eq_true rfl) ?_
  intro p e s m below meth c Z hr hlk hP ls hl
  have hx := Z.x
  have hb := Z.b
  generalize hargs : ([.ref (ad 66), .int x1] : List Value).toArray = args
  have hl : lv_has ls 2 [(0, .ref (ad 66)), (1, .int x1)] := hl
  unfold m_X12_letterAt at h
  refine lv_iload_n hx hb dX12_letterAt_0 rfl (lv_at hl 1 rfl) ?_
  refine lv_aload_n hx hb dX12_letterAt_1 rfl (lv_at hl 0 rfl) ?_
  refine fg_66_3 Z hP wF_X12_68 dX12_letterAt_2 ?_
  refine lv_icmp_ge (tgt := 17) hx hb dX12_letterAt_5 (by decide) (fun c1 => ?_) (fun c1 => ?_)
  · rw [if_pos c1] at h
    refine lv_iconst (v := (-1)) hx hb dX12_letterAt_17 (by decide) ?_
    exact zri Z hr hlk h dX12_letterAt_18
  · rw [if_neg c1] at h
    refine lv_aload_n hx hb dX12_letterAt_8 rfl (lv_at hl 0 rfl) ?_
    refine fg_66_2 Z hP wF_X12_7 dX12_letterAt_9 ?_
    refine lv_iload_n hx hb dX12_letterAt_12 rfl (lv_at hl 1 rfl) ?_
    obtain ⟨v2, hv2, h⟩ := bd h
    refine zm_ld (j := 0) Z hP hv2 dX12_letterAt_13 ?_
    refine lv_goto (tgt := 18) hx hb dX12_letterAt_14 (by decide) ?_
    exact zri Z hr hlk h dX12_letterAt_18
def m_X12_advances_L0  : Nat → Sx → Option (Sx)
  | 0, _ => none
  | n + 1, τ =>
  (m_X12_letterAt τ ((τ.1 2))).bind (fun v1 => if v1 = 32 then (m_X12_advances_L0 n ((sg τ 2 (((τ.1 2) + 1))))) else (some τ))
def m_X12_advances_J125 (rec : Int32 → Sx → Option (Int32 × Sx)) (x1 : Int32) (s0 : Int32) (τ : Sx) : Option (Int32 × Sx) :=
  rec x1 ((sg (sg τ 5 s0) 2 (((((sg τ 5 s0)).1 2) + 1))))
def m_X12_advances_L71  : Nat → Int32 → Sx → Option (Int32 × Sx)
  | 0, _, _ => none
  | n + 1, x1, τ =>
  (m_X12_letterAt τ ((τ.1 2))).bind (fun v13 => (m_X12_in v13 48 57).bind (fun v14 => if v14 = 0 then (some ((x1, τ))) else (if (τ.1 5) ≤ 100 then ((m_X12_letterAt τ ((τ.1 2))).bind (fun v17 => m_X12_advances_J125 (m_X12_advances_L71 n) x1 ((((10 * (τ.1 5)) + v17) - 48)) τ)) else (m_X12_advances_J125 (m_X12_advances_L71 n) x1 ((τ.1 5)) τ))))
def m_X12_advances (τ : Sx) : Option (Sx) :=
  (m_X12_advances_L0 FU τ).bind (fun y3 => (m_X12_letterAt ((sg y3 4 ((y3.1 2)))) ((((sg y3 4 ((y3.1 2)))).1 2))).bind (fun v4 => if 0 ≤ v4 then ((m_X12_in v4 48 57).bind (fun v6 => if v6 = 0 then (if v4 = 59 then (some ((sg (sg (sg (sg y3 4 ((y3.1 2))) 2 (((((sg y3 4 ((y3.1 2)))).1 2) + 1))) 5 v4) 3 3))) else (if v4 = 116 then (some ((sg (sg (sg (sg y3 4 ((y3.1 2))) 2 (((((sg y3 4 ((y3.1 2)))).1 2) + 1))) 5 v4) 3 1))) else (if v4 = 104 then (some ((sg (sg (sg (sg y3 4 ((y3.1 2))) 2 (((((sg y3 4 ((y3.1 2)))).1 2) + 1))) 5 v4) 3 1))) else (if v4 = 99 then (some ((sg (sg (sg (sg y3 4 ((y3.1 2))) 2 (((((sg y3 4 ((y3.1 2)))).1 2) + 1))) 5 v4) 3 1))) else (if v4 = 100 then (some ((sg (sg (sg (sg y3 4 ((y3.1 2))) 2 (((((sg y3 4 ((y3.1 2)))).1 2) + 1))) 5 v4) 3 1))) else (some ((sg (sg (sg (sg y3 4 ((y3.1 2))) 2 (((((sg y3 4 ((y3.1 2)))).1 2) + 1))) 5 v4) 3 4)))))))) else ((m_X12_advances_L71 FU v4 ((sg (sg y3 4 ((y3.1 2))) 5 0))).bind (fun y18 => if 100 < (y18.2.1 5) then (some ((sg y18.2 3 4))) else (if y18.1 = 48 then (if ((y18.2.1 2) - (y18.2.1 4)) ≤ 1 then (some ((sg y18.2 3 2))) else (some ((sg y18.2 3 4)))) else (some ((sg y18.2 3 2)))))))) else (some ((sg (sg y3 4 ((y3.1 2))) 3 0)))))
set_option maxHeartbeats 4000000 in
set_option maxRecDepth 100000 in
theorem w_X12_advances_L0 {l : Launch} {D : va_G} {cy : Nat → ClassId} {ad : Nat → Nat} {σ : Sx} {p : Program} {e : Env} {R : Room} {s : State} {m : MethodId} {args : Array Value} {below : List Frame} {meth : Method} {c : Code} (Z : Zc p s m c cX12_advances 2 RX12 D cy ad) (hr : meth.sig.returnType = none) (hlk : meth.locks = false) (hRf : 1 ≤ R.frames) (hRl : 22 ≤ R.locals) (out : Sx) : ∀ (n : Nat)  (τ : Sx) (res : Sx), m_X12_advances_L0 n τ = some res → ∀ (H : Heap) (locs : List Loc), va_P D vwCl (gW cy ad σ τ) H → va_S (gA ad) s.heap H locs → ∀ ls : Array Slot, lv_has ls 2 [(0, .ref (ad 66))] → (∀ (H : Heap) (locs : List Loc), va_P D vwCl (gW cy ad σ res) H → va_S (gA ad) s.heap H locs → ∀ ls : Array Slot, lv_has ls 2 [(0, .ref (ad 66))] → W p l e R s m args below meth c H locs 0 0 (MQ below (mQv D cy ad σ out) args s 0 0 (gA ad)) (F0 m 26 ls [])) → W p l e R s m args below meth c H locs 0 0 (MQ below (mQv D cy ad σ out) args s 0 0 (gA ad)) (F0 m 0 ls []) := by
  have hx := Z.x
  have hb := Z.b
  intro n
  induction n with
  | zero => intro τ res h; cases h
  | succ n ih =>
    intro τ res h H locs hP hS ls hl kx
    rw [m_X12_advances_L0] at h
    refine lv_aload_n hx hb dX12_advances_0 rfl (lv_at hl 0 rfl) ?_
    refine lv_aload_n hx hb dX12_advances_1 rfl (lv_at hl 0 rfl) ?_
    refine fg_66_4 Z hP wF_X12_71 dX12_advances_2 ?_
    obtain ⟨v1, hv1, h⟩ := bd h
    refine zqi (zrunV Z hP (As := [.int (τ.1 2)]) (rest := []) (c_X12_letterAt (R := { frames := 0, cells := 0, slots := 0, locals := 0 }) Z.i (Nat.le_refl _) (Nat.le_refl _) hv1) cV_X12_74 rfl rfl ⟨(Nat.le_trans (Nat.le_of_ble_eq_true rfl) hRf), (Nat.le_trans (Nat.le_of_ble_eq_true rfl) hRl)⟩ 66 (gW_mo.trans rfl) rfl rfl rfl hl.1 rfl (Nat.le_of_ble_eq_true rfl) dX12_advances_5 ⟨Nat.zero_le _, Nat.zero_le _⟩) ?_
    refine lv_bipush (v := 32) hx hb dX12_advances_8 (by decide) ?_
    refine lv_icmp_ne (tgt := 26) hx hb dX12_advances_10 (by decide) (fun c2 => ?_) (fun c2 => ?_)
    · rw [if_neg c2] at h
      obtain rfl := Option.some.inj h
      exact kx _ _ hP hS _ (lv_sub hl [0] rfl)
    · rw [if_pos c2] at h
      refine lv_aload_n hx hb dX12_advances_13 rfl (lv_at hl 0 rfl) ?_
      refine lv_dup hx hb dX12_advances_14 rfl ?_
      refine fg_66_4 Z hP wF_X12_71 dX12_advances_15 ?_
      refine lv_iconst (v := 1) hx hb dX12_advances_18 (by decide) ?_
      refine lv_iadd hx hb dX12_advances_19 ?_
      refine fp_66_4 Z hP hS wF_X12_71 dX12_advances_20 (fun H locs hP hS => ?_)
      refine lv_goto (tgt := 0) hx hb dX12_advances_23 (by decide) ?_
      exact ih ((sg τ 2 (((τ.1 2) + 1)))) _ h _ _ hP hS _ (lv_sub hl [0] rfl) kx
set_option maxHeartbeats 4000000 in
set_option maxRecDepth 100000 in
theorem w_X12_advances_L71 {l : Launch} {D : va_G} {cy : Nat → ClassId} {ad : Nat → Nat} {σ : Sx} {p : Program} {e : Env} {R : Room} {s : State} {m : MethodId} {args : Array Value} {below : List Frame} {meth : Method} {c : Code} (Z : Zc p s m c cX12_advances 2 RX12 D cy ad) (hr : meth.sig.returnType = none) (hlk : meth.locks = false) (hRf : 1 ≤ R.frames) (hRl : 22 ≤ R.locals) (out : Sx) : ∀ (n : Nat) (x1 : Int32) (τ : Sx) (res : Int32 × Sx), m_X12_advances_L71 n x1 τ = some res → ∀ (H : Heap) (locs : List Loc), va_P D vwCl (gW cy ad σ τ) H → va_S (gA ad) s.heap H locs → ∀ ls : Array Slot, lv_has ls 2 [(0, .ref (ad 66)), (1, .int x1)] → (∀ (H : Heap) (locs : List Loc), va_P D vwCl (gW cy ad σ res.2) H → va_S (gA ad) s.heap H locs → ∀ ls : Array Slot, lv_has ls 2 [(0, .ref (ad 66)), (1, .int res.1)] → W p l e R s m args below meth c H locs 0 0 (MQ below (mQv D cy ad σ out) args s 0 0 (gA ad)) (F0 m 141 ls [])) → W p l e R s m args below meth c H locs 0 0 (MQ below (mQv D cy ad σ out) args s 0 0 (gA ad)) (F0 m 71 ls []) := by
  have hx := Z.x
  have hb := Z.b
  intro n
  induction n with
  | zero => intro x1 τ res h; cases h
  | succ n ih =>
    intro x1 τ res h H locs hP hS ls hl kx
    have J125 : ∀ (x1 : Int32) (s0 : Int32) (τ : Sx), m_X12_advances_J125 (m_X12_advances_L71 n) x1 s0 τ = some res → ∀ (H : Heap) (locs : List Loc), va_P D vwCl (gW cy ad σ τ) H → va_S (gA ad) s.heap H locs → ∀ ls : Array Slot, lv_has ls 2 [(0, .ref (ad 66)), (1, .int x1)] → W p l e R s m args below meth c H locs 0 0 (MQ below (mQv D cy ad σ out) args s 0 0 (gA ad)) (F0 m 125 ls [.int s0, .ref (ad 66)]) := by
      intro x1 s0 τ h H locs hP hS ls hl
      unfold m_X12_advances_J125 at h
      refine fp_66_7 Z hP hS wF_X12_84 dX12_advances_125 (fun H locs hP hS => ?_)
      refine lv_aload_n hx hb dX12_advances_128 rfl (lv_at hl 0 rfl) ?_
      refine lv_dup hx hb dX12_advances_129 rfl ?_
      refine fg_66_4 Z hP wF_X12_71 dX12_advances_130 ?_
      refine lv_iconst (v := 1) hx hb dX12_advances_133 (by decide) ?_
      refine lv_iadd hx hb dX12_advances_134 ?_
      refine fp_66_4 Z hP hS wF_X12_71 dX12_advances_135 (fun H locs hP hS => ?_)
      refine lv_goto (tgt := 71) hx hb dX12_advances_138 (by decide) ?_
      exact ih x1 ((sg (sg τ 5 s0) 2 (((((sg τ 5 s0)).1 2) + 1)))) _ h _ _ hP hS _ (lv_sub hl [0, 1] rfl) kx
    rw [m_X12_advances_L71] at h
    refine lv_aload_n hx hb dX12_advances_71 rfl (lv_at hl 0 rfl) ?_
    refine lv_aload_n hx hb dX12_advances_72 rfl (lv_at hl 0 rfl) ?_
    refine fg_66_4 Z hP wF_X12_71 dX12_advances_73 ?_
    obtain ⟨v13, hv13, h⟩ := bd h
    refine zqi (zrunV Z hP (As := [.int (τ.1 2)]) (rest := []) (c_X12_letterAt (R := { frames := 0, cells := 0, slots := 0, locals := 0 }) Z.i (Nat.le_refl _) (Nat.le_refl _) hv13) cV_X12_74 rfl rfl ⟨(Nat.le_trans (Nat.le_of_ble_eq_true rfl) hRf), (Nat.le_trans (Nat.le_of_ble_eq_true rfl) hRl)⟩ 66 (gW_mo.trans rfl) rfl rfl rfl hl.1 rfl (Nat.le_of_ble_eq_true rfl) dX12_advances_76 ⟨Nat.zero_le _, Nat.zero_le _⟩) ?_
    refine lv_bipush (v := 48) hx hb dX12_advances_79 (by decide) ?_
    refine lv_bipush (v := 57) hx hb dX12_advances_81 (by decide) ?_
    obtain ⟨v14, hv14, h⟩ := bd h
    refine zqi (zrunS Z hP (As := [.int v13, .int 48, .int 57]) (rest := []) (c_X12_in (R := { frames := 0, cells := 0, slots := 0, locals := 0 }) Z.i (Nat.le_refl _) (Nat.le_refl _) hv14) cV_X12_64 rfl rfl ⟨(Nat.le_trans (Nat.le_of_ble_eq_true rfl) hRf), (Nat.le_trans (Nat.le_of_ble_eq_true rfl) hRl)⟩ rfl hl.1 rfl (Nat.le_of_ble_eq_true rfl) dX12_advances_83 ⟨Nat.zero_le _, Nat.zero_le _⟩) ?_
    refine lv_if_eq (tgt := 141) hx hb dX12_advances_86 (by decide) (fun c15 => ?_) (fun c15 => ?_)
    · rw [if_pos c15] at h
      obtain rfl := Option.some.inj h
      exact kx _ _ hP hS _ (lv_sub hl [0, 1] rfl)
    · rw [if_neg c15] at h
      refine lv_aload_n hx hb dX12_advances_89 rfl (lv_at hl 0 rfl) ?_
      refine lv_aload_n hx hb dX12_advances_90 rfl (lv_at hl 0 rfl) ?_
      refine fg_66_7 Z hP wF_X12_84 dX12_advances_91 ?_
      refine lv_bipush (v := 100) hx hb dX12_advances_94 (by decide) ?_
      refine lv_icmp_le (tgt := 106) hx hb dX12_advances_96 (by decide) (fun c16 => ?_) (fun c16 => ?_)
      · rw [if_pos c16] at h
        refine lv_bipush (v := 10) hx hb dX12_advances_106 (by decide) ?_
        refine lv_aload_n hx hb dX12_advances_108 rfl (lv_at hl 0 rfl) ?_
        refine fg_66_7 Z hP wF_X12_84 dX12_advances_109 ?_
        refine lv_imul hx hb dX12_advances_112 ?_
        refine lv_aload_n hx hb dX12_advances_113 rfl (lv_at hl 0 rfl) ?_
        refine lv_aload_n hx hb dX12_advances_114 rfl (lv_at hl 0 rfl) ?_
        refine fg_66_4 Z hP wF_X12_71 dX12_advances_115 ?_
        obtain ⟨v17, hv17, h⟩ := bd h
        refine zqi (zrunV Z hP (As := [.int (τ.1 2)]) (rest := [.int (10 * (τ.1 5)), .ref (ad 66)]) (c_X12_letterAt (R := { frames := 0, cells := 0, slots := 0, locals := 0 }) Z.i (Nat.le_refl _) (Nat.le_refl _) hv17) cV_X12_74 rfl rfl ⟨(Nat.le_trans (Nat.le_of_ble_eq_true rfl) hRf), (Nat.le_trans (Nat.le_of_ble_eq_true rfl) hRl)⟩ 66 (gW_mo.trans rfl) rfl rfl rfl hl.1 rfl (Nat.le_of_ble_eq_true rfl) dX12_advances_118 ⟨Nat.zero_le _, Nat.zero_le _⟩) ?_
        refine lv_iadd hx hb dX12_advances_121 ?_
        refine lv_bipush (v := 48) hx hb dX12_advances_122 (by decide) ?_
        refine lv_isub hx hb dX12_advances_124 ?_
        exact J125 x1 ((((10 * (τ.1 5)) + v17) - 48)) τ h _ _ hP hS _ (lv_sub hl [0, 1] rfl)
      · rw [if_neg c16] at h
        refine lv_aload_n hx hb dX12_advances_99 rfl (lv_at hl 0 rfl) ?_
        refine fg_66_7 Z hP wF_X12_84 dX12_advances_100 ?_
        refine lv_goto (tgt := 125) hx hb dX12_advances_103 (by decide) ?_
        exact J125 x1 ((τ.1 5)) τ h _ _ hP hS _ (lv_sub hl [0, 1] rfl)
set_option maxHeartbeats 4000000 in
set_option maxRecDepth 100000 in
theorem c_X12_advances {l : Launch} {D : va_G} {cy : Nat → ClassId} {ad : Nat → Nat} {σ τ : Sx} {R : Room} (hI : gInj ad) (hRf : 1 ≤ R.frames) (hRl : 22 ≤ R.locals) {out : Sx} (h : m_X12_advances τ = some out) : Met l yX12_advances [Cond.code yX12_advances cX12_advances 2 none] R (va_Pc [.ref (ad 66)] (gB D cy ad σ τ)) (mQv D cy ad σ out) 0 0 (gA ad) := by
  refine zstart [.ref (ad 66)] (by decide) rfl hI (Nat.le_of_ble_eq_true rfl) ?_
  intro p e s m below meth c Z hr hlk hP ls hl
  have hx := Z.x
  have hb := Z.b
  generalize hargs : ([.ref (ad 66)] : List Value).toArray = args
  have hl : lv_has ls 2 [(0, .ref (ad 66))] := hl
  have hS : va_S (gA ad) s.heap s.heap [] := va_S.rf
  unfold m_X12_advances at h
  obtain ⟨y3, hy3, h⟩ := bd h
  refine w_X12_advances_L0 Z hr hlk hRf hRl out FU τ y3 hy3 _ _ hP hS _ (lv_sub hl [0] rfl) (fun H locs hP hS ls hl => ?_)
  refine lv_aload_n hx hb dX12_advances_26 rfl (lv_at hl 0 rfl) ?_
  refine lv_aload_n hx hb dX12_advances_27 rfl (lv_at hl 0 rfl) ?_
  refine fg_66_4 Z hP wF_X12_71 dX12_advances_28 ?_
  refine fp_66_6 Z hP hS wF_X12_78 dX12_advances_31 (fun H locs hP hS => ?_)
  refine lv_aload_n hx hb dX12_advances_34 rfl (lv_at hl 0 rfl) ?_
  refine lv_aload_n hx hb dX12_advances_35 rfl (lv_at hl 0 rfl) ?_
  refine fg_66_4 Z hP wF_X12_71 dX12_advances_36 ?_
  obtain ⟨v4, hv4, h⟩ := bd h
  refine zqi (zrunV Z hP (As := [.int (((sg y3 4 ((y3.1 2)))).1 2)]) (rest := []) (c_X12_letterAt (R := { frames := 0, cells := 0, slots := 0, locals := 0 }) Z.i (Nat.le_refl _) (Nat.le_refl _) hv4) cV_X12_74 rfl rfl ⟨(Nat.le_trans (Nat.le_of_ble_eq_true rfl) hRf), (Nat.le_trans (Nat.le_of_ble_eq_true rfl) hRl)⟩ 66 (gW_mo.trans rfl) rfl rfl rfl hl.1 rfl (Nat.le_of_ble_eq_true rfl) dX12_advances_39 ⟨Nat.zero_le _, Nat.zero_le _⟩) ?_
  refine lv_istore_n (lv' := [(1, .int v4), (0, .ref (ad 66))]) hx hb dX12_advances_42 rfl hl (by decide) rfl (fun ls hl => ?_)
  refine lv_iload_n hx hb dX12_advances_43 rfl (lv_at hl 0 rfl) ?_
  refine lv_if_ge (tgt := 55) hx hb dX12_advances_44 (by decide) (fun c5 => ?_) (fun c5 => ?_)
  · rw [if_pos c5] at h
    refine lv_iload_n hx hb dX12_advances_55 rfl (lv_at hl 0 rfl) ?_
    refine lv_bipush (v := 48) hx hb dX12_advances_56 (by decide) ?_
    refine lv_bipush (v := 57) hx hb dX12_advances_58 (by decide) ?_
    obtain ⟨v6, hv6, h⟩ := bd h
    refine zqi (zrunS Z hP (As := [.int v4, .int 48, .int 57]) (rest := []) (c_X12_in (R := { frames := 0, cells := 0, slots := 0, locals := 0 }) Z.i (Nat.le_refl _) (Nat.le_refl _) hv6) cV_X12_64 rfl rfl ⟨(Nat.le_trans (Nat.le_of_ble_eq_true rfl) hRf), (Nat.le_trans (Nat.le_of_ble_eq_true rfl) hRl)⟩ rfl hl.1 rfl (Nat.le_of_ble_eq_true rfl) dX12_advances_60 ⟨Nat.zero_le _, Nat.zero_le _⟩) ?_
    refine lv_if_eq (tgt := 181) hx hb dX12_advances_63 (by decide) (fun c7 => ?_) (fun c7 => ?_)
    · rw [if_pos c7] at h
      refine lv_aload_n hx hb dX12_advances_181 rfl (lv_at hl 1 rfl) ?_
      refine lv_dup hx hb dX12_advances_182 rfl ?_
      refine fg_66_4 Z hP wF_X12_71 dX12_advances_183 ?_
      refine lv_iconst (v := 1) hx hb dX12_advances_186 (by decide) ?_
      refine lv_iadd hx hb dX12_advances_187 ?_
      refine fp_66_4 Z hP hS wF_X12_71 dX12_advances_188 (fun H locs hP hS => ?_)
      refine lv_aload_n hx hb dX12_advances_191 rfl (lv_at hl 1 rfl) ?_
      refine lv_iload_n hx hb dX12_advances_192 rfl (lv_at hl 0 rfl) ?_
      refine fp_66_7 Z hP hS wF_X12_84 dX12_advances_193 (fun H locs hP hS => ?_)
      refine lv_aload_n hx hb dX12_advances_196 rfl (lv_at hl 1 rfl) ?_
      refine lv_iload_n hx hb dX12_advances_197 rfl (lv_at hl 0 rfl) ?_
      refine lv_bipush (v := 59) hx hb dX12_advances_198 (by decide) ?_
      refine lv_icmp_ne (tgt := 207) hx hb dX12_advances_200 (by decide) (fun c8 => ?_) (fun c8 => ?_)
      · rw [if_neg c8] at h
        refine lv_iload_n hx hb dX12_advances_207 rfl (lv_at hl 0 rfl) ?_
        refine lv_bipush (v := 116) hx hb dX12_advances_208 (by decide) ?_
        refine lv_icmp_eq (tgt := 231) hx hb dX12_advances_210 (by decide) (fun c9 => ?_) (fun c9 => ?_)
        · rw [if_pos c9] at h
          refine lv_iconst (v := 1) hx hb dX12_advances_231 (by decide) ?_
          refine lv_goto (tgt := 236) hx hb dX12_advances_232 (by decide) ?_
          refine fp_66_5 Z hP hS wF_X12_81 dX12_advances_236 (fun H locs hP hS => ?_)
          exact zmv Z hP hS hr hlk h dX12_advances_239
        · rw [if_neg c9] at h
          refine lv_iload_n hx hb dX12_advances_213 rfl (lv_at hl 0 rfl) ?_
          refine lv_bipush (v := 104) hx hb dX12_advances_214 (by decide) ?_
          refine lv_icmp_eq (tgt := 231) hx hb dX12_advances_216 (by decide) (fun c10 => ?_) (fun c10 => ?_)
          · rw [if_pos c10] at h
            refine lv_iconst (v := 1) hx hb dX12_advances_231 (by decide) ?_
            refine lv_goto (tgt := 236) hx hb dX12_advances_232 (by decide) ?_
            refine fp_66_5 Z hP hS wF_X12_81 dX12_advances_236 (fun H locs hP hS => ?_)
            exact zmv Z hP hS hr hlk h dX12_advances_239
          · rw [if_neg c10] at h
            refine lv_iload_n hx hb dX12_advances_219 rfl (lv_at hl 0 rfl) ?_
            refine lv_bipush (v := 99) hx hb dX12_advances_220 (by decide) ?_
            refine lv_icmp_eq (tgt := 231) hx hb dX12_advances_222 (by decide) (fun c11 => ?_) (fun c11 => ?_)
            · rw [if_pos c11] at h
              refine lv_iconst (v := 1) hx hb dX12_advances_231 (by decide) ?_
              refine lv_goto (tgt := 236) hx hb dX12_advances_232 (by decide) ?_
              refine fp_66_5 Z hP hS wF_X12_81 dX12_advances_236 (fun H locs hP hS => ?_)
              exact zmv Z hP hS hr hlk h dX12_advances_239
            · rw [if_neg c11] at h
              refine lv_iload_n hx hb dX12_advances_225 rfl (lv_at hl 0 rfl) ?_
              refine lv_bipush (v := 100) hx hb dX12_advances_226 (by decide) ?_
              refine lv_icmp_ne (tgt := 235) hx hb dX12_advances_228 (by decide) (fun c12 => ?_) (fun c12 => ?_)
              · rw [if_neg c12] at h
                refine lv_iconst (v := 4) hx hb dX12_advances_235 (by decide) ?_
                refine fp_66_5 Z hP hS wF_X12_81 dX12_advances_236 (fun H locs hP hS => ?_)
                exact zmv Z hP hS hr hlk h dX12_advances_239
              · rw [if_pos c12] at h
                refine lv_iconst (v := 1) hx hb dX12_advances_231 (by decide) ?_
                refine lv_goto (tgt := 236) hx hb dX12_advances_232 (by decide) ?_
                refine fp_66_5 Z hP hS wF_X12_81 dX12_advances_236 (fun H locs hP hS => ?_)
                exact zmv Z hP hS hr hlk h dX12_advances_239
      · rw [if_pos c8] at h
        refine lv_iconst (v := 3) hx hb dX12_advances_203 (by decide) ?_
        refine lv_goto (tgt := 236) hx hb dX12_advances_204 (by decide) ?_
        refine fp_66_5 Z hP hS wF_X12_81 dX12_advances_236 (fun H locs hP hS => ?_)
        exact zmv Z hP hS hr hlk h dX12_advances_239
    · rw [if_neg c7] at h
      refine lv_aload_n hx hb dX12_advances_66 rfl (lv_at hl 1 rfl) ?_
      refine lv_iconst (v := 0) hx hb dX12_advances_67 (by decide) ?_
      refine fp_66_7 Z hP hS wF_X12_84 dX12_advances_68 (fun H locs hP hS => ?_)
      obtain ⟨y18, hy18, h⟩ := bd h
      refine w_X12_advances_L71 Z hr hlk hRf hRl out FU v4 ((sg (sg y3 4 ((y3.1 2))) 5 0)) y18 hy18 _ _ hP hS _ (lv_sub hl [1, 0] rfl) (fun H locs hP hS ls hl => ?_)
      refine lv_aload_n hx hb dX12_advances_141 rfl (lv_at hl 0 rfl) ?_
      refine lv_aload_n hx hb dX12_advances_142 rfl (lv_at hl 0 rfl) ?_
      refine fg_66_7 Z hP wF_X12_84 dX12_advances_143 ?_
      refine lv_bipush (v := 100) hx hb dX12_advances_146 (by decide) ?_
      refine lv_icmp_gt (tgt := 170) hx hb dX12_advances_148 (by decide) (fun c19 => ?_) (fun c19 => ?_)
      · rw [if_pos c19] at h
        refine lv_iconst (v := 4) hx hb dX12_advances_170 (by decide) ?_
        refine lv_goto (tgt := 175) hx hb dX12_advances_171 (by decide) ?_
        refine fp_66_5 Z hP hS wF_X12_81 dX12_advances_175 (fun H locs hP hS => ?_)
        refine lv_goto (tgt := 239) hx hb dX12_advances_178 (by decide) ?_
        exact zmv Z hP hS hr hlk h dX12_advances_239
      · rw [if_neg c19] at h
        refine lv_iload_n hx hb dX12_advances_151 rfl (lv_at hl 1 rfl) ?_
        refine lv_bipush (v := 48) hx hb dX12_advances_152 (by decide) ?_
        refine lv_icmp_ne (tgt := 174) hx hb dX12_advances_154 (by decide) (fun c20 => ?_) (fun c20 => ?_)
        · rw [if_neg c20] at h
          refine lv_iconst (v := 2) hx hb dX12_advances_174 (by decide) ?_
          refine fp_66_5 Z hP hS wF_X12_81 dX12_advances_175 (fun H locs hP hS => ?_)
          refine lv_goto (tgt := 239) hx hb dX12_advances_178 (by decide) ?_
          exact zmv Z hP hS hr hlk h dX12_advances_239
        · rw [if_pos c20] at h
          refine lv_aload_n hx hb dX12_advances_157 rfl (lv_at hl 0 rfl) ?_
          refine fg_66_4 Z hP wF_X12_71 dX12_advances_158 ?_
          refine lv_aload_n hx hb dX12_advances_161 rfl (lv_at hl 0 rfl) ?_
          refine fg_66_6 Z hP wF_X12_78 dX12_advances_162 ?_
          refine lv_isub hx hb dX12_advances_165 ?_
          refine lv_iconst (v := 1) hx hb dX12_advances_166 (by decide) ?_
          refine lv_icmp_le (tgt := 174) hx hb dX12_advances_167 (by decide) (fun c21 => ?_) (fun c21 => ?_)
          · rw [if_pos c21] at h
            refine lv_iconst (v := 2) hx hb dX12_advances_174 (by decide) ?_
            refine fp_66_5 Z hP hS wF_X12_81 dX12_advances_175 (fun H locs hP hS => ?_)
            refine lv_goto (tgt := 239) hx hb dX12_advances_178 (by decide) ?_
            exact zmv Z hP hS hr hlk h dX12_advances_239
          · rw [if_neg c21] at h
            refine lv_iconst (v := 4) hx hb dX12_advances_170 (by decide) ?_
            refine lv_goto (tgt := 175) hx hb dX12_advances_171 (by decide) ?_
            refine fp_66_5 Z hP hS wF_X12_81 dX12_advances_175 (fun H locs hP hS => ?_)
            refine lv_goto (tgt := 239) hx hb dX12_advances_178 (by decide) ?_
            exact zmv Z hP hS hr hlk h dX12_advances_239
  · rw [if_neg c5] at h
    refine lv_aload_n hx hb dX12_advances_47 rfl (lv_at hl 1 rfl) ?_
    refine lv_iconst (v := 0) hx hb dX12_advances_48 (by decide) ?_
    refine fp_66_5 Z hP hS wF_X12_81 dX12_advances_49 (fun H locs hP hS => ?_)
    refine lv_goto (tgt := 239) hx hb dX12_advances_52 (by decide) ?_
    exact zmv Z hP hS hr hlk h dX12_advances_239
def m_X12_isWell (τ : Sx) : Option (Int32) :=
  if 0 ≤ (τ.1 6) then (some 0) else (some 1)
set_option maxHeartbeats 4000000 in
set_option maxRecDepth 100000 in
theorem c_X12_isWell {l : Launch} {D : va_G} {cy : Nat → ClassId} {ad : Nat → Nat} {σ τ : Sx} {R : Room} (hI : gInj ad) (hRf : 0 ≤ R.frames) (hRl : 0 ≤ R.locals) {out : Int32} (h : m_X12_isWell τ = some out) : Met l yX12_isWell [Cond.code yX12_isWell cX12_isWell 1 (some .boolean)] R (va_Pc [.ref (ad 66)] (gB D cy ad σ τ)) (rQi out) 0 0 noA := by
  refine zstart [.ref (ad 66)] (by decide) rfl hI (Nat.le_of_ble_eq_true rfl) ?_
  intro p e s m below meth c Z hr hlk hP ls hl
  have hx := Z.x
  have hb := Z.b
  generalize hargs : ([.ref (ad 66)] : List Value).toArray = args
  have hl : lv_has ls 1 [(0, .ref (ad 66))] := hl
  unfold m_X12_isWell at h
  refine lv_aload_n hx hb dX12_isWell_0 rfl (lv_at hl 0 rfl) ?_
  refine fg_66_8 Z hP wF_X12_87 dX12_isWell_1 ?_
  refine lv_if_ge (tgt := 11) hx hb dX12_isWell_4 (by decide) (fun c1 => ?_) (fun c1 => ?_)
  · rw [if_pos c1] at h
    refine lv_iconst (v := 0) hx hb dX12_isWell_11 (by decide) ?_
    exact zrzc Z hr hlk (Or.inl rfl) h dX12_isWell_12
  · rw [if_neg c1] at h
    refine lv_iconst (v := 1) hx hb dX12_isWell_7 (by decide) ?_
    refine lv_goto (tgt := 12) hx hb dX12_isWell_8 (by decide) ?_
    exact zrzc Z hr hlk (Or.inr rfl) h dX12_isWell_12
def m_X12_takes (τ : Sx) (x1 : Int32) : Option (Int32 × Sx) :=
  (m_X12_isWell τ).bind (fun v1 => if v1 = 0 then (some ((0, τ))) else (if x1 = 0 then (some ((0, (sg τ 6 ((τ.1 4)))))) else ((m_X12_advances τ).bind (fun q4 => some (((τ.1 5), q4))))))
set_option maxHeartbeats 4000000 in
set_option maxRecDepth 100000 in
theorem c_X12_takes {l : Launch} {D : va_G} {cy : Nat → ClassId} {ad : Nat → Nat} {σ τ : Sx} {R : Room} (hI : gInj ad) (hRf : 2 ≤ R.frames) (hRl : 43 ≤ R.locals) {x1 : Int32} {out : Int32 × Sx} (h : m_X12_takes τ x1 = some out) : Met l yX12_takes [Cond.code yX12_takes cX12_takes 3 (some .int)] R (va_Pc [.ref (ad 66), .int x1] (gB D cy ad σ τ)) (mQi D cy ad σ out) 0 0 (gA ad) := by
  refine zstart [.ref (ad 66), .int x1] (by decide) rfl hI (Nat.le_of_ble_eq_true rfl) ?_
  intro p e s m below meth c Z hr hlk hP ls hl
  have hx := Z.x
  have hb := Z.b
  generalize hargs : ([.ref (ad 66), .int x1] : List Value).toArray = args
  have hl : lv_has ls 3 [(0, .ref (ad 66)), (1, .int x1)] := hl
  have hS : va_S (gA ad) s.heap s.heap [] := va_S.rf
  unfold m_X12_takes at h
  refine lv_aload_n hx hb dX12_takes_0 rfl (lv_at hl 0 rfl) ?_
  obtain ⟨v1, hv1, h⟩ := bd h
  refine zqi (zrunV Z hP (As := []) (rest := []) (c_X12_isWell (R := { frames := 0, cells := 0, slots := 0, locals := 0 }) Z.i (Nat.le_refl _) (Nat.le_refl _) hv1) cV_X12_90 rfl rfl ⟨(Nat.le_trans (Nat.le_of_ble_eq_true rfl) hRf), (Nat.le_trans (Nat.le_of_ble_eq_true rfl) hRl)⟩ 66 (gW_mo.trans rfl) rfl rfl rfl hl.1 rfl (Nat.le_of_ble_eq_true rfl) dX12_takes_1 ⟨Nat.zero_le _, Nat.zero_le _⟩) ?_
  refine lv_if_ne (tgt := 9) hx hb dX12_takes_4 (by decide) (fun c2 => ?_) (fun c2 => ?_)
  · rw [if_neg c2] at h
    refine lv_iload_n hx hb dX12_takes_9 rfl (lv_at hl 1 rfl) ?_
    refine lv_if_ne (tgt := 23) hx hb dX12_takes_10 (by decide) (fun c3 => ?_) (fun c3 => ?_)
    · rw [if_neg c3] at h
      refine lv_aload_n hx hb dX12_takes_23 rfl (lv_at hl 0 rfl) ?_
      refine fg_66_7 Z hP wF_X12_84 dX12_takes_24 ?_
      refine lv_istore_n (lv' := [(2, .int (τ.1 5)), (0, .ref (ad 66)), (1, .int x1)]) hx hb dX12_takes_27 rfl hl (by decide) rfl (fun ls hl => ?_)
      refine lv_aload_n hx hb dX12_takes_28 rfl (lv_at hl 1 rfl) ?_
      obtain ⟨q4, hq4, h⟩ := bd h
      refine zwmv (zrunV Z hP (As := []) (rest := []) (c_X12_advances (R := { frames := 1, cells := 0, slots := 0, locals := 22 }) Z.i (Nat.le_refl _) (Nat.le_refl _) hq4) cV_X12_94 rfl rfl ⟨(Nat.le_trans (Nat.le_of_ble_eq_true rfl) hRf), (Nat.le_trans (Nat.le_of_ble_eq_true rfl) hRl)⟩ 66 (gW_mo.trans rfl) rfl rfl rfl hl.1 rfl (Nat.le_of_ble_eq_true rfl) dX12_takes_29 ⟨Nat.zero_le _, Nat.zero_le _⟩) hS (fun H locs hP hS => ?_)
      refine lv_iload_n hx hb dX12_takes_32 rfl (lv_at hl 0 rfl) ?_
      exact zmi Z hP hS hr hlk h dX12_takes_33
    · rw [if_pos c3] at h
      refine lv_aload_n hx hb dX12_takes_13 rfl (lv_at hl 0 rfl) ?_
      refine lv_aload_n hx hb dX12_takes_14 rfl (lv_at hl 0 rfl) ?_
      refine fg_66_6 Z hP wF_X12_78 dX12_takes_15 ?_
      refine fp_66_8 Z hP hS wF_X12_87 dX12_takes_18 (fun H locs hP hS => ?_)
      refine lv_iconst (v := 0) hx hb dX12_takes_21 (by decide) ?_
      exact zmi Z hP hS hr hlk h dX12_takes_22
  · rw [if_pos c2] at h
    refine lv_iconst (v := 0) hx hb dX12_takes_7 (by decide) ?_
    exact zmi Z hP hS hr hlk h dX12_takes_8
def m_X12_number_J26 (s0 : Int32) (τ : Sx) : Option (Int32 × Sx) :=
  (m_X12_takes τ s0).bind (fun q2 => some ((q2.1, q2.2)))
def m_X12_number_J25 (τ : Sx) : Option (Int32 × Sx) :=
  m_X12_number_J26 0 τ
def m_X12_number (τ : Sx) (x1 : Int32) (x2 : Int32) : Option (Int32 × Sx) :=
  if (τ.1 3) = 2 then ((m_X12_in ((τ.1 5)) x1 x2).bind (fun v3 => if v3 = 0 then (m_X12_number_J25 τ) else (m_X12_number_J26 1 τ))) else (m_X12_number_J25 τ)
set_option maxHeartbeats 4000000 in
set_option maxRecDepth 100000 in
theorem c_X12_number {l : Launch} {D : va_G} {cy : Nat → ClassId} {ad : Nat → Nat} {σ τ : Sx} {R : Room} (hI : gInj ad) (hRf : 3 ≤ R.frames) (hRl : 65 ≤ R.locals) {x1 : Int32} {x2 : Int32} {out : Int32 × Sx} (h : m_X12_number τ x1 x2 = some out) : Met l yX12_number [Cond.code yX12_number cX12_number 3 (some .int)] R (va_Pc [.ref (ad 66), .int x1, .int x2] (gB D cy ad σ τ)) (mQi D cy ad σ out) 0 0 (gA ad) := by
  refine zstart [.ref (ad 66), .int x1, .int x2] (by decide) rfl hI (Nat.le_of_ble_eq_true rfl) ?_
  intro p e s m below meth c Z hr hlk hP ls hl
  have hx := Z.x
  have hb := Z.b
  generalize hargs : ([.ref (ad 66), .int x1, .int x2] : List Value).toArray = args
  have hl : lv_has ls 3 [(0, .ref (ad 66)), (1, .int x1), (2, .int x2)] := hl
  have hS : va_S (gA ad) s.heap s.heap [] := va_S.rf
  have J26 : ∀ (s0 : Int32) (τ : Sx), m_X12_number_J26 s0 τ = some out → ∀ (H : Heap) (locs : List Loc), va_P D vwCl (gW cy ad σ τ) H → va_S (gA ad) s.heap H locs → ∀ ls : Array Slot, lv_has ls 3 [] → W p l e R s m args below meth c H locs 0 0 (MQ below (mQi D cy ad σ out) args s 0 0 (gA ad)) (F0 m 26 ls [.int s0, .ref (ad 66)]) := by
    intro s0 τ h H locs hP hS ls hl
    unfold m_X12_number_J26 at h
    obtain ⟨q2, hq2, h⟩ := bd h
    refine zwmi (zrunV Z hP (As := [.int s0]) (rest := []) (c_X12_takes (R := { frames := 2, cells := 0, slots := 0, locals := 43 }) Z.i (Nat.le_refl _) (Nat.le_refl _) hq2) cV_X12_97 rfl rfl ⟨(Nat.le_trans (Nat.le_of_ble_eq_true rfl) hRf), (Nat.le_trans (Nat.le_of_ble_eq_true rfl) hRl)⟩ 66 (gW_mo.trans rfl) rfl rfl rfl hl.1 rfl (Nat.le_of_ble_eq_true rfl) dX12_number_26 ⟨Nat.zero_le _, Nat.zero_le _⟩) hS (fun H locs hP hS => ?_)
    exact zmi Z hP hS hr hlk h dX12_number_29
  have J25 : ∀  (τ : Sx), m_X12_number_J25 τ = some out → ∀ (H : Heap) (locs : List Loc), va_P D vwCl (gW cy ad σ τ) H → va_S (gA ad) s.heap H locs → ∀ ls : Array Slot, lv_has ls 3 [] → W p l e R s m args below meth c H locs 0 0 (MQ below (mQi D cy ad σ out) args s 0 0 (gA ad)) (F0 m 25 ls [.ref (ad 66)]) := by
    intro τ h H locs hP hS ls hl
    unfold m_X12_number_J25 at h
    refine lv_iconst (v := 0) hx hb dX12_number_25 (by decide) ?_
    exact J26 0 τ h _ _ hP hS _ (lv_sub hl [] rfl)
  unfold m_X12_number at h
  refine lv_aload_n hx hb dX12_number_0 rfl (lv_at hl 0 rfl) ?_
  refine lv_aload_n hx hb dX12_number_1 rfl (lv_at hl 0 rfl) ?_
  refine fg_66_5 Z hP wF_X12_81 dX12_number_2 ?_
  refine lv_iconst (v := 2) hx hb dX12_number_5 (by decide) ?_
  refine lv_icmp_ne (tgt := 25) hx hb dX12_number_6 (by decide) (fun c1 => ?_) (fun c1 => ?_)
  · rw [if_neg c1] at h
    exact J25 τ h _ _ hP hS _ (lv_sub hl [] rfl)
  · rw [if_pos c1] at h
    refine lv_aload_n hx hb dX12_number_9 rfl (lv_at hl 0 rfl) ?_
    refine fg_66_7 Z hP wF_X12_84 dX12_number_10 ?_
    refine lv_iload_n hx hb dX12_number_13 rfl (lv_at hl 1 rfl) ?_
    refine lv_iload_n hx hb dX12_number_14 rfl (lv_at hl 2 rfl) ?_
    obtain ⟨v3, hv3, h⟩ := bd h
    refine zqi (zrunS Z hP (As := [.int (τ.1 5), .int x1, .int x2]) (rest := [.ref (ad 66)]) (c_X12_in (R := { frames := 0, cells := 0, slots := 0, locals := 0 }) Z.i (Nat.le_refl _) (Nat.le_refl _) hv3) cV_X12_64 rfl rfl ⟨(Nat.le_trans (Nat.le_of_ble_eq_true rfl) hRf), (Nat.le_trans (Nat.le_of_ble_eq_true rfl) hRl)⟩ rfl hl.1 rfl (Nat.le_of_ble_eq_true rfl) dX12_number_15 ⟨Nat.zero_le _, Nat.zero_le _⟩) ?_
    refine lv_if_eq (tgt := 25) hx hb dX12_number_18 (by decide) (fun c4 => ?_) (fun c4 => ?_)
    · rw [if_pos c4] at h
      exact J25 τ h _ _ hP hS _ (lv_sub hl [] rfl)
    · rw [if_neg c4] at h
      refine lv_iconst (v := 1) hx hb dX12_number_21 (by decide) ?_
      refine lv_goto (tgt := 26) hx hb dX12_number_22 (by decide) ?_
      exact J26 1 τ h _ _ hP hS _ (lv_sub hl [] rfl)
def m_X12_mayBegin (τ : Sx) : Option (Int32) :=
  if (τ.1 5) = 116 then (if 5 ≤ (τ.1 11) then (some 0) else (some 1)) else (if (τ.1 5) = 104 then (if (τ.1 14) = (-9) then (some 1) else (some 0)) else (if (τ.1 5) = 99 then (if 8 ≤ (τ.1 12) then (some 0) else (some 1)) else (if 2 ≤ (τ.1 13) then (some 0) else (some 1))))
set_option maxHeartbeats 4000000 in
set_option maxRecDepth 100000 in
theorem c_X12_mayBegin {l : Launch} {D : va_G} {cy : Nat → ClassId} {ad : Nat → Nat} {σ τ : Sx} {R : Room} (hI : gInj ad) (hRf : 0 ≤ R.frames) (hRl : 0 ≤ R.locals) {out : Int32} (h : m_X12_mayBegin τ = some out) : Met l yX12_mayBegin [Cond.code yX12_mayBegin cX12_mayBegin 1 (some .boolean)] R (va_Pc [.ref (ad 66)] (gB D cy ad σ τ)) (rQi out) 0 0 noA := by
  refine zstart [.ref (ad 66)] (by decide) rfl hI (Nat.le_of_ble_eq_true rfl) ?_
  intro p e s m below meth c Z hr hlk hP ls hl
  have hx := Z.x
  have hb := Z.b
  generalize hargs : ([.ref (ad 66)] : List Value).toArray = args
  have hl : lv_has ls 1 [(0, .ref (ad 66))] := hl
  unfold m_X12_mayBegin at h
  refine lv_aload_n hx hb dX12_mayBegin_0 rfl (lv_at hl 0 rfl) ?_
  refine fg_66_7 Z hP wF_X12_84 dX12_mayBegin_1 ?_
  refine lv_bipush (v := 116) hx hb dX12_mayBegin_4 (by decide) ?_
  refine lv_icmp_ne (tgt := 25) hx hb dX12_mayBegin_6 (by decide) (fun c1 => ?_) (fun c1 => ?_)
  · rw [if_neg c1] at h
    refine lv_aload_n hx hb dX12_mayBegin_25 rfl (lv_at hl 0 rfl) ?_
    refine fg_66_7 Z hP wF_X12_84 dX12_mayBegin_26 ?_
    refine lv_bipush (v := 104) hx hb dX12_mayBegin_29 (by decide) ?_
    refine lv_icmp_ne (tgt := 51) hx hb dX12_mayBegin_31 (by decide) (fun c2 => ?_) (fun c2 => ?_)
    · rw [if_neg c2] at h
      refine lv_aload_n hx hb dX12_mayBegin_51 rfl (lv_at hl 0 rfl) ?_
      refine fg_66_7 Z hP wF_X12_84 dX12_mayBegin_52 ?_
      refine lv_bipush (v := 99) hx hb dX12_mayBegin_55 (by decide) ?_
      refine lv_icmp_ne (tgt := 77) hx hb dX12_mayBegin_57 (by decide) (fun c3 => ?_) (fun c3 => ?_)
      · rw [if_neg c3] at h
        refine lv_aload_n hx hb dX12_mayBegin_77 rfl (lv_at hl 0 rfl) ?_
        refine fg_66_18 Z hP wF_X12_110 dX12_mayBegin_78 ?_
        refine lv_iconst (v := 2) hx hb dX12_mayBegin_81 (by decide) ?_
        refine lv_icmp_ge (tgt := 89) hx hb dX12_mayBegin_82 (by decide) (fun c4 => ?_) (fun c4 => ?_)
        · rw [if_pos c4] at h
          refine lv_iconst (v := 0) hx hb dX12_mayBegin_89 (by decide) ?_
          exact zrzc Z hr hlk (Or.inl rfl) h dX12_mayBegin_90
        · rw [if_neg c4] at h
          refine lv_iconst (v := 1) hx hb dX12_mayBegin_85 (by decide) ?_
          refine lv_goto (tgt := 90) hx hb dX12_mayBegin_86 (by decide) ?_
          exact zrzc Z hr hlk (Or.inr rfl) h dX12_mayBegin_90
      · rw [if_pos c3] at h
        refine lv_aload_n hx hb dX12_mayBegin_60 rfl (lv_at hl 0 rfl) ?_
        refine fg_66_17 Z hP wF_X12_107 dX12_mayBegin_61 ?_
        refine lv_bipush (v := 8) hx hb dX12_mayBegin_64 (by decide) ?_
        refine lv_icmp_ge (tgt := 73) hx hb dX12_mayBegin_66 (by decide) (fun c5 => ?_) (fun c5 => ?_)
        · rw [if_pos c5] at h
          refine lv_iconst (v := 0) hx hb dX12_mayBegin_73 (by decide) ?_
          refine lv_goto (tgt := 90) hx hb dX12_mayBegin_74 (by decide) ?_
          exact zrzc Z hr hlk (Or.inl rfl) h dX12_mayBegin_90
        · rw [if_neg c5] at h
          refine lv_iconst (v := 1) hx hb dX12_mayBegin_69 (by decide) ?_
          refine lv_goto (tgt := 90) hx hb dX12_mayBegin_70 (by decide) ?_
          exact zrzc Z hr hlk (Or.inr rfl) h dX12_mayBegin_90
    · rw [if_pos c2] at h
      refine lv_aload_n hx hb dX12_mayBegin_34 rfl (lv_at hl 0 rfl) ?_
      refine fg_66_19 Z hP wF_X12_104 dX12_mayBegin_35 ?_
      refine lv_bipush (v := (-9)) hx hb dX12_mayBegin_38 (by decide) ?_
      refine lv_icmp_ne (tgt := 47) hx hb dX12_mayBegin_40 (by decide) (fun c6 => ?_) (fun c6 => ?_)
      · rw [if_neg c6] at h
        refine lv_iconst (v := 0) hx hb dX12_mayBegin_47 (by decide) ?_
        refine lv_goto (tgt := 90) hx hb dX12_mayBegin_48 (by decide) ?_
        exact zrzc Z hr hlk (Or.inl rfl) h dX12_mayBegin_90
      · rw [if_pos c6] at h
        refine lv_iconst (v := 1) hx hb dX12_mayBegin_43 (by decide) ?_
        refine lv_goto (tgt := 90) hx hb dX12_mayBegin_44 (by decide) ?_
        exact zrzc Z hr hlk (Or.inr rfl) h dX12_mayBegin_90
  · rw [if_pos c1] at h
    refine lv_aload_n hx hb dX12_mayBegin_9 rfl (lv_at hl 0 rfl) ?_
    refine fg_66_16 Z hP wF_X12_101 dX12_mayBegin_10 ?_
    refine lv_iconst (v := 5) hx hb dX12_mayBegin_13 (by decide) ?_
    refine lv_icmp_ge (tgt := 21) hx hb dX12_mayBegin_14 (by decide) (fun c7 => ?_) (fun c7 => ?_)
    · rw [if_pos c7] at h
      refine lv_iconst (v := 0) hx hb dX12_mayBegin_21 (by decide) ?_
      refine lv_goto (tgt := 90) hx hb dX12_mayBegin_22 (by decide) ?_
      exact zrzc Z hr hlk (Or.inl rfl) h dX12_mayBegin_90
    · rw [if_neg c7] at h
      refine lv_iconst (v := 1) hx hb dX12_mayBegin_17 (by decide) ?_
      refine lv_goto (tgt := 90) hx hb dX12_mayBegin_18 (by decide) ?_
      exact zrzc Z hr hlk (Or.inr rfl) h dX12_mayBegin_90
def m_X12_readsItem (τ : Sx) (x1 : Int32) : Option (Sx) :=
  if x1 = 116 then ((m_X12_number τ 0 100).bind (fun q16 => (stA mLn q16.2 1 ((15 + (3 * (τ.1 11)))) q16.1).bind (fun q17 => (m_X12_number q17 1 30).bind (fun q18 => (stA mLn q18.2 1 (((15 + (3 * (τ.1 11))) + 1)) q18.1).bind (fun q19 => (m_X12_number q19 0 9).bind (fun q20 => (stA mLn q20.2 1 (((15 + (3 * (τ.1 11))) + 2)) q20.1).bind (fun q21 => some ((sg q21 11 (((q21.1 11) + 1))))))))))) else (if x1 = 104 then ((m_X12_number τ 1 2).bind (fun q15 => some ((sg q15.2 14 q15.1)))) else (if x1 = 99 then ((m_X12_number τ 0 (((τ.1 11) - 1))).bind (fun q9 => (stA mLn q9.2 2 ((24 + (3 * (τ.1 12)))) q9.1).bind (fun q10 => (m_X12_number q10 0 60).bind (fun q11 => (stA mLn q11.2 2 (((24 + (3 * (τ.1 12))) + 1)) q11.1).bind (fun q12 => (m_X12_number q12 1 50).bind (fun q13 => (stA mLn q13.2 2 (((24 + (3 * (τ.1 12))) + 2)) q13.1).bind (fun q14 => some ((sg q14 12 (((q14.1 12) + 1))))))))))) else ((m_X12_number τ 0 60).bind (fun q4 => (stA mLn q4.2 3 ((4 + (2 * (τ.1 13)))) q4.1).bind (fun q5 => (ldA mLn q5 3 ((4 + (2 * (τ.1 13))))).bind (fun v6 => (m_X12_number q5 v6 60).bind (fun q7 => (stA mLn q7.2 3 (((4 + (2 * (τ.1 13))) + 1)) q7.1).bind (fun q8 => some ((sg q8 13 (((q8.1 13) + 1))))))))))))
set_option maxHeartbeats 4000000 in
set_option maxRecDepth 100000 in
theorem c_X12_readsItem {l : Launch} {D : va_G} {cy : Nat → ClassId} {ad : Nat → Nat} {σ τ : Sx} {R : Room} (hI : gInj ad) (hRf : 4 ≤ R.frames) (hRl : 87 ≤ R.locals) {x1 : Int32} {out : Sx} (h : m_X12_readsItem τ x1 = some out) : Met l yX12_readsItem [Cond.code yX12_readsItem cX12_readsItem 3 none] R (va_Pc [.ref (ad 66), .int x1] (gB D cy ad σ τ)) (mQv D cy ad σ out) 0 0 (gA ad) := by
  refine zstart [.ref (ad 66), .int x1] (by decide) rfl hI (Nat.le_of_ble_eq_true rfl) ?_
  intro p e s m below meth c Z hr hlk hP ls hl
  have hx := Z.x
  have hb := Z.b
  generalize hargs : ([.ref (ad 66), .int x1] : List Value).toArray = args
  have hl : lv_has ls 3 [(0, .ref (ad 66)), (1, .int x1)] := hl
  have hS : va_S (gA ad) s.heap s.heap [] := va_S.rf
  unfold m_X12_readsItem at h
  refine lv_iload_n hx hb dX12_readsItem_0 rfl (lv_at hl 1 rfl) ?_
  refine lv_bipush (v := 116) hx hb dX12_readsItem_1 (by decide) ?_
  refine lv_icmp_ne (tgt := 72) hx hb dX12_readsItem_3 (by decide) (fun c1 => ?_) (fun c1 => ?_)
  · rw [if_neg c1] at h
    refine lv_iload_n hx hb dX12_readsItem_72 rfl (lv_at hl 1 rfl) ?_
    refine lv_bipush (v := 104) hx hb dX12_readsItem_73 (by decide) ?_
    refine lv_icmp_ne (tgt := 91) hx hb dX12_readsItem_75 (by decide) (fun c2 => ?_) (fun c2 => ?_)
    · rw [if_neg c2] at h
      refine lv_iload_n hx hb dX12_readsItem_91 rfl (lv_at hl 1 rfl) ?_
      refine lv_bipush (v := 99) hx hb dX12_readsItem_92 (by decide) ?_
      refine lv_icmp_ne (tgt := 167) hx hb dX12_readsItem_94 (by decide) (fun c3 => ?_) (fun c3 => ?_)
      · rw [if_neg c3] at h
        refine lv_iconst (v := 4) hx hb dX12_readsItem_167 (by decide) ?_
        refine lv_iconst (v := 2) hx hb dX12_readsItem_168 (by decide) ?_
        refine lv_aload_n hx hb dX12_readsItem_169 rfl (lv_at hl 0 rfl) ?_
        refine fg_66_18 Z hP wF_X12_110 dX12_readsItem_170 ?_
        refine lv_imul hx hb dX12_readsItem_173 ?_
        refine lv_iadd hx hb dX12_readsItem_174 ?_
        refine lv_istore_n (lv' := [(2, .int (4 + (2 * (τ.1 13)))), (0, .ref (ad 66)), (1, .int x1)]) hx hb dX12_readsItem_175 rfl hl (by decide) rfl (fun ls hl => ?_)
        refine lv_aload_n hx hb dX12_readsItem_176 rfl (lv_at hl 1 rfl) ?_
        refine fg_66_11 Z hP wF_X12_19 dX12_readsItem_177 ?_
        refine lv_iload_n hx hb dX12_readsItem_180 rfl (lv_at hl 0 rfl) ?_
        refine lv_aload_n hx hb dX12_readsItem_181 rfl (lv_at hl 1 rfl) ?_
        refine lv_iconst (v := 0) hx hb dX12_readsItem_182 (by decide) ?_
        refine lv_bipush (v := 60) hx hb dX12_readsItem_183 (by decide) ?_
        obtain ⟨q4, hq4, h⟩ := bd h
        refine zwmi (zrunV Z hP (As := [.int 0, .int 60]) (rest := [.int (4 + (2 * (τ.1 13))), .ref (ad (67 + 3))]) (c_X12_number (R := { frames := 3, cells := 0, slots := 0, locals := 65 }) Z.i (Nat.le_refl _) (Nat.le_refl _) hq4) cV_X12_113 rfl rfl ⟨(Nat.le_trans (Nat.le_of_ble_eq_true rfl) hRf), (Nat.le_trans (Nat.le_of_ble_eq_true rfl) hRl)⟩ 66 (gW_mo.trans rfl) rfl rfl rfl hl.1 rfl (Nat.le_of_ble_eq_true rfl) dX12_readsItem_185 ⟨Nat.zero_le _, Nat.zero_le _⟩) hS (fun H locs hP hS => ?_)
        obtain ⟨q5, hq5, h⟩ := bd h
        refine zm_st (j := 3) Z hP hS hq5 dX12_readsItem_188 (fun H locs hP hS => ?_)
        refine lv_aload_n hx hb dX12_readsItem_189 rfl (lv_at hl 1 rfl) ?_
        refine fg_66_11 Z hP wF_X12_19 dX12_readsItem_190 ?_
        refine lv_iload_n hx hb dX12_readsItem_193 rfl (lv_at hl 0 rfl) ?_
        refine lv_iconst (v := 1) hx hb dX12_readsItem_194 (by decide) ?_
        refine lv_iadd hx hb dX12_readsItem_195 ?_
        refine lv_aload_n hx hb dX12_readsItem_196 rfl (lv_at hl 1 rfl) ?_
        refine lv_aload_n hx hb dX12_readsItem_197 rfl (lv_at hl 1 rfl) ?_
        refine fg_66_11 Z hP wF_X12_19 dX12_readsItem_198 ?_
        refine lv_iload_n hx hb dX12_readsItem_201 rfl (lv_at hl 0 rfl) ?_
        obtain ⟨v6, hv6, h⟩ := bd h
        refine zm_ld (j := 3) Z hP hv6 dX12_readsItem_202 ?_
        refine lv_bipush (v := 60) hx hb dX12_readsItem_203 (by decide) ?_
        obtain ⟨q7, hq7, h⟩ := bd h
        refine zwmi (zrunV Z hP (As := [.int v6, .int 60]) (rest := [.int ((4 + (2 * (τ.1 13))) + 1), .ref (ad (67 + 3))]) (c_X12_number (R := { frames := 3, cells := 0, slots := 0, locals := 65 }) Z.i (Nat.le_refl _) (Nat.le_refl _) hq7) cV_X12_113 rfl rfl ⟨(Nat.le_trans (Nat.le_of_ble_eq_true rfl) hRf), (Nat.le_trans (Nat.le_of_ble_eq_true rfl) hRl)⟩ 66 (gW_mo.trans rfl) rfl rfl rfl hl.1 rfl (Nat.le_of_ble_eq_true rfl) dX12_readsItem_205 ⟨Nat.zero_le _, Nat.zero_le _⟩) hS (fun H locs hP hS => ?_)
        obtain ⟨q8, hq8, h⟩ := bd h
        refine zm_st (j := 3) Z hP hS hq8 dX12_readsItem_208 (fun H locs hP hS => ?_)
        refine lv_aload_n hx hb dX12_readsItem_209 rfl (lv_at hl 1 rfl) ?_
        refine lv_dup hx hb dX12_readsItem_210 rfl ?_
        refine fg_66_18 Z hP wF_X12_110 dX12_readsItem_211 ?_
        refine lv_iconst (v := 1) hx hb dX12_readsItem_214 (by decide) ?_
        refine lv_iadd hx hb dX12_readsItem_215 ?_
        refine fp_66_18 Z hP hS wF_X12_110 dX12_readsItem_216 (fun H locs hP hS => ?_)
        exact zmv Z hP hS hr hlk h dX12_readsItem_219
      · rw [if_pos c3] at h
        refine lv_bipush (v := 24) hx hb dX12_readsItem_97 (by decide) ?_
        refine lv_iconst (v := 3) hx hb dX12_readsItem_99 (by decide) ?_
        refine lv_aload_n hx hb dX12_readsItem_100 rfl (lv_at hl 0 rfl) ?_
        refine fg_66_17 Z hP wF_X12_107 dX12_readsItem_101 ?_
        refine lv_imul hx hb dX12_readsItem_104 ?_
        refine lv_iadd hx hb dX12_readsItem_105 ?_
        refine lv_istore_n (lv' := [(2, .int (24 + (3 * (τ.1 12)))), (0, .ref (ad 66)), (1, .int x1)]) hx hb dX12_readsItem_106 rfl hl (by decide) rfl (fun ls hl => ?_)
        refine lv_aload_n hx hb dX12_readsItem_107 rfl (lv_at hl 1 rfl) ?_
        refine fg_66_10 Z hP wF_X12_16 dX12_readsItem_108 ?_
        refine lv_iload_n hx hb dX12_readsItem_111 rfl (lv_at hl 0 rfl) ?_
        refine lv_aload_n hx hb dX12_readsItem_112 rfl (lv_at hl 1 rfl) ?_
        refine lv_iconst (v := 0) hx hb dX12_readsItem_113 (by decide) ?_
        refine lv_aload_n hx hb dX12_readsItem_114 rfl (lv_at hl 1 rfl) ?_
        refine fg_66_16 Z hP wF_X12_101 dX12_readsItem_115 ?_
        refine lv_iconst (v := 1) hx hb dX12_readsItem_118 (by decide) ?_
        refine lv_isub hx hb dX12_readsItem_119 ?_
        obtain ⟨q9, hq9, h⟩ := bd h
        refine zwmi (zrunV Z hP (As := [.int 0, .int ((τ.1 11) - 1)]) (rest := [.int (24 + (3 * (τ.1 12))), .ref (ad (67 + 2))]) (c_X12_number (R := { frames := 3, cells := 0, slots := 0, locals := 65 }) Z.i (Nat.le_refl _) (Nat.le_refl _) hq9) cV_X12_113 rfl rfl ⟨(Nat.le_trans (Nat.le_of_ble_eq_true rfl) hRf), (Nat.le_trans (Nat.le_of_ble_eq_true rfl) hRl)⟩ 66 (gW_mo.trans rfl) rfl rfl rfl hl.1 rfl (Nat.le_of_ble_eq_true rfl) dX12_readsItem_120 ⟨Nat.zero_le _, Nat.zero_le _⟩) hS (fun H locs hP hS => ?_)
        obtain ⟨q10, hq10, h⟩ := bd h
        refine zm_st (j := 2) Z hP hS hq10 dX12_readsItem_123 (fun H locs hP hS => ?_)
        refine lv_aload_n hx hb dX12_readsItem_124 rfl (lv_at hl 1 rfl) ?_
        refine fg_66_10 Z hP wF_X12_16 dX12_readsItem_125 ?_
        refine lv_iload_n hx hb dX12_readsItem_128 rfl (lv_at hl 0 rfl) ?_
        refine lv_iconst (v := 1) hx hb dX12_readsItem_129 (by decide) ?_
        refine lv_iadd hx hb dX12_readsItem_130 ?_
        refine lv_aload_n hx hb dX12_readsItem_131 rfl (lv_at hl 1 rfl) ?_
        refine lv_iconst (v := 0) hx hb dX12_readsItem_132 (by decide) ?_
        refine lv_bipush (v := 60) hx hb dX12_readsItem_133 (by decide) ?_
        obtain ⟨q11, hq11, h⟩ := bd h
        refine zwmi (zrunV Z hP (As := [.int 0, .int 60]) (rest := [.int ((24 + (3 * (τ.1 12))) + 1), .ref (ad (67 + 2))]) (c_X12_number (R := { frames := 3, cells := 0, slots := 0, locals := 65 }) Z.i (Nat.le_refl _) (Nat.le_refl _) hq11) cV_X12_113 rfl rfl ⟨(Nat.le_trans (Nat.le_of_ble_eq_true rfl) hRf), (Nat.le_trans (Nat.le_of_ble_eq_true rfl) hRl)⟩ 66 (gW_mo.trans rfl) rfl rfl rfl hl.1 rfl (Nat.le_of_ble_eq_true rfl) dX12_readsItem_135 ⟨Nat.zero_le _, Nat.zero_le _⟩) hS (fun H locs hP hS => ?_)
        obtain ⟨q12, hq12, h⟩ := bd h
        refine zm_st (j := 2) Z hP hS hq12 dX12_readsItem_138 (fun H locs hP hS => ?_)
        refine lv_aload_n hx hb dX12_readsItem_139 rfl (lv_at hl 1 rfl) ?_
        refine fg_66_10 Z hP wF_X12_16 dX12_readsItem_140 ?_
        refine lv_iload_n hx hb dX12_readsItem_143 rfl (lv_at hl 0 rfl) ?_
        refine lv_iconst (v := 2) hx hb dX12_readsItem_144 (by decide) ?_
        refine lv_iadd hx hb dX12_readsItem_145 ?_
        refine lv_aload_n hx hb dX12_readsItem_146 rfl (lv_at hl 1 rfl) ?_
        refine lv_iconst (v := 1) hx hb dX12_readsItem_147 (by decide) ?_
        refine lv_bipush (v := 50) hx hb dX12_readsItem_148 (by decide) ?_
        obtain ⟨q13, hq13, h⟩ := bd h
        refine zwmi (zrunV Z hP (As := [.int 1, .int 50]) (rest := [.int ((24 + (3 * (τ.1 12))) + 2), .ref (ad (67 + 2))]) (c_X12_number (R := { frames := 3, cells := 0, slots := 0, locals := 65 }) Z.i (Nat.le_refl _) (Nat.le_refl _) hq13) cV_X12_113 rfl rfl ⟨(Nat.le_trans (Nat.le_of_ble_eq_true rfl) hRf), (Nat.le_trans (Nat.le_of_ble_eq_true rfl) hRl)⟩ 66 (gW_mo.trans rfl) rfl rfl rfl hl.1 rfl (Nat.le_of_ble_eq_true rfl) dX12_readsItem_150 ⟨Nat.zero_le _, Nat.zero_le _⟩) hS (fun H locs hP hS => ?_)
        obtain ⟨q14, hq14, h⟩ := bd h
        refine zm_st (j := 2) Z hP hS hq14 dX12_readsItem_153 (fun H locs hP hS => ?_)
        refine lv_aload_n hx hb dX12_readsItem_154 rfl (lv_at hl 1 rfl) ?_
        refine lv_dup hx hb dX12_readsItem_155 rfl ?_
        refine fg_66_17 Z hP wF_X12_107 dX12_readsItem_156 ?_
        refine lv_iconst (v := 1) hx hb dX12_readsItem_159 (by decide) ?_
        refine lv_iadd hx hb dX12_readsItem_160 ?_
        refine fp_66_17 Z hP hS wF_X12_107 dX12_readsItem_161 (fun H locs hP hS => ?_)
        refine lv_goto (tgt := 219) hx hb dX12_readsItem_164 (by decide) ?_
        exact zmv Z hP hS hr hlk h dX12_readsItem_219
    · rw [if_pos c2] at h
      refine lv_aload_n hx hb dX12_readsItem_78 rfl (lv_at hl 0 rfl) ?_
      refine lv_aload_n hx hb dX12_readsItem_79 rfl (lv_at hl 0 rfl) ?_
      refine lv_iconst (v := 1) hx hb dX12_readsItem_80 (by decide) ?_
      refine lv_iconst (v := 2) hx hb dX12_readsItem_81 (by decide) ?_
      obtain ⟨q15, hq15, h⟩ := bd h
      refine zwmi (zrunV Z hP (As := [.int 1, .int 2]) (rest := [.ref (ad 66)]) (c_X12_number (R := { frames := 3, cells := 0, slots := 0, locals := 65 }) Z.i (Nat.le_refl _) (Nat.le_refl _) hq15) cV_X12_113 rfl rfl ⟨(Nat.le_trans (Nat.le_of_ble_eq_true rfl) hRf), (Nat.le_trans (Nat.le_of_ble_eq_true rfl) hRl)⟩ 66 (gW_mo.trans rfl) rfl rfl rfl hl.1 rfl (Nat.le_of_ble_eq_true rfl) dX12_readsItem_82 ⟨Nat.zero_le _, Nat.zero_le _⟩) hS (fun H locs hP hS => ?_)
      refine fp_66_19 Z hP hS wF_X12_104 dX12_readsItem_85 (fun H locs hP hS => ?_)
      refine lv_goto (tgt := 219) hx hb dX12_readsItem_88 (by decide) ?_
      exact zmv Z hP hS hr hlk h dX12_readsItem_219
  · rw [if_pos c1] at h
    refine lv_bipush (v := 15) hx hb dX12_readsItem_6 (by decide) ?_
    refine lv_iconst (v := 3) hx hb dX12_readsItem_8 (by decide) ?_
    refine lv_aload_n hx hb dX12_readsItem_9 rfl (lv_at hl 0 rfl) ?_
    refine fg_66_16 Z hP wF_X12_101 dX12_readsItem_10 ?_
    refine lv_imul hx hb dX12_readsItem_13 ?_
    refine lv_iadd hx hb dX12_readsItem_14 ?_
    refine lv_istore_n (lv' := [(2, .int (15 + (3 * (τ.1 11)))), (0, .ref (ad 66)), (1, .int x1)]) hx hb dX12_readsItem_15 rfl hl (by decide) rfl (fun ls hl => ?_)
    refine lv_aload_n hx hb dX12_readsItem_16 rfl (lv_at hl 1 rfl) ?_
    refine fg_66_9 Z hP wF_X12_13 dX12_readsItem_17 ?_
    refine lv_iload_n hx hb dX12_readsItem_20 rfl (lv_at hl 0 rfl) ?_
    refine lv_aload_n hx hb dX12_readsItem_21 rfl (lv_at hl 1 rfl) ?_
    refine lv_iconst (v := 0) hx hb dX12_readsItem_22 (by decide) ?_
    refine lv_bipush (v := 100) hx hb dX12_readsItem_23 (by decide) ?_
    obtain ⟨q16, hq16, h⟩ := bd h
    refine zwmi (zrunV Z hP (As := [.int 0, .int 100]) (rest := [.int (15 + (3 * (τ.1 11))), .ref (ad (67 + 1))]) (c_X12_number (R := { frames := 3, cells := 0, slots := 0, locals := 65 }) Z.i (Nat.le_refl _) (Nat.le_refl _) hq16) cV_X12_113 rfl rfl ⟨(Nat.le_trans (Nat.le_of_ble_eq_true rfl) hRf), (Nat.le_trans (Nat.le_of_ble_eq_true rfl) hRl)⟩ 66 (gW_mo.trans rfl) rfl rfl rfl hl.1 rfl (Nat.le_of_ble_eq_true rfl) dX12_readsItem_25 ⟨Nat.zero_le _, Nat.zero_le _⟩) hS (fun H locs hP hS => ?_)
    obtain ⟨q17, hq17, h⟩ := bd h
    refine zm_st (j := 1) Z hP hS hq17 dX12_readsItem_28 (fun H locs hP hS => ?_)
    refine lv_aload_n hx hb dX12_readsItem_29 rfl (lv_at hl 1 rfl) ?_
    refine fg_66_9 Z hP wF_X12_13 dX12_readsItem_30 ?_
    refine lv_iload_n hx hb dX12_readsItem_33 rfl (lv_at hl 0 rfl) ?_
    refine lv_iconst (v := 1) hx hb dX12_readsItem_34 (by decide) ?_
    refine lv_iadd hx hb dX12_readsItem_35 ?_
    refine lv_aload_n hx hb dX12_readsItem_36 rfl (lv_at hl 1 rfl) ?_
    refine lv_iconst (v := 1) hx hb dX12_readsItem_37 (by decide) ?_
    refine lv_bipush (v := 30) hx hb dX12_readsItem_38 (by decide) ?_
    obtain ⟨q18, hq18, h⟩ := bd h
    refine zwmi (zrunV Z hP (As := [.int 1, .int 30]) (rest := [.int ((15 + (3 * (τ.1 11))) + 1), .ref (ad (67 + 1))]) (c_X12_number (R := { frames := 3, cells := 0, slots := 0, locals := 65 }) Z.i (Nat.le_refl _) (Nat.le_refl _) hq18) cV_X12_113 rfl rfl ⟨(Nat.le_trans (Nat.le_of_ble_eq_true rfl) hRf), (Nat.le_trans (Nat.le_of_ble_eq_true rfl) hRl)⟩ 66 (gW_mo.trans rfl) rfl rfl rfl hl.1 rfl (Nat.le_of_ble_eq_true rfl) dX12_readsItem_40 ⟨Nat.zero_le _, Nat.zero_le _⟩) hS (fun H locs hP hS => ?_)
    obtain ⟨q19, hq19, h⟩ := bd h
    refine zm_st (j := 1) Z hP hS hq19 dX12_readsItem_43 (fun H locs hP hS => ?_)
    refine lv_aload_n hx hb dX12_readsItem_44 rfl (lv_at hl 1 rfl) ?_
    refine fg_66_9 Z hP wF_X12_13 dX12_readsItem_45 ?_
    refine lv_iload_n hx hb dX12_readsItem_48 rfl (lv_at hl 0 rfl) ?_
    refine lv_iconst (v := 2) hx hb dX12_readsItem_49 (by decide) ?_
    refine lv_iadd hx hb dX12_readsItem_50 ?_
    refine lv_aload_n hx hb dX12_readsItem_51 rfl (lv_at hl 1 rfl) ?_
    refine lv_iconst (v := 0) hx hb dX12_readsItem_52 (by decide) ?_
    refine lv_bipush (v := 9) hx hb dX12_readsItem_53 (by decide) ?_
    obtain ⟨q20, hq20, h⟩ := bd h
    refine zwmi (zrunV Z hP (As := [.int 0, .int 9]) (rest := [.int ((15 + (3 * (τ.1 11))) + 2), .ref (ad (67 + 1))]) (c_X12_number (R := { frames := 3, cells := 0, slots := 0, locals := 65 }) Z.i (Nat.le_refl _) (Nat.le_refl _) hq20) cV_X12_113 rfl rfl ⟨(Nat.le_trans (Nat.le_of_ble_eq_true rfl) hRf), (Nat.le_trans (Nat.le_of_ble_eq_true rfl) hRl)⟩ 66 (gW_mo.trans rfl) rfl rfl rfl hl.1 rfl (Nat.le_of_ble_eq_true rfl) dX12_readsItem_55 ⟨Nat.zero_le _, Nat.zero_le _⟩) hS (fun H locs hP hS => ?_)
    obtain ⟨q21, hq21, h⟩ := bd h
    refine zm_st (j := 1) Z hP hS hq21 dX12_readsItem_58 (fun H locs hP hS => ?_)
    refine lv_aload_n hx hb dX12_readsItem_59 rfl (lv_at hl 1 rfl) ?_
    refine lv_dup hx hb dX12_readsItem_60 rfl ?_
    refine fg_66_16 Z hP wF_X12_101 dX12_readsItem_61 ?_
    refine lv_iconst (v := 1) hx hb dX12_readsItem_64 (by decide) ?_
    refine lv_iadd hx hb dX12_readsItem_65 ?_
    refine fp_66_16 Z hP hS wF_X12_101 dX12_readsItem_66 (fun H locs hP hS => ?_)
    refine lv_goto (tgt := 219) hx hb dX12_readsItem_69 (by decide) ?_
    exact zmv Z hP hS hr hlk h dX12_readsItem_219
def m_X12_settles_L47  : Nat → Int32 → Sx → Option (Sx)
  | 0, _, _ => none
  | n + 1, x1, τ =>
  if 15 ≤ x1 then (some τ) else ((ldA mLn τ 1 ((15 + x1))).bind (fun v3 => (stA mLn τ 1 x1 v3).bind (fun q4 => m_X12_settles_L47 n ((x1 + 1)) q4)))
def m_X12_settles_L76  : Nat → Int32 → Sx → Option (Sx)
  | 0, _, _ => none
  | n + 1, x1, τ =>
  if 24 ≤ x1 then (some τ) else ((ldA mLn τ 2 ((24 + x1))).bind (fun v7 => (stA mLn τ 2 x1 v7).bind (fun q8 => m_X12_settles_L76 n ((x1 + 1)) q8)))
def m_X12_settles_L105  : Nat → Int32 → Sx → Option (Sx)
  | 0, _, _ => none
  | n + 1, x1, τ =>
  if 4 ≤ x1 then (some τ) else ((ldA mLn τ 3 ((4 + x1))).bind (fun v11 => (stA mLn τ 3 x1 v11).bind (fun q12 => m_X12_settles_L105 n ((x1 + 1)) q12)))
def m_X12_settles_L132  : Nat → Int32 → Sx → Option (Sx)
  | 0, _, _ => none
  | n + 1, x1, τ =>
  if 14 ≤ x1 then (some τ) else ((stA mLn τ 4 x1 0).bind (fun q15 => m_X12_settles_L132 n ((x1 + 1)) q15))
def m_X12_settles_L153  : Nat → Int32 → Sx → Option (Sx)
  | 0, _, _ => none
  | n + 1, x1, τ =>
  if (τ.1 7) ≤ x1 then (some τ) else ((ldA mLn τ 1 ((3 * x1))).bind (fun v18 => (stA mLn τ 4 ((4 + x1)) v18).bind (fun q19 => m_X12_settles_L153 n ((x1 + 1)) q19)))
def m_X12_settles_J42 (s0 : Int32) (τ : Sx) : Option (Sx) :=
  (m_X12_settles_L47 FU 0 ((sg τ 10 s0))).bind (fun y5 => (m_X12_settles_L76 FU 0 y5).bind (fun y9 => (m_X12_settles_L105 FU 0 y9).bind (fun y13 => (m_X12_settles_L132 FU 0 y13).bind (fun y16 => (m_X12_settles_L153 FU 0 y16).bind (fun y20 => (stZ ((sg (sg (sg y20 1 0) 15 0) 16 0)) 12 0 0).bind (fun q21 => (stZ q21 12 1 0).bind (fun q22 => some q22)))))))
def m_X12_settles (τ : Sx) : Option (Sx) :=
  if (((sg (sg (sg τ 7 ((τ.1 11))) 8 ((((sg τ 7 ((τ.1 11)))).1 12))) 9 ((((sg (sg τ 7 ((τ.1 11))) 8 ((((sg τ 7 ((τ.1 11)))).1 12)))).1 13)))).1 14) = (-9) then (m_X12_settles_J42 1 ((sg (sg (sg τ 7 ((τ.1 11))) 8 ((((sg τ 7 ((τ.1 11)))).1 12))) 9 ((((sg (sg τ 7 ((τ.1 11))) 8 ((((sg τ 7 ((τ.1 11)))).1 12)))).1 13))))) else (m_X12_settles_J42 ((((sg (sg (sg τ 7 ((τ.1 11))) 8 ((((sg τ 7 ((τ.1 11)))).1 12))) 9 ((((sg (sg τ 7 ((τ.1 11))) 8 ((((sg τ 7 ((τ.1 11)))).1 12)))).1 13)))).1 14)) ((sg (sg (sg τ 7 ((τ.1 11))) 8 ((((sg τ 7 ((τ.1 11)))).1 12))) 9 ((((sg (sg τ 7 ((τ.1 11))) 8 ((((sg τ 7 ((τ.1 11)))).1 12)))).1 13)))))
set_option maxHeartbeats 4000000 in
set_option maxRecDepth 100000 in
theorem w_X12_settles_L47 {l : Launch} {D : va_G} {cy : Nat → ClassId} {ad : Nat → Nat} {σ : Sx} {p : Program} {e : Env} {R : Room} {s : State} {m : MethodId} {args : Array Value} {below : List Frame} {meth : Method} {c : Code} (Z : Zc p s m c cX12_settles 2 RX12 D cy ad) (hr : meth.sig.returnType = none) (hlk : meth.locks = false) (hRf : 0 ≤ R.frames) (hRl : 0 ≤ R.locals) (out : Sx) : ∀ (n : Nat) (x1 : Int32) (τ : Sx) (res : Sx), m_X12_settles_L47 n x1 τ = some res → ∀ (H : Heap) (locs : List Loc), va_P D vwCl (gW cy ad σ τ) H → va_S (gA ad) s.heap H locs → ∀ ls : Array Slot, lv_has ls 2 [(0, .ref (ad 66)), (1, .int x1)] → (∀ (H : Heap) (locs : List Loc), va_P D vwCl (gW cy ad σ res) H → va_S (gA ad) s.heap H locs → ∀ ls : Array Slot, lv_has ls 2 [(0, .ref (ad 66))] → W p l e R s m args below meth c H locs 0 0 (MQ below (mQv D cy ad σ out) args s 0 0 (gA ad)) (F0 m 74 ls [])) → W p l e R s m args below meth c H locs 0 0 (MQ below (mQv D cy ad σ out) args s 0 0 (gA ad)) (F0 m 47 ls []) := by
  have hx := Z.x
  have hb := Z.b
  intro n
  induction n with
  | zero => intro x1 τ res h; cases h
  | succ n ih =>
    intro x1 τ res h H locs hP hS ls hl kx
    rw [m_X12_settles_L47] at h
    refine lv_iload_n hx hb dX12_settles_47 rfl (lv_at hl 1 rfl) ?_
    refine lv_bipush (v := 15) hx hb dX12_settles_48 (by decide) ?_
    refine lv_icmp_ge (tgt := 74) hx hb dX12_settles_50 (by decide) (fun c2 => ?_) (fun c2 => ?_)
    · rw [if_pos c2] at h
      obtain rfl := Option.some.inj h
      exact kx _ _ hP hS _ (lv_sub hl [0] rfl)
    · rw [if_neg c2] at h
      refine lv_aload_n hx hb dX12_settles_53 rfl (lv_at hl 0 rfl) ?_
      refine fg_66_9 Z hP wF_X12_13 dX12_settles_54 ?_
      refine lv_iload_n hx hb dX12_settles_57 rfl (lv_at hl 1 rfl) ?_
      refine lv_aload_n hx hb dX12_settles_58 rfl (lv_at hl 0 rfl) ?_
      refine fg_66_9 Z hP wF_X12_13 dX12_settles_59 ?_
      refine lv_bipush (v := 15) hx hb dX12_settles_62 (by decide) ?_
      refine lv_iload_n hx hb dX12_settles_64 rfl (lv_at hl 1 rfl) ?_
      refine lv_iadd hx hb dX12_settles_65 ?_
      obtain ⟨v3, hv3, h⟩ := bd h
      refine zm_ld (j := 1) Z hP hv3 dX12_settles_66 ?_
      obtain ⟨q4, hq4, h⟩ := bd h
      refine zm_st (j := 1) Z hP hS hq4 dX12_settles_67 (fun H locs hP hS => ?_)
      refine lv_iinc (v := (x1 + 1)) (lv' := [(1, .int (x1 + 1)), (0, .ref (ad 66))]) hx hb dX12_settles_68 hl (k := 1) rfl rfl (by decide) rfl (fun ls hl => ?_)
      refine lv_goto (tgt := 47) hx hb dX12_settles_71 (by decide) ?_
      exact ih ((x1 + 1)) q4 _ h _ _ hP hS _ (lv_sub hl [1, 0] rfl) kx
set_option maxHeartbeats 4000000 in
set_option maxRecDepth 100000 in
theorem w_X12_settles_L76 {l : Launch} {D : va_G} {cy : Nat → ClassId} {ad : Nat → Nat} {σ : Sx} {p : Program} {e : Env} {R : Room} {s : State} {m : MethodId} {args : Array Value} {below : List Frame} {meth : Method} {c : Code} (Z : Zc p s m c cX12_settles 2 RX12 D cy ad) (hr : meth.sig.returnType = none) (hlk : meth.locks = false) (hRf : 0 ≤ R.frames) (hRl : 0 ≤ R.locals) (out : Sx) : ∀ (n : Nat) (x1 : Int32) (τ : Sx) (res : Sx), m_X12_settles_L76 n x1 τ = some res → ∀ (H : Heap) (locs : List Loc), va_P D vwCl (gW cy ad σ τ) H → va_S (gA ad) s.heap H locs → ∀ ls : Array Slot, lv_has ls 2 [(0, .ref (ad 66)), (1, .int x1)] → (∀ (H : Heap) (locs : List Loc), va_P D vwCl (gW cy ad σ res) H → va_S (gA ad) s.heap H locs → ∀ ls : Array Slot, lv_has ls 2 [(0, .ref (ad 66))] → W p l e R s m args below meth c H locs 0 0 (MQ below (mQv D cy ad σ out) args s 0 0 (gA ad)) (F0 m 103 ls [])) → W p l e R s m args below meth c H locs 0 0 (MQ below (mQv D cy ad σ out) args s 0 0 (gA ad)) (F0 m 76 ls []) := by
  have hx := Z.x
  have hb := Z.b
  intro n
  induction n with
  | zero => intro x1 τ res h; cases h
  | succ n ih =>
    intro x1 τ res h H locs hP hS ls hl kx
    rw [m_X12_settles_L76] at h
    refine lv_iload_n hx hb dX12_settles_76 rfl (lv_at hl 1 rfl) ?_
    refine lv_bipush (v := 24) hx hb dX12_settles_77 (by decide) ?_
    refine lv_icmp_ge (tgt := 103) hx hb dX12_settles_79 (by decide) (fun c6 => ?_) (fun c6 => ?_)
    · rw [if_pos c6] at h
      obtain rfl := Option.some.inj h
      exact kx _ _ hP hS _ (lv_sub hl [0] rfl)
    · rw [if_neg c6] at h
      refine lv_aload_n hx hb dX12_settles_82 rfl (lv_at hl 0 rfl) ?_
      refine fg_66_10 Z hP wF_X12_16 dX12_settles_83 ?_
      refine lv_iload_n hx hb dX12_settles_86 rfl (lv_at hl 1 rfl) ?_
      refine lv_aload_n hx hb dX12_settles_87 rfl (lv_at hl 0 rfl) ?_
      refine fg_66_10 Z hP wF_X12_16 dX12_settles_88 ?_
      refine lv_bipush (v := 24) hx hb dX12_settles_91 (by decide) ?_
      refine lv_iload_n hx hb dX12_settles_93 rfl (lv_at hl 1 rfl) ?_
      refine lv_iadd hx hb dX12_settles_94 ?_
      obtain ⟨v7, hv7, h⟩ := bd h
      refine zm_ld (j := 2) Z hP hv7 dX12_settles_95 ?_
      obtain ⟨q8, hq8, h⟩ := bd h
      refine zm_st (j := 2) Z hP hS hq8 dX12_settles_96 (fun H locs hP hS => ?_)
      refine lv_iinc (v := (x1 + 1)) (lv' := [(1, .int (x1 + 1)), (0, .ref (ad 66))]) hx hb dX12_settles_97 hl (k := 1) rfl rfl (by decide) rfl (fun ls hl => ?_)
      refine lv_goto (tgt := 76) hx hb dX12_settles_100 (by decide) ?_
      exact ih ((x1 + 1)) q8 _ h _ _ hP hS _ (lv_sub hl [1, 0] rfl) kx
set_option maxHeartbeats 4000000 in
set_option maxRecDepth 100000 in
theorem w_X12_settles_L105 {l : Launch} {D : va_G} {cy : Nat → ClassId} {ad : Nat → Nat} {σ : Sx} {p : Program} {e : Env} {R : Room} {s : State} {m : MethodId} {args : Array Value} {below : List Frame} {meth : Method} {c : Code} (Z : Zc p s m c cX12_settles 2 RX12 D cy ad) (hr : meth.sig.returnType = none) (hlk : meth.locks = false) (hRf : 0 ≤ R.frames) (hRl : 0 ≤ R.locals) (out : Sx) : ∀ (n : Nat) (x1 : Int32) (τ : Sx) (res : Sx), m_X12_settles_L105 n x1 τ = some res → ∀ (H : Heap) (locs : List Loc), va_P D vwCl (gW cy ad σ τ) H → va_S (gA ad) s.heap H locs → ∀ ls : Array Slot, lv_has ls 2 [(0, .ref (ad 66)), (1, .int x1)] → (∀ (H : Heap) (locs : List Loc), va_P D vwCl (gW cy ad σ res) H → va_S (gA ad) s.heap H locs → ∀ ls : Array Slot, lv_has ls 2 [(0, .ref (ad 66))] → W p l e R s m args below meth c H locs 0 0 (MQ below (mQv D cy ad σ out) args s 0 0 (gA ad)) (F0 m 130 ls [])) → W p l e R s m args below meth c H locs 0 0 (MQ below (mQv D cy ad σ out) args s 0 0 (gA ad)) (F0 m 105 ls []) := by
  have hx := Z.x
  have hb := Z.b
  intro n
  induction n with
  | zero => intro x1 τ res h; cases h
  | succ n ih =>
    intro x1 τ res h H locs hP hS ls hl kx
    rw [m_X12_settles_L105] at h
    refine lv_iload_n hx hb dX12_settles_105 rfl (lv_at hl 1 rfl) ?_
    refine lv_iconst (v := 4) hx hb dX12_settles_106 (by decide) ?_
    refine lv_icmp_ge (tgt := 130) hx hb dX12_settles_107 (by decide) (fun c10 => ?_) (fun c10 => ?_)
    · rw [if_pos c10] at h
      obtain rfl := Option.some.inj h
      exact kx _ _ hP hS _ (lv_sub hl [0] rfl)
    · rw [if_neg c10] at h
      refine lv_aload_n hx hb dX12_settles_110 rfl (lv_at hl 0 rfl) ?_
      refine fg_66_11 Z hP wF_X12_19 dX12_settles_111 ?_
      refine lv_iload_n hx hb dX12_settles_114 rfl (lv_at hl 1 rfl) ?_
      refine lv_aload_n hx hb dX12_settles_115 rfl (lv_at hl 0 rfl) ?_
      refine fg_66_11 Z hP wF_X12_19 dX12_settles_116 ?_
      refine lv_iconst (v := 4) hx hb dX12_settles_119 (by decide) ?_
      refine lv_iload_n hx hb dX12_settles_120 rfl (lv_at hl 1 rfl) ?_
      refine lv_iadd hx hb dX12_settles_121 ?_
      obtain ⟨v11, hv11, h⟩ := bd h
      refine zm_ld (j := 3) Z hP hv11 dX12_settles_122 ?_
      obtain ⟨q12, hq12, h⟩ := bd h
      refine zm_st (j := 3) Z hP hS hq12 dX12_settles_123 (fun H locs hP hS => ?_)
      refine lv_iinc (v := (x1 + 1)) (lv' := [(1, .int (x1 + 1)), (0, .ref (ad 66))]) hx hb dX12_settles_124 hl (k := 1) rfl rfl (by decide) rfl (fun ls hl => ?_)
      refine lv_goto (tgt := 105) hx hb dX12_settles_127 (by decide) ?_
      exact ih ((x1 + 1)) q12 _ h _ _ hP hS _ (lv_sub hl [1, 0] rfl) kx
set_option maxHeartbeats 4000000 in
set_option maxRecDepth 100000 in
theorem w_X12_settles_L132 {l : Launch} {D : va_G} {cy : Nat → ClassId} {ad : Nat → Nat} {σ : Sx} {p : Program} {e : Env} {R : Room} {s : State} {m : MethodId} {args : Array Value} {below : List Frame} {meth : Method} {c : Code} (Z : Zc p s m c cX12_settles 2 RX12 D cy ad) (hr : meth.sig.returnType = none) (hlk : meth.locks = false) (hRf : 0 ≤ R.frames) (hRl : 0 ≤ R.locals) (out : Sx) : ∀ (n : Nat) (x1 : Int32) (τ : Sx) (res : Sx), m_X12_settles_L132 n x1 τ = some res → ∀ (H : Heap) (locs : List Loc), va_P D vwCl (gW cy ad σ τ) H → va_S (gA ad) s.heap H locs → ∀ ls : Array Slot, lv_has ls 2 [(0, .ref (ad 66)), (1, .int x1)] → (∀ (H : Heap) (locs : List Loc), va_P D vwCl (gW cy ad σ res) H → va_S (gA ad) s.heap H locs → ∀ ls : Array Slot, lv_has ls 2 [(0, .ref (ad 66))] → W p l e R s m args below meth c H locs 0 0 (MQ below (mQv D cy ad σ out) args s 0 0 (gA ad)) (F0 m 151 ls [])) → W p l e R s m args below meth c H locs 0 0 (MQ below (mQv D cy ad σ out) args s 0 0 (gA ad)) (F0 m 132 ls []) := by
  have hx := Z.x
  have hb := Z.b
  intro n
  induction n with
  | zero => intro x1 τ res h; cases h
  | succ n ih =>
    intro x1 τ res h H locs hP hS ls hl kx
    rw [m_X12_settles_L132] at h
    refine lv_iload_n hx hb dX12_settles_132 rfl (lv_at hl 1 rfl) ?_
    refine lv_bipush (v := 14) hx hb dX12_settles_133 (by decide) ?_
    refine lv_icmp_ge (tgt := 151) hx hb dX12_settles_135 (by decide) (fun c14 => ?_) (fun c14 => ?_)
    · rw [if_pos c14] at h
      obtain rfl := Option.some.inj h
      exact kx _ _ hP hS _ (lv_sub hl [0] rfl)
    · rw [if_neg c14] at h
      refine lv_aload_n hx hb dX12_settles_138 rfl (lv_at hl 0 rfl) ?_
      refine fg_66_20 Z hP wF_X12_22 dX12_settles_139 ?_
      refine lv_iload_n hx hb dX12_settles_142 rfl (lv_at hl 1 rfl) ?_
      refine lv_iconst (v := 0) hx hb dX12_settles_143 (by decide) ?_
      obtain ⟨q15, hq15, h⟩ := bd h
      refine zm_st (j := 4) Z hP hS hq15 dX12_settles_144 (fun H locs hP hS => ?_)
      refine lv_iinc (v := (x1 + 1)) (lv' := [(1, .int (x1 + 1)), (0, .ref (ad 66))]) hx hb dX12_settles_145 hl (k := 1) rfl rfl (by decide) rfl (fun ls hl => ?_)
      refine lv_goto (tgt := 132) hx hb dX12_settles_148 (by decide) ?_
      exact ih ((x1 + 1)) q15 _ h _ _ hP hS _ (lv_sub hl [1, 0] rfl) kx
set_option maxHeartbeats 4000000 in
set_option maxRecDepth 100000 in
theorem w_X12_settles_L153 {l : Launch} {D : va_G} {cy : Nat → ClassId} {ad : Nat → Nat} {σ : Sx} {p : Program} {e : Env} {R : Room} {s : State} {m : MethodId} {args : Array Value} {below : List Frame} {meth : Method} {c : Code} (Z : Zc p s m c cX12_settles 2 RX12 D cy ad) (hr : meth.sig.returnType = none) (hlk : meth.locks = false) (hRf : 0 ≤ R.frames) (hRl : 0 ≤ R.locals) (out : Sx) : ∀ (n : Nat) (x1 : Int32) (τ : Sx) (res : Sx), m_X12_settles_L153 n x1 τ = some res → ∀ (H : Heap) (locs : List Loc), va_P D vwCl (gW cy ad σ τ) H → va_S (gA ad) s.heap H locs → ∀ ls : Array Slot, lv_has ls 2 [(0, .ref (ad 66)), (1, .int x1)] → (∀ (H : Heap) (locs : List Loc), va_P D vwCl (gW cy ad σ res) H → va_S (gA ad) s.heap H locs → ∀ ls : Array Slot, lv_has ls 2 [(0, .ref (ad 66))] → W p l e R s m args below meth c H locs 0 0 (MQ below (mQv D cy ad σ out) args s 0 0 (gA ad)) (F0 m 183 ls [])) → W p l e R s m args below meth c H locs 0 0 (MQ below (mQv D cy ad σ out) args s 0 0 (gA ad)) (F0 m 153 ls []) := by
  have hx := Z.x
  have hb := Z.b
  intro n
  induction n with
  | zero => intro x1 τ res h; cases h
  | succ n ih =>
    intro x1 τ res h H locs hP hS ls hl kx
    rw [m_X12_settles_L153] at h
    refine lv_iload_n hx hb dX12_settles_153 rfl (lv_at hl 1 rfl) ?_
    refine lv_aload_n hx hb dX12_settles_154 rfl (lv_at hl 0 rfl) ?_
    refine fg_66_12 Z hP wF_X12_127 dX12_settles_155 ?_
    refine lv_icmp_ge (tgt := 183) hx hb dX12_settles_158 (by decide) (fun c17 => ?_) (fun c17 => ?_)
    · rw [if_pos c17] at h
      obtain rfl := Option.some.inj h
      exact kx _ _ hP hS _ (lv_sub hl [0] rfl)
    · rw [if_neg c17] at h
      refine lv_aload_n hx hb dX12_settles_161 rfl (lv_at hl 0 rfl) ?_
      refine fg_66_20 Z hP wF_X12_22 dX12_settles_162 ?_
      refine lv_iconst (v := 4) hx hb dX12_settles_165 (by decide) ?_
      refine lv_iload_n hx hb dX12_settles_166 rfl (lv_at hl 1 rfl) ?_
      refine lv_iadd hx hb dX12_settles_167 ?_
      refine lv_aload_n hx hb dX12_settles_168 rfl (lv_at hl 0 rfl) ?_
      refine fg_66_9 Z hP wF_X12_13 dX12_settles_169 ?_
      refine lv_iconst (v := 3) hx hb dX12_settles_172 (by decide) ?_
      refine lv_iload_n hx hb dX12_settles_173 rfl (lv_at hl 1 rfl) ?_
      refine lv_imul hx hb dX12_settles_174 ?_
      obtain ⟨v18, hv18, h⟩ := bd h
      refine zm_ld (j := 1) Z hP hv18 dX12_settles_175 ?_
      obtain ⟨q19, hq19, h⟩ := bd h
      refine zm_st (j := 4) Z hP hS hq19 dX12_settles_176 (fun H locs hP hS => ?_)
      refine lv_iinc (v := (x1 + 1)) (lv' := [(1, .int (x1 + 1)), (0, .ref (ad 66))]) hx hb dX12_settles_177 hl (k := 1) rfl rfl (by decide) rfl (fun ls hl => ?_)
      refine lv_goto (tgt := 153) hx hb dX12_settles_180 (by decide) ?_
      exact ih ((x1 + 1)) q19 _ h _ _ hP hS _ (lv_sub hl [1, 0] rfl) kx
set_option maxHeartbeats 4000000 in
set_option maxRecDepth 100000 in
theorem c_X12_settles {l : Launch} {D : va_G} {cy : Nat → ClassId} {ad : Nat → Nat} {σ τ : Sx} {R : Room} (hI : gInj ad) (hRf : 0 ≤ R.frames) (hRl : 0 ≤ R.locals) {out : Sx} (h : m_X12_settles τ = some out) : Met l yX12_settles [Cond.code yX12_settles cX12_settles 2 none] R (va_Pc [.ref (ad 66)] (gB D cy ad σ τ)) (mQv D cy ad σ out) 0 0 (gA ad) := by
  refine zstart [.ref (ad 66)] (by decide) rfl hI (Nat.le_of_ble_eq_true rfl) ?_
  intro p e s m below meth c Z hr hlk hP ls hl
  have hx := Z.x
  have hb := Z.b
  generalize hargs : ([.ref (ad 66)] : List Value).toArray = args
  have hl : lv_has ls 2 [(0, .ref (ad 66))] := hl
  have hS : va_S (gA ad) s.heap s.heap [] := va_S.rf
  have J42 : ∀ (s0 : Int32) (τ : Sx), m_X12_settles_J42 s0 τ = some out → ∀ (H : Heap) (locs : List Loc), va_P D vwCl (gW cy ad σ τ) H → va_S (gA ad) s.heap H locs → ∀ ls : Array Slot, lv_has ls 2 [(0, .ref (ad 66))] → W p l e R s m args below meth c H locs 0 0 (MQ below (mQv D cy ad σ out) args s 0 0 (gA ad)) (F0 m 42 ls [.int s0, .ref (ad 66)]) := by
    intro s0 τ h H locs hP hS ls hl
    unfold m_X12_settles_J42 at h
    refine fp_66_15 Z hP hS wF_X12_57 dX12_settles_42 (fun H locs hP hS => ?_)
    refine lv_iconst (v := 0) hx hb dX12_settles_45 (by decide) ?_
    refine lv_istore_n (lv' := [(1, .int 0), (0, .ref (ad 66))]) hx hb dX12_settles_46 rfl hl (by decide) rfl (fun ls hl => ?_)
    obtain ⟨y5, hy5, h⟩ := bd h
    refine w_X12_settles_L47 Z hr hlk hRf hRl out FU 0 ((sg τ 10 s0)) y5 hy5 _ _ hP hS _ (lv_sub hl [1, 0] rfl) (fun H locs hP hS ls hl => ?_)
    refine lv_iconst (v := 0) hx hb dX12_settles_74 (by decide) ?_
    refine lv_istore_n (lv' := [(1, .int 0), (0, .ref (ad 66))]) hx hb dX12_settles_75 rfl hl (by decide) rfl (fun ls hl => ?_)
    obtain ⟨y9, hy9, h⟩ := bd h
    refine w_X12_settles_L76 Z hr hlk hRf hRl out FU 0 y5 y9 hy9 _ _ hP hS _ (lv_sub hl [1, 0] rfl) (fun H locs hP hS ls hl => ?_)
    refine lv_iconst (v := 0) hx hb dX12_settles_103 (by decide) ?_
    refine lv_istore_n (lv' := [(1, .int 0), (0, .ref (ad 66))]) hx hb dX12_settles_104 rfl hl (by decide) rfl (fun ls hl => ?_)
    obtain ⟨y13, hy13, h⟩ := bd h
    refine w_X12_settles_L105 Z hr hlk hRf hRl out FU 0 y9 y13 hy13 _ _ hP hS _ (lv_sub hl [1, 0] rfl) (fun H locs hP hS ls hl => ?_)
    refine lv_iconst (v := 0) hx hb dX12_settles_130 (by decide) ?_
    refine lv_istore_n (lv' := [(1, .int 0), (0, .ref (ad 66))]) hx hb dX12_settles_131 rfl hl (by decide) rfl (fun ls hl => ?_)
    obtain ⟨y16, hy16, h⟩ := bd h
    refine w_X12_settles_L132 Z hr hlk hRf hRl out FU 0 y13 y16 hy16 _ _ hP hS _ (lv_sub hl [1, 0] rfl) (fun H locs hP hS ls hl => ?_)
    refine lv_iconst (v := 0) hx hb dX12_settles_151 (by decide) ?_
    refine lv_istore_n (lv' := [(1, .int 0), (0, .ref (ad 66))]) hx hb dX12_settles_152 rfl hl (by decide) rfl (fun ls hl => ?_)
    obtain ⟨y20, hy20, h⟩ := bd h
    refine w_X12_settles_L153 Z hr hlk hRf hRl out FU 0 y16 y20 hy20 _ _ hP hS _ (lv_sub hl [1, 0] rfl) (fun H locs hP hS ls hl => ?_)
    refine lv_aload_n hx hb dX12_settles_183 rfl (lv_at hl 0 rfl) ?_
    refine lv_iconst (v := 0) hx hb dX12_settles_184 (by decide) ?_
    refine fp_66_3 Z hP hS wF_X12_68 dX12_settles_185 (fun H locs hP hS => ?_)
    refine lv_aload_n hx hb dX12_settles_188 rfl (lv_at hl 0 rfl) ?_
    refine lv_iconst (v := 0) hx hb dX12_settles_189 (by decide) ?_
    refine fp_66_25 Z hP hS wF_X12_136 dX12_settles_190 (fun H locs hP hS => ?_)
    refine lv_aload_n hx hb dX12_settles_193 rfl (lv_at hl 0 rfl) ?_
    refine lv_iconst (v := 0) hx hb dX12_settles_194 (by decide) ?_
    refine fp_66_27 Z hP hS wF_X12_139 dX12_settles_195 (fun H locs hP hS => ?_)
    refine lv_aload_n hx hb dX12_settles_198 rfl (lv_at hl 0 rfl) ?_
    refine fg_66_23 Z hP wF_X12_31 dX12_settles_199 ?_
    refine lv_iconst (v := 0) hx hb dX12_settles_202 (by decide) ?_
    refine lv_iconst (v := 0) hx hb dX12_settles_203 (by decide) ?_
    obtain ⟨q21, hq21, h⟩ := bd h
    refine zm_stz Z hP hS hq21 dX12_settles_204 (fun H locs hP hS => ?_)
    refine lv_aload_n hx hb dX12_settles_205 rfl (lv_at hl 0 rfl) ?_
    refine fg_66_23 Z hP wF_X12_31 dX12_settles_206 ?_
    refine lv_iconst (v := 1) hx hb dX12_settles_209 (by decide) ?_
    refine lv_iconst (v := 0) hx hb dX12_settles_210 (by decide) ?_
    obtain ⟨q22, hq22, h⟩ := bd h
    refine zm_stz Z hP hS hq22 dX12_settles_211 (fun H locs hP hS => ?_)
    exact zmv Z hP hS hr hlk h dX12_settles_212
  unfold m_X12_settles at h
  refine lv_aload_n hx hb dX12_settles_0 rfl (lv_at hl 0 rfl) ?_
  refine lv_aload_n hx hb dX12_settles_1 rfl (lv_at hl 0 rfl) ?_
  refine fg_66_16 Z hP wF_X12_101 dX12_settles_2 ?_
  refine fp_66_12 Z hP hS wF_X12_127 dX12_settles_5 (fun H locs hP hS => ?_)
  refine lv_aload_n hx hb dX12_settles_8 rfl (lv_at hl 0 rfl) ?_
  refine lv_aload_n hx hb dX12_settles_9 rfl (lv_at hl 0 rfl) ?_
  refine fg_66_17 Z hP wF_X12_107 dX12_settles_10 ?_
  refine fp_66_13 Z hP hS wF_X12_130 dX12_settles_13 (fun H locs hP hS => ?_)
  refine lv_aload_n hx hb dX12_settles_16 rfl (lv_at hl 0 rfl) ?_
  refine lv_aload_n hx hb dX12_settles_17 rfl (lv_at hl 0 rfl) ?_
  refine fg_66_18 Z hP wF_X12_110 dX12_settles_18 ?_
  refine fp_66_14 Z hP hS wF_X12_133 dX12_settles_21 (fun H locs hP hS => ?_)
  refine lv_aload_n hx hb dX12_settles_24 rfl (lv_at hl 0 rfl) ?_
  refine lv_aload_n hx hb dX12_settles_25 rfl (lv_at hl 0 rfl) ?_
  refine fg_66_19 Z hP wF_X12_104 dX12_settles_26 ?_
  refine lv_bipush (v := (-9)) hx hb dX12_settles_29 (by decide) ?_
  refine lv_icmp_ne (tgt := 38) hx hb dX12_settles_31 (by decide) (fun c1 => ?_) (fun c1 => ?_)
  · rw [if_neg c1] at h
    refine lv_aload_n hx hb dX12_settles_38 rfl (lv_at hl 0 rfl) ?_
    refine fg_66_19 Z hP wF_X12_104 dX12_settles_39 ?_
    exact J42 ((((sg (sg (sg τ 7 ((τ.1 11))) 8 ((((sg τ 7 ((τ.1 11)))).1 12))) 9 ((((sg (sg τ 7 ((τ.1 11))) 8 ((((sg τ 7 ((τ.1 11)))).1 12)))).1 13)))).1 14)) ((sg (sg (sg τ 7 ((τ.1 11))) 8 ((((sg τ 7 ((τ.1 11)))).1 12))) 9 ((((sg (sg τ 7 ((τ.1 11))) 8 ((((sg τ 7 ((τ.1 11)))).1 12)))).1 13)))) h _ _ hP hS _ (lv_sub hl [0] rfl)
  · rw [if_pos c1] at h
    refine lv_iconst (v := 1) hx hb dX12_settles_34 (by decide) ?_
    refine lv_goto (tgt := 42) hx hb dX12_settles_35 (by decide) ?_
    exact J42 1 ((sg (sg (sg τ 7 ((τ.1 11))) 8 ((((sg τ 7 ((τ.1 11)))).1 12))) 9 ((((sg (sg τ 7 ((τ.1 11))) 8 ((((sg τ 7 ((τ.1 11)))).1 12)))).1 13)))) h _ _ hP hS _ (lv_sub hl [0] rfl)
def m_X12_room_J107 (rec : Int32 → Sx → Option (Int32 × Sx)) (x1 : Int32) (s0 : Int32) (τ : Sx) : Option (Int32 × Sx) :=
  (m_X12_takes τ s0).bind (fun q10 => rec ((x1 + 1)) q10.2)
def m_X12_room_J93 (rec : Int32 → Sx → Option (Int32 × Sx)) (x1 : Int32) (τ : Sx) : Option (Int32 × Sx) :=
  if (τ.1 3) = 3 then (m_X12_room_J107 rec x1 1 τ) else (m_X12_room_J107 rec x1 0 τ)
def m_X12_room_J77 (rec : Int32 → Sx → Option (Int32 × Sx)) (x1 : Int32) (s0 : Int32) (τ : Sx) : Option (Int32 × Sx) :=
  (m_X12_takes τ s0).bind (fun q6 => (m_X12_isWell q6.2).bind (fun v7 => if v7 = 0 then (m_X12_room_J93 rec x1 q6.2) else ((m_X12_readsItem q6.2 q6.1).bind (fun q11 => m_X12_room_J93 rec x1 q11))))
def m_X12_room_J76 (rec : Int32 → Sx → Option (Int32 × Sx)) (x1 : Int32) (τ : Sx) : Option (Int32 × Sx) :=
  m_X12_room_J77 rec x1 0 τ
def m_X12_room_L42  : Nat → Int32 → Sx → Option (Int32 × Sx)
  | 0, _, _ => none
  | n + 1, x1, τ =>
  (m_X12_isWell τ).bind (fun v2 => if v2 = 0 then (some ((x1, τ))) else (if (τ.1 3) = 0 then (some ((x1, τ))) else (if (τ.1 3) = 1 then ((m_X12_mayBegin τ).bind (fun v12 => if v12 = 0 then (m_X12_room_J76 (m_X12_room_L42 n) x1 τ) else (m_X12_room_J77 (m_X12_room_L42 n) x1 1 τ))) else (m_X12_room_J76 (m_X12_room_L42 n) x1 τ))))
def m_X12_room_J117 (x1 : Int32) (τ : Sx) : Option (Int32 × Sx) :=
  (m_X12_isWell τ).bind (fun v15 => if v15 = 0 then (some ((((-10) - (τ.1 6)), τ))) else ((m_X12_settles τ).bind (fun q17 => some ((x1, q17)))))
def m_X12_room (τ : Sx) : Option (Int32 × Sx) :=
  (m_X12_advances ((sg (sg (sg (sg (sg (sg (sg τ 0 0) 6 ((-1))) 2 0) 11 0) 12 0) 13 0) 14 ((-9))))).bind (fun q1 => (m_X12_room_L42 FU 0 q1).bind (fun y14 => m_X12_room_J117 y14.1 y14.2))
set_option maxHeartbeats 4000000 in
set_option maxRecDepth 100000 in
theorem w_X12_room_L42 {l : Launch} {D : va_G} {cy : Nat → ClassId} {ad : Nat → Nat} {σ : Sx} {p : Program} {e : Env} {R : Room} {s : State} {m : MethodId} {args : Array Value} {below : List Frame} {meth : Method} {c : Code} (Z : Zc p s m c cX12_room 3 RX12 D cy ad) (hr : meth.sig.returnType = (some .int)) (hlk : meth.locks = false) (hRf : 5 ≤ R.frames) (hRl : 109 ≤ R.locals) (out : Int32 × Sx) : ∀ (n : Nat) (x1 : Int32) (τ : Sx) (res : Int32 × Sx), m_X12_room_L42 n x1 τ = some res → ∀ (H : Heap) (locs : List Loc), va_P D vwCl (gW cy ad σ τ) H → va_S (gA ad) s.heap H locs → ∀ ls : Array Slot, lv_has ls 3 [(0, .ref (ad 66)), (1, .int x1)] → (∀ (H : Heap) (locs : List Loc), va_P D vwCl (gW cy ad σ res.2) H → va_S (gA ad) s.heap H locs → ∀ ls : Array Slot, lv_has ls 3 [(0, .ref (ad 66)), (1, .int res.1)] → W p l e R s m args below meth c H locs 0 0 (MQ below (mQi D cy ad σ out) args s 0 0 (gA ad)) (F0 m 117 ls [])) → W p l e R s m args below meth c H locs 0 0 (MQ below (mQi D cy ad σ out) args s 0 0 (gA ad)) (F0 m 42 ls []) := by
  have hx := Z.x
  have hb := Z.b
  intro n
  induction n with
  | zero => intro x1 τ res h; cases h
  | succ n ih =>
    intro x1 τ res h H locs hP hS ls hl kx
    have J107 : ∀ (x1 : Int32) (s0 : Int32) (τ : Sx), m_X12_room_J107 (m_X12_room_L42 n) x1 s0 τ = some res → ∀ (H : Heap) (locs : List Loc), va_P D vwCl (gW cy ad σ τ) H → va_S (gA ad) s.heap H locs → ∀ ls : Array Slot, lv_has ls 3 [(0, .ref (ad 66)), (1, .int x1)] → W p l e R s m args below meth c H locs 0 0 (MQ below (mQi D cy ad σ out) args s 0 0 (gA ad)) (F0 m 107 ls [.int s0, .ref (ad 66)]) := by
      intro x1 s0 τ h H locs hP hS ls hl
      unfold m_X12_room_J107 at h
      obtain ⟨q10, hq10, h⟩ := bd h
      refine zwmi (zrunV Z hP (As := [.int s0]) (rest := []) (c_X12_takes (R := { frames := 2, cells := 0, slots := 0, locals := 43 }) Z.i (Nat.le_refl _) (Nat.le_refl _) hq10) cV_X12_97 rfl rfl ⟨(Nat.le_trans (Nat.le_of_ble_eq_true rfl) hRf), (Nat.le_trans (Nat.le_of_ble_eq_true rfl) hRl)⟩ 66 (gW_mo.trans rfl) rfl rfl rfl hl.1 rfl (Nat.le_of_ble_eq_true rfl) dX12_room_107 ⟨Nat.zero_le _, Nat.zero_le _⟩) hS (fun H locs hP hS => ?_)
      refine lv_pop hx hb dX12_room_110 rfl ?_
      refine lv_iinc (v := (x1 + 1)) (lv' := [(1, .int (x1 + 1)), (0, .ref (ad 66))]) hx hb dX12_room_111 hl (k := 1) rfl rfl (by decide) rfl (fun ls hl => ?_)
      refine lv_goto (tgt := 42) hx hb dX12_room_114 (by decide) ?_
      exact ih ((x1 + 1)) q10.2 _ h _ _ hP hS _ (lv_sub hl [1, 0] rfl) kx
    have J93 : ∀ (x1 : Int32) (τ : Sx), m_X12_room_J93 (m_X12_room_L42 n) x1 τ = some res → ∀ (H : Heap) (locs : List Loc), va_P D vwCl (gW cy ad σ τ) H → va_S (gA ad) s.heap H locs → ∀ ls : Array Slot, lv_has ls 3 [(0, .ref (ad 66)), (1, .int x1)] → W p l e R s m args below meth c H locs 0 0 (MQ below (mQi D cy ad σ out) args s 0 0 (gA ad)) (F0 m 93 ls []) := by
      intro x1 τ h H locs hP hS ls hl
      unfold m_X12_room_J93 at h
      refine lv_aload_n hx hb dX12_room_93 rfl (lv_at hl 0 rfl) ?_
      refine lv_aload_n hx hb dX12_room_94 rfl (lv_at hl 0 rfl) ?_
      refine fg_66_5 Z hP wF_X12_81 dX12_room_95 ?_
      refine lv_iconst (v := 3) hx hb dX12_room_98 (by decide) ?_
      refine lv_icmp_ne (tgt := 106) hx hb dX12_room_99 (by decide) (fun c9 => ?_) (fun c9 => ?_)
      · rw [if_neg c9] at h
        refine lv_iconst (v := 0) hx hb dX12_room_106 (by decide) ?_
        exact J107 x1 0 τ h _ _ hP hS _ (lv_sub hl [0, 1] rfl)
      · rw [if_pos c9] at h
        refine lv_iconst (v := 1) hx hb dX12_room_102 (by decide) ?_
        refine lv_goto (tgt := 107) hx hb dX12_room_103 (by decide) ?_
        exact J107 x1 1 τ h _ _ hP hS _ (lv_sub hl [0, 1] rfl)
    have J77 : ∀ (x1 : Int32) (s0 : Int32) (τ : Sx), m_X12_room_J77 (m_X12_room_L42 n) x1 s0 τ = some res → ∀ (H : Heap) (locs : List Loc), va_P D vwCl (gW cy ad σ τ) H → va_S (gA ad) s.heap H locs → ∀ ls : Array Slot, lv_has ls 3 [(0, .ref (ad 66)), (1, .int x1)] → W p l e R s m args below meth c H locs 0 0 (MQ below (mQi D cy ad σ out) args s 0 0 (gA ad)) (F0 m 77 ls [.int s0, .ref (ad 66)]) := by
      intro x1 s0 τ h H locs hP hS ls hl
      unfold m_X12_room_J77 at h
      obtain ⟨q6, hq6, h⟩ := bd h
      refine zwmi (zrunV Z hP (As := [.int s0]) (rest := []) (c_X12_takes (R := { frames := 2, cells := 0, slots := 0, locals := 43 }) Z.i (Nat.le_refl _) (Nat.le_refl _) hq6) cV_X12_97 rfl rfl ⟨(Nat.le_trans (Nat.le_of_ble_eq_true rfl) hRf), (Nat.le_trans (Nat.le_of_ble_eq_true rfl) hRl)⟩ 66 (gW_mo.trans rfl) rfl rfl rfl hl.1 rfl (Nat.le_of_ble_eq_true rfl) dX12_room_77 ⟨Nat.zero_le _, Nat.zero_le _⟩) hS (fun H locs hP hS => ?_)
      refine lv_istore_n (lv' := [(2, .int q6.1), (0, .ref (ad 66)), (1, .int x1)]) hx hb dX12_room_80 rfl hl (by decide) rfl (fun ls hl => ?_)
      refine lv_aload_n hx hb dX12_room_81 rfl (lv_at hl 1 rfl) ?_
      obtain ⟨v7, hv7, h⟩ := bd h
      refine zqi (zrunV Z hP (As := []) (rest := []) (c_X12_isWell (R := { frames := 0, cells := 0, slots := 0, locals := 0 }) Z.i (Nat.le_refl _) (Nat.le_refl _) hv7) cV_X12_90 rfl rfl ⟨(Nat.le_trans (Nat.le_of_ble_eq_true rfl) hRf), (Nat.le_trans (Nat.le_of_ble_eq_true rfl) hRl)⟩ 66 (gW_mo.trans rfl) rfl rfl rfl hl.1 rfl (Nat.le_of_ble_eq_true rfl) dX12_room_82 ⟨Nat.zero_le _, Nat.zero_le _⟩) ?_
      refine lv_if_eq (tgt := 93) hx hb dX12_room_85 (by decide) (fun c8 => ?_) (fun c8 => ?_)
      · rw [if_pos c8] at h
        exact J93 x1 q6.2 h _ _ hP hS _ (lv_sub hl [1, 2] rfl)
      · rw [if_neg c8] at h
        refine lv_aload_n hx hb dX12_room_88 rfl (lv_at hl 1 rfl) ?_
        refine lv_iload_n hx hb dX12_room_89 rfl (lv_at hl 0 rfl) ?_
        obtain ⟨q11, hq11, h⟩ := bd h
        refine zwmv (zrunV Z hP (As := [.int q6.1]) (rest := []) (c_X12_readsItem (R := { frames := 4, cells := 0, slots := 0, locals := 87 }) Z.i (Nat.le_refl _) (Nat.le_refl _) hq11) cV_X12_120 rfl rfl ⟨(Nat.le_trans (Nat.le_of_ble_eq_true rfl) hRf), (Nat.le_trans (Nat.le_of_ble_eq_true rfl) hRl)⟩ 66 (gW_mo.trans rfl) rfl rfl rfl hl.1 rfl (Nat.le_of_ble_eq_true rfl) dX12_room_90 ⟨Nat.zero_le _, Nat.zero_le _⟩) hS (fun H locs hP hS => ?_)
        exact J93 x1 q11 h _ _ hP hS _ (lv_sub hl [1, 2] rfl)
    have J76 : ∀ (x1 : Int32) (τ : Sx), m_X12_room_J76 (m_X12_room_L42 n) x1 τ = some res → ∀ (H : Heap) (locs : List Loc), va_P D vwCl (gW cy ad σ τ) H → va_S (gA ad) s.heap H locs → ∀ ls : Array Slot, lv_has ls 3 [(0, .ref (ad 66)), (1, .int x1)] → W p l e R s m args below meth c H locs 0 0 (MQ below (mQi D cy ad σ out) args s 0 0 (gA ad)) (F0 m 76 ls [.ref (ad 66)]) := by
      intro x1 τ h H locs hP hS ls hl
      unfold m_X12_room_J76 at h
      refine lv_iconst (v := 0) hx hb dX12_room_76 (by decide) ?_
      exact J77 x1 0 τ h _ _ hP hS _ (lv_sub hl [0, 1] rfl)
    rw [m_X12_room_L42] at h
    refine lv_aload_n hx hb dX12_room_42 rfl (lv_at hl 0 rfl) ?_
    obtain ⟨v2, hv2, h⟩ := bd h
    refine zqi (zrunV Z hP (As := []) (rest := []) (c_X12_isWell (R := { frames := 0, cells := 0, slots := 0, locals := 0 }) Z.i (Nat.le_refl _) (Nat.le_refl _) hv2) cV_X12_90 rfl rfl ⟨(Nat.le_trans (Nat.le_of_ble_eq_true rfl) hRf), (Nat.le_trans (Nat.le_of_ble_eq_true rfl) hRl)⟩ 66 (gW_mo.trans rfl) rfl rfl rfl hl.1 rfl (Nat.le_of_ble_eq_true rfl) dX12_room_43 ⟨Nat.zero_le _, Nat.zero_le _⟩) ?_
    refine lv_if_eq (tgt := 117) hx hb dX12_room_46 (by decide) (fun c3 => ?_) (fun c3 => ?_)
    · rw [if_pos c3] at h
      obtain rfl := Option.some.inj h
      exact kx _ _ hP hS _ (lv_sub hl [0, 1] rfl)
    · rw [if_neg c3] at h
      refine lv_aload_n hx hb dX12_room_49 rfl (lv_at hl 0 rfl) ?_
      refine fg_66_5 Z hP wF_X12_81 dX12_room_50 ?_
      refine lv_if_eq (tgt := 117) hx hb dX12_room_53 (by decide) (fun c4 => ?_) (fun c4 => ?_)
      · rw [if_pos c4] at h
        obtain rfl := Option.some.inj h
        exact kx _ _ hP hS _ (lv_sub hl [0, 1] rfl)
      · rw [if_neg c4] at h
        refine lv_aload_n hx hb dX12_room_56 rfl (lv_at hl 0 rfl) ?_
        refine lv_aload_n hx hb dX12_room_57 rfl (lv_at hl 0 rfl) ?_
        refine fg_66_5 Z hP wF_X12_81 dX12_room_58 ?_
        refine lv_iconst (v := 1) hx hb dX12_room_61 (by decide) ?_
        refine lv_icmp_ne (tgt := 76) hx hb dX12_room_62 (by decide) (fun c5 => ?_) (fun c5 => ?_)
        · rw [if_neg c5] at h
          exact J76 x1 τ h _ _ hP hS _ (lv_sub hl [0, 1] rfl)
        · rw [if_pos c5] at h
          refine lv_aload_n hx hb dX12_room_65 rfl (lv_at hl 0 rfl) ?_
          obtain ⟨v12, hv12, h⟩ := bd h
          refine zqi (zrunV Z hP (As := []) (rest := [.ref (ad 66)]) (c_X12_mayBegin (R := { frames := 0, cells := 0, slots := 0, locals := 0 }) Z.i (Nat.le_refl _) (Nat.le_refl _) hv12) cV_X12_117 rfl rfl ⟨(Nat.le_trans (Nat.le_of_ble_eq_true rfl) hRf), (Nat.le_trans (Nat.le_of_ble_eq_true rfl) hRl)⟩ 66 (gW_mo.trans rfl) rfl rfl rfl hl.1 rfl (Nat.le_of_ble_eq_true rfl) dX12_room_66 ⟨Nat.zero_le _, Nat.zero_le _⟩) ?_
          refine lv_if_eq (tgt := 76) hx hb dX12_room_69 (by decide) (fun c13 => ?_) (fun c13 => ?_)
          · rw [if_pos c13] at h
            exact J76 x1 τ h _ _ hP hS _ (lv_sub hl [0, 1] rfl)
          · rw [if_neg c13] at h
            refine lv_iconst (v := 1) hx hb dX12_room_72 (by decide) ?_
            refine lv_goto (tgt := 77) hx hb dX12_room_73 (by decide) ?_
            exact J77 x1 1 τ h _ _ hP hS _ (lv_sub hl [0, 1] rfl)
set_option maxHeartbeats 4000000 in
set_option maxRecDepth 100000 in
theorem c_X12_room {l : Launch} {D : va_G} {cy : Nat → ClassId} {ad : Nat → Nat} {σ τ : Sx} {R : Room} (hI : gInj ad) (hRf : 5 ≤ R.frames) (hRl : 109 ≤ R.locals) {out : Int32 × Sx} (h : m_X12_room τ = some out) : Met l yX12_room [Cond.code yX12_room cX12_room 3 (some .int)] R (va_Pc [.ref (ad 66)] (gB D cy ad σ τ)) (mQi D cy ad σ out) 0 0 (gA ad) := by
  refine zstart [.ref (ad 66)] (by decide) rfl hI (Nat.le_of_ble_eq_true rfl) ?_
  intro p e s m below meth c Z hr hlk hP ls hl
  have hx := Z.x
  have hb := Z.b
  generalize hargs : ([.ref (ad 66)] : List Value).toArray = args
  have hl : lv_has ls 3 [(0, .ref (ad 66))] := hl
  have hS : va_S (gA ad) s.heap s.heap [] := va_S.rf
  have J117 : ∀ (x1 : Int32) (τ : Sx), m_X12_room_J117 x1 τ = some out → ∀ (H : Heap) (locs : List Loc), va_P D vwCl (gW cy ad σ τ) H → va_S (gA ad) s.heap H locs → ∀ ls : Array Slot, lv_has ls 3 [(0, .ref (ad 66)), (1, .int x1)] → W p l e R s m args below meth c H locs 0 0 (MQ below (mQi D cy ad σ out) args s 0 0 (gA ad)) (F0 m 117 ls []) := by
    intro x1 τ h H locs hP hS ls hl
    unfold m_X12_room_J117 at h
    refine lv_aload_n hx hb dX12_room_117 rfl (lv_at hl 0 rfl) ?_
    obtain ⟨v15, hv15, h⟩ := bd h
    refine zqi (zrunV Z hP (As := []) (rest := []) (c_X12_isWell (R := { frames := 0, cells := 0, slots := 0, locals := 0 }) Z.i (Nat.le_refl _) (Nat.le_refl _) hv15) cV_X12_90 rfl rfl ⟨(Nat.le_trans (Nat.le_of_ble_eq_true rfl) hRf), (Nat.le_trans (Nat.le_of_ble_eq_true rfl) hRl)⟩ 66 (gW_mo.trans rfl) rfl rfl rfl hl.1 rfl (Nat.le_of_ble_eq_true rfl) dX12_room_118 ⟨Nat.zero_le _, Nat.zero_le _⟩) ?_
    refine lv_if_ne (tgt := 132) hx hb dX12_room_121 (by decide) (fun c16 => ?_) (fun c16 => ?_)
    · rw [if_neg c16] at h
      refine lv_aload_n hx hb dX12_room_132 rfl (lv_at hl 0 rfl) ?_
      obtain ⟨q17, hq17, h⟩ := bd h
      refine zwmv (zrunV Z hP (As := []) (rest := []) (c_X12_settles (R := { frames := 0, cells := 0, slots := 0, locals := 0 }) Z.i (Nat.le_refl _) (Nat.le_refl _) hq17) cV_X12_124 rfl rfl ⟨(Nat.le_trans (Nat.le_of_ble_eq_true rfl) hRf), (Nat.le_trans (Nat.le_of_ble_eq_true rfl) hRl)⟩ 66 (gW_mo.trans rfl) rfl rfl rfl hl.1 rfl (Nat.le_of_ble_eq_true rfl) dX12_room_133 ⟨Nat.zero_le _, Nat.zero_le _⟩) hS (fun H locs hP hS => ?_)
      refine lv_iload_n hx hb dX12_room_136 rfl (lv_at hl 1 rfl) ?_
      exact zmi Z hP hS hr hlk h dX12_room_137
    · rw [if_pos c16] at h
      refine lv_bipush (v := (-10)) hx hb dX12_room_124 (by decide) ?_
      refine lv_aload_n hx hb dX12_room_126 rfl (lv_at hl 0 rfl) ?_
      refine fg_66_8 Z hP wF_X12_87 dX12_room_127 ?_
      refine lv_isub hx hb dX12_room_130 ?_
      exact zmi Z hP hS hr hlk h dX12_room_131
  unfold m_X12_room at h
  refine lv_aload_n hx hb dX12_room_0 rfl (lv_at hl 0 rfl) ?_
  refine lv_iconst (v := 0) hx hb dX12_room_1 (by decide) ?_
  refine fp_66_0 Z hP hS wF_X12_61 dX12_room_2 (fun H locs hP hS => ?_)
  refine lv_aload_n hx hb dX12_room_5 rfl (lv_at hl 0 rfl) ?_
  refine lv_iconst (v := (-1)) hx hb dX12_room_6 (by decide) ?_
  refine fp_66_8 Z hP hS wF_X12_87 dX12_room_7 (fun H locs hP hS => ?_)
  refine lv_aload_n hx hb dX12_room_10 rfl (lv_at hl 0 rfl) ?_
  refine lv_iconst (v := 0) hx hb dX12_room_11 (by decide) ?_
  refine fp_66_4 Z hP hS wF_X12_71 dX12_room_12 (fun H locs hP hS => ?_)
  refine lv_iconst (v := 0) hx hb dX12_room_15 (by decide) ?_
  refine lv_istore_n (lv' := [(1, .int 0), (0, .ref (ad 66))]) hx hb dX12_room_16 rfl hl (by decide) rfl (fun ls hl => ?_)
  refine lv_aload_n hx hb dX12_room_17 rfl (lv_at hl 1 rfl) ?_
  refine lv_iconst (v := 0) hx hb dX12_room_18 (by decide) ?_
  refine fp_66_16 Z hP hS wF_X12_101 dX12_room_19 (fun H locs hP hS => ?_)
  refine lv_aload_n hx hb dX12_room_22 rfl (lv_at hl 1 rfl) ?_
  refine lv_iconst (v := 0) hx hb dX12_room_23 (by decide) ?_
  refine fp_66_17 Z hP hS wF_X12_107 dX12_room_24 (fun H locs hP hS => ?_)
  refine lv_aload_n hx hb dX12_room_27 rfl (lv_at hl 1 rfl) ?_
  refine lv_iconst (v := 0) hx hb dX12_room_28 (by decide) ?_
  refine fp_66_18 Z hP hS wF_X12_110 dX12_room_29 (fun H locs hP hS => ?_)
  refine lv_aload_n hx hb dX12_room_32 rfl (lv_at hl 1 rfl) ?_
  refine lv_bipush (v := (-9)) hx hb dX12_room_33 (by decide) ?_
  refine fp_66_19 Z hP hS wF_X12_104 dX12_room_35 (fun H locs hP hS => ?_)
  refine lv_aload_n hx hb dX12_room_38 rfl (lv_at hl 1 rfl) ?_
  obtain ⟨q1, hq1, h⟩ := bd h
  refine zwmv (zrunV Z hP (As := []) (rest := []) (c_X12_advances (R := { frames := 1, cells := 0, slots := 0, locals := 22 }) Z.i (Nat.le_refl _) (Nat.le_refl _) hq1) cV_X12_94 rfl rfl ⟨(Nat.le_trans (Nat.le_of_ble_eq_true rfl) hRf), (Nat.le_trans (Nat.le_of_ble_eq_true rfl) hRl)⟩ 66 (gW_mo.trans rfl) rfl rfl rfl hl.1 rfl (Nat.le_of_ble_eq_true rfl) dX12_room_39 ⟨Nat.zero_le _, Nat.zero_le _⟩) hS (fun H locs hP hS => ?_)
  obtain ⟨y14, hy14, h⟩ := bd h
  refine w_X12_room_L42 Z hr hlk hRf hRl out FU 0 q1 y14 hy14 _ _ hP hS _ (lv_sub hl [1, 0] rfl) (fun H locs hP hS ls hl => ?_)
  exact J117 y14.1 y14.2 h _ _ hP hS _ (lv_sub hl [0, 1] rfl)
def m_X12_isPhone (τ : Sx) (x1 : Int32) : Option (Int32) :=
  (m_X12_in x1 0 (((τ.1 7) - 1))).bind (fun v1 => rtZ v1)
set_option maxHeartbeats 4000000 in
set_option maxRecDepth 100000 in
theorem c_X12_isPhone {l : Launch} {D : va_G} {cy : Nat → ClassId} {ad : Nat → Nat} {σ τ : Sx} {R : Room} (hI : gInj ad) (hRf : 1 ≤ R.frames) (hRl : 22 ≤ R.locals) {x1 : Int32} {out : Int32} (h : m_X12_isPhone τ x1 = some out) : Met l yX12_isPhone [Cond.code yX12_isPhone cX12_isPhone 2 (some .boolean)] R (va_Pc [.ref (ad 66), .int x1] (gB D cy ad σ τ)) (rQi out) 0 0 noA := by
  refine zstart [.ref (ad 66), .int x1] (by decide) rfl hI (Nat.le_of_ble_eq_true rfl) ?_
  intro p e s m below meth c Z hr hlk hP ls hl
  have hx := Z.x
  have hb := Z.b
  generalize hargs : ([.ref (ad 66), .int x1] : List Value).toArray = args
  have hl : lv_has ls 2 [(0, .ref (ad 66)), (1, .int x1)] := hl
  unfold m_X12_isPhone at h
  refine lv_iload_n hx hb dX12_isPhone_0 rfl (lv_at hl 1 rfl) ?_
  refine lv_iconst (v := 0) hx hb dX12_isPhone_1 (by decide) ?_
  refine lv_aload_n hx hb dX12_isPhone_2 rfl (lv_at hl 0 rfl) ?_
  refine fg_66_12 Z hP wF_X12_127 dX12_isPhone_3 ?_
  refine lv_iconst (v := 1) hx hb dX12_isPhone_6 (by decide) ?_
  refine lv_isub hx hb dX12_isPhone_7 ?_
  obtain ⟨v1, hv1, h⟩ := bd h
  refine zqi (zrunS Z hP (As := [.int x1, .int 0, .int ((τ.1 7) - 1)]) (rest := []) (c_X12_in (R := { frames := 0, cells := 0, slots := 0, locals := 0 }) Z.i (Nat.le_refl _) (Nat.le_refl _) hv1) cV_X12_64 rfl rfl ⟨(Nat.le_trans (Nat.le_of_ble_eq_true rfl) hRf), (Nat.le_trans (Nat.le_of_ble_eq_true rfl) hRl)⟩ rfl hl.1 rfl (Nat.le_of_ble_eq_true rfl) dX12_isPhone_8 ⟨Nat.zero_le _, Nat.zero_le _⟩) ?_
  exact zrz Z hr hlk h dX12_isPhone_11
def m_X12_phone (τ : Sx) (x1 : Int32) (x2 : Int32) : Option (Int32 × Sx) :=
  (m_X12_isPhone ((sg τ 0 0)) x1).bind (fun v1 => if v1 = 0 then (some (((-1), (sg τ 0 0)))) else ((m_X12_in x2 0 4).bind (fun v3 => if v3 = 0 then (some (((-1), (sg τ 0 0)))) else (if 3 ≤ x2 then (if x2 = 3 then ((ldA mLn ((sg τ 0 0)) 4 ((9 + x1))).bind (fun v8 => some ((v8, (sg τ 0 0))))) else ((ldA mLn ((sg τ 0 0)) 4 1).bind (fun v7 => some ((((v7 >>> (x1 &&& 31)) &&& 1), (sg τ 0 0)))))) else (if x2 = 0 then ((ldA mLn ((sg τ 0 0)) 4 ((4 + x1))).bind (fun v11 => some ((v11, (sg τ 0 0))))) else ((ldA mLn ((sg τ 0 0)) 1 (((3 * x1) + x2))).bind (fun v10 => some ((v10, (sg τ 0 0))))))))))
set_option maxHeartbeats 4000000 in
set_option maxRecDepth 100000 in
theorem c_X12_phone {l : Launch} {D : va_G} {cy : Nat → ClassId} {ad : Nat → Nat} {σ τ : Sx} {R : Room} (hI : gInj ad) (hRf : 2 ≤ R.frames) (hRl : 43 ≤ R.locals) {x1 : Int32} {x2 : Int32} {out : Int32 × Sx} (h : m_X12_phone τ x1 x2 = some out) : Met l yX12_phone [Cond.code yX12_phone cX12_phone 3 (some .int)] R (va_Pc [.ref (ad 66), .int x1, .int x2] (gB D cy ad σ τ)) (mQi D cy ad σ out) 0 0 (gA ad) := by
  refine zstart [.ref (ad 66), .int x1, .int x2] (by decide) rfl hI (Nat.le_of_ble_eq_true rfl) ?_
  intro p e s m below meth c Z hr hlk hP ls hl
  have hx := Z.x
  have hb := Z.b
  generalize hargs : ([.ref (ad 66), .int x1, .int x2] : List Value).toArray = args
  have hl : lv_has ls 3 [(0, .ref (ad 66)), (1, .int x1), (2, .int x2)] := hl
  have hS : va_S (gA ad) s.heap s.heap [] := va_S.rf
  unfold m_X12_phone at h
  refine lv_aload_n hx hb dX12_phone_0 rfl (lv_at hl 0 rfl) ?_
  refine lv_iconst (v := 0) hx hb dX12_phone_1 (by decide) ?_
  refine fp_66_0 Z hP hS wF_X12_61 dX12_phone_2 (fun H locs hP hS => ?_)
  refine lv_aload_n hx hb dX12_phone_5 rfl (lv_at hl 0 rfl) ?_
  refine lv_iload_n hx hb dX12_phone_6 rfl (lv_at hl 1 rfl) ?_
  obtain ⟨v1, hv1, h⟩ := bd h
  refine zqi (zrunV Z hP (As := [.int x1]) (rest := []) (c_X12_isPhone (R := { frames := 1, cells := 0, slots := 0, locals := 22 }) Z.i (Nat.le_refl _) (Nat.le_refl _) hv1) cV_X12_142 rfl rfl ⟨(Nat.le_trans (Nat.le_of_ble_eq_true rfl) hRf), (Nat.le_trans (Nat.le_of_ble_eq_true rfl) hRl)⟩ 66 (gW_mo.trans rfl) rfl rfl rfl hl.1 rfl (Nat.le_of_ble_eq_true rfl) dX12_phone_7 ⟨Nat.zero_le _, Nat.zero_le _⟩) ?_
  refine lv_if_eq (tgt := 22) hx hb dX12_phone_10 (by decide) (fun c2 => ?_) (fun c2 => ?_)
  · rw [if_pos c2] at h
    refine lv_iconst (v := (-1)) hx hb dX12_phone_22 (by decide) ?_
    exact zmi Z hP hS hr hlk h dX12_phone_23
  · rw [if_neg c2] at h
    refine lv_iload_n hx hb dX12_phone_13 rfl (lv_at hl 2 rfl) ?_
    refine lv_iconst (v := 0) hx hb dX12_phone_14 (by decide) ?_
    refine lv_iconst (v := 4) hx hb dX12_phone_15 (by decide) ?_
    obtain ⟨v3, hv3, h⟩ := bd h
    refine zqi (zrunS Z hP (As := [.int x2, .int 0, .int 4]) (rest := []) (c_X12_in (R := { frames := 0, cells := 0, slots := 0, locals := 0 }) Z.i (Nat.le_refl _) (Nat.le_refl _) hv3) cV_X12_64 rfl rfl ⟨(Nat.le_trans (Nat.le_of_ble_eq_true rfl) hRf), (Nat.le_trans (Nat.le_of_ble_eq_true rfl) hRl)⟩ rfl hl.1 rfl (Nat.le_of_ble_eq_true rfl) dX12_phone_16 ⟨Nat.zero_le _, Nat.zero_le _⟩) ?_
    refine lv_if_ne (tgt := 24) hx hb dX12_phone_19 (by decide) (fun c4 => ?_) (fun c4 => ?_)
    · rw [if_neg c4] at h
      refine lv_iload_n hx hb dX12_phone_24 rfl (lv_at hl 2 rfl) ?_
      refine lv_iconst (v := 3) hx hb dX12_phone_25 (by decide) ?_
      refine lv_icmp_ge (tgt := 55) hx hb dX12_phone_26 (by decide) (fun c5 => ?_) (fun c5 => ?_)
      · rw [if_pos c5] at h
        refine lv_iload_n hx hb dX12_phone_55 rfl (lv_at hl 2 rfl) ?_
        refine lv_iconst (v := 3) hx hb dX12_phone_56 (by decide) ?_
        refine lv_icmp_ne (tgt := 72) hx hb dX12_phone_57 (by decide) (fun c6 => ?_) (fun c6 => ?_)
        · rw [if_neg c6] at h
          refine lv_aload_n hx hb dX12_phone_72 rfl (lv_at hl 0 rfl) ?_
          refine fg_66_20 Z hP wF_X12_22 dX12_phone_73 ?_
          refine lv_iconst (v := 1) hx hb dX12_phone_76 (by decide) ?_
          obtain ⟨v7, hv7, h⟩ := bd h
          refine zm_ld (j := 4) Z hP hv7 dX12_phone_77 ?_
          refine lv_iload_n hx hb dX12_phone_78 rfl (lv_at hl 1 rfl) ?_
          refine lv_ishr hx hb dX12_phone_79 ?_
          refine lv_iconst (v := 1) hx hb dX12_phone_80 (by decide) ?_
          refine lv_iand hx hb dX12_phone_81 ?_
          exact zmi Z hP hS hr hlk h dX12_phone_82
        · rw [if_pos c6] at h
          refine lv_aload_n hx hb dX12_phone_60 rfl (lv_at hl 0 rfl) ?_
          refine fg_66_20 Z hP wF_X12_22 dX12_phone_61 ?_
          refine lv_bipush (v := 9) hx hb dX12_phone_64 (by decide) ?_
          refine lv_iload_n hx hb dX12_phone_66 rfl (lv_at hl 1 rfl) ?_
          refine lv_iadd hx hb dX12_phone_67 ?_
          obtain ⟨v8, hv8, h⟩ := bd h
          refine zm_ld (j := 4) Z hP hv8 dX12_phone_68 ?_
          refine lv_goto (tgt := 82) hx hb dX12_phone_69 (by decide) ?_
          exact zmi Z hP hS hr hlk h dX12_phone_82
      · rw [if_neg c5] at h
        refine lv_iload_n hx hb dX12_phone_29 rfl (lv_at hl 2 rfl) ?_
        refine lv_if_ne (tgt := 44) hx hb dX12_phone_30 (by decide) (fun c9 => ?_) (fun c9 => ?_)
        · rw [if_neg c9] at h
          refine lv_aload_n hx hb dX12_phone_44 rfl (lv_at hl 0 rfl) ?_
          refine fg_66_9 Z hP wF_X12_13 dX12_phone_45 ?_
          refine lv_iconst (v := 3) hx hb dX12_phone_48 (by decide) ?_
          refine lv_iload_n hx hb dX12_phone_49 rfl (lv_at hl 1 rfl) ?_
          refine lv_imul hx hb dX12_phone_50 ?_
          refine lv_iload_n hx hb dX12_phone_51 rfl (lv_at hl 2 rfl) ?_
          refine lv_iadd hx hb dX12_phone_52 ?_
          obtain ⟨v10, hv10, h⟩ := bd h
          refine zm_ld (j := 1) Z hP hv10 dX12_phone_53 ?_
          exact zmi Z hP hS hr hlk h dX12_phone_54
        · rw [if_pos c9] at h
          refine lv_aload_n hx hb dX12_phone_33 rfl (lv_at hl 0 rfl) ?_
          refine fg_66_20 Z hP wF_X12_22 dX12_phone_34 ?_
          refine lv_iconst (v := 4) hx hb dX12_phone_37 (by decide) ?_
          refine lv_iload_n hx hb dX12_phone_38 rfl (lv_at hl 1 rfl) ?_
          refine lv_iadd hx hb dX12_phone_39 ?_
          obtain ⟨v11, hv11, h⟩ := bd h
          refine zm_ld (j := 4) Z hP hv11 dX12_phone_40 ?_
          refine lv_goto (tgt := 54) hx hb dX12_phone_41 (by decide) ?_
          exact zmi Z hP hS hr hlk h dX12_phone_54
    · rw [if_pos c4] at h
      refine lv_iconst (v := (-1)) hx hb dX12_phone_22 (by decide) ?_
      exact zmi Z hP hS hr hlk h dX12_phone_23
def m_X12_call (τ : Sx) (x1 : Int32) (x2 : Int32) : Option (Int32 × Sx) :=
  (m_X12_in x1 0 (((((sg τ 0 0)).1 8) - 1))).bind (fun v1 => if v1 = 0 then (some (((-1), (sg τ 0 0)))) else ((m_X12_in x2 0 2).bind (fun v3 => if v3 = 0 then (some (((-1), (sg τ 0 0)))) else ((ldA mLn ((sg τ 0 0)) 2 (((3 * x1) + x2))).bind (fun v5 => some ((v5, (sg τ 0 0))))))))
set_option maxHeartbeats 4000000 in
set_option maxRecDepth 100000 in
theorem c_X12_call {l : Launch} {D : va_G} {cy : Nat → ClassId} {ad : Nat → Nat} {σ τ : Sx} {R : Room} (hI : gInj ad) (hRf : 1 ≤ R.frames) (hRl : 22 ≤ R.locals) {x1 : Int32} {x2 : Int32} {out : Int32 × Sx} (h : m_X12_call τ x1 x2 = some out) : Met l yX12_call [Cond.code yX12_call cX12_call 3 (some .int)] R (va_Pc [.ref (ad 66), .int x1, .int x2] (gB D cy ad σ τ)) (mQi D cy ad σ out) 0 0 (gA ad) := by
  refine zstart [.ref (ad 66), .int x1, .int x2] (by decide) rfl hI (Nat.le_of_ble_eq_true rfl) ?_
  intro p e s m below meth c Z hr hlk hP ls hl
  have hx := Z.x
  have hb := Z.b
  generalize hargs : ([.ref (ad 66), .int x1, .int x2] : List Value).toArray = args
  have hl : lv_has ls 3 [(0, .ref (ad 66)), (1, .int x1), (2, .int x2)] := hl
  have hS : va_S (gA ad) s.heap s.heap [] := va_S.rf
  unfold m_X12_call at h
  refine lv_aload_n hx hb dX12_call_0 rfl (lv_at hl 0 rfl) ?_
  refine lv_iconst (v := 0) hx hb dX12_call_1 (by decide) ?_
  refine fp_66_0 Z hP hS wF_X12_61 dX12_call_2 (fun H locs hP hS => ?_)
  refine lv_iload_n hx hb dX12_call_5 rfl (lv_at hl 1 rfl) ?_
  refine lv_iconst (v := 0) hx hb dX12_call_6 (by decide) ?_
  refine lv_aload_n hx hb dX12_call_7 rfl (lv_at hl 0 rfl) ?_
  refine fg_66_13 Z hP wF_X12_130 dX12_call_8 ?_
  refine lv_iconst (v := 1) hx hb dX12_call_11 (by decide) ?_
  refine lv_isub hx hb dX12_call_12 ?_
  obtain ⟨v1, hv1, h⟩ := bd h
  refine zqi (zrunS Z hP (As := [.int x1, .int 0, .int ((((sg τ 0 0)).1 8) - 1)]) (rest := []) (c_X12_in (R := { frames := 0, cells := 0, slots := 0, locals := 0 }) Z.i (Nat.le_refl _) (Nat.le_refl _) hv1) cV_X12_64 rfl rfl ⟨(Nat.le_trans (Nat.le_of_ble_eq_true rfl) hRf), (Nat.le_trans (Nat.le_of_ble_eq_true rfl) hRl)⟩ rfl hl.1 rfl (Nat.le_of_ble_eq_true rfl) dX12_call_13 ⟨Nat.zero_le _, Nat.zero_le _⟩) ?_
  refine lv_if_eq (tgt := 41) hx hb dX12_call_16 (by decide) (fun c2 => ?_) (fun c2 => ?_)
  · rw [if_pos c2] at h
    refine lv_iconst (v := (-1)) hx hb dX12_call_41 (by decide) ?_
    exact zmi Z hP hS hr hlk h dX12_call_42
  · rw [if_neg c2] at h
    refine lv_iload_n hx hb dX12_call_19 rfl (lv_at hl 2 rfl) ?_
    refine lv_iconst (v := 0) hx hb dX12_call_20 (by decide) ?_
    refine lv_iconst (v := 2) hx hb dX12_call_21 (by decide) ?_
    obtain ⟨v3, hv3, h⟩ := bd h
    refine zqi (zrunS Z hP (As := [.int x2, .int 0, .int 2]) (rest := []) (c_X12_in (R := { frames := 0, cells := 0, slots := 0, locals := 0 }) Z.i (Nat.le_refl _) (Nat.le_refl _) hv3) cV_X12_64 rfl rfl ⟨(Nat.le_trans (Nat.le_of_ble_eq_true rfl) hRf), (Nat.le_trans (Nat.le_of_ble_eq_true rfl) hRl)⟩ rfl hl.1 rfl (Nat.le_of_ble_eq_true rfl) dX12_call_22 ⟨Nat.zero_le _, Nat.zero_le _⟩) ?_
    refine lv_if_eq (tgt := 41) hx hb dX12_call_25 (by decide) (fun c4 => ?_) (fun c4 => ?_)
    · rw [if_pos c4] at h
      refine lv_iconst (v := (-1)) hx hb dX12_call_41 (by decide) ?_
      exact zmi Z hP hS hr hlk h dX12_call_42
    · rw [if_neg c4] at h
      refine lv_aload_n hx hb dX12_call_28 rfl (lv_at hl 0 rfl) ?_
      refine fg_66_10 Z hP wF_X12_16 dX12_call_29 ?_
      refine lv_iconst (v := 3) hx hb dX12_call_32 (by decide) ?_
      refine lv_iload_n hx hb dX12_call_33 rfl (lv_at hl 1 rfl) ?_
      refine lv_imul hx hb dX12_call_34 ?_
      refine lv_iload_n hx hb dX12_call_35 rfl (lv_at hl 2 rfl) ?_
      refine lv_iadd hx hb dX12_call_36 ?_
      obtain ⟨v5, hv5, h⟩ := bd h
      refine zm_ld (j := 2) Z hP hv5 dX12_call_37 ?_
      refine lv_goto (tgt := 42) hx hb dX12_call_38 (by decide) ?_
      exact zmi Z hP hS hr hlk h dX12_call_42
def m_X12_isDark_L4 (τ : Sx) : Nat → Int32 → Int32 → Int32 → Option (Int32)
  | 0, _, _, _ => none
  | n + 1, x1, x2, x3 =>
  if (τ.1 9) ≤ x3 then (some x2) else (if x2 = 0 then ((ldA mLn τ 3 ((2 * x3))).bind (fun v3 => (ldA mLn τ 3 (((2 * x3) + 1))).bind (fun v4 => (m_X12_in x1 v3 v4).bind (fun v5 => if v5 = 0 then (m_X12_isDark_L4 τ n x1 0 ((x3 + 1))) else (m_X12_isDark_L4 τ n x1 1 ((x3 + 1))))))) else (m_X12_isDark_L4 τ n x1 1 ((x3 + 1))))
def m_X12_isDark (τ : Sx) (x1 : Int32) : Option (Int32) :=
  (m_X12_isDark_L4 τ FU x1 0 0).bind (fun y7 => rtZ y7)
set_option maxHeartbeats 4000000 in
set_option maxRecDepth 100000 in
theorem w_X12_isDark_L4 {l : Launch} {D : va_G} {cy : Nat → ClassId} {ad : Nat → Nat} {σ τ : Sx} {p : Program} {e : Env} {R : Room} {s : State} {m : MethodId} {args : Array Value} {below : List Frame} {meth : Method} {c : Code} (Z : Zc p s m c cX12_isDark 4 RX12 D cy ad) (hP : va_P D vwCl (gW cy ad σ τ) s.heap) (hr : meth.sig.returnType = (some .boolean)) (hlk : meth.locks = false) (hRf : 1 ≤ R.frames) (hRl : 22 ≤ R.locals) (out : Int32) : ∀ (n : Nat) (x1 : Int32) (x2 : Int32) (x3 : Int32) (res : Int32), m_X12_isDark_L4 τ n x1 x2 x3 = some res → ∀ ls : Array Slot, lv_has ls 4 [(0, .ref (ad 66)), (1, .int x1), (2, .int x2), (3, .int x3)] → (∀ ls : Array Slot, lv_has ls 4 [(2, .int res)] → W p l e R s m args below meth c s.heap [] 0 0 (MQ below (rQi out) args s 0 0 noA) (F0 m 53 ls [])) → W p l e R s m args below meth c s.heap [] 0 0 (MQ below (rQi out) args s 0 0 noA) (F0 m 4 ls []) := by
  have hx := Z.x
  have hb := Z.b
  intro n
  induction n with
  | zero => intro x1 x2 x3 res h; cases h
  | succ n ih =>
    intro x1 x2 x3 res h ls hl kx
    rw [m_X12_isDark_L4] at h
    refine lv_iload_n hx hb dX12_isDark_4 rfl (lv_at hl 3 rfl) ?_
    refine lv_aload_n hx hb dX12_isDark_5 rfl (lv_at hl 0 rfl) ?_
    refine fg_66_14 Z hP wF_X12_133 dX12_isDark_6 ?_
    refine lv_icmp_ge (tgt := 53) hx hb dX12_isDark_9 (by decide) (fun c1 => ?_) (fun c1 => ?_)
    · rw [if_pos c1] at h
      obtain rfl := Option.some.inj h
      exact kx _ (lv_sub hl [2] rfl)
    · rw [if_neg c1] at h
      refine lv_iload_n hx hb dX12_isDark_12 rfl (lv_at hl 2 rfl) ?_
      refine lv_if_ne (tgt := 41) hx hb dX12_isDark_13 (by decide) (fun c2 => ?_) (fun c2 => ?_)
      · rw [if_neg c2] at h
        refine lv_iconst (v := 1) hx hb dX12_isDark_41 (by decide) ?_
        refine lv_goto (tgt := 46) hx hb dX12_isDark_42 (by decide) ?_
        refine lv_istore_n (lv' := [(2, .int 1), (0, .ref (ad 66)), (1, .int x1), (3, .int x3)]) hx hb dX12_isDark_46 rfl hl (by decide) rfl (fun ls hl => ?_)
        refine lv_iinc (v := (x3 + 1)) (lv' := [(3, .int (x3 + 1)), (2, .int 1), (0, .ref (ad 66)), (1, .int x1)]) hx hb dX12_isDark_47 hl (k := 3) rfl rfl (by decide) rfl (fun ls hl => ?_)
        refine lv_goto (tgt := 4) hx hb dX12_isDark_50 (by decide) ?_
        exact ih x1 1 ((x3 + 1)) _ h _ (lv_sub hl [2, 3, 1, 0] rfl) kx
      · rw [if_pos c2] at h
        refine lv_iload_n hx hb dX12_isDark_16 rfl (lv_at hl 1 rfl) ?_
        refine lv_aload_n hx hb dX12_isDark_17 rfl (lv_at hl 0 rfl) ?_
        refine fg_66_11 Z hP wF_X12_19 dX12_isDark_18 ?_
        refine lv_iconst (v := 2) hx hb dX12_isDark_21 (by decide) ?_
        refine lv_iload_n hx hb dX12_isDark_22 rfl (lv_at hl 3 rfl) ?_
        refine lv_imul hx hb dX12_isDark_23 ?_
        obtain ⟨v3, hv3, h⟩ := bd h
        refine zm_ld (j := 3) Z hP hv3 dX12_isDark_24 ?_
        refine lv_aload_n hx hb dX12_isDark_25 rfl (lv_at hl 0 rfl) ?_
        refine fg_66_11 Z hP wF_X12_19 dX12_isDark_26 ?_
        refine lv_iconst (v := 2) hx hb dX12_isDark_29 (by decide) ?_
        refine lv_iload_n hx hb dX12_isDark_30 rfl (lv_at hl 3 rfl) ?_
        refine lv_imul hx hb dX12_isDark_31 ?_
        refine lv_iconst (v := 1) hx hb dX12_isDark_32 (by decide) ?_
        refine lv_iadd hx hb dX12_isDark_33 ?_
        obtain ⟨v4, hv4, h⟩ := bd h
        refine zm_ld (j := 3) Z hP hv4 dX12_isDark_34 ?_
        obtain ⟨v5, hv5, h⟩ := bd h
        refine zqi (zrunS Z hP (As := [.int x1, .int v3, .int v4]) (rest := []) (c_X12_in (R := { frames := 0, cells := 0, slots := 0, locals := 0 }) Z.i (Nat.le_refl _) (Nat.le_refl _) hv5) cV_X12_64 rfl rfl ⟨(Nat.le_trans (Nat.le_of_ble_eq_true rfl) hRf), (Nat.le_trans (Nat.le_of_ble_eq_true rfl) hRl)⟩ rfl hl.1 rfl (Nat.le_of_ble_eq_true rfl) dX12_isDark_35 ⟨Nat.zero_le _, Nat.zero_le _⟩) ?_
        refine lv_if_eq (tgt := 45) hx hb dX12_isDark_38 (by decide) (fun c6 => ?_) (fun c6 => ?_)
        · rw [if_pos c6] at h
          refine lv_iconst (v := 0) hx hb dX12_isDark_45 (by decide) ?_
          refine lv_istore_n (lv' := [(2, .int 0), (0, .ref (ad 66)), (1, .int x1), (3, .int x3)]) hx hb dX12_isDark_46 rfl hl (by decide) rfl (fun ls hl => ?_)
          refine lv_iinc (v := (x3 + 1)) (lv' := [(3, .int (x3 + 1)), (2, .int 0), (0, .ref (ad 66)), (1, .int x1)]) hx hb dX12_isDark_47 hl (k := 3) rfl rfl (by decide) rfl (fun ls hl => ?_)
          refine lv_goto (tgt := 4) hx hb dX12_isDark_50 (by decide) ?_
          exact ih x1 0 ((x3 + 1)) _ h _ (lv_sub hl [2, 3, 1, 0] rfl) kx
        · rw [if_neg c6] at h
          refine lv_iconst (v := 1) hx hb dX12_isDark_41 (by decide) ?_
          refine lv_goto (tgt := 46) hx hb dX12_isDark_42 (by decide) ?_
          refine lv_istore_n (lv' := [(2, .int 1), (0, .ref (ad 66)), (1, .int x1), (3, .int x3)]) hx hb dX12_isDark_46 rfl hl (by decide) rfl (fun ls hl => ?_)
          refine lv_iinc (v := (x3 + 1)) (lv' := [(3, .int (x3 + 1)), (2, .int 1), (0, .ref (ad 66)), (1, .int x1)]) hx hb dX12_isDark_47 hl (k := 3) rfl rfl (by decide) rfl (fun ls hl => ?_)
          refine lv_goto (tgt := 4) hx hb dX12_isDark_50 (by decide) ?_
          exact ih x1 1 ((x3 + 1)) _ h _ (lv_sub hl [2, 3, 1, 0] rfl) kx
set_option maxHeartbeats 4000000 in
set_option maxRecDepth 100000 in
theorem c_X12_isDark {l : Launch} {D : va_G} {cy : Nat → ClassId} {ad : Nat → Nat} {σ τ : Sx} {R : Room} (hI : gInj ad) (hRf : 1 ≤ R.frames) (hRl : 22 ≤ R.locals) {x1 : Int32} {out : Int32} (h : m_X12_isDark τ x1 = some out) : Met l yX12_isDark [Cond.code yX12_isDark cX12_isDark 4 (some .boolean)] R (va_Pc [.ref (ad 66), .int x1] (gB D cy ad σ τ)) (rQi out) 0 0 noA := by
  refine zstart [.ref (ad 66), .int x1] (by decide) rfl hI (Nat.le_of_ble_eq_true rfl) ?_
  intro p e s m below meth c Z hr hlk hP ls hl
  have hx := Z.x
  have hb := Z.b
  generalize hargs : ([.ref (ad 66), .int x1] : List Value).toArray = args
  have hl : lv_has ls 4 [(0, .ref (ad 66)), (1, .int x1)] := hl
  unfold m_X12_isDark at h
  refine lv_iconst (v := 0) hx hb dX12_isDark_0 (by decide) ?_
  refine lv_istore_n (lv' := [(2, .int 0), (0, .ref (ad 66)), (1, .int x1)]) hx hb dX12_isDark_1 rfl hl (by decide) rfl (fun ls hl => ?_)
  refine lv_iconst (v := 0) hx hb dX12_isDark_2 (by decide) ?_
  refine lv_istore_n (lv' := [(3, .int 0), (2, .int 0), (0, .ref (ad 66)), (1, .int x1)]) hx hb dX12_isDark_3 rfl hl (by decide) rfl (fun ls hl => ?_)
  obtain ⟨y7, hy7, h⟩ := bd h
  refine w_X12_isDark_L4 Z hP hr hlk hRf hRl out FU x1 0 0 y7 hy7 _ (lv_sub hl [2, 3, 1, 0] rfl) (fun ls hl => ?_)
  refine lv_iload_n hx hb dX12_isDark_53 rfl (lv_at hl 0 rfl) ?_
  exact zrz Z hr hlk h dX12_isDark_54
def m_X12_dark (τ : Sx) (x1 : Int32) : Option (Int32 × Sx) :=
  (m_X12_in x1 0 160).bind (fun v1 => if v1 = 0 then (some (((-1), (sg τ 0 0)))) else ((m_X12_isDark ((sg τ 0 0)) x1).bind (fun v3 => if v3 = 0 then (some ((0, (sg τ 0 0)))) else (some ((1, (sg τ 0 0)))))))
set_option maxHeartbeats 4000000 in
set_option maxRecDepth 100000 in
theorem c_X12_dark {l : Launch} {D : va_G} {cy : Nat → ClassId} {ad : Nat → Nat} {σ τ : Sx} {R : Room} (hI : gInj ad) (hRf : 2 ≤ R.frames) (hRl : 45 ≤ R.locals) {x1 : Int32} {out : Int32 × Sx} (h : m_X12_dark τ x1 = some out) : Met l yX12_dark [Cond.code yX12_dark cX12_dark 2 (some .int)] R (va_Pc [.ref (ad 66), .int x1] (gB D cy ad σ τ)) (mQi D cy ad σ out) 0 0 (gA ad) := by
  refine zstart [.ref (ad 66), .int x1] (by decide) rfl hI (Nat.le_of_ble_eq_true rfl) ?_
  intro p e s m below meth c Z hr hlk hP ls hl
  have hx := Z.x
  have hb := Z.b
  generalize hargs : ([.ref (ad 66), .int x1] : List Value).toArray = args
  have hl : lv_has ls 2 [(0, .ref (ad 66)), (1, .int x1)] := hl
  have hS : va_S (gA ad) s.heap s.heap [] := va_S.rf
  unfold m_X12_dark at h
  refine lv_aload_n hx hb dX12_dark_0 rfl (lv_at hl 0 rfl) ?_
  refine lv_iconst (v := 0) hx hb dX12_dark_1 (by decide) ?_
  refine fp_66_0 Z hP hS wF_X12_61 dX12_dark_2 (fun H locs hP hS => ?_)
  refine lv_iload_n hx hb dX12_dark_5 rfl (lv_at hl 1 rfl) ?_
  refine lv_iconst (v := 0) hx hb dX12_dark_6 (by decide) ?_
  refine lv_sipush (v := 160) hx hb dX12_dark_7 (by decide) ?_
  obtain ⟨v1, hv1, h⟩ := bd h
  refine zqi (zrunS Z hP (As := [.int x1, .int 0, .int 160]) (rest := []) (c_X12_in (R := { frames := 0, cells := 0, slots := 0, locals := 0 }) Z.i (Nat.le_refl _) (Nat.le_refl _) hv1) cV_X12_64 rfl rfl ⟨(Nat.le_trans (Nat.le_of_ble_eq_true rfl) hRf), (Nat.le_trans (Nat.le_of_ble_eq_true rfl) hRl)⟩ rfl hl.1 rfl (Nat.le_of_ble_eq_true rfl) dX12_dark_10 ⟨Nat.zero_le _, Nat.zero_le _⟩) ?_
  refine lv_if_ne (tgt := 20) hx hb dX12_dark_13 (by decide) (fun c2 => ?_) (fun c2 => ?_)
  · rw [if_neg c2] at h
    refine lv_aload_n hx hb dX12_dark_20 rfl (lv_at hl 0 rfl) ?_
    refine lv_iload_n hx hb dX12_dark_21 rfl (lv_at hl 1 rfl) ?_
    obtain ⟨v3, hv3, h⟩ := bd h
    refine zqi (zrunV Z hP (As := [.int x1]) (rest := []) (c_X12_isDark (R := { frames := 1, cells := 0, slots := 0, locals := 22 }) Z.i (Nat.le_refl _) (Nat.le_refl _) hv3) cV_X12_146 rfl rfl ⟨(Nat.le_trans (Nat.le_of_ble_eq_true rfl) hRf), (Nat.le_trans (Nat.le_of_ble_eq_true rfl) hRl)⟩ 66 (gW_mo.trans rfl) rfl rfl rfl hl.1 rfl (Nat.le_of_ble_eq_true rfl) dX12_dark_22 ⟨Nat.zero_le _, Nat.zero_le _⟩) ?_
    refine lv_if_eq (tgt := 32) hx hb dX12_dark_25 (by decide) (fun c4 => ?_) (fun c4 => ?_)
    · rw [if_pos c4] at h
      refine lv_iconst (v := 0) hx hb dX12_dark_32 (by decide) ?_
      exact zmi Z hP hS hr hlk h dX12_dark_33
    · rw [if_neg c4] at h
      refine lv_iconst (v := 1) hx hb dX12_dark_28 (by decide) ?_
      refine lv_goto (tgt := 33) hx hb dX12_dark_29 (by decide) ?_
      exact zmi Z hP hS hr hlk h dX12_dark_33
  · rw [if_pos c2] at h
    refine lv_iconst (v := (-1)) hx hb dX12_dark_16 (by decide) ?_
    refine lv_goto (tgt := 33) hx hb dX12_dark_17 (by decide) ?_
    exact zmi Z hP hS hr hlk h dX12_dark_33
