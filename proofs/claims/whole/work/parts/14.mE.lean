def m_X9_worth_7 (σ : Sx) (x2 : Int32) : Option (Int32 × Sx) :=
  (ldA cLn ((sl σ ((σ.2.1 + 1)))) 17 x2).bind (fun v1 => some ((v1, (sl σ ((σ.2.1 + 1))))))
set_option maxHeartbeats 4000000 in
set_option maxRecDepth 100000 in
theorem c_X9_worth_7 {l : Launch} {D : va_G} {cy : Nat → ClassId} {ad : Nat → Nat} {σ τ : Sx} {R : Room} (hI : gInj ad) (hRf : 0 ≤ R.frames) (hRl : 0 ≤ R.locals) {x2 : Int32} {out : Int32 × Sx} (h : m_X9_worth_7 σ x2 = some out) : Met l yX9_worth [Cond.code yX9_worth cX9_worth 3 (some .int)] R (va_Pc [.ref (ad 7), .ref (ad 0), .int x2] (gB D cy ad σ τ)) (cQi D cy ad τ out) 0 0 (gA ad) := by
  refine zstart [.ref (ad 7), .ref (ad 0), .int x2] (by decide) rfl hI (Nat.le_of_ble_eq_true rfl) ?_
  intro p e s m below meth c Z hr hlk hP ls hl
  have hx := Z.x
  have hb := Z.b
  generalize hargs : ([.ref (ad 7), .ref (ad 0), .int x2] : List Value).toArray = args
  have hl : lv_has ls 3 [(0, .ref (ad 7)), (1, .ref (ad 0)), (2, .int x2)] := hl
  have hS : va_S (gA ad) s.heap s.heap [] := va_S.rf
  unfold m_X9_worth_7 at h
  refine lv_aload_n hx hb dX9_worth_0 rfl (lv_at hl 1 rfl) ?_
  refine lv_dup hx hb dX9_worth_1 rfl ?_
  refine fgN_0_14 Z hP wF_X9_7 dX9_worth_2 ?_
  refine lv_lconst (v := 1) hx hb dX9_worth_5 (by decide) ?_
  refine lv_ladd hx hb dX9_worth_6 ?_
  refine fpN_0_14 Z hP hS wF_X9_7 dX9_worth_7 (fun H locs hP hS => ?_)
  refine lv_aload_n hx hb dX9_worth_10 rfl (lv_at hl 1 rfl) ?_
  refine fgN_0_3 Z hP wF_X9_13 dX9_worth_11 ?_
  refine fg_4_4 Z hP wF_X9_17 dX9_worth_14 ?_
  refine lv_iload_n hx hb dX9_worth_17 rfl (lv_at hl 2 rfl) ?_
  obtain ⟨v1, hv1, h⟩ := bd h
  refine zc_ld (j := 17) Z hP hv1 dX9_worth_18 ?_
  exact zci Z hP hS hr hlk h dX9_worth_19
def m_X9_worth_8 (σ : Sx) (x2 : Int32) : Option (Int32 × Sx) :=
  (ldA cLn ((sl σ ((σ.2.1 + 1)))) 17 x2).bind (fun v1 => some ((v1, (sl σ ((σ.2.1 + 1))))))
set_option maxHeartbeats 4000000 in
set_option maxRecDepth 100000 in
theorem c_X9_worth_8 {l : Launch} {D : va_G} {cy : Nat → ClassId} {ad : Nat → Nat} {σ τ : Sx} {R : Room} (hI : gInj ad) (hRf : 0 ≤ R.frames) (hRl : 0 ≤ R.locals) {x2 : Int32} {out : Int32 × Sx} (h : m_X9_worth_8 σ x2 = some out) : Met l yX9_worth [Cond.code yX9_worth cX9_worth 3 (some .int)] R (va_Pc [.ref (ad 8), .ref (ad 0), .int x2] (gB D cy ad σ τ)) (cQi D cy ad τ out) 0 0 (gA ad) := by
  refine zstart [.ref (ad 8), .ref (ad 0), .int x2] (by decide) rfl hI (Nat.le_of_ble_eq_true rfl) ?_
  intro p e s m below meth c Z hr hlk hP ls hl
  have hx := Z.x
  have hb := Z.b
  generalize hargs : ([.ref (ad 8), .ref (ad 0), .int x2] : List Value).toArray = args
  have hl : lv_has ls 3 [(0, .ref (ad 8)), (1, .ref (ad 0)), (2, .int x2)] := hl
  have hS : va_S (gA ad) s.heap s.heap [] := va_S.rf
  unfold m_X9_worth_8 at h
  refine lv_aload_n hx hb dX9_worth_0 rfl (lv_at hl 1 rfl) ?_
  refine lv_dup hx hb dX9_worth_1 rfl ?_
  refine fgN_0_14 Z hP wF_X9_7 dX9_worth_2 ?_
  refine lv_lconst (v := 1) hx hb dX9_worth_5 (by decide) ?_
  refine lv_ladd hx hb dX9_worth_6 ?_
  refine fpN_0_14 Z hP hS wF_X9_7 dX9_worth_7 (fun H locs hP hS => ?_)
  refine lv_aload_n hx hb dX9_worth_10 rfl (lv_at hl 1 rfl) ?_
  refine fgN_0_3 Z hP wF_X9_13 dX9_worth_11 ?_
  refine fg_4_4 Z hP wF_X9_17 dX9_worth_14 ?_
  refine lv_iload_n hx hb dX9_worth_17 rfl (lv_at hl 2 rfl) ?_
  obtain ⟨v1, hv1, h⟩ := bd h
  refine zc_ld (j := 17) Z hP hv1 dX9_worth_18 ?_
  exact zci Z hP hS hr hlk h dX9_worth_19
def m_X9_worth_9 (σ : Sx) (x2 : Int32) : Option (Int32 × Sx) :=
  (ldA cLn ((sl σ ((σ.2.1 + 1)))) 17 x2).bind (fun v1 => some ((v1, (sl σ ((σ.2.1 + 1))))))
set_option maxHeartbeats 4000000 in
set_option maxRecDepth 100000 in
theorem c_X9_worth_9 {l : Launch} {D : va_G} {cy : Nat → ClassId} {ad : Nat → Nat} {σ τ : Sx} {R : Room} (hI : gInj ad) (hRf : 0 ≤ R.frames) (hRl : 0 ≤ R.locals) {x2 : Int32} {out : Int32 × Sx} (h : m_X9_worth_9 σ x2 = some out) : Met l yX9_worth [Cond.code yX9_worth cX9_worth 3 (some .int)] R (va_Pc [.ref (ad 9), .ref (ad 0), .int x2] (gB D cy ad σ τ)) (cQi D cy ad τ out) 0 0 (gA ad) := by
  refine zstart [.ref (ad 9), .ref (ad 0), .int x2] (by decide) rfl hI (Nat.le_of_ble_eq_true rfl) ?_
  intro p e s m below meth c Z hr hlk hP ls hl
  have hx := Z.x
  have hb := Z.b
  generalize hargs : ([.ref (ad 9), .ref (ad 0), .int x2] : List Value).toArray = args
  have hl : lv_has ls 3 [(0, .ref (ad 9)), (1, .ref (ad 0)), (2, .int x2)] := hl
  have hS : va_S (gA ad) s.heap s.heap [] := va_S.rf
  unfold m_X9_worth_9 at h
  refine lv_aload_n hx hb dX9_worth_0 rfl (lv_at hl 1 rfl) ?_
  refine lv_dup hx hb dX9_worth_1 rfl ?_
  refine fgN_0_14 Z hP wF_X9_7 dX9_worth_2 ?_
  refine lv_lconst (v := 1) hx hb dX9_worth_5 (by decide) ?_
  refine lv_ladd hx hb dX9_worth_6 ?_
  refine fpN_0_14 Z hP hS wF_X9_7 dX9_worth_7 (fun H locs hP hS => ?_)
  refine lv_aload_n hx hb dX9_worth_10 rfl (lv_at hl 1 rfl) ?_
  refine fgN_0_3 Z hP wF_X9_13 dX9_worth_11 ?_
  refine fg_4_4 Z hP wF_X9_17 dX9_worth_14 ?_
  refine lv_iload_n hx hb dX9_worth_17 rfl (lv_at hl 2 rfl) ?_
  obtain ⟨v1, hv1, h⟩ := bd h
  refine zc_ld (j := 17) Z hP hv1 dX9_worth_18 ?_
  exact zci Z hP hS hr hlk h dX9_worth_19
def m_X9_worth_10 (σ : Sx) (x2 : Int32) : Option (Int32 × Sx) :=
  (ldA cLn ((sl σ ((σ.2.1 + 1)))) 17 x2).bind (fun v1 => some ((v1, (sl σ ((σ.2.1 + 1))))))
set_option maxHeartbeats 4000000 in
set_option maxRecDepth 100000 in
theorem c_X9_worth_10 {l : Launch} {D : va_G} {cy : Nat → ClassId} {ad : Nat → Nat} {σ τ : Sx} {R : Room} (hI : gInj ad) (hRf : 0 ≤ R.frames) (hRl : 0 ≤ R.locals) {x2 : Int32} {out : Int32 × Sx} (h : m_X9_worth_10 σ x2 = some out) : Met l yX9_worth [Cond.code yX9_worth cX9_worth 3 (some .int)] R (va_Pc [.ref (ad 10), .ref (ad 0), .int x2] (gB D cy ad σ τ)) (cQi D cy ad τ out) 0 0 (gA ad) := by
  refine zstart [.ref (ad 10), .ref (ad 0), .int x2] (by decide) rfl hI (Nat.le_of_ble_eq_true rfl) ?_
  intro p e s m below meth c Z hr hlk hP ls hl
  have hx := Z.x
  have hb := Z.b
  generalize hargs : ([.ref (ad 10), .ref (ad 0), .int x2] : List Value).toArray = args
  have hl : lv_has ls 3 [(0, .ref (ad 10)), (1, .ref (ad 0)), (2, .int x2)] := hl
  have hS : va_S (gA ad) s.heap s.heap [] := va_S.rf
  unfold m_X9_worth_10 at h
  refine lv_aload_n hx hb dX9_worth_0 rfl (lv_at hl 1 rfl) ?_
  refine lv_dup hx hb dX9_worth_1 rfl ?_
  refine fgN_0_14 Z hP wF_X9_7 dX9_worth_2 ?_
  refine lv_lconst (v := 1) hx hb dX9_worth_5 (by decide) ?_
  refine lv_ladd hx hb dX9_worth_6 ?_
  refine fpN_0_14 Z hP hS wF_X9_7 dX9_worth_7 (fun H locs hP hS => ?_)
  refine lv_aload_n hx hb dX9_worth_10 rfl (lv_at hl 1 rfl) ?_
  refine fgN_0_3 Z hP wF_X9_13 dX9_worth_11 ?_
  refine fg_4_4 Z hP wF_X9_17 dX9_worth_14 ?_
  refine lv_iload_n hx hb dX9_worth_17 rfl (lv_at hl 2 rfl) ?_
  obtain ⟨v1, hv1, h⟩ := bd h
  refine zc_ld (j := 17) Z hP hv1 dX9_worth_18 ?_
  exact zci Z hP hS hr hlk h dX9_worth_19
def m_X9_worth_11 (σ : Sx) (x2 : Int32) : Option (Int32 × Sx) :=
  (ldA cLn ((sl σ ((σ.2.1 + 1)))) 17 x2).bind (fun v1 => some ((v1, (sl σ ((σ.2.1 + 1))))))
set_option maxHeartbeats 4000000 in
set_option maxRecDepth 100000 in
theorem c_X9_worth_11 {l : Launch} {D : va_G} {cy : Nat → ClassId} {ad : Nat → Nat} {σ τ : Sx} {R : Room} (hI : gInj ad) (hRf : 0 ≤ R.frames) (hRl : 0 ≤ R.locals) {x2 : Int32} {out : Int32 × Sx} (h : m_X9_worth_11 σ x2 = some out) : Met l yX9_worth [Cond.code yX9_worth cX9_worth 3 (some .int)] R (va_Pc [.ref (ad 11), .ref (ad 0), .int x2] (gB D cy ad σ τ)) (cQi D cy ad τ out) 0 0 (gA ad) := by
  refine zstart [.ref (ad 11), .ref (ad 0), .int x2] (by decide) rfl hI (Nat.le_of_ble_eq_true rfl) ?_
  intro p e s m below meth c Z hr hlk hP ls hl
  have hx := Z.x
  have hb := Z.b
  generalize hargs : ([.ref (ad 11), .ref (ad 0), .int x2] : List Value).toArray = args
  have hl : lv_has ls 3 [(0, .ref (ad 11)), (1, .ref (ad 0)), (2, .int x2)] := hl
  have hS : va_S (gA ad) s.heap s.heap [] := va_S.rf
  unfold m_X9_worth_11 at h
  refine lv_aload_n hx hb dX9_worth_0 rfl (lv_at hl 1 rfl) ?_
  refine lv_dup hx hb dX9_worth_1 rfl ?_
  refine fgN_0_14 Z hP wF_X9_7 dX9_worth_2 ?_
  refine lv_lconst (v := 1) hx hb dX9_worth_5 (by decide) ?_
  refine lv_ladd hx hb dX9_worth_6 ?_
  refine fpN_0_14 Z hP hS wF_X9_7 dX9_worth_7 (fun H locs hP hS => ?_)
  refine lv_aload_n hx hb dX9_worth_10 rfl (lv_at hl 1 rfl) ?_
  refine fgN_0_3 Z hP wF_X9_13 dX9_worth_11 ?_
  refine fg_4_4 Z hP wF_X9_17 dX9_worth_14 ?_
  refine lv_iload_n hx hb dX9_worth_17 rfl (lv_at hl 2 rfl) ?_
  obtain ⟨v1, hv1, h⟩ := bd h
  refine zc_ld (j := 17) Z hP hv1 dX9_worth_18 ?_
  exact zci Z hP hS hr hlk h dX9_worth_19
def m_X9_worth_12 (σ : Sx) (x2 : Int32) : Option (Int32 × Sx) :=
  (ldA cLn ((sl σ ((σ.2.1 + 1)))) 17 x2).bind (fun v1 => some ((v1, (sl σ ((σ.2.1 + 1))))))
set_option maxHeartbeats 4000000 in
set_option maxRecDepth 100000 in
theorem c_X9_worth_12 {l : Launch} {D : va_G} {cy : Nat → ClassId} {ad : Nat → Nat} {σ τ : Sx} {R : Room} (hI : gInj ad) (hRf : 0 ≤ R.frames) (hRl : 0 ≤ R.locals) {x2 : Int32} {out : Int32 × Sx} (h : m_X9_worth_12 σ x2 = some out) : Met l yX9_worth [Cond.code yX9_worth cX9_worth 3 (some .int)] R (va_Pc [.ref (ad 12), .ref (ad 0), .int x2] (gB D cy ad σ τ)) (cQi D cy ad τ out) 0 0 (gA ad) := by
  refine zstart [.ref (ad 12), .ref (ad 0), .int x2] (by decide) rfl hI (Nat.le_of_ble_eq_true rfl) ?_
  intro p e s m below meth c Z hr hlk hP ls hl
  have hx := Z.x
  have hb := Z.b
  generalize hargs : ([.ref (ad 12), .ref (ad 0), .int x2] : List Value).toArray = args
  have hl : lv_has ls 3 [(0, .ref (ad 12)), (1, .ref (ad 0)), (2, .int x2)] := hl
  have hS : va_S (gA ad) s.heap s.heap [] := va_S.rf
  unfold m_X9_worth_12 at h
  refine lv_aload_n hx hb dX9_worth_0 rfl (lv_at hl 1 rfl) ?_
  refine lv_dup hx hb dX9_worth_1 rfl ?_
  refine fgN_0_14 Z hP wF_X9_7 dX9_worth_2 ?_
  refine lv_lconst (v := 1) hx hb dX9_worth_5 (by decide) ?_
  refine lv_ladd hx hb dX9_worth_6 ?_
  refine fpN_0_14 Z hP hS wF_X9_7 dX9_worth_7 (fun H locs hP hS => ?_)
  refine lv_aload_n hx hb dX9_worth_10 rfl (lv_at hl 1 rfl) ?_
  refine fgN_0_3 Z hP wF_X9_13 dX9_worth_11 ?_
  refine fg_4_4 Z hP wF_X9_17 dX9_worth_14 ?_
  refine lv_iload_n hx hb dX9_worth_17 rfl (lv_at hl 2 rfl) ?_
  obtain ⟨v1, hv1, h⟩ := bd h
  refine zc_ld (j := 17) Z hP hv1 dX9_worth_18 ?_
  exact zci Z hP hS hr hlk h dX9_worth_19
def m_X0_worth_8 (σ : Sx) (x2 : Int32) : Option (Int32 × Sx) :=
  (m_X9_worth_8 ((sl σ ((σ.2.1 + 10)))) x2).bind (fun q1 => (m_X10_callsOf q1.2 x2).bind (fun v2 => some (((q1.1 + v2), q1.2))))
set_option maxHeartbeats 4000000 in
set_option maxRecDepth 100000 in
theorem c_X0_worth_8 {l : Launch} {D : va_G} {cy : Nat → ClassId} {ad : Nat → Nat} {σ τ : Sx} {R : Room} (hI : gInj ad) (hRf : 1 ≤ R.frames) (hRl : 23 ≤ R.locals) {x2 : Int32} {out : Int32 × Sx} (h : m_X0_worth_8 σ x2 = some out) : Met l yX0_worth [Cond.code yX0_worth cX0_worth 3 (some .int)] R (va_Pc [.ref (ad 8), .ref (ad 0), .int x2] (gB D cy ad σ τ)) (cQi D cy ad τ out) 0 0 (gA ad) := by
  refine zstart [.ref (ad 8), .ref (ad 0), .int x2] (by decide) rfl hI (Nat.le_of_ble_eq_true rfl) ?_
  intro p e s m below meth c Z hr hlk hP ls hl
  have hx := Z.x
  have hb := Z.b
  generalize hargs : ([.ref (ad 8), .ref (ad 0), .int x2] : List Value).toArray = args
  have hl : lv_has ls 3 [(0, .ref (ad 8)), (1, .ref (ad 0)), (2, .int x2)] := hl
  have hS : va_S (gA ad) s.heap s.heap [] := va_S.rf
  unfold m_X0_worth_8 at h
  refine lv_aload_n hx hb dX0_worth_0 rfl (lv_at hl 1 rfl) ?_
  refine lv_dup hx hb dX0_worth_1 rfl ?_
  refine fgN_0_14 Z hP wF_X0_7 dX0_worth_2 ?_
  refine lv_ldc2 hx hb Z.o (Z.t _ wK_X0_13 rfl _) dX0_worth_5 ?_
  refine lv_ladd hx hb dX0_worth_8 ?_
  refine fpN_0_14 Z hP hS wF_X0_7 dX0_worth_9 (fun H locs hP hS => ?_)
  refine lv_aload_n hx hb dX0_worth_12 rfl (lv_at hl 0 rfl) ?_
  refine lv_aload_n hx hb dX0_worth_13 rfl (lv_at hl 1 rfl) ?_
  refine lv_iload_n hx hb dX0_worth_14 rfl (lv_at hl 2 rfl) ?_
  obtain ⟨q1, hq1, h⟩ := bd h
  refine zwci (zrunSU Z hP (As := [.ref (ad 0), .int x2]) (rest := []) (c_X9_worth_8 (R := { frames := 0, cells := 0, slots := 0, locals := 0 }) Z.i (Nat.le_refl _) (Nat.le_refl _) hq1) cS_X0_15 rfl rfl ⟨(Nat.le_trans (Nat.le_of_ble_eq_true rfl) hRf), (Nat.le_trans (Nat.le_of_ble_eq_true rfl) hRl)⟩ 8 (gW_o rfl) rfl rfl rfl hl.1 rfl (Nat.le_of_ble_eq_true rfl) dX0_worth_15 ⟨Nat.zero_le _, Nat.zero_le _⟩) hS (fun H locs hP hS => ?_)
  refine lv_aload_n hx hb dX0_worth_18 rfl (lv_at hl 1 rfl) ?_
  refine fgN_0_0 Z hP wF_X0_19 dX0_worth_19 ?_
  refine lv_iload_n hx hb dX0_worth_22 rfl (lv_at hl 2 rfl) ?_
  obtain ⟨v2, hv2, h⟩ := bd h
  refine zqi (zrunV Z hP (As := [.int x2]) (rest := [.int q1.1]) (c_X10_callsOf (R := { frames := 0, cells := 0, slots := 0, locals := 0 }) Z.i (Nat.le_refl _) (Nat.le_refl _) hv2) cV_X0_23 rfl rfl ⟨(Nat.le_trans (Nat.le_of_ble_eq_true rfl) hRf), (Nat.le_trans (Nat.le_of_ble_eq_true rfl) hRl)⟩ 1 (gW_o rfl) rfl rfl rfl hl.1 rfl (Nat.le_of_ble_eq_true rfl) dX0_worth_23 ⟨Nat.zero_le _, Nat.zero_le _⟩) ?_
  refine lv_iadd hx hb dX0_worth_26 ?_
  exact zci Z hP hS hr hlk h dX0_worth_27
def m_X0_worth_10 (σ : Sx) (x2 : Int32) : Option (Int32 × Sx) :=
  (m_X9_worth_10 ((sl σ ((σ.2.1 + 10)))) x2).bind (fun q1 => (m_X10_callsOf q1.2 x2).bind (fun v2 => some (((q1.1 + v2), q1.2))))
set_option maxHeartbeats 4000000 in
set_option maxRecDepth 100000 in
theorem c_X0_worth_10 {l : Launch} {D : va_G} {cy : Nat → ClassId} {ad : Nat → Nat} {σ τ : Sx} {R : Room} (hI : gInj ad) (hRf : 1 ≤ R.frames) (hRl : 23 ≤ R.locals) {x2 : Int32} {out : Int32 × Sx} (h : m_X0_worth_10 σ x2 = some out) : Met l yX0_worth [Cond.code yX0_worth cX0_worth 3 (some .int)] R (va_Pc [.ref (ad 10), .ref (ad 0), .int x2] (gB D cy ad σ τ)) (cQi D cy ad τ out) 0 0 (gA ad) := by
  refine zstart [.ref (ad 10), .ref (ad 0), .int x2] (by decide) rfl hI (Nat.le_of_ble_eq_true rfl) ?_
  intro p e s m below meth c Z hr hlk hP ls hl
  have hx := Z.x
  have hb := Z.b
  generalize hargs : ([.ref (ad 10), .ref (ad 0), .int x2] : List Value).toArray = args
  have hl : lv_has ls 3 [(0, .ref (ad 10)), (1, .ref (ad 0)), (2, .int x2)] := hl
  have hS : va_S (gA ad) s.heap s.heap [] := va_S.rf
  unfold m_X0_worth_10 at h
  refine lv_aload_n hx hb dX0_worth_0 rfl (lv_at hl 1 rfl) ?_
  refine lv_dup hx hb dX0_worth_1 rfl ?_
  refine fgN_0_14 Z hP wF_X0_7 dX0_worth_2 ?_
  refine lv_ldc2 hx hb Z.o (Z.t _ wK_X0_13 rfl _) dX0_worth_5 ?_
  refine lv_ladd hx hb dX0_worth_8 ?_
  refine fpN_0_14 Z hP hS wF_X0_7 dX0_worth_9 (fun H locs hP hS => ?_)
  refine lv_aload_n hx hb dX0_worth_12 rfl (lv_at hl 0 rfl) ?_
  refine lv_aload_n hx hb dX0_worth_13 rfl (lv_at hl 1 rfl) ?_
  refine lv_iload_n hx hb dX0_worth_14 rfl (lv_at hl 2 rfl) ?_
  obtain ⟨q1, hq1, h⟩ := bd h
  refine zwci (zrunSU Z hP (As := [.ref (ad 0), .int x2]) (rest := []) (c_X9_worth_10 (R := { frames := 0, cells := 0, slots := 0, locals := 0 }) Z.i (Nat.le_refl _) (Nat.le_refl _) hq1) cS_X0_15 rfl rfl ⟨(Nat.le_trans (Nat.le_of_ble_eq_true rfl) hRf), (Nat.le_trans (Nat.le_of_ble_eq_true rfl) hRl)⟩ 10 (gW_o rfl) rfl rfl rfl hl.1 rfl (Nat.le_of_ble_eq_true rfl) dX0_worth_15 ⟨Nat.zero_le _, Nat.zero_le _⟩) hS (fun H locs hP hS => ?_)
  refine lv_aload_n hx hb dX0_worth_18 rfl (lv_at hl 1 rfl) ?_
  refine fgN_0_0 Z hP wF_X0_19 dX0_worth_19 ?_
  refine lv_iload_n hx hb dX0_worth_22 rfl (lv_at hl 2 rfl) ?_
  obtain ⟨v2, hv2, h⟩ := bd h
  refine zqi (zrunV Z hP (As := [.int x2]) (rest := [.int q1.1]) (c_X10_callsOf (R := { frames := 0, cells := 0, slots := 0, locals := 0 }) Z.i (Nat.le_refl _) (Nat.le_refl _) hv2) cV_X0_23 rfl rfl ⟨(Nat.le_trans (Nat.le_of_ble_eq_true rfl) hRf), (Nat.le_trans (Nat.le_of_ble_eq_true rfl) hRl)⟩ 1 (gW_o rfl) rfl rfl rfl hl.1 rfl (Nat.le_of_ble_eq_true rfl) dX0_worth_23 ⟨Nat.zero_le _, Nat.zero_le _⟩) ?_
  refine lv_iadd hx hb dX0_worth_26 ?_
  exact zci Z hP hS hr hlk h dX0_worth_27
def m_X3_worth_9 (σ : Sx) (x2 : Int32) : Option (Int32 × Sx) :=
  (m_X9_worth_9 ((sl σ ((σ.2.1 + 100)))) x2).bind (fun q1 => (ldA cLn q1.2 2 x2).bind (fun v2 => some (((q1.1 - v2), q1.2))))
set_option maxHeartbeats 4000000 in
set_option maxRecDepth 100000 in
theorem c_X3_worth_9 {l : Launch} {D : va_G} {cy : Nat → ClassId} {ad : Nat → Nat} {σ τ : Sx} {R : Room} (hI : gInj ad) (hRf : 1 ≤ R.frames) (hRl : 22 ≤ R.locals) {x2 : Int32} {out : Int32 × Sx} (h : m_X3_worth_9 σ x2 = some out) : Met l yX3_worth [Cond.code yX3_worth cX3_worth 3 (some .int)] R (va_Pc [.ref (ad 9), .ref (ad 0), .int x2] (gB D cy ad σ τ)) (cQi D cy ad τ out) 0 0 (gA ad) := by
  refine zstart [.ref (ad 9), .ref (ad 0), .int x2] (by decide) rfl hI (Nat.le_of_ble_eq_true rfl) ?_
  intro p e s m below meth c Z hr hlk hP ls hl
  have hx := Z.x
  have hb := Z.b
  generalize hargs : ([.ref (ad 9), .ref (ad 0), .int x2] : List Value).toArray = args
  have hl : lv_has ls 3 [(0, .ref (ad 9)), (1, .ref (ad 0)), (2, .int x2)] := hl
  have hS : va_S (gA ad) s.heap s.heap [] := va_S.rf
  unfold m_X3_worth_9 at h
  refine lv_aload_n hx hb dX3_worth_0 rfl (lv_at hl 1 rfl) ?_
  refine lv_dup hx hb dX3_worth_1 rfl ?_
  refine fgN_0_14 Z hP wF_X3_7 dX3_worth_2 ?_
  refine lv_ldc2 hx hb Z.o (Z.t _ wK_X3_13 rfl _) dX3_worth_5 ?_
  refine lv_ladd hx hb dX3_worth_8 ?_
  refine fpN_0_14 Z hP hS wF_X3_7 dX3_worth_9 (fun H locs hP hS => ?_)
  refine lv_aload_n hx hb dX3_worth_12 rfl (lv_at hl 0 rfl) ?_
  refine lv_aload_n hx hb dX3_worth_13 rfl (lv_at hl 1 rfl) ?_
  refine lv_iload_n hx hb dX3_worth_14 rfl (lv_at hl 2 rfl) ?_
  obtain ⟨q1, hq1, h⟩ := bd h
  refine zwci (zrunSU Z hP (As := [.ref (ad 0), .int x2]) (rest := []) (c_X9_worth_9 (R := { frames := 0, cells := 0, slots := 0, locals := 0 }) Z.i (Nat.le_refl _) (Nat.le_refl _) hq1) cS_X3_15 rfl rfl ⟨(Nat.le_trans (Nat.le_of_ble_eq_true rfl) hRf), (Nat.le_trans (Nat.le_of_ble_eq_true rfl) hRl)⟩ 9 (gW_o rfl) rfl rfl rfl hl.1 rfl (Nat.le_of_ble_eq_true rfl) dX3_worth_15 ⟨Nat.zero_le _, Nat.zero_le _⟩) hS (fun H locs hP hS => ?_)
  refine lv_aload_n hx hb dX3_worth_18 rfl (lv_at hl 1 rfl) ?_
  refine fgN_0_0 Z hP wF_X3_19 dX3_worth_19 ?_
  refine fg_1_6 Z hP wF_X3_23 dX3_worth_22 ?_
  refine lv_iload_n hx hb dX3_worth_25 rfl (lv_at hl 2 rfl) ?_
  obtain ⟨v2, hv2, h⟩ := bd h
  refine zc_ld (j := 2) Z hP hv2 dX3_worth_26 ?_
  refine lv_isub hx hb dX3_worth_27 ?_
  exact zci Z hP hS hr hlk h dX3_worth_28
def m_X3_worth_11 (σ : Sx) (x2 : Int32) : Option (Int32 × Sx) :=
  (m_X9_worth_11 ((sl σ ((σ.2.1 + 100)))) x2).bind (fun q1 => (ldA cLn q1.2 2 x2).bind (fun v2 => some (((q1.1 - v2), q1.2))))
set_option maxHeartbeats 4000000 in
set_option maxRecDepth 100000 in
theorem c_X3_worth_11 {l : Launch} {D : va_G} {cy : Nat → ClassId} {ad : Nat → Nat} {σ τ : Sx} {R : Room} (hI : gInj ad) (hRf : 1 ≤ R.frames) (hRl : 22 ≤ R.locals) {x2 : Int32} {out : Int32 × Sx} (h : m_X3_worth_11 σ x2 = some out) : Met l yX3_worth [Cond.code yX3_worth cX3_worth 3 (some .int)] R (va_Pc [.ref (ad 11), .ref (ad 0), .int x2] (gB D cy ad σ τ)) (cQi D cy ad τ out) 0 0 (gA ad) := by
  refine zstart [.ref (ad 11), .ref (ad 0), .int x2] (by decide) rfl hI (Nat.le_of_ble_eq_true rfl) ?_
  intro p e s m below meth c Z hr hlk hP ls hl
  have hx := Z.x
  have hb := Z.b
  generalize hargs : ([.ref (ad 11), .ref (ad 0), .int x2] : List Value).toArray = args
  have hl : lv_has ls 3 [(0, .ref (ad 11)), (1, .ref (ad 0)), (2, .int x2)] := hl
  have hS : va_S (gA ad) s.heap s.heap [] := va_S.rf
  unfold m_X3_worth_11 at h
  refine lv_aload_n hx hb dX3_worth_0 rfl (lv_at hl 1 rfl) ?_
  refine lv_dup hx hb dX3_worth_1 rfl ?_
  refine fgN_0_14 Z hP wF_X3_7 dX3_worth_2 ?_
  refine lv_ldc2 hx hb Z.o (Z.t _ wK_X3_13 rfl _) dX3_worth_5 ?_
  refine lv_ladd hx hb dX3_worth_8 ?_
  refine fpN_0_14 Z hP hS wF_X3_7 dX3_worth_9 (fun H locs hP hS => ?_)
  refine lv_aload_n hx hb dX3_worth_12 rfl (lv_at hl 0 rfl) ?_
  refine lv_aload_n hx hb dX3_worth_13 rfl (lv_at hl 1 rfl) ?_
  refine lv_iload_n hx hb dX3_worth_14 rfl (lv_at hl 2 rfl) ?_
  obtain ⟨q1, hq1, h⟩ := bd h
  refine zwci (zrunSU Z hP (As := [.ref (ad 0), .int x2]) (rest := []) (c_X9_worth_11 (R := { frames := 0, cells := 0, slots := 0, locals := 0 }) Z.i (Nat.le_refl _) (Nat.le_refl _) hq1) cS_X3_15 rfl rfl ⟨(Nat.le_trans (Nat.le_of_ble_eq_true rfl) hRf), (Nat.le_trans (Nat.le_of_ble_eq_true rfl) hRl)⟩ 11 (gW_o rfl) rfl rfl rfl hl.1 rfl (Nat.le_of_ble_eq_true rfl) dX3_worth_15 ⟨Nat.zero_le _, Nat.zero_le _⟩) hS (fun H locs hP hS => ?_)
  refine lv_aload_n hx hb dX3_worth_18 rfl (lv_at hl 1 rfl) ?_
  refine fgN_0_0 Z hP wF_X3_19 dX3_worth_19 ?_
  refine fg_1_6 Z hP wF_X3_23 dX3_worth_22 ?_
  refine lv_iload_n hx hb dX3_worth_25 rfl (lv_at hl 2 rfl) ?_
  obtain ⟨v2, hv2, h⟩ := bd h
  refine zc_ld (j := 2) Z hP hv2 dX3_worth_26 ?_
  refine lv_isub hx hb dX3_worth_27 ?_
  exact zci Z hP hS hr hlk h dX3_worth_28
def m_X1_worth (σ : Sx) (x2 : Int32) : Option (Int32 × Sx) :=
  (m_X0_worth_10 ((sl σ ((σ.2.1 + 1000)))) x2).bind (fun q1 => some (((2 * q1.1), q1.2)))
set_option maxHeartbeats 4000000 in
set_option maxRecDepth 100000 in
theorem c_X1_worth {l : Launch} {D : va_G} {cy : Nat → ClassId} {ad : Nat → Nat} {σ τ : Sx} {R : Room} (hI : gInj ad) (hRf : 2 ≤ R.frames) (hRl : 45 ≤ R.locals) {x2 : Int32} {out : Int32 × Sx} (h : m_X1_worth σ x2 = some out) : Met l yX1_worth [Cond.code yX1_worth cX1_worth 3 (some .int)] R (va_Pc [.ref (ad 10), .ref (ad 0), .int x2] (gB D cy ad σ τ)) (cQi D cy ad τ out) 0 0 (gA ad) := by
  refine zstart [.ref (ad 10), .ref (ad 0), .int x2] (by decide) rfl hI (Nat.le_of_ble_eq_true rfl) ?_
  intro p e s m below meth c Z hr hlk hP ls hl
  have hx := Z.x
  have hb := Z.b
  generalize hargs : ([.ref (ad 10), .ref (ad 0), .int x2] : List Value).toArray = args
  have hl : lv_has ls 3 [(0, .ref (ad 10)), (1, .ref (ad 0)), (2, .int x2)] := hl
  have hS : va_S (gA ad) s.heap s.heap [] := va_S.rf
  unfold m_X1_worth at h
  refine lv_aload_n hx hb dX1_worth_0 rfl (lv_at hl 1 rfl) ?_
  refine lv_dup hx hb dX1_worth_1 rfl ?_
  refine fgN_0_14 Z hP wF_X1_7 dX1_worth_2 ?_
  refine lv_ldc2 hx hb Z.o (Z.t _ wK_X1_13 rfl _) dX1_worth_5 ?_
  refine lv_ladd hx hb dX1_worth_8 ?_
  refine fpN_0_14 Z hP hS wF_X1_7 dX1_worth_9 (fun H locs hP hS => ?_)
  refine lv_iconst (v := 2) hx hb dX1_worth_12 (by decide) ?_
  refine lv_aload_n hx hb dX1_worth_13 rfl (lv_at hl 0 rfl) ?_
  refine lv_aload_n hx hb dX1_worth_14 rfl (lv_at hl 1 rfl) ?_
  refine lv_iload_n hx hb dX1_worth_15 rfl (lv_at hl 2 rfl) ?_
  obtain ⟨q1, hq1, h⟩ := bd h
  refine zwci (zrunSU Z hP (As := [.ref (ad 0), .int x2]) (rest := [.int 2]) (c_X0_worth_10 (R := { frames := 1, cells := 0, slots := 0, locals := 23 }) Z.i (Nat.le_refl _) (Nat.le_refl _) hq1) cS_X1_15 rfl rfl ⟨(Nat.le_trans (Nat.le_of_ble_eq_true rfl) hRf), (Nat.le_trans (Nat.le_of_ble_eq_true rfl) hRl)⟩ 10 (gW_o rfl) rfl rfl rfl hl.1 rfl (Nat.le_of_ble_eq_true rfl) dX1_worth_16 ⟨Nat.zero_le _, Nat.zero_le _⟩) hS (fun H locs hP hS => ?_)
  refine lv_imul hx hb dX1_worth_19 ?_
  exact zci Z hP hS hr hlk h dX1_worth_20
def m_X6_worth (σ : Sx) (x2 : Int32) : Option (Int32 × Sx) :=
  (m_X3_worth_11 ((sl σ ((σ.2.1 + 10000)))) x2).bind (fun q1 => some (((q1.1 + x2), q1.2)))
set_option maxHeartbeats 4000000 in
set_option maxRecDepth 100000 in
theorem c_X6_worth {l : Launch} {D : va_G} {cy : Nat → ClassId} {ad : Nat → Nat} {σ τ : Sx} {R : Room} (hI : gInj ad) (hRf : 2 ≤ R.frames) (hRl : 44 ≤ R.locals) {x2 : Int32} {out : Int32 × Sx} (h : m_X6_worth σ x2 = some out) : Met l yX6_worth [Cond.code yX6_worth cX6_worth 3 (some .int)] R (va_Pc [.ref (ad 11), .ref (ad 0), .int x2] (gB D cy ad σ τ)) (cQi D cy ad τ out) 0 0 (gA ad) := by
  refine zstart [.ref (ad 11), .ref (ad 0), .int x2] (by decide) rfl hI (Nat.le_of_ble_eq_true rfl) ?_
  intro p e s m below meth c Z hr hlk hP ls hl
  have hx := Z.x
  have hb := Z.b
  generalize hargs : ([.ref (ad 11), .ref (ad 0), .int x2] : List Value).toArray = args
  have hl : lv_has ls 3 [(0, .ref (ad 11)), (1, .ref (ad 0)), (2, .int x2)] := hl
  have hS : va_S (gA ad) s.heap s.heap [] := va_S.rf
  unfold m_X6_worth at h
  refine lv_aload_n hx hb dX6_worth_0 rfl (lv_at hl 1 rfl) ?_
  refine lv_dup hx hb dX6_worth_1 rfl ?_
  refine fgN_0_14 Z hP wF_X6_7 dX6_worth_2 ?_
  refine lv_ldc2 hx hb Z.o (Z.t _ wK_X6_13 rfl _) dX6_worth_5 ?_
  refine lv_ladd hx hb dX6_worth_8 ?_
  refine fpN_0_14 Z hP hS wF_X6_7 dX6_worth_9 (fun H locs hP hS => ?_)
  refine lv_aload_n hx hb dX6_worth_12 rfl (lv_at hl 0 rfl) ?_
  refine lv_aload_n hx hb dX6_worth_13 rfl (lv_at hl 1 rfl) ?_
  refine lv_iload_n hx hb dX6_worth_14 rfl (lv_at hl 2 rfl) ?_
  obtain ⟨q1, hq1, h⟩ := bd h
  refine zwci (zrunSU Z hP (As := [.ref (ad 0), .int x2]) (rest := []) (c_X3_worth_11 (R := { frames := 1, cells := 0, slots := 0, locals := 22 }) Z.i (Nat.le_refl _) (Nat.le_refl _) hq1) cS_X6_15 rfl rfl ⟨(Nat.le_trans (Nat.le_of_ble_eq_true rfl) hRf), (Nat.le_trans (Nat.le_of_ble_eq_true rfl) hRl)⟩ 11 (gW_o rfl) rfl rfl rfl hl.1 rfl (Nat.le_of_ble_eq_true rfl) dX6_worth_15 ⟨Nat.zero_le _, Nat.zero_le _⟩) hS (fun H locs hP hS => ?_)
  refine lv_iload_n hx hb dX6_worth_18 rfl (lv_at hl 2 rfl) ?_
  refine lv_iadd hx hb dX6_worth_19 ?_
  exact zci Z hP hS hr hlk h dX6_worth_20
def m_X8_worth (σ : Sx) (x2 : Int32) : Option (Int32 × Sx) :=
  (m_X9_worth_12 ((sl σ ((σ.2.1 + 100000)))) x2).bind (fun q1 => (ldA cLn q1.2 18 x2).bind (fun v2 => some (((q1.1 + v2), q1.2))))
set_option maxHeartbeats 4000000 in
set_option maxRecDepth 100000 in
theorem c_X8_worth {l : Launch} {D : va_G} {cy : Nat → ClassId} {ad : Nat → Nat} {σ τ : Sx} {R : Room} (hI : gInj ad) (hRf : 1 ≤ R.frames) (hRl : 22 ≤ R.locals) {x2 : Int32} {out : Int32 × Sx} (h : m_X8_worth σ x2 = some out) : Met l yX8_worth [Cond.code yX8_worth cX8_worth 3 (some .int)] R (va_Pc [.ref (ad 12), .ref (ad 0), .int x2] (gB D cy ad σ τ)) (cQi D cy ad τ out) 0 0 (gA ad) := by
  refine zstart [.ref (ad 12), .ref (ad 0), .int x2] (by decide) rfl hI (Nat.le_of_ble_eq_true rfl) ?_
  intro p e s m below meth c Z hr hlk hP ls hl
  have hx := Z.x
  have hb := Z.b
  generalize hargs : ([.ref (ad 12), .ref (ad 0), .int x2] : List Value).toArray = args
  have hl : lv_has ls 3 [(0, .ref (ad 12)), (1, .ref (ad 0)), (2, .int x2)] := hl
  have hS : va_S (gA ad) s.heap s.heap [] := va_S.rf
  unfold m_X8_worth at h
  refine lv_aload_n hx hb dX8_worth_0 rfl (lv_at hl 1 rfl) ?_
  refine lv_dup hx hb dX8_worth_1 rfl ?_
  refine fgN_0_14 Z hP wF_X8_7 dX8_worth_2 ?_
  refine lv_ldc2 hx hb Z.o (Z.t _ wK_X8_13 rfl _) dX8_worth_5 ?_
  refine lv_ladd hx hb dX8_worth_8 ?_
  refine fpN_0_14 Z hP hS wF_X8_7 dX8_worth_9 (fun H locs hP hS => ?_)
  refine lv_aload_n hx hb dX8_worth_12 rfl (lv_at hl 0 rfl) ?_
  refine lv_aload_n hx hb dX8_worth_13 rfl (lv_at hl 1 rfl) ?_
  refine lv_iload_n hx hb dX8_worth_14 rfl (lv_at hl 2 rfl) ?_
  obtain ⟨q1, hq1, h⟩ := bd h
  refine zwci (zrunSU Z hP (As := [.ref (ad 0), .int x2]) (rest := []) (c_X9_worth_12 (R := { frames := 0, cells := 0, slots := 0, locals := 0 }) Z.i (Nat.le_refl _) (Nat.le_refl _) hq1) cS_X8_15 rfl rfl ⟨(Nat.le_trans (Nat.le_of_ble_eq_true rfl) hRf), (Nat.le_trans (Nat.le_of_ble_eq_true rfl) hRl)⟩ 12 (gW_o rfl) rfl rfl rfl hl.1 rfl (Nat.le_of_ble_eq_true rfl) dX8_worth_15 ⟨Nat.zero_le _, Nat.zero_le _⟩) hS (fun H locs hP hS => ?_)
  refine lv_aload_n hx hb dX8_worth_18 rfl (lv_at hl 1 rfl) ?_
  refine fgN_0_3 Z hP wF_X8_19 dX8_worth_19 ?_
  refine fg_4_5 Z hP wF_X8_23 dX8_worth_22 ?_
  refine lv_iload_n hx hb dX8_worth_25 rfl (lv_at hl 2 rfl) ?_
  obtain ⟨v2, hv2, h⟩ := bd h
  refine zc_ld (j := 18) Z hP hv2 dX8_worth_26 ?_
  refine lv_iadd hx hb dX8_worth_27 ?_
  exact zci Z hP hS hr hlk h dX8_worth_28
def m_X11_isPhone (σ : Sx) (x1 : Int32) : Option (Int32) :=
  (m_X11_isWithin x1 0 (((σ.1 0) - 1))).bind (fun v1 => rtZ v1)
set_option maxHeartbeats 4000000 in
set_option maxRecDepth 100000 in
theorem c_X11_isPhone {l : Launch} {D : va_G} {cy : Nat → ClassId} {ad : Nat → Nat} {σ τ : Sx} {R : Room} (hI : gInj ad) (hRf : 1 ≤ R.frames) (hRl : 22 ≤ R.locals) {x1 : Int32} {out : Int32} (h : m_X11_isPhone σ x1 = some out) : Met l yX11_isPhone [Cond.code yX11_isPhone cX11_isPhone 2 (some .boolean)] R (va_Pc [.ref (ad 0), .int x1] (gB D cy ad σ τ)) (rQi out) 0 0 noA := by
  refine zstart [.ref (ad 0), .int x1] (by decide) rfl hI (Nat.le_of_ble_eq_true rfl) ?_
  intro p e s m below meth c Z hr hlk hP ls hl
  have hx := Z.x
  have hb := Z.b
  generalize hargs : ([.ref (ad 0), .int x1] : List Value).toArray = args
  have hl : lv_has ls 2 [(0, .ref (ad 0)), (1, .int x1)] := hl
  unfold m_X11_isPhone at h
  refine lv_iload_n hx hb dX11_isPhone_0 rfl (lv_at hl 1 rfl) ?_
  refine lv_iconst (v := 0) hx hb dX11_isPhone_1 (by decide) ?_
  refine lv_aload_n hx hb dX11_isPhone_2 rfl (lv_at hl 0 rfl) ?_
  refine fg_0_0 Z hP wF_X11_10 dX11_isPhone_3 ?_
  refine fg_1_0 Z hP wF_X11_179 dX11_isPhone_6 ?_
  refine lv_iconst (v := 1) hx hb dX11_isPhone_9 (by decide) ?_
  refine lv_isub hx hb dX11_isPhone_10 ?_
  obtain ⟨v1, hv1, h⟩ := bd h
  refine zqi (zrunS Z hP (As := [.int x1, .int 0, .int ((σ.1 0) - 1)]) (rest := []) (c_X11_isWithin (R := { frames := 0, cells := 0, slots := 0, locals := 0 }) Z.i (Nat.le_refl _) (Nat.le_refl _) hv1) cV_X11_144 rfl rfl ⟨(Nat.le_trans (Nat.le_of_ble_eq_true rfl) hRf), (Nat.le_trans (Nat.le_of_ble_eq_true rfl) hRl)⟩ rfl hl.1 rfl (Nat.le_of_ble_eq_true rfl) dX11_isPhone_11 ⟨Nat.zero_le _, Nat.zero_le _⟩) ?_
  exact zrz Z hr hlk h dX11_isPhone_14
def m_X11_type (σ : Sx) (x1 : Int32) : Option (Int32 × Sx) :=
  if x1 < 0 then (some (((-1), σ))) else (if x1 ≤ 255 then ((m_X7_add σ x1).bind (fun q3 => if q3.1 = 0 then (some (((-3), q3.2))) else (some (((q3.2.1 8), q3.2))))) else (some (((-1), σ))))
set_option maxHeartbeats 4000000 in
set_option maxRecDepth 100000 in
theorem c_X11_type {l : Launch} {D : va_G} {cy : Nat → ClassId} {ad : Nat → Nat} {σ τ : Sx} {R : Room} (hI : gInj ad) (hRf : 1 ≤ R.frames) (hRl : 21 ≤ R.locals) {x1 : Int32} {out : Int32 × Sx} (h : m_X11_type σ x1 = some out) : Met l yX11_type [Cond.code yX11_type cX11_type 2 (some .int)] R (va_Pc [.ref (ad 0), .int x1] (gB D cy ad σ τ)) (cQi D cy ad τ out) 0 0 (gA ad) := by
  refine zstart [.ref (ad 0), .int x1] (by decide) rfl hI (Nat.le_of_ble_eq_true rfl) ?_
  intro p e s m below meth c Z hr hlk hP ls hl
  have hx := Z.x
  have hb := Z.b
  generalize hargs : ([.ref (ad 0), .int x1] : List Value).toArray = args
  have hl : lv_has ls 2 [(0, .ref (ad 0)), (1, .int x1)] := hl
  have hS : va_S (gA ad) s.heap s.heap [] := va_S.rf
  unfold m_X11_type at h
  refine lv_iload_n hx hb dX11_type_0 rfl (lv_at hl 1 rfl) ?_
  refine lv_if_lt (tgt := 11) hx hb dX11_type_1 (by decide) (fun c1 => ?_) (fun c1 => ?_)
  · rw [if_pos c1] at h
    refine lv_iconst (v := (-1)) hx hb dX11_type_11 (by decide) ?_
    exact zci Z hP hS hr hlk h dX11_type_12
  · rw [if_neg c1] at h
    refine lv_iload_n hx hb dX11_type_4 rfl (lv_at hl 1 rfl) ?_
    refine lv_sipush (v := 255) hx hb dX11_type_5 (by decide) ?_
    refine lv_icmp_le (tgt := 13) hx hb dX11_type_8 (by decide) (fun c2 => ?_) (fun c2 => ?_)
    · rw [if_pos c2] at h
      refine lv_aload_n hx hb dX11_type_13 rfl (lv_at hl 0 rfl) ?_
      refine fg_0_2 Z hP wF_X11_22 dX11_type_14 ?_
      refine lv_iload_n hx hb dX11_type_17 rfl (lv_at hl 1 rfl) ?_
      obtain ⟨q3, hq3, h⟩ := bd h
      refine zwci (zrunV Z hP (As := [.int x1]) (rest := []) (c_X7_add (R := { frames := 0, cells := 0, slots := 0, locals := 0 }) Z.i (Nat.le_refl _) (Nat.le_refl _) hq3) cV_X11_99 rfl rfl ⟨(Nat.le_trans (Nat.le_of_ble_eq_true rfl) hRf), (Nat.le_trans (Nat.le_of_ble_eq_true rfl) hRl)⟩ 3 (gW_o rfl) rfl rfl rfl hl.1 rfl (Nat.le_of_ble_eq_true rfl) dX11_type_18 ⟨Nat.zero_le _, Nat.zero_le _⟩) hS (fun H locs hP hS => ?_)
      refine lv_if_eq (tgt := 34) hx hb dX11_type_21 (by decide) (fun c4 => ?_) (fun c4 => ?_)
      · rw [if_pos c4] at h
        refine lv_bipush (v := (-3)) hx hb dX11_type_34 (by decide) ?_
        exact zci Z hP hS hr hlk h dX11_type_36
      · rw [if_neg c4] at h
        refine lv_aload_n hx hb dX11_type_24 rfl (lv_at hl 0 rfl) ?_
        refine fg_0_2 Z hP wF_X11_22 dX11_type_25 ?_
        refine fg_3_1 Z hP wF_X11_103 dX11_type_28 ?_
        refine lv_goto (tgt := 36) hx hb dX11_type_31 (by decide) ?_
        exact zci Z hP hS hr hlk h dX11_type_36
    · rw [if_neg c2] at h
      refine lv_iconst (v := (-1)) hx hb dX11_type_11 (by decide) ?_
      exact zci Z hP hS hr hlk h dX11_type_12
def m_X11_clear (σ : Sx) : Option (Int32 × Sx) :=
  some (((σ.1 8), (sg σ 8 0)))
set_option maxHeartbeats 4000000 in
set_option maxRecDepth 100000 in
theorem c_X11_clear {l : Launch} {D : va_G} {cy : Nat → ClassId} {ad : Nat → Nat} {σ τ : Sx} {R : Room} (hI : gInj ad) (hRf : 0 ≤ R.frames) (hRl : 0 ≤ R.locals) {out : Int32 × Sx} (h : m_X11_clear σ = some out) : Met l yX11_clear [Cond.code yX11_clear cX11_clear 2 (some .int)] R (va_Pc [.ref (ad 0)] (gB D cy ad σ τ)) (cQi D cy ad τ out) 0 0 (gA ad) := by
  refine zstart [.ref (ad 0)] (by decide) rfl hI (Nat.le_of_ble_eq_true rfl) ?_
  intro p e s m below meth c Z hr hlk hP ls hl
  have hx := Z.x
  have hb := Z.b
  generalize hargs : ([.ref (ad 0)] : List Value).toArray = args
  have hl : lv_has ls 2 [(0, .ref (ad 0))] := hl
  have hS : va_S (gA ad) s.heap s.heap [] := va_S.rf
  unfold m_X11_clear at h
  refine lv_aload_n hx hb dX11_clear_0 rfl (lv_at hl 0 rfl) ?_
  refine fg_0_2 Z hP wF_X11_22 dX11_clear_1 ?_
  refine fg_3_1 Z hP wF_X11_103 dX11_clear_4 ?_
  refine lv_istore_n (lv' := [(1, .int (σ.1 8)), (0, .ref (ad 0))]) hx hb dX11_clear_7 rfl hl (by decide) rfl (fun ls hl => ?_)
  refine lv_aload_n hx hb dX11_clear_8 rfl (lv_at hl 1 rfl) ?_
  refine fg_0_2 Z hP wF_X11_22 dX11_clear_9 ?_
  refine lv_iconst (v := 0) hx hb dX11_clear_12 (by decide) ?_
  refine fp_3_1 Z hP hS wF_X11_103 dX11_clear_13 (fun H locs hP hS => ?_)
  refine lv_iload_n hx hb dX11_clear_16 rfl (lv_at hl 0 rfl) ?_
  exact zci Z hP hS hr hlk h dX11_clear_17
def m_X11_room_L64  : Nat → Int32 → Int32 → Sx → Option (Int32 × Sx)
  | 0, _, _, _ => none
  | n + 1, x1, x2, σ =>
  if 2 ≤ x2 then (some ((x1, σ))) else ((stZ σ 47 x2 0).bind (fun q6 => m_X11_room_L64 n x1 ((x2 + 1)) q6))
def m_X11_room (σ : Sx) : Option (Int32 × Sx) :=
  (m_X7_readInto σ).bind (fun q1 => if 0 ≤ q1.1 then ((m_X10_take q1.2).bind (fun q3 => (m_X4_begin q3).bind (fun q4 => (m_X11_room_L64 FU q1.1 0 ((sg (sg q4 19 0) 23 0))).bind (fun y7 => some ((y7.1, (sg y7.2 8 0))))))) else (some ((((-10) - (q1.2.1 9)), q1.2))))
set_option maxHeartbeats 4000000 in
set_option maxRecDepth 100000 in
theorem w_X11_room_L64 {l : Launch} {D : va_G} {cy : Nat → ClassId} {ad : Nat → Nat} {τ : Sx} {p : Program} {e : Env} {R : Room} {s : State} {m : MethodId} {args : Array Value} {below : List Frame} {meth : Method} {c : Code} (Z : Zc p s m c cX11_room 3 RX11 D cy ad) (hr : meth.sig.returnType = (some .int)) (hlk : meth.locks = false) (hRf : 6 ≤ R.frames) (hRl : 128 ≤ R.locals) (out : Int32 × Sx) : ∀ (n : Nat) (x1 : Int32) (x2 : Int32) (σ : Sx) (res : Int32 × Sx), m_X11_room_L64 n x1 x2 σ = some res → ∀ (H : Heap) (locs : List Loc), va_P D vwCl (gW cy ad σ τ) H → va_S (gA ad) s.heap H locs → ∀ ls : Array Slot, lv_has ls 3 [(0, .ref (ad 0)), (1, .int x1), (2, .int x2)] → (∀ (H : Heap) (locs : List Loc), va_P D vwCl (gW cy ad res.2 τ) H → va_S (gA ad) s.heap H locs → ∀ ls : Array Slot, lv_has ls 3 [(0, .ref (ad 0)), (1, .int res.1)] → W p l e R s m args below meth c H locs 0 0 (MQ below (cQi D cy ad τ out) args s 0 0 (gA ad)) (F0 m 82 ls [])) → W p l e R s m args below meth c H locs 0 0 (MQ below (cQi D cy ad τ out) args s 0 0 (gA ad)) (F0 m 64 ls []) := by
  have hx := Z.x
  have hb := Z.b
  intro n
  induction n with
  | zero => intro x1 x2 σ res h; cases h
  | succ n ih =>
    intro x1 x2 σ res h H locs hP hS ls hl kx
    rw [m_X11_room_L64] at h
    refine lv_iload_n hx hb dX11_room_64 rfl (lv_at hl 2 rfl) ?_
    refine lv_iconst (v := 2) hx hb dX11_room_65 (by decide) ?_
    refine lv_icmp_ge (tgt := 82) hx hb dX11_room_66 (by decide) (fun c5 => ?_) (fun c5 => ?_)
    · rw [if_pos c5] at h
      obtain rfl := Option.some.inj h
      exact kx _ _ hP hS _ (lv_sub hl [0, 1] rfl)
    · rw [if_neg c5] at h
      refine lv_aload_n hx hb dX11_room_69 rfl (lv_at hl 0 rfl) ?_
      refine fg_0_8 Z hP wF_X11_58 dX11_room_70 ?_
      refine lv_iload_n hx hb dX11_room_73 rfl (lv_at hl 2 rfl) ?_
      refine lv_iconst (v := 0) hx hb dX11_room_74 (by decide) ?_
      obtain ⟨q6, hq6, h⟩ := bd h
      refine zc_stz Z hP hS hq6 dX11_room_75 (fun H locs hP hS => ?_)
      refine lv_iinc (v := (x2 + 1)) (lv' := [(2, .int (x2 + 1)), (0, .ref (ad 0)), (1, .int x1)]) hx hb dX11_room_76 hl (k := 2) rfl rfl (by decide) rfl (fun ls hl => ?_)
      refine lv_goto (tgt := 64) hx hb dX11_room_79 (by decide) ?_
      exact ih x1 ((x2 + 1)) q6 _ h _ _ hP hS _ (lv_sub hl [1, 2, 0] rfl) kx
set_option maxHeartbeats 4000000 in
set_option maxRecDepth 100000 in
theorem c_X11_room {l : Launch} {D : va_G} {cy : Nat → ClassId} {ad : Nat → Nat} {σ τ : Sx} {R : Room} (hI : gInj ad) (hRf : 6 ≤ R.frames) (hRl : 128 ≤ R.locals) {out : Int32 × Sx} (h : m_X11_room σ = some out) : Met l yX11_room [Cond.code yX11_room cX11_room 3 (some .int)] R (va_Pc [.ref (ad 0)] (gB D cy ad σ τ)) (cQi D cy ad τ out) 0 0 (gA ad) := by
  refine zstart [.ref (ad 0)] (by decide) rfl hI (Nat.le_of_ble_eq_true rfl) ?_
  intro p e s m below meth c Z hr hlk hP ls hl
  have hx := Z.x
  have hb := Z.b
  generalize hargs : ([.ref (ad 0)] : List Value).toArray = args
  have hl : lv_has ls 3 [(0, .ref (ad 0))] := hl
  have hS : va_S (gA ad) s.heap s.heap [] := va_S.rf
  unfold m_X11_room at h
  refine lv_aload_n hx hb dX11_room_0 rfl (lv_at hl 0 rfl) ?_
  refine fg_0_2 Z hP wF_X11_22 dX11_room_1 ?_
  refine lv_aload_n hx hb dX11_room_4 rfl (lv_at hl 0 rfl) ?_
  refine fg_0_1 Z hP wF_X11_16 dX11_room_5 ?_
  obtain ⟨q1, hq1, h⟩ := bd h
  refine zwci (zrunV Z hP (As := [.ref (ad 2)]) (rest := []) (c_X7_readInto (R := { frames := 5, cells := 0, slots := 0, locals := 105 }) Z.i (Nat.le_refl _) (Nat.le_refl _) hq1) cV_X11_106 rfl rfl ⟨(Nat.le_trans (Nat.le_of_ble_eq_true rfl) hRf), (Nat.le_trans (Nat.le_of_ble_eq_true rfl) hRl)⟩ 3 (gW_o rfl) rfl rfl rfl hl.1 rfl (Nat.le_of_ble_eq_true rfl) dX11_room_8 ⟨Nat.zero_le _, Nat.zero_le _⟩) hS (fun H locs hP hS => ?_)
  refine lv_istore_n (lv' := [(1, .int q1.1), (0, .ref (ad 0))]) hx hb dX11_room_11 rfl hl (by decide) rfl (fun ls hl => ?_)
  refine lv_iload_n hx hb dX11_room_12 rfl (lv_at hl 0 rfl) ?_
  refine lv_if_ge (tgt := 27) hx hb dX11_room_13 (by decide) (fun c2 => ?_) (fun c2 => ?_)
  · rw [if_pos c2] at h
    refine lv_aload_n hx hb dX11_room_27 rfl (lv_at hl 1 rfl) ?_
    refine fg_0_0 Z hP wF_X11_10 dX11_room_28 ?_
    refine lv_aload_n hx hb dX11_room_31 rfl (lv_at hl 1 rfl) ?_
    refine fg_0_1 Z hP wF_X11_16 dX11_room_32 ?_
    obtain ⟨q3, hq3, h⟩ := bd h
    refine zwcv (zrunV Z hP (As := [.ref (ad 2)]) (rest := []) (c_X10_take (R := { frames := 1, cells := 0, slots := 0, locals := 18 }) Z.i (Nat.le_refl _) (Nat.le_refl _) hq3) cV_X11_113 rfl rfl ⟨(Nat.le_trans (Nat.le_of_ble_eq_true rfl) hRf), (Nat.le_trans (Nat.le_of_ble_eq_true rfl) hRl)⟩ 1 (gW_o rfl) rfl rfl rfl hl.1 rfl (Nat.le_of_ble_eq_true rfl) dX11_room_35 ⟨Nat.zero_le _, Nat.zero_le _⟩) hS (fun H locs hP hS => ?_)
    refine lv_aload_n hx hb dX11_room_38 rfl (lv_at hl 1 rfl) ?_
    refine fg_0_3 Z hP wF_X11_29 dX11_room_39 ?_
    refine lv_aload_n hx hb dX11_room_42 rfl (lv_at hl 1 rfl) ?_
    refine fg_0_0 Z hP wF_X11_10 dX11_room_43 ?_
    obtain ⟨q4, hq4, h⟩ := bd h
    refine zwcv (zrunV Z hP (As := [.ref (ad 1)]) (rest := []) (c_X4_begin (R := { frames := 0, cells := 0, slots := 0, locals := 0 }) Z.i (Nat.le_refl _) (Nat.le_refl _) hq4) cV_X11_117 rfl rfl ⟨(Nat.le_trans (Nat.le_of_ble_eq_true rfl) hRf), (Nat.le_trans (Nat.le_of_ble_eq_true rfl) hRl)⟩ 4 (gW_o rfl) rfl rfl rfl hl.1 rfl (Nat.le_of_ble_eq_true rfl) dX11_room_46 ⟨Nat.zero_le _, Nat.zero_le _⟩) hS (fun H locs hP hS => ?_)
    refine lv_aload_n hx hb dX11_room_49 rfl (lv_at hl 1 rfl) ?_
    refine fg_0_4 Z hP wF_X11_36 dX11_room_50 ?_
    refine lv_iconst (v := 0) hx hb dX11_room_53 (by decide) ?_
    refine fp_5_2 Z hP hS wF_X11_120 dX11_room_54 (fun H locs hP hS => ?_)
    refine lv_aload_n hx hb dX11_room_57 rfl (lv_at hl 1 rfl) ?_
    refine lv_iconst (v := 0) hx hb dX11_room_58 (by decide) ?_
    refine fp_0_13 Z hP hS wF_X11_75 dX11_room_59 (fun H locs hP hS => ?_)
    refine lv_iconst (v := 0) hx hb dX11_room_62 (by decide) ?_
    refine lv_istore_n (lv' := [(2, .int 0), (1, .int q1.1), (0, .ref (ad 0))]) hx hb dX11_room_63 rfl hl (by decide) rfl (fun ls hl => ?_)
    obtain ⟨y7, hy7, h⟩ := bd h
    refine w_X11_room_L64 Z hr hlk hRf hRl out FU q1.1 0 ((sg (sg q4 19 0) 23 0)) y7 hy7 _ _ hP hS _ (lv_sub hl [2, 1, 0] rfl) (fun H locs hP hS ls hl => ?_)
    refine lv_aload_n hx hb dX11_room_82 rfl (lv_at hl 0 rfl) ?_
    refine fg_0_2 Z hP wF_X11_22 dX11_room_83 ?_
    refine lv_iconst (v := 0) hx hb dX11_room_86 (by decide) ?_
    refine fp_3_1 Z hP hS wF_X11_103 dX11_room_87 (fun H locs hP hS => ?_)
    refine lv_iload_n hx hb dX11_room_90 rfl (lv_at hl 1 rfl) ?_
    exact zci Z hP hS hr hlk h dX11_room_91
  · rw [if_neg c2] at h
    refine lv_bipush (v := (-10)) hx hb dX11_room_16 (by decide) ?_
    refine lv_aload_n hx hb dX11_room_18 rfl (lv_at hl 1 rfl) ?_
    refine fg_0_2 Z hP wF_X11_22 dX11_room_19 ?_
    refine fg_3_2 Z hP wF_X11_110 dX11_room_22 ?_
    refine lv_isub hx hb dX11_room_25 ?_
    exact zci Z hP hS hr hlk h dX11_room_26
def m_X11_phone (σ : Sx) (x1 : Int32) (x2 : Int32) : Option (Int32) :=
  (m_X11_isPhone σ x1).bind (fun v1 => if v1 = 0 then (some ((-1))) else (if x2 = 0 then ((ldA cLn σ 17 x1).bind (fun v4 => some v4)) else (if x2 = 1 then ((ldA cLn σ 1 x1).bind (fun v6 => some v6)) else (if x2 = 2 then ((ldA cLn σ 2 x1).bind (fun v8 => some v8)) else (if x2 = 3 then ((ldA cLn σ 18 x1).bind (fun v10 => some v10)) else (if x2 = 4 then ((m_X4_isOn σ x1).bind (fun v12 => if v12 = 0 then (some 0) else (some 1))) else (some ((-1)))))))))
set_option maxHeartbeats 4000000 in
set_option maxRecDepth 100000 in
theorem c_X11_phone {l : Launch} {D : va_G} {cy : Nat → ClassId} {ad : Nat → Nat} {σ τ : Sx} {R : Room} (hI : gInj ad) (hRf : 2 ≤ R.frames) (hRl : 43 ≤ R.locals) {x1 : Int32} {x2 : Int32} {out : Int32} (h : m_X11_phone σ x1 x2 = some out) : Met l yX11_phone [Cond.code yX11_phone cX11_phone 3 (some .int)] R (va_Pc [.ref (ad 0), .int x1, .int x2] (gB D cy ad σ τ)) (rQi out) 0 0 noA := by
  refine zstart [.ref (ad 0), .int x1, .int x2] (by decide) rfl hI (Nat.le_of_ble_eq_true rfl) ?_
  intro p e s m below meth c Z hr hlk hP ls hl
  have hx := Z.x
  have hb := Z.b
  generalize hargs : ([.ref (ad 0), .int x1, .int x2] : List Value).toArray = args
  have hl : lv_has ls 3 [(0, .ref (ad 0)), (1, .int x1), (2, .int x2)] := hl
  unfold m_X11_phone at h
  refine lv_aload_n hx hb dX11_phone_0 rfl (lv_at hl 0 rfl) ?_
  refine lv_iload_n hx hb dX11_phone_1 rfl (lv_at hl 1 rfl) ?_
  obtain ⟨v1, hv1, h⟩ := bd h
  refine zqi (zrunV Z hP (As := [.int x1]) (rest := []) (c_X11_isPhone (R := { frames := 1, cells := 0, slots := 0, locals := 22 }) Z.i (Nat.le_refl _) (Nat.le_refl _) hv1) cV_X11_123 rfl rfl ⟨(Nat.le_trans (Nat.le_of_ble_eq_true rfl) hRf), (Nat.le_trans (Nat.le_of_ble_eq_true rfl) hRl)⟩ 0 (gW_o rfl) rfl rfl rfl hl.1 rfl (Nat.le_of_ble_eq_true rfl) dX11_phone_2 ⟨Nat.zero_le _, Nat.zero_le _⟩) ?_
  refine lv_if_ne (tgt := 10) hx hb dX11_phone_5 (by decide) (fun c2 => ?_) (fun c2 => ?_)
  · rw [if_neg c2] at h
    refine lv_iload_n hx hb dX11_phone_10 rfl (lv_at hl 2 rfl) ?_
    by_cases c3 : x2 = 0
    · rw [if_pos c3] at h
      refine lv_tableIn (tgt := 44) hx hb dX11_phone_11 (by rw [c3]; decide) (by rw [c3]; decide) (by rw [c3]; rfl) (by decide) ?_
      refine lv_aload_n hx hb dX11_phone_44 rfl (lv_at hl 0 rfl) ?_
      refine fg_0_3 Z hP wF_X11_29 dX11_phone_45 ?_
      refine fg_4_4 Z hP wF_X11_126 dX11_phone_48 ?_
      refine lv_iload_n hx hb dX11_phone_51 rfl (lv_at hl 1 rfl) ?_
      obtain ⟨v4, hv4, h⟩ := bd h
      refine zc_ld (j := 17) Z hP hv4 dX11_phone_52 ?_
      exact zri Z hr hlk h dX11_phone_53
    · rw [if_neg c3] at h
      by_cases c5 : x2 = 1
      · rw [if_pos c5] at h
        refine lv_tableIn (tgt := 54) hx hb dX11_phone_11 (by rw [c5]; decide) (by rw [c5]; decide) (by rw [c5]; rfl) (by decide) ?_
        refine lv_aload_n hx hb dX11_phone_54 rfl (lv_at hl 0 rfl) ?_
        refine fg_0_0 Z hP wF_X11_10 dX11_phone_55 ?_
        refine fg_1_5 Z hP wF_X11_129 dX11_phone_58 ?_
        refine lv_iload_n hx hb dX11_phone_61 rfl (lv_at hl 1 rfl) ?_
        obtain ⟨v6, hv6, h⟩ := bd h
        refine zc_ld (j := 1) Z hP hv6 dX11_phone_62 ?_
        exact zri Z hr hlk h dX11_phone_63
      · rw [if_neg c5] at h
        by_cases c7 : x2 = 2
        · rw [if_pos c7] at h
          refine lv_tableIn (tgt := 64) hx hb dX11_phone_11 (by rw [c7]; decide) (by rw [c7]; decide) (by rw [c7]; rfl) (by decide) ?_
          refine lv_aload_n hx hb dX11_phone_64 rfl (lv_at hl 0 rfl) ?_
          refine fg_0_0 Z hP wF_X11_10 dX11_phone_65 ?_
          refine fg_1_6 Z hP wF_X11_132 dX11_phone_68 ?_
          refine lv_iload_n hx hb dX11_phone_71 rfl (lv_at hl 1 rfl) ?_
          obtain ⟨v8, hv8, h⟩ := bd h
          refine zc_ld (j := 2) Z hP hv8 dX11_phone_72 ?_
          exact zri Z hr hlk h dX11_phone_73
        · rw [if_neg c7] at h
          by_cases c9 : x2 = 3
          · rw [if_pos c9] at h
            refine lv_tableIn (tgt := 74) hx hb dX11_phone_11 (by rw [c9]; decide) (by rw [c9]; decide) (by rw [c9]; rfl) (by decide) ?_
            refine lv_aload_n hx hb dX11_phone_74 rfl (lv_at hl 0 rfl) ?_
            refine fg_0_3 Z hP wF_X11_29 dX11_phone_75 ?_
            refine fg_4_5 Z hP wF_X11_135 dX11_phone_78 ?_
            refine lv_iload_n hx hb dX11_phone_81 rfl (lv_at hl 1 rfl) ?_
            obtain ⟨v10, hv10, h⟩ := bd h
            refine zc_ld (j := 18) Z hP hv10 dX11_phone_82 ?_
            exact zri Z hr hlk h dX11_phone_83
          · rw [if_neg c9] at h
            by_cases c11 : x2 = 4
            · rw [if_pos c11] at h
              refine lv_tableIn (tgt := 84) hx hb dX11_phone_11 (by rw [c11]; decide) (by rw [c11]; decide) (by rw [c11]; rfl) (by decide) ?_
              refine lv_aload_n hx hb dX11_phone_84 rfl (lv_at hl 0 rfl) ?_
              refine fg_0_3 Z hP wF_X11_29 dX11_phone_85 ?_
              refine lv_iload_n hx hb dX11_phone_88 rfl (lv_at hl 1 rfl) ?_
              obtain ⟨v12, hv12, h⟩ := bd h
              refine zqi (zrunV Z hP (As := [.int x1]) (rest := []) (c_X4_isOn (R := { frames := 0, cells := 0, slots := 0, locals := 0 }) Z.i (Nat.le_refl _) (Nat.le_refl _) hv12) cV_X11_138 rfl rfl ⟨(Nat.le_trans (Nat.le_of_ble_eq_true rfl) hRf), (Nat.le_trans (Nat.le_of_ble_eq_true rfl) hRl)⟩ 4 (gW_o rfl) rfl rfl rfl hl.1 rfl (Nat.le_of_ble_eq_true rfl) dX11_phone_89 ⟨Nat.zero_le _, Nat.zero_le _⟩) ?_
              refine lv_if_eq (tgt := 99) hx hb dX11_phone_92 (by decide) (fun c13 => ?_) (fun c13 => ?_)
              · rw [if_pos c13] at h
                refine lv_iconst (v := 0) hx hb dX11_phone_99 (by decide) ?_
                exact zri Z hr hlk h dX11_phone_100
              · rw [if_neg c13] at h
                refine lv_iconst (v := 1) hx hb dX11_phone_95 (by decide) ?_
                refine lv_goto (tgt := 100) hx hb dX11_phone_96 (by decide) ?_
                exact zri Z hr hlk h dX11_phone_100
            · rw [if_neg c11] at h
              refine lv_tableOut (tgt := 101) hx hb dX11_phone_11 (by have ec3 := lv_neT c3 (a := 0) rfl; have ec5 := lv_neT c5 (a := 1) rfl; have ec7 := lv_neT c7 (a := 2) rfl; have ec9 := lv_neT c9 (a := 3) rfl; have ec11 := lv_neT c11 (a := 4) rfl; omega) (by decide) ?_
              refine lv_iconst (v := (-1)) hx hb dX11_phone_101 (by decide) ?_
              exact zri Z hr hlk h dX11_phone_102
  · rw [if_pos c2] at h
    refine lv_iconst (v := (-1)) hx hb dX11_phone_8 (by decide) ?_
    exact zri Z hr hlk h dX11_phone_9
def m_X11_call (σ : Sx) (x1 : Int32) (x2 : Int32) : Option (Int32) :=
  (m_X11_isWithin x1 0 (((σ.1 2) - 1))).bind (fun v1 => if v1 = 0 then (some ((-1))) else (if x2 = 0 then ((ldA cLn σ 3 x1).bind (fun v4 => some v4)) else (if x2 = 1 then ((ldA cLn σ 4 x1).bind (fun v6 => some v6)) else (if x2 = 2 then ((ldA cLn σ 5 x1).bind (fun v8 => some v8)) else (some ((-1)))))))
set_option maxHeartbeats 4000000 in
set_option maxRecDepth 100000 in
theorem c_X11_call {l : Launch} {D : va_G} {cy : Nat → ClassId} {ad : Nat → Nat} {σ τ : Sx} {R : Room} (hI : gInj ad) (hRf : 1 ≤ R.frames) (hRl : 22 ≤ R.locals) {x1 : Int32} {x2 : Int32} {out : Int32} (h : m_X11_call σ x1 x2 = some out) : Met l yX11_call [Cond.code yX11_call cX11_call 3 (some .int)] R (va_Pc [.ref (ad 0), .int x1, .int x2] (gB D cy ad σ τ)) (rQi out) 0 0 noA := by
  refine zstart [.ref (ad 0), .int x1, .int x2] (by decide) rfl hI (Nat.le_of_ble_eq_true rfl) ?_
  intro p e s m below meth c Z hr hlk hP ls hl
  have hx := Z.x
  have hb := Z.b
  generalize hargs : ([.ref (ad 0), .int x1, .int x2] : List Value).toArray = args
  have hl : lv_has ls 3 [(0, .ref (ad 0)), (1, .int x1), (2, .int x2)] := hl
  unfold m_X11_call at h
  refine lv_iload_n hx hb dX11_call_0 rfl (lv_at hl 1 rfl) ?_
  refine lv_iconst (v := 0) hx hb dX11_call_1 (by decide) ?_
  refine lv_aload_n hx hb dX11_call_2 rfl (lv_at hl 0 rfl) ?_
  refine fg_0_0 Z hP wF_X11_10 dX11_call_3 ?_
  refine fg_1_2 Z hP wF_X11_141 dX11_call_6 ?_
  refine lv_iconst (v := 1) hx hb dX11_call_9 (by decide) ?_
  refine lv_isub hx hb dX11_call_10 ?_
  obtain ⟨v1, hv1, h⟩ := bd h
  refine zqi (zrunS Z hP (As := [.int x1, .int 0, .int ((σ.1 2) - 1)]) (rest := []) (c_X11_isWithin (R := { frames := 0, cells := 0, slots := 0, locals := 0 }) Z.i (Nat.le_refl _) (Nat.le_refl _) hv1) cV_X11_144 rfl rfl ⟨(Nat.le_trans (Nat.le_of_ble_eq_true rfl) hRf), (Nat.le_trans (Nat.le_of_ble_eq_true rfl) hRl)⟩ rfl hl.1 rfl (Nat.le_of_ble_eq_true rfl) dX11_call_11 ⟨Nat.zero_le _, Nat.zero_le _⟩) ?_
  refine lv_if_ne (tgt := 19) hx hb dX11_call_14 (by decide) (fun c2 => ?_) (fun c2 => ?_)
  · rw [if_neg c2] at h
    refine lv_iload_n hx hb dX11_call_19 rfl (lv_at hl 2 rfl) ?_
    by_cases c3 : x2 = 0
    · rw [if_pos c3] at h
      refine lv_tableIn (tgt := 48) hx hb dX11_call_20 (by rw [c3]; decide) (by rw [c3]; decide) (by rw [c3]; rfl) (by decide) ?_
      refine lv_aload_n hx hb dX11_call_48 rfl (lv_at hl 0 rfl) ?_
      refine fg_0_0 Z hP wF_X11_10 dX11_call_49 ?_
      refine fg_1_7 Z hP wF_X11_148 dX11_call_52 ?_
      refine lv_iload_n hx hb dX11_call_55 rfl (lv_at hl 1 rfl) ?_
      obtain ⟨v4, hv4, h⟩ := bd h
      refine zc_ld (j := 3) Z hP hv4 dX11_call_56 ?_
      exact zri Z hr hlk h dX11_call_57
    · rw [if_neg c3] at h
      by_cases c5 : x2 = 1
      · rw [if_pos c5] at h
        refine lv_tableIn (tgt := 58) hx hb dX11_call_20 (by rw [c5]; decide) (by rw [c5]; decide) (by rw [c5]; rfl) (by decide) ?_
        refine lv_aload_n hx hb dX11_call_58 rfl (lv_at hl 0 rfl) ?_
        refine fg_0_0 Z hP wF_X11_10 dX11_call_59 ?_
        refine fg_1_8 Z hP wF_X11_151 dX11_call_62 ?_
        refine lv_iload_n hx hb dX11_call_65 rfl (lv_at hl 1 rfl) ?_
        obtain ⟨v6, hv6, h⟩ := bd h
        refine zc_ld (j := 4) Z hP hv6 dX11_call_66 ?_
        exact zri Z hr hlk h dX11_call_67
      · rw [if_neg c5] at h
        by_cases c7 : x2 = 2
        · rw [if_pos c7] at h
          refine lv_tableIn (tgt := 68) hx hb dX11_call_20 (by rw [c7]; decide) (by rw [c7]; decide) (by rw [c7]; rfl) (by decide) ?_
          refine lv_aload_n hx hb dX11_call_68 rfl (lv_at hl 0 rfl) ?_
          refine fg_0_0 Z hP wF_X11_10 dX11_call_69 ?_
          refine fg_1_9 Z hP wF_X11_154 dX11_call_72 ?_
          refine lv_iload_n hx hb dX11_call_75 rfl (lv_at hl 1 rfl) ?_
          obtain ⟨v8, hv8, h⟩ := bd h
          refine zc_ld (j := 5) Z hP hv8 dX11_call_76 ?_
          exact zri Z hr hlk h dX11_call_77
        · rw [if_neg c7] at h
          refine lv_tableOut (tgt := 78) hx hb dX11_call_20 (by have ec3 := lv_neT c3 (a := 0) rfl; have ec5 := lv_neT c5 (a := 1) rfl; have ec7 := lv_neT c7 (a := 2) rfl; omega) (by decide) ?_
          refine lv_iconst (v := (-1)) hx hb dX11_call_78 (by decide) ?_
          exact zri Z hr hlk h dX11_call_79
  · rw [if_pos c2] at h
    refine lv_iconst (v := (-1)) hx hb dX11_call_17 (by decide) ?_
    exact zri Z hr hlk h dX11_call_18
def m_X11_dark (σ : Sx) (x1 : Int32) : Option (Int32) :=
  (m_X11_isWithin x1 0 160).bind (fun v1 => if v1 = 0 then (some ((-1))) else ((m_X10_isDark σ x1).bind (fun v3 => if v3 = 0 then (some 0) else (some 1))))
set_option maxHeartbeats 4000000 in
set_option maxRecDepth 100000 in
theorem c_X11_dark {l : Launch} {D : va_G} {cy : Nat → ClassId} {ad : Nat → Nat} {σ τ : Sx} {R : Room} (hI : gInj ad) (hRf : 1 ≤ R.frames) (hRl : 22 ≤ R.locals) {x1 : Int32} {out : Int32} (h : m_X11_dark σ x1 = some out) : Met l yX11_dark [Cond.code yX11_dark cX11_dark 2 (some .int)] R (va_Pc [.ref (ad 0), .int x1] (gB D cy ad σ τ)) (rQi out) 0 0 noA := by
  refine zstart [.ref (ad 0), .int x1] (by decide) rfl hI (Nat.le_of_ble_eq_true rfl) ?_
  intro p e s m below meth c Z hr hlk hP ls hl
  have hx := Z.x
  have hb := Z.b
  generalize hargs : ([.ref (ad 0), .int x1] : List Value).toArray = args
  have hl : lv_has ls 2 [(0, .ref (ad 0)), (1, .int x1)] := hl
  unfold m_X11_dark at h
  refine lv_iload_n hx hb dX11_dark_0 rfl (lv_at hl 1 rfl) ?_
  refine lv_iconst (v := 0) hx hb dX11_dark_1 (by decide) ?_
  refine lv_sipush (v := 160) hx hb dX11_dark_2 (by decide) ?_
  obtain ⟨v1, hv1, h⟩ := bd h
  refine zqi (zrunS Z hP (As := [.int x1, .int 0, .int 160]) (rest := []) (c_X11_isWithin (R := { frames := 0, cells := 0, slots := 0, locals := 0 }) Z.i (Nat.le_refl _) (Nat.le_refl _) hv1) cV_X11_144 rfl rfl ⟨(Nat.le_trans (Nat.le_of_ble_eq_true rfl) hRf), (Nat.le_trans (Nat.le_of_ble_eq_true rfl) hRl)⟩ rfl hl.1 rfl (Nat.le_of_ble_eq_true rfl) dX11_dark_5 ⟨Nat.zero_le _, Nat.zero_le _⟩) ?_
  refine lv_if_ne (tgt := 13) hx hb dX11_dark_8 (by decide) (fun c2 => ?_) (fun c2 => ?_)
  · rw [if_neg c2] at h
    refine lv_aload_n hx hb dX11_dark_13 rfl (lv_at hl 0 rfl) ?_
    refine fg_0_0 Z hP wF_X11_10 dX11_dark_14 ?_
    refine lv_iload_n hx hb dX11_dark_17 rfl (lv_at hl 1 rfl) ?_
    obtain ⟨v3, hv3, h⟩ := bd h
    refine zqi (zrunV Z hP (As := [.int x1]) (rest := []) (c_X10_isDark (R := { frames := 0, cells := 0, slots := 0, locals := 0 }) Z.i (Nat.le_refl _) (Nat.le_refl _) hv3) cV_X11_157 rfl rfl ⟨(Nat.le_trans (Nat.le_of_ble_eq_true rfl) hRf), (Nat.le_trans (Nat.le_of_ble_eq_true rfl) hRl)⟩ 1 (gW_o rfl) rfl rfl rfl hl.1 rfl (Nat.le_of_ble_eq_true rfl) dX11_dark_18 ⟨Nat.zero_le _, Nat.zero_le _⟩) ?_
    refine lv_if_eq (tgt := 28) hx hb dX11_dark_21 (by decide) (fun c4 => ?_) (fun c4 => ?_)
    · rw [if_pos c4] at h
      refine lv_iconst (v := 0) hx hb dX11_dark_28 (by decide) ?_
      exact zri Z hr hlk h dX11_dark_29
    · rw [if_neg c4] at h
      refine lv_iconst (v := 1) hx hb dX11_dark_24 (by decide) ?_
      refine lv_goto (tgt := 29) hx hb dX11_dark_25 (by decide) ?_
      exact zri Z hr hlk h dX11_dark_29
  · rw [if_pos c2] at h
    refine lv_iconst (v := (-1)) hx hb dX11_dark_11 (by decide) ?_
    exact zri Z hr hlk h dX11_dark_12
def m_X11_puts (σ : Sx) (x1 : Int32) : Option (Int32 × Sx) :=
  (m_X10_canBeOn σ x1).bind (fun v1 => if v1 = 0 then (some (((-1), σ))) else ((m_X2_write σ).bind (fun q3 => if x1 = (q3.1 15) then (some (((q3.1 16), q3))) else (some (((((sg (sg q3 15 x1) 16 (((((sg q3 15 x1)).1 16) + 1)))).1 16), (sg (sg q3 15 x1) 16 (((((sg q3 15 x1)).1 16) + 1)))))))))
set_option maxHeartbeats 4000000 in
set_option maxRecDepth 100000 in
theorem c_X11_puts {l : Launch} {D : va_G} {cy : Nat → ClassId} {ad : Nat → Nat} {σ τ : Sx} {R : Room} (hI : gInj ad) (hRf : 3 ≤ R.frames) (hRl : 60 ≤ R.locals) {x1 : Int32} {out : Int32 × Sx} (h : m_X11_puts σ x1 = some out) : Met l yX11_puts [Cond.code yX11_puts cX11_puts 2 (some .int)] R (va_Pc [.ref (ad 0), .int x1] (gB D cy ad σ τ)) (cQi D cy ad τ out) 0 0 (gA ad) := by
  refine zstart [.ref (ad 0), .int x1] (by decide) rfl hI (Nat.le_of_ble_eq_true rfl) ?_
  intro p e s m below meth c Z hr hlk hP ls hl
  have hx := Z.x
  have hb := Z.b
  generalize hargs : ([.ref (ad 0), .int x1] : List Value).toArray = args
  have hl : lv_has ls 2 [(0, .ref (ad 0)), (1, .int x1)] := hl
  have hS : va_S (gA ad) s.heap s.heap [] := va_S.rf
  unfold m_X11_puts at h
  refine lv_aload_n hx hb dX11_puts_0 rfl (lv_at hl 0 rfl) ?_
  refine fg_0_0 Z hP wF_X11_10 dX11_puts_1 ?_
  refine lv_iload_n hx hb dX11_puts_4 rfl (lv_at hl 1 rfl) ?_
  obtain ⟨v1, hv1, h⟩ := bd h
  refine zqi (zrunV Z hP (As := [.int x1]) (rest := []) (c_X10_canBeOn (R := { frames := 1, cells := 0, slots := 0, locals := 20 }) Z.i (Nat.le_refl _) (Nat.le_refl _) hv1) cV_X11_160 rfl rfl ⟨(Nat.le_trans (Nat.le_of_ble_eq_true rfl) hRf), (Nat.le_trans (Nat.le_of_ble_eq_true rfl) hRl)⟩ 1 (gW_o rfl) rfl rfl rfl hl.1 rfl (Nat.le_of_ble_eq_true rfl) dX11_puts_5 ⟨Nat.zero_le _, Nat.zero_le _⟩) ?_
  refine lv_if_ne (tgt := 13) hx hb dX11_puts_8 (by decide) (fun c2 => ?_) (fun c2 => ?_)
  · rw [if_neg c2] at h
    refine lv_aload_n hx hb dX11_puts_13 rfl (lv_at hl 0 rfl) ?_
    refine fg_0_4 Z hP wF_X11_36 dX11_puts_14 ?_
    refine lv_aload_n hx hb dX11_puts_17 rfl (lv_at hl 0 rfl) ?_
    refine fg_0_3 Z hP wF_X11_29 dX11_puts_18 ?_
    obtain ⟨q3, hq3, h⟩ := bd h
    refine zwcv (zrunV Z hP (As := [.ref (ad 4)]) (rest := []) (c_X2_write (R := { frames := 2, cells := 0, slots := 0, locals := 39 }) Z.i (Nat.le_refl _) (Nat.le_refl _) hq3) cV_X11_163 rfl rfl ⟨(Nat.le_trans (Nat.le_of_ble_eq_true rfl) hRf), (Nat.le_trans (Nat.le_of_ble_eq_true rfl) hRl)⟩ 5 (gW_o rfl) rfl rfl rfl hl.1 rfl (Nat.le_of_ble_eq_true rfl) dX11_puts_21 ⟨Nat.zero_le _, Nat.zero_le _⟩) hS (fun H locs hP hS => ?_)
    refine lv_iload_n hx hb dX11_puts_24 rfl (lv_at hl 1 rfl) ?_
    refine lv_aload_n hx hb dX11_puts_25 rfl (lv_at hl 0 rfl) ?_
    refine fg_0_3 Z hP wF_X11_29 dX11_puts_26 ?_
    refine fg_4_1 Z hP wF_X11_167 dX11_puts_29 ?_
    refine lv_icmp_eq (tgt := 56) hx hb dX11_puts_32 (by decide) (fun c4 => ?_) (fun c4 => ?_)
    · rw [if_pos c4] at h
      refine lv_aload_n hx hb dX11_puts_56 rfl (lv_at hl 0 rfl) ?_
      refine fg_0_3 Z hP wF_X11_29 dX11_puts_57 ?_
      refine fg_4_2 Z hP wF_X11_170 dX11_puts_60 ?_
      exact zci Z hP hS hr hlk h dX11_puts_63
    · rw [if_neg c4] at h
      refine lv_aload_n hx hb dX11_puts_35 rfl (lv_at hl 0 rfl) ?_
      refine fg_0_3 Z hP wF_X11_29 dX11_puts_36 ?_
      refine lv_iload_n hx hb dX11_puts_39 rfl (lv_at hl 1 rfl) ?_
      refine fp_4_1 Z hP hS wF_X11_167 dX11_puts_40 (fun H locs hP hS => ?_)
      refine lv_aload_n hx hb dX11_puts_43 rfl (lv_at hl 0 rfl) ?_
      refine fg_0_3 Z hP wF_X11_29 dX11_puts_44 ?_
      refine lv_dup hx hb dX11_puts_47 rfl ?_
      refine fg_4_2 Z hP wF_X11_170 dX11_puts_48 ?_
      refine lv_iconst (v := 1) hx hb dX11_puts_51 (by decide) ?_
      refine lv_iadd hx hb dX11_puts_52 ?_
      refine fp_4_2 Z hP hS wF_X11_170 dX11_puts_53 (fun H locs hP hS => ?_)
      refine lv_aload_n hx hb dX11_puts_56 rfl (lv_at hl 0 rfl) ?_
      refine fg_0_3 Z hP wF_X11_29 dX11_puts_57 ?_
      refine fg_4_2 Z hP wF_X11_170 dX11_puts_60 ?_
      exact zci Z hP hS hr hlk h dX11_puts_63
  · rw [if_pos c2] at h
    refine lv_iconst (v := (-1)) hx hb dX11_puts_11 (by decide) ?_
    exact zci Z hP hS hr hlk h dX11_puts_12
def m_X11_turn (σ : Sx) : Option (Int32 × Sx) :=
  if (σ.1 14) < 99 then ((m_X2_write σ).bind (fun q2 => (m_X4_goOn q2).bind (fun q3 => (m_X4_out q3 ((q3.1 0))).bind (fun v4 => (m_J6_bitCount_0f7a4 v4).bind (fun v5 => some ((v5, q3))))))) else (some (((-2), σ)))
set_option maxHeartbeats 4000000 in
set_option maxRecDepth 100000 in
theorem c_X11_turn {l : Launch} {D : va_G} {cy : Nat → ClassId} {ad : Nat → Nat} {σ τ : Sx} {R : Room} (hI : gInj ad) (hRf : 4 ≤ R.frames) (hRl : 96 ≤ R.locals) {out : Int32 × Sx} (h : m_X11_turn σ = some out) : Met l yX11_turn [Cond.code yX11_turn cX11_turn 1 (some .int)] R (va_Pc [.ref (ad 0)] (gB D cy ad σ τ)) (cQi D cy ad τ out) 0 0 (gA ad) := by
  refine zstart [.ref (ad 0)] (by decide) rfl hI (Nat.le_of_ble_eq_true rfl) ?_
  intro p e s m below meth c Z hr hlk hP ls hl
  have hx := Z.x
  have hb := Z.b
  generalize hargs : ([.ref (ad 0)] : List Value).toArray = args
  have hl : lv_has ls 1 [(0, .ref (ad 0))] := hl
  have hS : va_S (gA ad) s.heap s.heap [] := va_S.rf
  unfold m_X11_turn at h
  refine lv_aload_n hx hb dX11_turn_0 rfl (lv_at hl 0 rfl) ?_
  refine fg_0_3 Z hP wF_X11_29 dX11_turn_1 ?_
  refine fg_4_0 Z hP wF_X11_173 dX11_turn_4 ?_
  refine lv_bipush (v := 99) hx hb dX11_turn_7 (by decide) ?_
  refine lv_icmp_lt (tgt := 15) hx hb dX11_turn_9 (by decide) (fun c1 => ?_) (fun c1 => ?_)
  · rw [if_pos c1] at h
    refine lv_aload_n hx hb dX11_turn_15 rfl (lv_at hl 0 rfl) ?_
    refine fg_0_4 Z hP wF_X11_36 dX11_turn_16 ?_
    refine lv_aload_n hx hb dX11_turn_19 rfl (lv_at hl 0 rfl) ?_
    refine fg_0_3 Z hP wF_X11_29 dX11_turn_20 ?_
    obtain ⟨q2, hq2, h⟩ := bd h
    refine zwcv (zrunV Z hP (As := [.ref (ad 4)]) (rest := []) (c_X2_write (R := { frames := 2, cells := 0, slots := 0, locals := 39 }) Z.i (Nat.le_refl _) (Nat.le_refl _) hq2) cV_X11_163 rfl rfl ⟨(Nat.le_trans (Nat.le_of_ble_eq_true rfl) hRf), (Nat.le_trans (Nat.le_of_ble_eq_true rfl) hRl)⟩ 5 (gW_o rfl) rfl rfl rfl hl.1 rfl (Nat.le_of_ble_eq_true rfl) dX11_turn_23 ⟨Nat.zero_le _, Nat.zero_le _⟩) hS (fun H locs hP hS => ?_)
    refine lv_aload_n hx hb dX11_turn_26 rfl (lv_at hl 0 rfl) ?_
    refine fg_0_3 Z hP wF_X11_29 dX11_turn_27 ?_
    refine lv_aload_n hx hb dX11_turn_30 rfl (lv_at hl 0 rfl) ?_
    refine fg_0_0 Z hP wF_X11_10 dX11_turn_31 ?_
    obtain ⟨q3, hq3, h⟩ := bd h
    refine zwcv (zrunV Z hP (As := [.ref (ad 1)]) (rest := []) (c_X4_goOn (R := { frames := 3, cells := 0, slots := 0, locals := 73 }) Z.i (Nat.le_refl _) (Nat.le_refl _) hq3) cV_X11_176 rfl rfl ⟨(Nat.le_trans (Nat.le_of_ble_eq_true rfl) hRf), (Nat.le_trans (Nat.le_of_ble_eq_true rfl) hRl)⟩ 4 (gW_o rfl) rfl rfl rfl hl.1 rfl (Nat.le_of_ble_eq_true rfl) dX11_turn_34 ⟨Nat.zero_le _, Nat.zero_le _⟩) hS (fun H locs hP hS => ?_)
    refine lv_aload_n hx hb dX11_turn_37 rfl (lv_at hl 0 rfl) ?_
    refine fg_0_3 Z hP wF_X11_29 dX11_turn_38 ?_
    refine lv_aload_n hx hb dX11_turn_41 rfl (lv_at hl 0 rfl) ?_
    refine fg_0_0 Z hP wF_X11_10 dX11_turn_42 ?_
    refine fg_1_0 Z hP wF_X11_179 dX11_turn_45 ?_
    obtain ⟨v4, hv4, h⟩ := bd h
    refine zqi (zrunV Z hP (As := [.int (q3.1 0)]) (rest := []) (c_X4_out (R := { frames := 0, cells := 0, slots := 0, locals := 0 }) Z.i (Nat.le_refl _) (Nat.le_refl _) hv4) cV_X11_182 rfl rfl ⟨(Nat.le_trans (Nat.le_of_ble_eq_true rfl) hRf), (Nat.le_trans (Nat.le_of_ble_eq_true rfl) hRl)⟩ 4 (gW_o rfl) rfl rfl rfl hl.1 rfl (Nat.le_of_ble_eq_true rfl) dX11_turn_48 ⟨Nat.zero_le _, Nat.zero_le _⟩) ?_
    obtain ⟨v5, hv5, h⟩ := bd h
    refine zqi (zrunS Z hP (As := [.int v4]) (rest := []) (c_J6_bitCount_0f7a4 (R := { frames := 0, cells := 0, slots := 0, locals := 0 }) Z.i (Nat.le_refl _) (Nat.le_refl _) hv5) cV_X11_186 rfl rfl ⟨(Nat.le_trans (Nat.le_of_ble_eq_true rfl) hRf), (Nat.le_trans (Nat.le_of_ble_eq_true rfl) hRl)⟩ rfl hl.1 rfl (Nat.le_of_ble_eq_true rfl) dX11_turn_51 ⟨Nat.zero_le _, Nat.zero_le _⟩) ?_
    exact zci Z hP hS hr hlk h dX11_turn_54
  · rw [if_neg c1] at h
    refine lv_bipush (v := (-2)) hx hb dX11_turn_12 (by decide) ?_
    exact zci Z hP hS hr hlk h dX11_turn_14
def m_X11_lends (σ : Sx) (x1 : Int32) (x2 : Int32) : Option (Int32 × Sx) :=
  (m_X11_isPhone σ x1).bind (fun v1 => if v1 = 0 then (some (((-1), σ))) else ((m_X11_isWithin x2 1 50).bind (fun v3 => if v3 = 0 then (some (((-1), σ))) else ((ldA cLn σ 17 x1).bind (fun v5 => if x2 ≤ v5 then ((m_X2_write σ).bind (fun q7 => (ldA cLn q7 17 x1).bind (fun v8 => (stA cLn q7 17 x1 ((v8 - x2))).bind (fun q9 => (ldA cLn q9 17 x1).bind (fun v10 => some ((v10, q9))))))) else (some (((-2), σ))))))))
set_option maxHeartbeats 4000000 in
set_option maxRecDepth 100000 in
theorem c_X11_lends {l : Launch} {D : va_G} {cy : Nat → ClassId} {ad : Nat → Nat} {σ τ : Sx} {R : Room} (hI : gInj ad) (hRf : 3 ≤ R.frames) (hRl : 60 ≤ R.locals) {x1 : Int32} {x2 : Int32} {out : Int32 × Sx} (h : m_X11_lends σ x1 x2 = some out) : Met l yX11_lends [Cond.code yX11_lends cX11_lends 3 (some .int)] R (va_Pc [.ref (ad 0), .int x1, .int x2] (gB D cy ad σ τ)) (cQi D cy ad τ out) 0 0 (gA ad) := by
  refine zstart [.ref (ad 0), .int x1, .int x2] (by decide) rfl hI (Nat.le_of_ble_eq_true rfl) ?_
  intro p e s m below meth c Z hr hlk hP ls hl
  have hx := Z.x
  have hb := Z.b
  generalize hargs : ([.ref (ad 0), .int x1, .int x2] : List Value).toArray = args
  have hl : lv_has ls 3 [(0, .ref (ad 0)), (1, .int x1), (2, .int x2)] := hl
  have hS : va_S (gA ad) s.heap s.heap [] := va_S.rf
  unfold m_X11_lends at h
  refine lv_aload_n hx hb dX11_lends_0 rfl (lv_at hl 0 rfl) ?_
  refine lv_iload_n hx hb dX11_lends_1 rfl (lv_at hl 1 rfl) ?_
  obtain ⟨v1, hv1, h⟩ := bd h
  refine zqi (zrunV Z hP (As := [.int x1]) (rest := []) (c_X11_isPhone (R := { frames := 1, cells := 0, slots := 0, locals := 22 }) Z.i (Nat.le_refl _) (Nat.le_refl _) hv1) cV_X11_123 rfl rfl ⟨(Nat.le_trans (Nat.le_of_ble_eq_true rfl) hRf), (Nat.le_trans (Nat.le_of_ble_eq_true rfl) hRl)⟩ 0 (gW_o rfl) rfl rfl rfl hl.1 rfl (Nat.le_of_ble_eq_true rfl) dX11_lends_2 ⟨Nat.zero_le _, Nat.zero_le _⟩) ?_
  refine lv_if_eq (tgt := 18) hx hb dX11_lends_5 (by decide) (fun c2 => ?_) (fun c2 => ?_)
  · rw [if_pos c2] at h
    refine lv_iconst (v := (-1)) hx hb dX11_lends_18 (by decide) ?_
    exact zci Z hP hS hr hlk h dX11_lends_19
  · rw [if_neg c2] at h
    refine lv_iload_n hx hb dX11_lends_8 rfl (lv_at hl 2 rfl) ?_
    refine lv_iconst (v := 1) hx hb dX11_lends_9 (by decide) ?_
    refine lv_bipush (v := 50) hx hb dX11_lends_10 (by decide) ?_
    obtain ⟨v3, hv3, h⟩ := bd h
    refine zqi (zrunS Z hP (As := [.int x2, .int 1, .int 50]) (rest := []) (c_X11_isWithin (R := { frames := 0, cells := 0, slots := 0, locals := 0 }) Z.i (Nat.le_refl _) (Nat.le_refl _) hv3) cV_X11_144 rfl rfl ⟨(Nat.le_trans (Nat.le_of_ble_eq_true rfl) hRf), (Nat.le_trans (Nat.le_of_ble_eq_true rfl) hRl)⟩ rfl hl.1 rfl (Nat.le_of_ble_eq_true rfl) dX11_lends_12 ⟨Nat.zero_le _, Nat.zero_le _⟩) ?_
    refine lv_if_ne (tgt := 20) hx hb dX11_lends_15 (by decide) (fun c4 => ?_) (fun c4 => ?_)
    · rw [if_neg c4] at h
      refine lv_aload_n hx hb dX11_lends_20 rfl (lv_at hl 0 rfl) ?_
      refine fg_0_3 Z hP wF_X11_29 dX11_lends_21 ?_
      refine fg_4_4 Z hP wF_X11_126 dX11_lends_24 ?_
      refine lv_iload_n hx hb dX11_lends_27 rfl (lv_at hl 1 rfl) ?_
      obtain ⟨v5, hv5, h⟩ := bd h
      refine zc_ld (j := 17) Z hP hv5 dX11_lends_28 ?_
      refine lv_iload_n hx hb dX11_lends_29 rfl (lv_at hl 2 rfl) ?_
      refine lv_icmp_ge (tgt := 36) hx hb dX11_lends_30 (by decide) (fun c6 => ?_) (fun c6 => ?_)
      · rw [if_pos c6] at h
        refine lv_aload_n hx hb dX11_lends_36 rfl (lv_at hl 0 rfl) ?_
        refine fg_0_4 Z hP wF_X11_36 dX11_lends_37 ?_
        refine lv_aload_n hx hb dX11_lends_40 rfl (lv_at hl 0 rfl) ?_
        refine fg_0_3 Z hP wF_X11_29 dX11_lends_41 ?_
        obtain ⟨q7, hq7, h⟩ := bd h
        refine zwcv (zrunV Z hP (As := [.ref (ad 4)]) (rest := []) (c_X2_write (R := { frames := 2, cells := 0, slots := 0, locals := 39 }) Z.i (Nat.le_refl _) (Nat.le_refl _) hq7) cV_X11_163 rfl rfl ⟨(Nat.le_trans (Nat.le_of_ble_eq_true rfl) hRf), (Nat.le_trans (Nat.le_of_ble_eq_true rfl) hRl)⟩ 5 (gW_o rfl) rfl rfl rfl hl.1 rfl (Nat.le_of_ble_eq_true rfl) dX11_lends_44 ⟨Nat.zero_le _, Nat.zero_le _⟩) hS (fun H locs hP hS => ?_)
        refine lv_aload_n hx hb dX11_lends_47 rfl (lv_at hl 0 rfl) ?_
        refine fg_0_3 Z hP wF_X11_29 dX11_lends_48 ?_
        refine fg_4_4 Z hP wF_X11_126 dX11_lends_51 ?_
        refine lv_iload_n hx hb dX11_lends_54 rfl (lv_at hl 1 rfl) ?_
        refine lv_dup2_11 hx hb dX11_lends_55 rfl rfl ?_
        obtain ⟨v8, hv8, h⟩ := bd h
        refine zc_ld (j := 17) Z hP hv8 dX11_lends_56 ?_
        refine lv_iload_n hx hb dX11_lends_57 rfl (lv_at hl 2 rfl) ?_
        refine lv_isub hx hb dX11_lends_58 ?_
        obtain ⟨q9, hq9, h⟩ := bd h
        refine zc_st (j := 17) Z hP hS hq9 dX11_lends_59 (fun H locs hP hS => ?_)
        refine lv_aload_n hx hb dX11_lends_60 rfl (lv_at hl 0 rfl) ?_
        refine fg_0_3 Z hP wF_X11_29 dX11_lends_61 ?_
        refine fg_4_4 Z hP wF_X11_126 dX11_lends_64 ?_
        refine lv_iload_n hx hb dX11_lends_67 rfl (lv_at hl 1 rfl) ?_
        obtain ⟨v10, hv10, h⟩ := bd h
        refine zc_ld (j := 17) Z hP hv10 dX11_lends_68 ?_
        exact zci Z hP hS hr hlk h dX11_lends_69
      · rw [if_neg c6] at h
        refine lv_bipush (v := (-2)) hx hb dX11_lends_33 (by decide) ?_
        exact zci Z hP hS hr hlk h dX11_lends_35
    · rw [if_pos c4] at h
      refine lv_iconst (v := (-1)) hx hb dX11_lends_18 (by decide) ?_
      exact zci Z hP hS hr hlk h dX11_lends_19
def m_X11_undo (σ : Sx) : Option (Int32 × Sx) :=
  if (σ.1 19) = 0 then (some (((-2), σ))) else ((m_X2_takeBack σ).bind (fun q2 => some (((q2.1 19), q2))))
set_option maxHeartbeats 4000000 in
set_option maxRecDepth 100000 in
theorem c_X11_undo {l : Launch} {D : va_G} {cy : Nat → ClassId} {ad : Nat → Nat} {σ τ : Sx} {R : Room} (hI : gInj ad) (hRf : 3 ≤ R.frames) (hRl : 60 ≤ R.locals) {out : Int32 × Sx} (h : m_X11_undo σ = some out) : Met l yX11_undo [Cond.code yX11_undo cX11_undo 1 (some .int)] R (va_Pc [.ref (ad 0)] (gB D cy ad σ τ)) (cQi D cy ad τ out) 0 0 (gA ad) := by
  refine zstart [.ref (ad 0)] (by decide) rfl hI (Nat.le_of_ble_eq_true rfl) ?_
  intro p e s m below meth c Z hr hlk hP ls hl
  have hx := Z.x
  have hb := Z.b
  generalize hargs : ([.ref (ad 0)] : List Value).toArray = args
  have hl : lv_has ls 1 [(0, .ref (ad 0))] := hl
  have hS : va_S (gA ad) s.heap s.heap [] := va_S.rf
  unfold m_X11_undo at h
  refine lv_aload_n hx hb dX11_undo_0 rfl (lv_at hl 0 rfl) ?_
  refine fg_0_4 Z hP wF_X11_36 dX11_undo_1 ?_
  refine fg_5_2 Z hP wF_X11_120 dX11_undo_4 ?_
  refine lv_if_ne (tgt := 13) hx hb dX11_undo_7 (by decide) (fun c1 => ?_) (fun c1 => ?_)
  · rw [if_neg c1] at h
    refine lv_aload_n hx hb dX11_undo_13 rfl (lv_at hl 0 rfl) ?_
    refine fg_0_4 Z hP wF_X11_36 dX11_undo_14 ?_
    refine lv_aload_n hx hb dX11_undo_17 rfl (lv_at hl 0 rfl) ?_
    refine fg_0_3 Z hP wF_X11_29 dX11_undo_18 ?_
    obtain ⟨q2, hq2, h⟩ := bd h
    refine zwcv (zrunV Z hP (As := [.ref (ad 4)]) (rest := []) (c_X2_takeBack (R := { frames := 2, cells := 0, slots := 0, locals := 39 }) Z.i (Nat.le_refl _) (Nat.le_refl _) hq2) cV_X11_191 rfl rfl ⟨(Nat.le_trans (Nat.le_of_ble_eq_true rfl) hRf), (Nat.le_trans (Nat.le_of_ble_eq_true rfl) hRl)⟩ 5 (gW_o rfl) rfl rfl rfl hl.1 rfl (Nat.le_of_ble_eq_true rfl) dX11_undo_21 ⟨Nat.zero_le _, Nat.zero_le _⟩) hS (fun H locs hP hS => ?_)
    refine lv_aload_n hx hb dX11_undo_24 rfl (lv_at hl 0 rfl) ?_
    refine fg_0_4 Z hP wF_X11_36 dX11_undo_25 ?_
    refine fg_5_2 Z hP wF_X11_120 dX11_undo_28 ?_
    exact zci Z hP hS hr hlk h dX11_undo_31
  · rw [if_pos c1] at h
    refine lv_bipush (v := (-2)) hx hb dX11_undo_10 (by decide) ?_
    exact zci Z hP hS hr hlk h dX11_undo_12
def m_X11_now (σ : Sx) (x1 : Int32) : Option (Int32) :=
  if x1 = 0 then (some ((σ.1 14))) else (if x1 = 1 then (some ((σ.1 15))) else (if x1 = 2 then ((m_X4_out σ ((σ.1 0))).bind (fun v4 => some v4)) else (if x1 = 3 then (some ((σ.1 17))) else (if x1 = 4 then (some ((σ.1 16))) else (if x1 = 5 then ((m_X4_fair σ ((σ.1 0))).bind (fun v8 => some v8)) else (if x1 = 6 then ((m_X4_leans σ ((σ.1 0))).bind (fun v10 => some v10)) else (if x1 = 7 then (some ((σ.1 19))) else (some ((-1))))))))))
set_option maxHeartbeats 4000000 in
set_option maxRecDepth 100000 in
theorem c_X11_now {l : Launch} {D : va_G} {cy : Nat → ClassId} {ad : Nat → Nat} {σ τ : Sx} {R : Room} (hI : gInj ad) (hRf : 2 ≤ R.frames) (hRl : 37 ≤ R.locals) {x1 : Int32} {out : Int32} (h : m_X11_now σ x1 = some out) : Met l yX11_now [Cond.code yX11_now cX11_now 2 (some .int)] R (va_Pc [.ref (ad 0), .int x1] (gB D cy ad σ τ)) (rQi out) 0 0 noA := by
  refine zstart [.ref (ad 0), .int x1] (by decide) rfl hI (Nat.le_of_ble_eq_true rfl) ?_
  intro p e s m below meth c Z hr hlk hP ls hl
  have hx := Z.x
  have hb := Z.b
  generalize hargs : ([.ref (ad 0), .int x1] : List Value).toArray = args
  have hl : lv_has ls 2 [(0, .ref (ad 0)), (1, .int x1)] := hl
  unfold m_X11_now at h
  refine lv_iload_n hx hb dX11_now_0 rfl (lv_at hl 1 rfl) ?_
  by_cases c1 : x1 = 0
  · rw [if_pos c1] at h
    refine lv_tableIn (tgt := 48) hx hb dX11_now_1 (by rw [c1]; decide) (by rw [c1]; decide) (by rw [c1]; rfl) (by decide) ?_
    refine lv_aload_n hx hb dX11_now_48 rfl (lv_at hl 0 rfl) ?_
    refine fg_0_3 Z hP wF_X11_29 dX11_now_49 ?_
    refine fg_4_0 Z hP wF_X11_173 dX11_now_52 ?_
    exact zri Z hr hlk h dX11_now_55
  · rw [if_neg c1] at h
    by_cases c2 : x1 = 1
    · rw [if_pos c2] at h
      refine lv_tableIn (tgt := 56) hx hb dX11_now_1 (by rw [c2]; decide) (by rw [c2]; decide) (by rw [c2]; rfl) (by decide) ?_
      refine lv_aload_n hx hb dX11_now_56 rfl (lv_at hl 0 rfl) ?_
      refine fg_0_3 Z hP wF_X11_29 dX11_now_57 ?_
      refine fg_4_1 Z hP wF_X11_167 dX11_now_60 ?_
      exact zri Z hr hlk h dX11_now_63
    · rw [if_neg c2] at h
      by_cases c3 : x1 = 2
      · rw [if_pos c3] at h
        refine lv_tableIn (tgt := 64) hx hb dX11_now_1 (by rw [c3]; decide) (by rw [c3]; decide) (by rw [c3]; rfl) (by decide) ?_
        refine lv_aload_n hx hb dX11_now_64 rfl (lv_at hl 0 rfl) ?_
        refine fg_0_3 Z hP wF_X11_29 dX11_now_65 ?_
        refine lv_aload_n hx hb dX11_now_68 rfl (lv_at hl 0 rfl) ?_
        refine fg_0_0 Z hP wF_X11_10 dX11_now_69 ?_
        refine fg_1_0 Z hP wF_X11_179 dX11_now_72 ?_
        obtain ⟨v4, hv4, h⟩ := bd h
        refine zqi (zrunV Z hP (As := [.int (σ.1 0)]) (rest := []) (c_X4_out (R := { frames := 0, cells := 0, slots := 0, locals := 0 }) Z.i (Nat.le_refl _) (Nat.le_refl _) hv4) cV_X11_182 rfl rfl ⟨(Nat.le_trans (Nat.le_of_ble_eq_true rfl) hRf), (Nat.le_trans (Nat.le_of_ble_eq_true rfl) hRl)⟩ 4 (gW_o rfl) rfl rfl rfl hl.1 rfl (Nat.le_of_ble_eq_true rfl) dX11_now_75 ⟨Nat.zero_le _, Nat.zero_le _⟩) ?_
        exact zri Z hr hlk h dX11_now_78
      · rw [if_neg c3] at h
        by_cases c5 : x1 = 3
        · rw [if_pos c5] at h
          refine lv_tableIn (tgt := 79) hx hb dX11_now_1 (by rw [c5]; decide) (by rw [c5]; decide) (by rw [c5]; rfl) (by decide) ?_
          refine lv_aload_n hx hb dX11_now_79 rfl (lv_at hl 0 rfl) ?_
          refine fg_0_3 Z hP wF_X11_29 dX11_now_80 ?_
          refine fg_4_3 Z hP wF_X11_194 dX11_now_83 ?_
          exact zri Z hr hlk h dX11_now_86
        · rw [if_neg c5] at h
          by_cases c6 : x1 = 4
          · rw [if_pos c6] at h
            refine lv_tableIn (tgt := 87) hx hb dX11_now_1 (by rw [c6]; decide) (by rw [c6]; decide) (by rw [c6]; rfl) (by decide) ?_
            refine lv_aload_n hx hb dX11_now_87 rfl (lv_at hl 0 rfl) ?_
            refine fg_0_3 Z hP wF_X11_29 dX11_now_88 ?_
            refine fg_4_2 Z hP wF_X11_170 dX11_now_91 ?_
            exact zri Z hr hlk h dX11_now_94
          · rw [if_neg c6] at h
            by_cases c7 : x1 = 5
            · rw [if_pos c7] at h
              refine lv_tableIn (tgt := 95) hx hb dX11_now_1 (by rw [c7]; decide) (by rw [c7]; decide) (by rw [c7]; rfl) (by decide) ?_
              refine lv_aload_n hx hb dX11_now_95 rfl (lv_at hl 0 rfl) ?_
              refine fg_0_3 Z hP wF_X11_29 dX11_now_96 ?_
              refine lv_aload_n hx hb dX11_now_99 rfl (lv_at hl 0 rfl) ?_
              refine fg_0_0 Z hP wF_X11_10 dX11_now_100 ?_
              refine fg_1_0 Z hP wF_X11_179 dX11_now_103 ?_
              obtain ⟨v8, hv8, h⟩ := bd h
              refine zqi (zrunV Z hP (As := [.int (σ.1 0)]) (rest := []) (c_X4_fair (R := { frames := 1, cells := 0, slots := 0, locals := 13 }) Z.i (Nat.le_refl _) (Nat.le_refl _) hv8) cV_X11_197 rfl rfl ⟨(Nat.le_trans (Nat.le_of_ble_eq_true rfl) hRf), (Nat.le_trans (Nat.le_of_ble_eq_true rfl) hRl)⟩ 4 (gW_o rfl) rfl rfl rfl hl.1 rfl (Nat.le_of_ble_eq_true rfl) dX11_now_106 ⟨Nat.zero_le _, Nat.zero_le _⟩) ?_
              exact zri Z hr hlk h dX11_now_109
            · rw [if_neg c7] at h
              by_cases c9 : x1 = 6
              · rw [if_pos c9] at h
                refine lv_tableIn (tgt := 110) hx hb dX11_now_1 (by rw [c9]; decide) (by rw [c9]; decide) (by rw [c9]; rfl) (by decide) ?_
                refine lv_aload_n hx hb dX11_now_110 rfl (lv_at hl 0 rfl) ?_
                refine fg_0_3 Z hP wF_X11_29 dX11_now_111 ?_
                refine lv_aload_n hx hb dX11_now_114 rfl (lv_at hl 0 rfl) ?_
                refine fg_0_0 Z hP wF_X11_10 dX11_now_115 ?_
                refine fg_1_0 Z hP wF_X11_179 dX11_now_118 ?_
                obtain ⟨v10, hv10, h⟩ := bd h
                refine zqi (zrunV Z hP (As := [.int (σ.1 0)]) (rest := []) (c_X4_leans (R := { frames := 0, cells := 0, slots := 0, locals := 0 }) Z.i (Nat.le_refl _) (Nat.le_refl _) hv10) cV_X11_200 rfl rfl ⟨(Nat.le_trans (Nat.le_of_ble_eq_true rfl) hRf), (Nat.le_trans (Nat.le_of_ble_eq_true rfl) hRl)⟩ 4 (gW_o rfl) rfl rfl rfl hl.1 rfl (Nat.le_of_ble_eq_true rfl) dX11_now_121 ⟨Nat.zero_le _, Nat.zero_le _⟩) ?_
                exact zri Z hr hlk h dX11_now_124
              · rw [if_neg c9] at h
                by_cases c11 : x1 = 7
                · rw [if_pos c11] at h
                  refine lv_tableIn (tgt := 125) hx hb dX11_now_1 (by rw [c11]; decide) (by rw [c11]; decide) (by rw [c11]; rfl) (by decide) ?_
                  refine lv_aload_n hx hb dX11_now_125 rfl (lv_at hl 0 rfl) ?_
                  refine fg_0_4 Z hP wF_X11_36 dX11_now_126 ?_
                  refine fg_5_2 Z hP wF_X11_120 dX11_now_129 ?_
                  exact zri Z hr hlk h dX11_now_132
                · rw [if_neg c11] at h
                  refine lv_tableOut (tgt := 133) hx hb dX11_now_1 (by have ec1 := lv_neT c1 (a := 0) rfl; have ec2 := lv_neT c2 (a := 1) rfl; have ec3 := lv_neT c3 (a := 2) rfl; have ec5 := lv_neT c5 (a := 3) rfl; have ec6 := lv_neT c6 (a := 4) rfl; have ec7 := lv_neT c7 (a := 5) rfl; have ec9 := lv_neT c9 (a := 6) rfl; have ec11 := lv_neT c11 (a := 7) rfl; omega) (by decide) ?_
                  refine lv_iconst (v := (-1)) hx hb dX11_now_133 (by decide) ?_
                  exact zri Z hr hlk h dX11_now_134
def m_X11_plan_J34 (x1 : Int32) (x2 : Int32) (σ : Sx) : Option (Int32 × Sx) :=
  (m_X5_make σ x1).bind (fun q6 => if x2 = 4 then ((m_X5_missed q6).bind (fun v8 => some ((v8, q6)))) else (if x2 = 5 then ((m_X5_out q6).bind (fun v10 => some ((v10, q6)))) else (if x2 = 6 then ((m_X5_gotUp q6).bind (fun v12 => some ((v12, q6)))) else ((ldA cLn q6 23 x2).bind (fun v13 => some ((v13, q6)))))))
def m_X11_plan (σ : Sx) (x1 : Int32) (x2 : Int32) : Option (Int32 × Sx) :=
  (m_X11_isWithin x1 0 4).bind (fun v1 => if v1 = 0 then (some (((-1), σ))) else ((m_X11_isWithin x2 0 6).bind (fun v3 => if v3 = 0 then (some (((-1), σ))) else (if 4 ≤ x2 then (m_X11_plan_J34 x1 x2 σ) else (if x2 < x1 then (m_X11_plan_J34 x1 x2 σ) else (some (((-5), σ))))))))
set_option maxHeartbeats 4000000 in
set_option maxRecDepth 100000 in
theorem c_X11_plan {l : Launch} {D : va_G} {cy : Nat → ClassId} {ad : Nat → Nat} {σ τ : Sx} {R : Room} (hI : gInj ad) (hRf : 20 ≤ R.frames) (hRl : 508 ≤ R.locals) {x1 : Int32} {x2 : Int32} {out : Int32 × Sx} (h : m_X11_plan σ x1 x2 = some out) : Met l yX11_plan [Cond.code yX11_plan cX11_plan 3 (some .int)] R (va_Pc [.ref (ad 0), .int x1, .int x2] (gB D cy ad σ τ)) (cQi D cy ad τ out) 0 0 (gA ad) := by
  refine zstart [.ref (ad 0), .int x1, .int x2] (by decide) rfl hI (Nat.le_of_ble_eq_true rfl) ?_
  intro p e s m below meth c Z hr hlk hP ls hl
  have hx := Z.x
  have hb := Z.b
  generalize hargs : ([.ref (ad 0), .int x1, .int x2] : List Value).toArray = args
  have hl : lv_has ls 3 [(0, .ref (ad 0)), (1, .int x1), (2, .int x2)] := hl
  have hS : va_S (gA ad) s.heap s.heap [] := va_S.rf
  have J34 : ∀ (x1 : Int32) (x2 : Int32) (σ : Sx), m_X11_plan_J34 x1 x2 σ = some out → ∀ (H : Heap) (locs : List Loc), va_P D vwCl (gW cy ad σ τ) H → va_S (gA ad) s.heap H locs → ∀ ls : Array Slot, lv_has ls 3 [(0, .ref (ad 0)), (1, .int x1), (2, .int x2)] → W p l e R s m args below meth c H locs 0 0 (MQ below (cQi D cy ad τ out) args s 0 0 (gA ad)) (F0 m 34 ls []) := by
    intro x1 x2 σ h H locs hP hS ls hl
    unfold m_X11_plan_J34 at h
    refine lv_aload_n hx hb dX11_plan_34 rfl (lv_at hl 0 rfl) ?_
    refine fg_0_5 Z hP wF_X11_43 dX11_plan_35 ?_
    refine lv_aload_n hx hb dX11_plan_38 rfl (lv_at hl 0 rfl) ?_
    refine fg_0_0 Z hP wF_X11_10 dX11_plan_39 ?_
    refine lv_aload_n hx hb dX11_plan_42 rfl (lv_at hl 0 rfl) ?_
    refine fg_0_3 Z hP wF_X11_29 dX11_plan_43 ?_
    refine lv_iload_n hx hb dX11_plan_46 rfl (lv_at hl 1 rfl) ?_
    obtain ⟨q6, hq6, h⟩ := bd h
    refine zwcv (zrunV Z hP (As := [.ref (ad 1), .ref (ad 4), .int x1]) (rest := []) (c_X5_make (R := { frames := 19, cells := 0, slots := 0, locals := 484 }) Z.i (Nat.le_refl _) (Nat.le_refl _) hq6) cV_X11_203 rfl rfl ⟨(Nat.le_trans (Nat.le_of_ble_eq_true rfl) hRf), (Nat.le_trans (Nat.le_of_ble_eq_true rfl) hRl)⟩ 6 (gW_o rfl) rfl rfl rfl hl.1 rfl (Nat.le_of_ble_eq_true rfl) dX11_plan_47 ⟨Nat.zero_le _, Nat.zero_le _⟩) hS (fun H locs hP hS => ?_)
    refine lv_iload_n hx hb dX11_plan_50 rfl (lv_at hl 2 rfl) ?_
    by_cases c7 : x2 = 4
    · rw [if_pos c7] at h
      refine lv_tableIn (tgt := 76) hx hb dX11_plan_51 (by rw [c7]; decide) (by rw [c7]; decide) (by rw [c7]; rfl) (by decide) ?_
      refine lv_aload_n hx hb dX11_plan_76 rfl (lv_at hl 0 rfl) ?_
      refine fg_0_5 Z hP wF_X11_43 dX11_plan_77 ?_
      obtain ⟨v8, hv8, h⟩ := bd h
      refine zqi (zrunV Z hP (As := []) (rest := []) (c_X5_missed (R := { frames := 0, cells := 0, slots := 0, locals := 0 }) Z.i (Nat.le_refl _) (Nat.le_refl _) hv8) cV_X11_207 rfl rfl ⟨(Nat.le_trans (Nat.le_of_ble_eq_true rfl) hRf), (Nat.le_trans (Nat.le_of_ble_eq_true rfl) hRl)⟩ 6 (gW_o rfl) rfl rfl rfl hl.1 rfl (Nat.le_of_ble_eq_true rfl) dX11_plan_80 ⟨Nat.zero_le _, Nat.zero_le _⟩) ?_
      exact zci Z hP hS hr hlk h dX11_plan_83
    · rw [if_neg c7] at h
      by_cases c9 : x2 = 5
      · rw [if_pos c9] at h
        refine lv_tableIn (tgt := 84) hx hb dX11_plan_51 (by rw [c9]; decide) (by rw [c9]; decide) (by rw [c9]; rfl) (by decide) ?_
        refine lv_aload_n hx hb dX11_plan_84 rfl (lv_at hl 0 rfl) ?_
        refine fg_0_5 Z hP wF_X11_43 dX11_plan_85 ?_
        obtain ⟨v10, hv10, h⟩ := bd h
        refine zqi (zrunV Z hP (As := []) (rest := []) (c_X5_out (R := { frames := 0, cells := 0, slots := 0, locals := 0 }) Z.i (Nat.le_refl _) (Nat.le_refl _) hv10) cV_X11_210 rfl rfl ⟨(Nat.le_trans (Nat.le_of_ble_eq_true rfl) hRf), (Nat.le_trans (Nat.le_of_ble_eq_true rfl) hRl)⟩ 6 (gW_o rfl) rfl rfl rfl hl.1 rfl (Nat.le_of_ble_eq_true rfl) dX11_plan_88 ⟨Nat.zero_le _, Nat.zero_le _⟩) ?_
        exact zci Z hP hS hr hlk h dX11_plan_91
      · rw [if_neg c9] at h
        by_cases c11 : x2 = 6
        · rw [if_pos c11] at h
          refine lv_tableIn (tgt := 92) hx hb dX11_plan_51 (by rw [c11]; decide) (by rw [c11]; decide) (by rw [c11]; rfl) (by decide) ?_
          refine lv_aload_n hx hb dX11_plan_92 rfl (lv_at hl 0 rfl) ?_
          refine fg_0_5 Z hP wF_X11_43 dX11_plan_93 ?_
          obtain ⟨v12, hv12, h⟩ := bd h
          refine zqi (zrunV Z hP (As := []) (rest := []) (c_X5_gotUp (R := { frames := 0, cells := 0, slots := 0, locals := 0 }) Z.i (Nat.le_refl _) (Nat.le_refl _) hv12) cV_X11_212 rfl rfl ⟨(Nat.le_trans (Nat.le_of_ble_eq_true rfl) hRf), (Nat.le_trans (Nat.le_of_ble_eq_true rfl) hRl)⟩ 6 (gW_o rfl) rfl rfl rfl hl.1 rfl (Nat.le_of_ble_eq_true rfl) dX11_plan_96 ⟨Nat.zero_le _, Nat.zero_le _⟩) ?_
          exact zci Z hP hS hr hlk h dX11_plan_99
        · rw [if_neg c11] at h
          refine lv_tableOut (tgt := 100) hx hb dX11_plan_51 (by have ec7 := lv_neT c7 (a := 4) rfl; have ec9 := lv_neT c9 (a := 5) rfl; have ec11 := lv_neT c11 (a := 6) rfl; omega) (by decide) ?_
          refine lv_aload_n hx hb dX11_plan_100 rfl (lv_at hl 0 rfl) ?_
          refine fg_0_5 Z hP wF_X11_43 dX11_plan_101 ?_
          refine fg_6_0 Z hP wF_X11_214 dX11_plan_104 ?_
          refine lv_iload_n hx hb dX11_plan_107 rfl (lv_at hl 2 rfl) ?_
          obtain ⟨v13, hv13, h⟩ := bd h
          refine zc_ld (j := 23) Z hP hv13 dX11_plan_108 ?_
          exact zci Z hP hS hr hlk h dX11_plan_109
  unfold m_X11_plan at h
  refine lv_iload_n hx hb dX11_plan_0 rfl (lv_at hl 1 rfl) ?_
  refine lv_iconst (v := 0) hx hb dX11_plan_1 (by decide) ?_
  refine lv_iconst (v := 4) hx hb dX11_plan_2 (by decide) ?_
  obtain ⟨v1, hv1, h⟩ := bd h
  refine zqi (zrunS Z hP (As := [.int x1, .int 0, .int 4]) (rest := []) (c_X11_isWithin (R := { frames := 0, cells := 0, slots := 0, locals := 0 }) Z.i (Nat.le_refl _) (Nat.le_refl _) hv1) cV_X11_144 rfl rfl ⟨(Nat.le_trans (Nat.le_of_ble_eq_true rfl) hRf), (Nat.le_trans (Nat.le_of_ble_eq_true rfl) hRl)⟩ rfl hl.1 rfl (Nat.le_of_ble_eq_true rfl) dX11_plan_3 ⟨Nat.zero_le _, Nat.zero_le _⟩) ?_
  refine lv_if_eq (tgt := 19) hx hb dX11_plan_6 (by decide) (fun c2 => ?_) (fun c2 => ?_)
  · rw [if_pos c2] at h
    refine lv_iconst (v := (-1)) hx hb dX11_plan_19 (by decide) ?_
    exact zci Z hP hS hr hlk h dX11_plan_20
  · rw [if_neg c2] at h
    refine lv_iload_n hx hb dX11_plan_9 rfl (lv_at hl 2 rfl) ?_
    refine lv_iconst (v := 0) hx hb dX11_plan_10 (by decide) ?_
    refine lv_bipush (v := 6) hx hb dX11_plan_11 (by decide) ?_
    obtain ⟨v3, hv3, h⟩ := bd h
    refine zqi (zrunS Z hP (As := [.int x2, .int 0, .int 6]) (rest := []) (c_X11_isWithin (R := { frames := 0, cells := 0, slots := 0, locals := 0 }) Z.i (Nat.le_refl _) (Nat.le_refl _) hv3) cV_X11_144 rfl rfl ⟨(Nat.le_trans (Nat.le_of_ble_eq_true rfl) hRf), (Nat.le_trans (Nat.le_of_ble_eq_true rfl) hRl)⟩ rfl hl.1 rfl (Nat.le_of_ble_eq_true rfl) dX11_plan_13 ⟨Nat.zero_le _, Nat.zero_le _⟩) ?_
    refine lv_if_ne (tgt := 21) hx hb dX11_plan_16 (by decide) (fun c4 => ?_) (fun c4 => ?_)
    · rw [if_neg c4] at h
      refine lv_iload_n hx hb dX11_plan_21 rfl (lv_at hl 2 rfl) ?_
      refine lv_iconst (v := 4) hx hb dX11_plan_22 (by decide) ?_
      refine lv_icmp_ge (tgt := 34) hx hb dX11_plan_23 (by decide) (fun c5 => ?_) (fun c5 => ?_)
      · rw [if_pos c5] at h
        exact J34 x1 x2 σ h _ _ hP hS _ (lv_sub hl [0, 1, 2] rfl)
      · rw [if_neg c5] at h
        refine lv_iload_n hx hb dX11_plan_26 rfl (lv_at hl 2 rfl) ?_
        refine lv_iload_n hx hb dX11_plan_27 rfl (lv_at hl 1 rfl) ?_
        refine lv_icmp_lt (tgt := 34) hx hb dX11_plan_28 (by decide) (fun c14 => ?_) (fun c14 => ?_)
        · rw [if_pos c14] at h
          exact J34 x1 x2 σ h _ _ hP hS _ (lv_sub hl [0, 1, 2] rfl)
        · rw [if_neg c14] at h
          refine lv_bipush (v := (-5)) hx hb dX11_plan_31 (by decide) ?_
          exact zci Z hP hS hr hlk h dX11_plan_33
    · rw [if_pos c4] at h
      refine lv_iconst (v := (-1)) hx hb dX11_plan_19 (by decide) ?_
      exact zci Z hP hS hr hlk h dX11_plan_20
def m_X11_fullBy_L33 (σ : Sx) : Nat → Int32 → Int32 → Int32 → Int32 → Option (Sum (Int32) (Unit))
  | 0, _, _, _, _ => none
  | n + 1, x1, x2, x3, x4 =>
  if 60 < x4 then (some (.inr (()))) else (if x3 < x2 then ((m_X10_levelBehind σ (((σ.1 14) + x4)) x1 x3 1).bind (fun v8 => m_X11_fullBy_L33 σ n x1 x2 v8 ((x4 + 1)))) else (some (.inl x4)))
def m_X11_fullBy (σ : Sx) (x1 : Int32) (x2 : Int32) : Option (Int32) :=
  (m_X11_isPhone σ x1).bind (fun v1 => if v1 = 0 then (some ((-1))) else ((m_X11_isWithin x2 0 100).bind (fun v3 => if v3 = 0 then (some ((-1))) else ((ldA cLn σ 17 x1).bind (fun v5 => (m_X11_fullBy_L33 σ FU x1 x2 v5 0).bind (fun rs11 => Sum.elim (fun r10 => some r10) (fun y9 => some ((-9))) rs11))))))
set_option maxHeartbeats 4000000 in
set_option maxRecDepth 100000 in
theorem w_X11_fullBy_L33 {l : Launch} {D : va_G} {cy : Nat → ClassId} {ad : Nat → Nat} {σ τ : Sx} {p : Program} {e : Env} {R : Room} {s : State} {m : MethodId} {args : Array Value} {below : List Frame} {meth : Method} {c : Code} (Z : Zc p s m c cX11_fullBy 5 RX11 D cy ad) (hP : va_P D vwCl (gW cy ad σ τ) s.heap) (hr : meth.sig.returnType = (some .int)) (hlk : meth.locks = false) (hRf : 3 ≤ R.frames) (hRl : 73 ≤ R.locals) (out : Int32) : ∀ (n : Nat) (x1 : Int32) (x2 : Int32) (x3 : Int32) (x4 : Int32) (res : Sum (Int32) (Unit)), m_X11_fullBy_L33 σ n x1 x2 x3 x4 = some res → ∀ ls : Array Slot, lv_has ls 5 [(0, .ref (ad 0)), (1, .int x1), (2, .int x2), (3, .int x3), (4, .int x4)] → (∀ r : Int32, res = .inl r → r = out) → (∀ y : Unit, res = .inr y → ∀ ls : Array Slot, lv_has ls 5 [] → W p l e R s m args below meth c s.heap [] 0 0 (MQ below (rQi out) args s 0 0 noA) (F0 m 75 ls [])) → W p l e R s m args below meth c s.heap [] 0 0 (MQ below (rQi out) args s 0 0 noA) (F0 m 33 ls []) := by
  have hx := Z.x
  have hb := Z.b
  intro n
  induction n with
  | zero => intro x1 x2 x3 x4 res h; cases h
  | succ n ih =>
    intro x1 x2 x3 x4 res h ls hl hri kx
    rw [m_X11_fullBy_L33] at h
    refine lv_iload hx hb dX11_fullBy_33 (lv_at hl 4 rfl) ?_
    refine lv_bipush (v := 60) hx hb dX11_fullBy_35 (by decide) ?_
    refine lv_icmp_gt (tgt := 75) hx hb dX11_fullBy_37 (by decide) (fun c6 => ?_) (fun c6 => ?_)
    · rw [if_pos c6] at h
      exact kx _ (Option.some.inj h).symm _ (lv_sub hl [] rfl)
    · rw [if_neg c6] at h
      refine lv_iload_n hx hb dX11_fullBy_40 rfl (lv_at hl 3 rfl) ?_
      refine lv_iload_n hx hb dX11_fullBy_41 rfl (lv_at hl 2 rfl) ?_
      refine lv_icmp_lt (tgt := 48) hx hb dX11_fullBy_42 (by decide) (fun c7 => ?_) (fun c7 => ?_)
      · rw [if_pos c7] at h
        refine lv_aload_n hx hb dX11_fullBy_48 rfl (lv_at hl 0 rfl) ?_
        refine fg_0_0 Z hP wF_X11_10 dX11_fullBy_49 ?_
        refine lv_aload_n hx hb dX11_fullBy_52 rfl (lv_at hl 0 rfl) ?_
        refine fg_0_3 Z hP wF_X11_29 dX11_fullBy_53 ?_
        refine fg_4_0 Z hP wF_X11_173 dX11_fullBy_56 ?_
        refine lv_iload hx hb dX11_fullBy_59 (lv_at hl 4 rfl) ?_
        refine lv_iadd hx hb dX11_fullBy_61 ?_
        refine lv_iload_n hx hb dX11_fullBy_62 rfl (lv_at hl 1 rfl) ?_
        refine lv_iload_n hx hb dX11_fullBy_63 rfl (lv_at hl 3 rfl) ?_
        refine lv_iconst (v := 1) hx hb dX11_fullBy_64 (by decide) ?_
        obtain ⟨v8, hv8, h⟩ := bd h
        refine zqi (zrunV Z hP (As := [.int ((σ.1 14) + x4), .int x1, .int x3, .int 1]) (rest := []) (c_X10_levelBehind (R := { frames := 2, cells := 0, slots := 0, locals := 48 }) Z.i (Nat.le_refl _) (Nat.le_refl _) hv8) cV_X11_217 rfl rfl ⟨(Nat.le_trans (Nat.le_of_ble_eq_true rfl) hRf), (Nat.le_trans (Nat.le_of_ble_eq_true rfl) hRl)⟩ 1 (gW_o rfl) rfl rfl rfl hl.1 rfl (Nat.le_of_ble_eq_true rfl) dX11_fullBy_65 ⟨Nat.zero_le _, Nat.zero_le _⟩) ?_
        refine lv_istore_n (lv' := [(3, .int v8), (0, .ref (ad 0)), (1, .int x1), (2, .int x2), (4, .int x4)]) hx hb dX11_fullBy_68 rfl hl (by decide) rfl (fun ls hl => ?_)
        refine lv_iinc (v := (x4 + 1)) (lv' := [(4, .int (x4 + 1)), (3, .int v8), (0, .ref (ad 0)), (1, .int x1), (2, .int x2)]) hx hb dX11_fullBy_69 hl (k := 4) rfl rfl (by decide) rfl (fun ls hl => ?_)
        refine lv_goto (tgt := 33) hx hb dX11_fullBy_72 (by decide) ?_
        exact ih x1 x2 v8 ((x4 + 1)) _ h _ (lv_sub hl [2, 3, 4, 1, 0] rfl) hri kx
      · rw [if_neg c7] at h
        refine lv_iload hx hb dX11_fullBy_45 (lv_at hl 4 rfl) ?_
        exact zri Z hr hlk (congrArg some (hri _ (Option.some.inj h).symm)) dX11_fullBy_47
set_option maxHeartbeats 4000000 in
set_option maxRecDepth 100000 in
theorem c_X11_fullBy {l : Launch} {D : va_G} {cy : Nat → ClassId} {ad : Nat → Nat} {σ τ : Sx} {R : Room} (hI : gInj ad) (hRf : 3 ≤ R.frames) (hRl : 73 ≤ R.locals) {x1 : Int32} {x2 : Int32} {out : Int32} (h : m_X11_fullBy σ x1 x2 = some out) : Met l yX11_fullBy [Cond.code yX11_fullBy cX11_fullBy 5 (some .int)] R (va_Pc [.ref (ad 0), .int x1, .int x2] (gB D cy ad σ τ)) (rQi out) 0 0 noA := by
  refine zstart [.ref (ad 0), .int x1, .int x2] (by decide) rfl hI (Nat.le_of_ble_eq_true rfl) ?_
  intro p e s m below meth c Z hr hlk hP ls hl
  have hx := Z.x
  have hb := Z.b
  generalize hargs : ([.ref (ad 0), .int x1, .int x2] : List Value).toArray = args
  have hl : lv_has ls 5 [(0, .ref (ad 0)), (1, .int x1), (2, .int x2)] := hl
  unfold m_X11_fullBy at h
  refine lv_aload_n hx hb dX11_fullBy_0 rfl (lv_at hl 0 rfl) ?_
  refine lv_iload_n hx hb dX11_fullBy_1 rfl (lv_at hl 1 rfl) ?_
  obtain ⟨v1, hv1, h⟩ := bd h
  refine zqi (zrunV Z hP (As := [.int x1]) (rest := []) (c_X11_isPhone (R := { frames := 1, cells := 0, slots := 0, locals := 22 }) Z.i (Nat.le_refl _) (Nat.le_refl _) hv1) cV_X11_123 rfl rfl ⟨(Nat.le_trans (Nat.le_of_ble_eq_true rfl) hRf), (Nat.le_trans (Nat.le_of_ble_eq_true rfl) hRl)⟩ 0 (gW_o rfl) rfl rfl rfl hl.1 rfl (Nat.le_of_ble_eq_true rfl) dX11_fullBy_2 ⟨Nat.zero_le _, Nat.zero_le _⟩) ?_
  refine lv_if_eq (tgt := 18) hx hb dX11_fullBy_5 (by decide) (fun c2 => ?_) (fun c2 => ?_)
  · rw [if_pos c2] at h
    refine lv_iconst (v := (-1)) hx hb dX11_fullBy_18 (by decide) ?_
    exact zri Z hr hlk h dX11_fullBy_19
  · rw [if_neg c2] at h
    refine lv_iload_n hx hb dX11_fullBy_8 rfl (lv_at hl 2 rfl) ?_
    refine lv_iconst (v := 0) hx hb dX11_fullBy_9 (by decide) ?_
    refine lv_bipush (v := 100) hx hb dX11_fullBy_10 (by decide) ?_
    obtain ⟨v3, hv3, h⟩ := bd h
    refine zqi (zrunS Z hP (As := [.int x2, .int 0, .int 100]) (rest := []) (c_X11_isWithin (R := { frames := 0, cells := 0, slots := 0, locals := 0 }) Z.i (Nat.le_refl _) (Nat.le_refl _) hv3) cV_X11_144 rfl rfl ⟨(Nat.le_trans (Nat.le_of_ble_eq_true rfl) hRf), (Nat.le_trans (Nat.le_of_ble_eq_true rfl) hRl)⟩ rfl hl.1 rfl (Nat.le_of_ble_eq_true rfl) dX11_fullBy_12 ⟨Nat.zero_le _, Nat.zero_le _⟩) ?_
    refine lv_if_ne (tgt := 20) hx hb dX11_fullBy_15 (by decide) (fun c4 => ?_) (fun c4 => ?_)
    · rw [if_neg c4] at h
      refine lv_aload_n hx hb dX11_fullBy_20 rfl (lv_at hl 0 rfl) ?_
      refine fg_0_3 Z hP wF_X11_29 dX11_fullBy_21 ?_
      refine fg_4_4 Z hP wF_X11_126 dX11_fullBy_24 ?_
      refine lv_iload_n hx hb dX11_fullBy_27 rfl (lv_at hl 1 rfl) ?_
      obtain ⟨v5, hv5, h⟩ := bd h
      refine zc_ld (j := 17) Z hP hv5 dX11_fullBy_28 ?_
      refine lv_istore_n (lv' := [(3, .int v5), (0, .ref (ad 0)), (1, .int x1), (2, .int x2)]) hx hb dX11_fullBy_29 rfl hl (by decide) rfl (fun ls hl => ?_)
      refine lv_iconst (v := 0) hx hb dX11_fullBy_30 (by decide) ?_
      refine lv_istore (lv' := [(4, .int 0), (3, .int v5), (0, .ref (ad 0)), (1, .int x1), (2, .int x2)]) hx hb dX11_fullBy_31 hl (by decide) rfl (fun ls hl => ?_)
      obtain ⟨rs11, hrs11, h⟩ := bd h
      refine w_X11_fullBy_L33 Z hP hr hlk hRf hRl out FU x1 x2 v5 0 rs11 hrs11 _ (lv_sub hl [2, 3, 4, 1, 0] rfl) (fun r10 e1 => ?_) (fun y9 e1 ls hl => ?_)
      · subst e1
        rw [Sum.elim_inl] at h
        exact (Option.some.inj h)
      · subst e1
        rw [Sum.elim_inr] at h
        refine lv_bipush (v := (-9)) hx hb dX11_fullBy_75 (by decide) ?_
        exact zri Z hr hlk h dX11_fullBy_77
    · rw [if_pos c4] at h
      refine lv_iconst (v := (-1)) hx hb dX11_fullBy_18 (by decide) ?_
      exact zri Z hr hlk h dX11_fullBy_19
def m_X11_holdsOut_J63 (rec : Int32 → Int32 → Int32 → Int32 → Int32 → Option (Sum (Int32) (Unit))) (σ : Sx) (x1 : Int32) (x2 : Int32) (x3 : Int32) (x5 : Int32) (s0 : Int32) (s1 : Int32) (s2 : Int32) (s3 : Int32) : Option (Sum (Int32) (Unit)) :=
  (m_X10_levelBehind σ s3 s2 s1 s0).bind (fun v6 => rec x1 x2 x3 v6 ((x5 + 1)))
def m_X11_holdsOut_L20 (σ : Sx) : Nat → Int32 → Int32 → Int32 → Int32 → Int32 → Option (Sum (Int32) (Unit))
  | 0, _, _, _, _, _ => none
  | n + 1, x1, x2, x3, x4, x5 =>
  if x3 < x5 then (some (.inr (()))) else ((m_X10_missedAt σ x5 x1 x4).bind (fun v3 => if v3 ≤ 0 then (if x5 < x2 then (m_X11_holdsOut_J63 (m_X11_holdsOut_L20 σ n) σ x1 x2 x3 x5 0 x4 x1 x5) else (m_X11_holdsOut_J63 (m_X11_holdsOut_L20 σ n) σ x1 x2 x3 x5 1 x4 x1 x5)) else (some (.inl 0))))
def m_X11_holdsOut (σ : Sx) (x1 : Int32) (x2 : Int32) (x3 : Int32) : Option (Int32) :=
  (ldA cLn σ 17 x1).bind (fun v1 => (m_X11_holdsOut_L20 σ FU x1 x2 x3 v1 ((σ.1 14))).bind (fun rs9 => Sum.elim (fun r8 => some r8) (fun y7 => some 1) rs9))
set_option maxHeartbeats 4000000 in
set_option maxRecDepth 100000 in
theorem w_X11_holdsOut_L20 {l : Launch} {D : va_G} {cy : Nat → ClassId} {ad : Nat → Nat} {σ τ : Sx} {p : Program} {e : Env} {R : Room} {s : State} {m : MethodId} {args : Array Value} {below : List Frame} {meth : Method} {c : Code} (Z : Zc p s m c cX11_holdsOut 6 RX11 D cy ad) (hP : va_P D vwCl (gW cy ad σ τ) s.heap) (hr : meth.sig.returnType = (some .boolean)) (hlk : meth.locks = false) (hRf : 3 ≤ R.frames) (hRl : 73 ≤ R.locals) (out : Int32) : ∀ (n : Nat) (x1 : Int32) (x2 : Int32) (x3 : Int32) (x4 : Int32) (x5 : Int32) (res : Sum (Int32) (Unit)), m_X11_holdsOut_L20 σ n x1 x2 x3 x4 x5 = some res → ∀ ls : Array Slot, lv_has ls 6 [(0, .ref (ad 0)), (1, .int x1), (2, .int x2), (3, .int x3), (4, .int x4), (5, .int x5)] → (∀ r : Int32, res = .inl r → r = out) → (∀ y : Unit, res = .inr y → ∀ ls : Array Slot, lv_has ls 6 [] → W p l e R s m args below meth c s.heap [] 0 0 (MQ below (rQi out) args s 0 0 noA) (F0 m 74 ls [])) → W p l e R s m args below meth c s.heap [] 0 0 (MQ below (rQi out) args s 0 0 noA) (F0 m 20 ls []) := by
  have hx := Z.x
  have hb := Z.b
  intro n
  induction n with
  | zero => intro x1 x2 x3 x4 x5 res h; cases h
  | succ n ih =>
    intro x1 x2 x3 x4 x5 res h ls hl hri kx
    have J63 : ∀ (x1 : Int32) (x2 : Int32) (x3 : Int32) (x5 : Int32) (s0 : Int32) (s1 : Int32) (s2 : Int32) (s3 : Int32), m_X11_holdsOut_J63 (m_X11_holdsOut_L20 σ n) σ x1 x2 x3 x5 s0 s1 s2 s3 = some res → ∀ ls : Array Slot, lv_has ls 6 [(0, .ref (ad 0)), (1, .int x1), (2, .int x2), (3, .int x3), (5, .int x5)] → W p l e R s m args below meth c s.heap [] 0 0 (MQ below (rQi out) args s 0 0 noA) (F0 m 63 ls [.int s0, .int s1, .int s2, .int s3, .ref (ad 1)]) := by
      intro x1 x2 x3 x5 s0 s1 s2 s3 h ls hl
      unfold m_X11_holdsOut_J63 at h
      obtain ⟨v6, hv6, h⟩ := bd h
      refine zqi (zrunV Z hP (As := [.int s3, .int s2, .int s1, .int s0]) (rest := []) (c_X10_levelBehind (R := { frames := 2, cells := 0, slots := 0, locals := 48 }) Z.i (Nat.le_refl _) (Nat.le_refl _) hv6) cV_X11_217 rfl rfl ⟨(Nat.le_trans (Nat.le_of_ble_eq_true rfl) hRf), (Nat.le_trans (Nat.le_of_ble_eq_true rfl) hRl)⟩ 1 (gW_o rfl) rfl rfl rfl hl.1 rfl (Nat.le_of_ble_eq_true rfl) dX11_holdsOut_63 ⟨Nat.zero_le _, Nat.zero_le _⟩) ?_
      refine lv_istore (lv' := [(4, .int v6), (0, .ref (ad 0)), (1, .int x1), (2, .int x2), (3, .int x3), (5, .int x5)]) hx hb dX11_holdsOut_66 hl (by decide) rfl (fun ls hl => ?_)
      refine lv_iinc (v := (x5 + 1)) (lv' := [(5, .int (x5 + 1)), (4, .int v6), (0, .ref (ad 0)), (1, .int x1), (2, .int x2), (3, .int x3)]) hx hb dX11_holdsOut_68 hl (k := 5) rfl rfl (by decide) rfl (fun ls hl => ?_)
      refine lv_goto (tgt := 20) hx hb dX11_holdsOut_71 (by decide) ?_
      exact ih x1 x2 x3 v6 ((x5 + 1)) _ h _ (lv_sub hl [2, 3, 4, 5, 1, 0] rfl) hri kx
    rw [m_X11_holdsOut_L20] at h
    refine lv_iload hx hb dX11_holdsOut_20 (lv_at hl 5 rfl) ?_
    refine lv_iload_n hx hb dX11_holdsOut_22 rfl (lv_at hl 3 rfl) ?_
    refine lv_icmp_gt (tgt := 74) hx hb dX11_holdsOut_23 (by decide) (fun c2 => ?_) (fun c2 => ?_)
    · rw [if_pos c2] at h
      exact kx _ (Option.some.inj h).symm _ (lv_sub hl [] rfl)
    · rw [if_neg c2] at h
      refine lv_aload_n hx hb dX11_holdsOut_26 rfl (lv_at hl 0 rfl) ?_
      refine fg_0_0 Z hP wF_X11_10 dX11_holdsOut_27 ?_
      refine lv_iload hx hb dX11_holdsOut_30 (lv_at hl 5 rfl) ?_
      refine lv_iload_n hx hb dX11_holdsOut_32 rfl (lv_at hl 1 rfl) ?_
      refine lv_iload hx hb dX11_holdsOut_33 (lv_at hl 4 rfl) ?_
      obtain ⟨v3, hv3, h⟩ := bd h
      refine zqi (zrunV Z hP (As := [.int x5, .int x1, .int x4]) (rest := []) (c_X10_missedAt (R := { frames := 1, cells := 0, slots := 0, locals := 23 }) Z.i (Nat.le_refl _) (Nat.le_refl _) hv3) cV_X11_224 rfl rfl ⟨(Nat.le_trans (Nat.le_of_ble_eq_true rfl) hRf), (Nat.le_trans (Nat.le_of_ble_eq_true rfl) hRl)⟩ 1 (gW_o rfl) rfl rfl rfl hl.1 rfl (Nat.le_of_ble_eq_true rfl) dX11_holdsOut_35 ⟨Nat.zero_le _, Nat.zero_le _⟩) ?_
      refine lv_if_le (tgt := 43) hx hb dX11_holdsOut_38 (by decide) (fun c4 => ?_) (fun c4 => ?_)
      · rw [if_pos c4] at h
        refine lv_aload_n hx hb dX11_holdsOut_43 rfl (lv_at hl 0 rfl) ?_
        refine fg_0_0 Z hP wF_X11_10 dX11_holdsOut_44 ?_
        refine lv_iload hx hb dX11_holdsOut_47 (lv_at hl 5 rfl) ?_
        refine lv_iload_n hx hb dX11_holdsOut_49 rfl (lv_at hl 1 rfl) ?_
        refine lv_iload hx hb dX11_holdsOut_50 (lv_at hl 4 rfl) ?_
        refine lv_iload hx hb dX11_holdsOut_52 (lv_at hl 5 rfl) ?_
        refine lv_iload_n hx hb dX11_holdsOut_54 rfl (lv_at hl 2 rfl) ?_
        refine lv_icmp_lt (tgt := 62) hx hb dX11_holdsOut_55 (by decide) (fun c5 => ?_) (fun c5 => ?_)
        · rw [if_pos c5] at h
          refine lv_iconst (v := 0) hx hb dX11_holdsOut_62 (by decide) ?_
          exact J63 x1 x2 x3 x5 0 x4 x1 x5 h _ (lv_sub hl [0, 1, 2, 3, 5] rfl)
        · rw [if_neg c5] at h
          refine lv_iconst (v := 1) hx hb dX11_holdsOut_58 (by decide) ?_
          refine lv_goto (tgt := 63) hx hb dX11_holdsOut_59 (by decide) ?_
          exact J63 x1 x2 x3 x5 1 x4 x1 x5 h _ (lv_sub hl [0, 1, 2, 3, 5] rfl)
      · rw [if_neg c4] at h
        refine lv_iconst (v := 0) hx hb dX11_holdsOut_41 (by decide) ?_
        exact zrzc Z hr hlk (Or.inl rfl) (congrArg some (hri _ (Option.some.inj h).symm)) dX11_holdsOut_42
set_option maxHeartbeats 4000000 in
set_option maxRecDepth 100000 in
theorem c_X11_holdsOut {l : Launch} {D : va_G} {cy : Nat → ClassId} {ad : Nat → Nat} {σ τ : Sx} {R : Room} (hI : gInj ad) (hRf : 3 ≤ R.frames) (hRl : 73 ≤ R.locals) {x1 : Int32} {x2 : Int32} {x3 : Int32} {out : Int32} (h : m_X11_holdsOut σ x1 x2 x3 = some out) : Met l yX11_holdsOut [Cond.code yX11_holdsOut cX11_holdsOut 6 (some .boolean)] R (va_Pc [.ref (ad 0), .int x1, .int x2, .int x3] (gB D cy ad σ τ)) (rQi out) 0 0 noA := by
  refine zstart [.ref (ad 0), .int x1, .int x2, .int x3] (by decide) rfl hI (Nat.le_of_ble_eq_true rfl) ?_
  intro p e s m below meth c Z hr hlk hP ls hl
  have hx := Z.x
  have hb := Z.b
  generalize hargs : ([.ref (ad 0), .int x1, .int x2, .int x3] : List Value).toArray = args
  have hl : lv_has ls 6 [(0, .ref (ad 0)), (1, .int x1), (2, .int x2), (3, .int x3)] := hl
  unfold m_X11_holdsOut at h
  refine lv_aload_n hx hb dX11_holdsOut_0 rfl (lv_at hl 0 rfl) ?_
  refine fg_0_3 Z hP wF_X11_29 dX11_holdsOut_1 ?_
  refine fg_4_4 Z hP wF_X11_126 dX11_holdsOut_4 ?_
  refine lv_iload_n hx hb dX11_holdsOut_7 rfl (lv_at hl 1 rfl) ?_
  obtain ⟨v1, hv1, h⟩ := bd h
  refine zc_ld (j := 17) Z hP hv1 dX11_holdsOut_8 ?_
  refine lv_istore (lv' := [(4, .int v1), (0, .ref (ad 0)), (1, .int x1), (2, .int x2), (3, .int x3)]) hx hb dX11_holdsOut_9 hl (by decide) rfl (fun ls hl => ?_)
  refine lv_aload_n hx hb dX11_holdsOut_11 rfl (lv_at hl 1 rfl) ?_
  refine fg_0_3 Z hP wF_X11_29 dX11_holdsOut_12 ?_
  refine fg_4_0 Z hP wF_X11_173 dX11_holdsOut_15 ?_
  refine lv_istore (lv' := [(5, .int (σ.1 14)), (4, .int v1), (0, .ref (ad 0)), (1, .int x1), (2, .int x2), (3, .int x3)]) hx hb dX11_holdsOut_18 hl (by decide) rfl (fun ls hl => ?_)
  obtain ⟨rs9, hrs9, h⟩ := bd h
  refine w_X11_holdsOut_L20 Z hP hr hlk hRf hRl out FU x1 x2 x3 v1 ((σ.1 14)) rs9 hrs9 _ (lv_sub hl [2, 3, 4, 5, 1, 0] rfl) (fun r8 e1 => ?_) (fun y7 e1 ls hl => ?_)
  · subst e1
    rw [Sum.elim_inl] at h
    exact (Option.some.inj h)
  · subst e1
    rw [Sum.elim_inr] at h
    refine lv_iconst (v := 1) hx hb dX11_holdsOut_74 (by decide) ?_
    exact zrzc Z hr hlk (Or.inr rfl) h dX11_holdsOut_75
def m_X11_latest_L30 (σ : Sx) : Nat → Int32 → Int32 → Int32 → Option (Sum (Int32) (Unit))
  | 0, _, _, _ => none
  | n + 1, x1, x2, x3 =>
  if x3 < (σ.1 14) then (some (.inr (()))) else ((m_X11_holdsOut σ x1 x3 x2).bind (fun v6 => if v6 = 0 then (m_X11_latest_L30 σ n x1 x2 ((x3 + (-1)))) else (some (.inl x3))))
def m_X11_latest (σ : Sx) (x1 : Int32) (x2 : Int32) : Option (Int32) :=
  (m_X11_isPhone σ x1).bind (fun v1 => if v1 = 0 then (some ((-1))) else ((m_X11_isWithin x2 ((σ.1 14)) 60).bind (fun v3 => if v3 = 0 then (some ((-1))) else ((m_X11_latest_L30 σ FU x1 x2 ((x2 + 1))).bind (fun rs10 => Sum.elim (fun r9 => some r9) (fun y8 => some ((-9))) rs10)))))
set_option maxHeartbeats 4000000 in
set_option maxRecDepth 100000 in
theorem w_X11_latest_L30 {l : Launch} {D : va_G} {cy : Nat → ClassId} {ad : Nat → Nat} {σ τ : Sx} {p : Program} {e : Env} {R : Room} {s : State} {m : MethodId} {args : Array Value} {below : List Frame} {meth : Method} {c : Code} (Z : Zc p s m c cX11_latest 4 RX11 D cy ad) (hP : va_P D vwCl (gW cy ad σ τ) s.heap) (hr : meth.sig.returnType = (some .int)) (hlk : meth.locks = false) (hRf : 4 ≤ R.frames) (hRl : 98 ≤ R.locals) (out : Int32) : ∀ (n : Nat) (x1 : Int32) (x2 : Int32) (x3 : Int32) (res : Sum (Int32) (Unit)), m_X11_latest_L30 σ n x1 x2 x3 = some res → ∀ ls : Array Slot, lv_has ls 4 [(0, .ref (ad 0)), (1, .int x1), (2, .int x2), (3, .int x3)] → (∀ r : Int32, res = .inl r → r = out) → (∀ y : Unit, res = .inr y → ∀ ls : Array Slot, lv_has ls 4 [] → W p l e R s m args below meth c s.heap [] 0 0 (MQ below (rQi out) args s 0 0 noA) (F0 m 59 ls [])) → W p l e R s m args below meth c s.heap [] 0 0 (MQ below (rQi out) args s 0 0 noA) (F0 m 30 ls []) := by
  have hx := Z.x
  have hb := Z.b
  intro n
  induction n with
  | zero => intro x1 x2 x3 res h; cases h
  | succ n ih =>
    intro x1 x2 x3 res h ls hl hri kx
    rw [m_X11_latest_L30] at h
    refine lv_iload_n hx hb dX11_latest_30 rfl (lv_at hl 3 rfl) ?_
    refine lv_aload_n hx hb dX11_latest_31 rfl (lv_at hl 0 rfl) ?_
    refine fg_0_3 Z hP wF_X11_29 dX11_latest_32 ?_
    refine fg_4_0 Z hP wF_X11_173 dX11_latest_35 ?_
    refine lv_icmp_lt (tgt := 59) hx hb dX11_latest_38 (by decide) (fun c5 => ?_) (fun c5 => ?_)
    · rw [if_pos c5] at h
      exact kx _ (Option.some.inj h).symm _ (lv_sub hl [] rfl)
    · rw [if_neg c5] at h
      refine lv_aload_n hx hb dX11_latest_41 rfl (lv_at hl 0 rfl) ?_
      refine lv_iload_n hx hb dX11_latest_42 rfl (lv_at hl 1 rfl) ?_
      refine lv_iload_n hx hb dX11_latest_43 rfl (lv_at hl 3 rfl) ?_
      refine lv_iload_n hx hb dX11_latest_44 rfl (lv_at hl 2 rfl) ?_
      obtain ⟨v6, hv6, h⟩ := bd h
      refine zqi (zrunV Z hP (As := [.int x1, .int x3, .int x2]) (rest := []) (c_X11_holdsOut (R := { frames := 3, cells := 0, slots := 0, locals := 73 }) Z.i (Nat.le_refl _) (Nat.le_refl _) hv6) cV_X11_221 rfl rfl ⟨(Nat.le_trans (Nat.le_of_ble_eq_true rfl) hRf), (Nat.le_trans (Nat.le_of_ble_eq_true rfl) hRl)⟩ 0 (gW_o rfl) rfl rfl rfl hl.1 rfl (Nat.le_of_ble_eq_true rfl) dX11_latest_45 ⟨Nat.zero_le _, Nat.zero_le _⟩) ?_
      refine lv_if_eq (tgt := 53) hx hb dX11_latest_48 (by decide) (fun c7 => ?_) (fun c7 => ?_)
      · rw [if_pos c7] at h
        refine lv_iinc (v := (x3 + (-1))) (lv' := [(3, .int (x3 + (-1))), (0, .ref (ad 0)), (1, .int x1), (2, .int x2)]) hx hb dX11_latest_53 hl (k := 3) rfl rfl (by decide) rfl (fun ls hl => ?_)
        refine lv_goto (tgt := 30) hx hb dX11_latest_56 (by decide) ?_
        exact ih x1 x2 ((x3 + (-1))) _ h _ (lv_sub hl [1, 2, 3, 0] rfl) hri kx
      · rw [if_neg c7] at h
        refine lv_iload_n hx hb dX11_latest_51 rfl (lv_at hl 3 rfl) ?_
        exact zri Z hr hlk (congrArg some (hri _ (Option.some.inj h).symm)) dX11_latest_52
set_option maxHeartbeats 4000000 in
set_option maxRecDepth 100000 in
theorem c_X11_latest {l : Launch} {D : va_G} {cy : Nat → ClassId} {ad : Nat → Nat} {σ τ : Sx} {R : Room} (hI : gInj ad) (hRf : 4 ≤ R.frames) (hRl : 98 ≤ R.locals) {x1 : Int32} {x2 : Int32} {out : Int32} (h : m_X11_latest σ x1 x2 = some out) : Met l yX11_latest [Cond.code yX11_latest cX11_latest 4 (some .int)] R (va_Pc [.ref (ad 0), .int x1, .int x2] (gB D cy ad σ τ)) (rQi out) 0 0 noA := by
  refine zstart [.ref (ad 0), .int x1, .int x2] (by decide) rfl hI (Nat.le_of_ble_eq_true rfl) ?_
  intro p e s m below meth c Z hr hlk hP ls hl
  have hx := Z.x
  have hb := Z.b
  generalize hargs : ([.ref (ad 0), .int x1, .int x2] : List Value).toArray = args
  have hl : lv_has ls 4 [(0, .ref (ad 0)), (1, .int x1), (2, .int x2)] := hl
  unfold m_X11_latest at h
  refine lv_aload_n hx hb dX11_latest_0 rfl (lv_at hl 0 rfl) ?_
  refine lv_iload_n hx hb dX11_latest_1 rfl (lv_at hl 1 rfl) ?_
  obtain ⟨v1, hv1, h⟩ := bd h
  refine zqi (zrunV Z hP (As := [.int x1]) (rest := []) (c_X11_isPhone (R := { frames := 1, cells := 0, slots := 0, locals := 22 }) Z.i (Nat.le_refl _) (Nat.le_refl _) hv1) cV_X11_123 rfl rfl ⟨(Nat.le_trans (Nat.le_of_ble_eq_true rfl) hRf), (Nat.le_trans (Nat.le_of_ble_eq_true rfl) hRl)⟩ 0 (gW_o rfl) rfl rfl rfl hl.1 rfl (Nat.le_of_ble_eq_true rfl) dX11_latest_2 ⟨Nat.zero_le _, Nat.zero_le _⟩) ?_
  refine lv_if_eq (tgt := 24) hx hb dX11_latest_5 (by decide) (fun c2 => ?_) (fun c2 => ?_)
  · rw [if_pos c2] at h
    refine lv_iconst (v := (-1)) hx hb dX11_latest_24 (by decide) ?_
    exact zri Z hr hlk h dX11_latest_25
  · rw [if_neg c2] at h
    refine lv_iload_n hx hb dX11_latest_8 rfl (lv_at hl 2 rfl) ?_
    refine lv_aload_n hx hb dX11_latest_9 rfl (lv_at hl 0 rfl) ?_
    refine fg_0_3 Z hP wF_X11_29 dX11_latest_10 ?_
    refine fg_4_0 Z hP wF_X11_173 dX11_latest_13 ?_
    refine lv_bipush (v := 60) hx hb dX11_latest_16 (by decide) ?_
    obtain ⟨v3, hv3, h⟩ := bd h
    refine zqi (zrunS Z hP (As := [.int x2, .int (σ.1 14), .int 60]) (rest := []) (c_X11_isWithin (R := { frames := 0, cells := 0, slots := 0, locals := 0 }) Z.i (Nat.le_refl _) (Nat.le_refl _) hv3) cV_X11_144 rfl rfl ⟨(Nat.le_trans (Nat.le_of_ble_eq_true rfl) hRf), (Nat.le_trans (Nat.le_of_ble_eq_true rfl) hRl)⟩ rfl hl.1 rfl (Nat.le_of_ble_eq_true rfl) dX11_latest_18 ⟨Nat.zero_le _, Nat.zero_le _⟩) ?_
    refine lv_if_ne (tgt := 26) hx hb dX11_latest_21 (by decide) (fun c4 => ?_) (fun c4 => ?_)
    · rw [if_neg c4] at h
      refine lv_iload_n hx hb dX11_latest_26 rfl (lv_at hl 2 rfl) ?_
      refine lv_iconst (v := 1) hx hb dX11_latest_27 (by decide) ?_
      refine lv_iadd hx hb dX11_latest_28 ?_
      refine lv_istore_n (lv' := [(3, .int (x2 + 1)), (0, .ref (ad 0)), (1, .int x1), (2, .int x2)]) hx hb dX11_latest_29 rfl hl (by decide) rfl (fun ls hl => ?_)
      obtain ⟨rs10, hrs10, h⟩ := bd h
      refine w_X11_latest_L30 Z hP hr hlk hRf hRl out FU x1 x2 ((x2 + 1)) rs10 hrs10 _ (lv_sub hl [1, 2, 3, 0] rfl) (fun r9 e1 => ?_) (fun y8 e1 ls hl => ?_)
      · subst e1
        rw [Sum.elim_inl] at h
        exact (Option.some.inj h)
      · subst e1
        rw [Sum.elim_inr] at h
        refine lv_bipush (v := (-9)) hx hb dX11_latest_59 (by decide) ?_
        exact zri Z hr hlk h dX11_latest_61
    · rw [if_pos c4] at h
      refine lv_iconst (v := (-1)) hx hb dX11_latest_24 (by decide) ?_
      exact zri Z hr hlk h dX11_latest_25
def m_X11_says (σ : Sx) (x1 : Int32) (x2 : Int32) (x3 : Int32) (x4 : Int32) : Option (Int32 × Sx) :=
  (m_X11_isPhone σ x1).bind (fun v1 => if v1 = 0 then (some (((-1), σ))) else ((m_X11_isWithin x2 0 100).bind (fun v3 => if v3 = 0 then (some (((-1), σ))) else ((m_X11_isWithin x3 1 20).bind (fun v5 => if v5 = 0 then (some (((-1), σ))) else ((m_X11_isWithin x4 0 100).bind (fun v7 => if v7 = 0 then (some (((-1), σ))) else (if (σ.1 23) < 6 then ((stA cLn σ 19 ((σ.1 23)) x1).bind (fun q10 => (stA cLn q10 20 ((q10.1 23)) x2).bind (fun q11 => (stA cLn q11 21 ((q11.1 23)) x3).bind (fun q12 => (stA cLn q12 22 ((q12.1 23)) x4).bind (fun q13 => some (((((sg q13 23 (((q13.1 23) + 1)))).1 23), (sg q13 23 (((q13.1 23) + 1)))))))))) else (some (((-3), σ)))))))))))
set_option maxHeartbeats 4000000 in
set_option maxRecDepth 100000 in
theorem c_X11_says {l : Launch} {D : va_G} {cy : Nat → ClassId} {ad : Nat → Nat} {σ τ : Sx} {R : Room} (hI : gInj ad) (hRf : 2 ≤ R.frames) (hRl : 43 ≤ R.locals) {x1 : Int32} {x2 : Int32} {x3 : Int32} {x4 : Int32} {out : Int32 × Sx} (h : m_X11_says σ x1 x2 x3 x4 = some out) : Met l yX11_says [Cond.code yX11_says cX11_says 5 (some .int)] R (va_Pc [.ref (ad 0), .int x1, .int x2, .int x3, .int x4] (gB D cy ad σ τ)) (cQi D cy ad τ out) 0 0 (gA ad) := by
  refine zstart [.ref (ad 0), .int x1, .int x2, .int x3, .int x4] (by decide) rfl hI (Nat.le_of_ble_eq_true rfl) ?_
  intro p e s m below meth c Z hr hlk hP ls hl
  have hx := Z.x
  have hb := Z.b
  generalize hargs : ([.ref (ad 0), .int x1, .int x2, .int x3, .int x4] : List Value).toArray = args
  have hl : lv_has ls 5 [(0, .ref (ad 0)), (1, .int x1), (2, .int x2), (3, .int x3), (4, .int x4)] := hl
  have hS : va_S (gA ad) s.heap s.heap [] := va_S.rf
  unfold m_X11_says at h
  refine lv_aload_n hx hb dX11_says_0 rfl (lv_at hl 0 rfl) ?_
  refine lv_iload_n hx hb dX11_says_1 rfl (lv_at hl 1 rfl) ?_
  obtain ⟨v1, hv1, h⟩ := bd h
  refine zqi (zrunV Z hP (As := [.int x1]) (rest := []) (c_X11_isPhone (R := { frames := 1, cells := 0, slots := 0, locals := 22 }) Z.i (Nat.le_refl _) (Nat.le_refl _) hv1) cV_X11_123 rfl rfl ⟨(Nat.le_trans (Nat.le_of_ble_eq_true rfl) hRf), (Nat.le_trans (Nat.le_of_ble_eq_true rfl) hRl)⟩ 0 (gW_o rfl) rfl rfl rfl hl.1 rfl (Nat.le_of_ble_eq_true rfl) dX11_says_2 ⟨Nat.zero_le _, Nat.zero_le _⟩) ?_
  refine lv_if_eq (tgt := 39) hx hb dX11_says_5 (by decide) (fun c2 => ?_) (fun c2 => ?_)
  · rw [if_pos c2] at h
    refine lv_iconst (v := (-1)) hx hb dX11_says_39 (by decide) ?_
    exact zci Z hP hS hr hlk h dX11_says_40
  · rw [if_neg c2] at h
    refine lv_iload_n hx hb dX11_says_8 rfl (lv_at hl 2 rfl) ?_
    refine lv_iconst (v := 0) hx hb dX11_says_9 (by decide) ?_
    refine lv_bipush (v := 100) hx hb dX11_says_10 (by decide) ?_
    obtain ⟨v3, hv3, h⟩ := bd h
    refine zqi (zrunS Z hP (As := [.int x2, .int 0, .int 100]) (rest := []) (c_X11_isWithin (R := { frames := 0, cells := 0, slots := 0, locals := 0 }) Z.i (Nat.le_refl _) (Nat.le_refl _) hv3) cV_X11_144 rfl rfl ⟨(Nat.le_trans (Nat.le_of_ble_eq_true rfl) hRf), (Nat.le_trans (Nat.le_of_ble_eq_true rfl) hRl)⟩ rfl hl.1 rfl (Nat.le_of_ble_eq_true rfl) dX11_says_12 ⟨Nat.zero_le _, Nat.zero_le _⟩) ?_
    refine lv_if_eq (tgt := 39) hx hb dX11_says_15 (by decide) (fun c4 => ?_) (fun c4 => ?_)
    · rw [if_pos c4] at h
      refine lv_iconst (v := (-1)) hx hb dX11_says_39 (by decide) ?_
      exact zci Z hP hS hr hlk h dX11_says_40
    · rw [if_neg c4] at h
      refine lv_iload_n hx hb dX11_says_18 rfl (lv_at hl 3 rfl) ?_
      refine lv_iconst (v := 1) hx hb dX11_says_19 (by decide) ?_
      refine lv_bipush (v := 20) hx hb dX11_says_20 (by decide) ?_
      obtain ⟨v5, hv5, h⟩ := bd h
      refine zqi (zrunS Z hP (As := [.int x3, .int 1, .int 20]) (rest := []) (c_X11_isWithin (R := { frames := 0, cells := 0, slots := 0, locals := 0 }) Z.i (Nat.le_refl _) (Nat.le_refl _) hv5) cV_X11_144 rfl rfl ⟨(Nat.le_trans (Nat.le_of_ble_eq_true rfl) hRf), (Nat.le_trans (Nat.le_of_ble_eq_true rfl) hRl)⟩ rfl hl.1 rfl (Nat.le_of_ble_eq_true rfl) dX11_says_22 ⟨Nat.zero_le _, Nat.zero_le _⟩) ?_
      refine lv_if_eq (tgt := 39) hx hb dX11_says_25 (by decide) (fun c6 => ?_) (fun c6 => ?_)
      · rw [if_pos c6] at h
        refine lv_iconst (v := (-1)) hx hb dX11_says_39 (by decide) ?_
        exact zci Z hP hS hr hlk h dX11_says_40
      · rw [if_neg c6] at h
        refine lv_iload hx hb dX11_says_28 (lv_at hl 4 rfl) ?_
        refine lv_iconst (v := 0) hx hb dX11_says_30 (by decide) ?_
        refine lv_bipush (v := 100) hx hb dX11_says_31 (by decide) ?_
        obtain ⟨v7, hv7, h⟩ := bd h
        refine zqi (zrunS Z hP (As := [.int x4, .int 0, .int 100]) (rest := []) (c_X11_isWithin (R := { frames := 0, cells := 0, slots := 0, locals := 0 }) Z.i (Nat.le_refl _) (Nat.le_refl _) hv7) cV_X11_144 rfl rfl ⟨(Nat.le_trans (Nat.le_of_ble_eq_true rfl) hRf), (Nat.le_trans (Nat.le_of_ble_eq_true rfl) hRl)⟩ rfl hl.1 rfl (Nat.le_of_ble_eq_true rfl) dX11_says_33 ⟨Nat.zero_le _, Nat.zero_le _⟩) ?_
        refine lv_if_ne (tgt := 41) hx hb dX11_says_36 (by decide) (fun c8 => ?_) (fun c8 => ?_)
        · rw [if_neg c8] at h
          refine lv_aload_n hx hb dX11_says_41 rfl (lv_at hl 0 rfl) ?_
          refine fg_0_13 Z hP wF_X11_75 dX11_says_42 ?_
          refine lv_bipush (v := 6) hx hb dX11_says_45 (by decide) ?_
          refine lv_icmp_lt (tgt := 53) hx hb dX11_says_47 (by decide) (fun c9 => ?_) (fun c9 => ?_)
          · rw [if_pos c9] at h
            refine lv_aload_n hx hb dX11_says_53 rfl (lv_at hl 0 rfl) ?_
            refine fg_0_9 Z hP wF_X11_62 dX11_says_54 ?_
            refine lv_aload_n hx hb dX11_says_57 rfl (lv_at hl 0 rfl) ?_
            refine fg_0_13 Z hP wF_X11_75 dX11_says_58 ?_
            refine lv_iload_n hx hb dX11_says_61 rfl (lv_at hl 1 rfl) ?_
            obtain ⟨q10, hq10, h⟩ := bd h
            refine zc_st (j := 19) Z hP hS hq10 dX11_says_62 (fun H locs hP hS => ?_)
            refine lv_aload_n hx hb dX11_says_63 rfl (lv_at hl 0 rfl) ?_
            refine fg_0_10 Z hP wF_X11_66 dX11_says_64 ?_
            refine lv_aload_n hx hb dX11_says_67 rfl (lv_at hl 0 rfl) ?_
            refine fg_0_13 Z hP wF_X11_75 dX11_says_68 ?_
            refine lv_iload_n hx hb dX11_says_71 rfl (lv_at hl 2 rfl) ?_
            obtain ⟨q11, hq11, h⟩ := bd h
            refine zc_st (j := 20) Z hP hS hq11 dX11_says_72 (fun H locs hP hS => ?_)
            refine lv_aload_n hx hb dX11_says_73 rfl (lv_at hl 0 rfl) ?_
            refine fg_0_11 Z hP wF_X11_69 dX11_says_74 ?_
            refine lv_aload_n hx hb dX11_says_77 rfl (lv_at hl 0 rfl) ?_
            refine fg_0_13 Z hP wF_X11_75 dX11_says_78 ?_
            refine lv_iload_n hx hb dX11_says_81 rfl (lv_at hl 3 rfl) ?_
            obtain ⟨q12, hq12, h⟩ := bd h
            refine zc_st (j := 21) Z hP hS hq12 dX11_says_82 (fun H locs hP hS => ?_)
            refine lv_aload_n hx hb dX11_says_83 rfl (lv_at hl 0 rfl) ?_
            refine fg_0_12 Z hP wF_X11_72 dX11_says_84 ?_
            refine lv_aload_n hx hb dX11_says_87 rfl (lv_at hl 0 rfl) ?_
            refine fg_0_13 Z hP wF_X11_75 dX11_says_88 ?_
            refine lv_iload hx hb dX11_says_91 (lv_at hl 4 rfl) ?_
            obtain ⟨q13, hq13, h⟩ := bd h
            refine zc_st (j := 22) Z hP hS hq13 dX11_says_93 (fun H locs hP hS => ?_)
            refine lv_aload_n hx hb dX11_says_94 rfl (lv_at hl 0 rfl) ?_
            refine lv_dup hx hb dX11_says_95 rfl ?_
            refine fg_0_13 Z hP wF_X11_75 dX11_says_96 ?_
            refine lv_iconst (v := 1) hx hb dX11_says_99 (by decide) ?_
            refine lv_iadd hx hb dX11_says_100 ?_
            refine fp_0_13 Z hP hS wF_X11_75 dX11_says_101 (fun H locs hP hS => ?_)
            refine lv_aload_n hx hb dX11_says_104 rfl (lv_at hl 0 rfl) ?_
            refine fg_0_13 Z hP wF_X11_75 dX11_says_105 ?_
            exact zci Z hP hS hr hlk h dX11_says_108
          · rw [if_neg c9] at h
            refine lv_bipush (v := (-3)) hx hb dX11_says_50 (by decide) ?_
            exact zci Z hP hS hr hlk h dX11_says_52
        · rw [if_pos c8] at h
          refine lv_iconst (v := (-1)) hx hb dX11_says_39 (by decide) ?_
          exact zci Z hP hS hr hlk h dX11_says_40
def m_X11_forget (σ : Sx) : Option (Int32 × Sx) :=
  some (((σ.1 23), (sg σ 23 0)))
set_option maxHeartbeats 4000000 in
set_option maxRecDepth 100000 in
theorem c_X11_forget {l : Launch} {D : va_G} {cy : Nat → ClassId} {ad : Nat → Nat} {σ τ : Sx} {R : Room} (hI : gInj ad) (hRf : 0 ≤ R.frames) (hRl : 0 ≤ R.locals) {out : Int32 × Sx} (h : m_X11_forget σ = some out) : Met l yX11_forget [Cond.code yX11_forget cX11_forget 2 (some .int)] R (va_Pc [.ref (ad 0)] (gB D cy ad σ τ)) (cQi D cy ad τ out) 0 0 (gA ad) := by
  refine zstart [.ref (ad 0)] (by decide) rfl hI (Nat.le_of_ble_eq_true rfl) ?_
  intro p e s m below meth c Z hr hlk hP ls hl
  have hx := Z.x
  have hb := Z.b
  generalize hargs : ([.ref (ad 0)] : List Value).toArray = args
  have hl : lv_has ls 2 [(0, .ref (ad 0))] := hl
  have hS : va_S (gA ad) s.heap s.heap [] := va_S.rf
  unfold m_X11_forget at h
  refine lv_aload_n hx hb dX11_forget_0 rfl (lv_at hl 0 rfl) ?_
  refine fg_0_13 Z hP wF_X11_75 dX11_forget_1 ?_
  refine lv_istore_n (lv' := [(1, .int (σ.1 23)), (0, .ref (ad 0))]) hx hb dX11_forget_4 rfl hl (by decide) rfl (fun ls hl => ?_)
  refine lv_aload_n hx hb dX11_forget_5 rfl (lv_at hl 1 rfl) ?_
  refine lv_iconst (v := 0) hx hb dX11_forget_6 (by decide) ?_
  refine fp_0_13 Z hP hS wF_X11_75 dX11_forget_7 (fun H locs hP hS => ?_)
  refine lv_iload_n hx hb dX11_forget_10 rfl (lv_at hl 0 rfl) ?_
  exact zci Z hP hS hr hlk h dX11_forget_11
def m_X11_leadsToWhatWasSeen_L5 (σ : Sx) : Nat → Int32 → Int32 → Int32 → Option (Int32 × Int32)
  | 0, _, _, _ => none
  | n + 1, x1, x3, x4 =>
  (ldA cLn σ 21 x1).bind (fun v1 => if v1 ≤ x4 then (some ((x1, x3))) else ((ldA cLn σ 19 x1).bind (fun v3 => (m_X10_filled σ v3 x3).bind (fun v4 => m_X11_leadsToWhatWasSeen_L5 σ n x1 v4 ((x4 + 1))))))
def m_X11_leadsToWhatWasSeen (σ : Sx) (x1 : Int32) (x2 : Int32) : Option (Int32) :=
  (m_X11_leadsToWhatWasSeen_L5 σ FU x1 x2 0).bind (fun y5 => (ldA cLn σ 22 y5.1).bind (fun v6 => if y5.2 = v6 then (some 1) else (some 0)))
set_option maxHeartbeats 4000000 in
set_option maxRecDepth 100000 in
theorem w_X11_leadsToWhatWasSeen_L5 {l : Launch} {D : va_G} {cy : Nat → ClassId} {ad : Nat → Nat} {σ τ : Sx} {p : Program} {e : Env} {R : Room} {s : State} {m : MethodId} {args : Array Value} {below : List Frame} {meth : Method} {c : Code} (Z : Zc p s m c cX11_leadsToWhatWasSeen 5 RX11 D cy ad) (hP : va_P D vwCl (gW cy ad σ τ) s.heap) (hr : meth.sig.returnType = (some .boolean)) (hlk : meth.locks = false) (hRf : 2 ≤ R.frames) (hRl : 36 ≤ R.locals) (out : Int32) : ∀ (n : Nat) (x1 : Int32) (x3 : Int32) (x4 : Int32) (res : Int32 × Int32), m_X11_leadsToWhatWasSeen_L5 σ n x1 x3 x4 = some res → ∀ ls : Array Slot, lv_has ls 5 [(0, .ref (ad 0)), (1, .int x1), (3, .int x3), (4, .int x4)] → (∀ ls : Array Slot, lv_has ls 5 [(0, .ref (ad 0)), (1, .int res.1), (3, .int res.2)] → W p l e R s m args below meth c s.heap [] 0 0 (MQ below (rQi out) args s 0 0 noA) (F0 m 37 ls [])) → W p l e R s m args below meth c s.heap [] 0 0 (MQ below (rQi out) args s 0 0 noA) (F0 m 5 ls []) := by
  have hx := Z.x
  have hb := Z.b
  intro n
  induction n with
  | zero => intro x1 x3 x4 res h; cases h
  | succ n ih =>
    intro x1 x3 x4 res h ls hl kx
    rw [m_X11_leadsToWhatWasSeen_L5] at h
    refine lv_iload hx hb dX11_leadsToWhatWasSeen_5 (lv_at hl 3 rfl) ?_
    refine lv_aload_n hx hb dX11_leadsToWhatWasSeen_7 rfl (lv_at hl 0 rfl) ?_
    refine fg_0_11 Z hP wF_X11_69 dX11_leadsToWhatWasSeen_8 ?_
    refine lv_iload_n hx hb dX11_leadsToWhatWasSeen_11 rfl (lv_at hl 1 rfl) ?_
    obtain ⟨v1, hv1, h⟩ := bd h
    refine zc_ld (j := 21) Z hP hv1 dX11_leadsToWhatWasSeen_12 ?_
    refine lv_icmp_ge (tgt := 37) hx hb dX11_leadsToWhatWasSeen_13 (by decide) (fun c2 => ?_) (fun c2 => ?_)
    · rw [if_pos c2] at h
      obtain rfl := Option.some.inj h
      exact kx _ (lv_sub hl [0, 1, 2] rfl)
    · rw [if_neg c2] at h
      refine lv_aload_n hx hb dX11_leadsToWhatWasSeen_16 rfl (lv_at hl 0 rfl) ?_
      refine fg_0_0 Z hP wF_X11_10 dX11_leadsToWhatWasSeen_17 ?_
      refine lv_aload_n hx hb dX11_leadsToWhatWasSeen_20 rfl (lv_at hl 0 rfl) ?_
      refine fg_0_9 Z hP wF_X11_62 dX11_leadsToWhatWasSeen_21 ?_
      refine lv_iload_n hx hb dX11_leadsToWhatWasSeen_24 rfl (lv_at hl 1 rfl) ?_
      obtain ⟨v3, hv3, h⟩ := bd h
      refine zc_ld (j := 19) Z hP hv3 dX11_leadsToWhatWasSeen_25 ?_
      refine lv_iload_n hx hb dX11_leadsToWhatWasSeen_26 rfl (lv_at hl 2 rfl) ?_
      obtain ⟨v4, hv4, h⟩ := bd h
      refine zqi (zrunV Z hP (As := [.int v3, .int x3]) (rest := []) (c_X10_filled (R := { frames := 1, cells := 0, slots := 0, locals := 13 }) Z.i (Nat.le_refl _) (Nat.le_refl _) hv4) cV_X11_232 rfl rfl ⟨(Nat.le_trans (Nat.le_of_ble_eq_true rfl) hRf), (Nat.le_trans (Nat.le_of_ble_eq_true rfl) hRl)⟩ 1 (gW_o rfl) rfl rfl rfl hl.1 rfl (Nat.le_of_ble_eq_true rfl) dX11_leadsToWhatWasSeen_27 ⟨Nat.zero_le _, Nat.zero_le _⟩) ?_
      refine lv_istore_n (lv' := [(3, .int v4), (0, .ref (ad 0)), (1, .int x1), (4, .int x4)]) hx hb dX11_leadsToWhatWasSeen_30 rfl hl (by decide) rfl (fun ls hl => ?_)
      refine lv_iinc (v := (x4 + 1)) (lv' := [(4, .int (x4 + 1)), (3, .int v4), (0, .ref (ad 0)), (1, .int x1)]) hx hb dX11_leadsToWhatWasSeen_31 hl (k := 3) rfl rfl (by decide) rfl (fun ls hl => ?_)
      refine lv_goto (tgt := 5) hx hb dX11_leadsToWhatWasSeen_34 (by decide) ?_
      exact ih x1 v4 ((x4 + 1)) _ h _ (lv_sub hl [2, 3, 1, 0] rfl) kx
set_option maxHeartbeats 4000000 in
set_option maxRecDepth 100000 in
theorem c_X11_leadsToWhatWasSeen {l : Launch} {D : va_G} {cy : Nat → ClassId} {ad : Nat → Nat} {σ τ : Sx} {R : Room} (hI : gInj ad) (hRf : 2 ≤ R.frames) (hRl : 36 ≤ R.locals) {x1 : Int32} {x2 : Int32} {out : Int32} (h : m_X11_leadsToWhatWasSeen σ x1 x2 = some out) : Met l yX11_leadsToWhatWasSeen [Cond.code yX11_leadsToWhatWasSeen cX11_leadsToWhatWasSeen 5 (some .boolean)] R (va_Pc [.ref (ad 0), .int x1, .int x2] (gB D cy ad σ τ)) (rQi out) 0 0 noA := by
  refine zstart [.ref (ad 0), .int x1, .int x2] (by decide) rfl hI (Nat.le_of_ble_eq_true rfl) ?_
  intro p e s m below meth c Z hr hlk hP ls hl
  have hx := Z.x
  have hb := Z.b
  generalize hargs : ([.ref (ad 0), .int x1, .int x2] : List Value).toArray = args
  have hl : lv_has ls 5 [(0, .ref (ad 0)), (1, .int x1), (2, .int x2)] := hl
  unfold m_X11_leadsToWhatWasSeen at h
  refine lv_iload_n hx hb dX11_leadsToWhatWasSeen_0 rfl (lv_at hl 2 rfl) ?_
  refine lv_istore_n (lv' := [(3, .int x2), (0, .ref (ad 0)), (1, .int x1), (2, .int x2)]) hx hb dX11_leadsToWhatWasSeen_1 rfl hl (by decide) rfl (fun ls hl => ?_)
  refine lv_iconst (v := 0) hx hb dX11_leadsToWhatWasSeen_2 (by decide) ?_
  refine lv_istore (lv' := [(4, .int 0), (3, .int x2), (0, .ref (ad 0)), (1, .int x1), (2, .int x2)]) hx hb dX11_leadsToWhatWasSeen_3 hl (by decide) rfl (fun ls hl => ?_)
  obtain ⟨y5, hy5, h⟩ := bd h
  refine w_X11_leadsToWhatWasSeen_L5 Z hP hr hlk hRf hRl out FU x1 x2 0 y5 hy5 _ (lv_sub hl [2, 3, 1, 0] rfl) (fun ls hl => ?_)
  refine lv_iload_n hx hb dX11_leadsToWhatWasSeen_37 rfl (lv_at hl 2 rfl) ?_
  refine lv_aload_n hx hb dX11_leadsToWhatWasSeen_38 rfl (lv_at hl 0 rfl) ?_
  refine fg_0_12 Z hP wF_X11_72 dX11_leadsToWhatWasSeen_39 ?_
  refine lv_iload_n hx hb dX11_leadsToWhatWasSeen_42 rfl (lv_at hl 1 rfl) ?_
  obtain ⟨v6, hv6, h⟩ := bd h
  refine zc_ld (j := 22) Z hP hv6 dX11_leadsToWhatWasSeen_43 ?_
  refine lv_icmp_ne (tgt := 51) hx hb dX11_leadsToWhatWasSeen_44 (by decide) (fun c7 => ?_) (fun c7 => ?_)
  · rw [if_neg c7] at h
    refine lv_iconst (v := 0) hx hb dX11_leadsToWhatWasSeen_51 (by decide) ?_
    exact zrzc Z hr hlk (Or.inl rfl) h dX11_leadsToWhatWasSeen_52
  · rw [if_pos c7] at h
    refine lv_iconst (v := 1) hx hb dX11_leadsToWhatWasSeen_47 (by decide) ?_
    refine lv_goto (tgt := 52) hx hb dX11_leadsToWhatWasSeen_48 (by decide) ?_
    exact zrzc Z hr hlk (Or.inr rfl) h dX11_leadsToWhatWasSeen_52
def m_X11_could_L38 (σ : Sx) : Nat → Int32 → Int32 → Int32 → Int32 → Int32 → Int32 → Option (Int32 × Int32 × Int32 × Int32)
  | 0, _, _, _, _, _, _ => none
  | n + 1, x1, x2, x3, x4, x5, x6 =>
  if 100 < x6 then (some ((x2, x3, x4, x5))) else ((m_X11_leadsToWhatWasSeen σ x1 x6).bind (fun v6 => if v6 = 0 then (m_X11_could_L38 σ n x1 x2 x3 x4 x5 ((x6 + 1))) else (if (x3 + 1) = 1 then (m_X11_could_L38 σ n x1 x2 ((x3 + 1)) x6 x6 ((x6 + 1))) else (m_X11_could_L38 σ n x1 x2 ((x3 + 1)) x4 x6 ((x6 + 1))))))
def m_X11_could (σ : Sx) (x1 : Int32) (x2 : Int32) : Option (Int32) :=
  (m_X11_isWithin x1 0 (((σ.1 23) - 1))).bind (fun v1 => if v1 = 0 then (some ((-1))) else ((m_X11_isWithin x2 0 2).bind (fun v3 => if v3 = 0 then (some ((-1))) else ((m_X11_could_L38 σ FU x1 x2 0 ((-9)) ((-9)) 0).bind (fun y9 => if y9.1 = 0 then (some y9.2.1) else (if y9.1 = 1 then (some y9.2.2.1) else (some y9.2.2.2)))))))
set_option maxHeartbeats 4000000 in
set_option maxRecDepth 100000 in
theorem w_X11_could_L38 {l : Launch} {D : va_G} {cy : Nat → ClassId} {ad : Nat → Nat} {σ τ : Sx} {p : Program} {e : Env} {R : Room} {s : State} {m : MethodId} {args : Array Value} {below : List Frame} {meth : Method} {c : Code} (Z : Zc p s m c cX11_could 7 RX11 D cy ad) (hP : va_P D vwCl (gW cy ad σ τ) s.heap) (hr : meth.sig.returnType = (some .int)) (hlk : meth.locks = false) (hRf : 3 ≤ R.frames) (hRl : 60 ≤ R.locals) (out : Int32) : ∀ (n : Nat) (x1 : Int32) (x2 : Int32) (x3 : Int32) (x4 : Int32) (x5 : Int32) (x6 : Int32) (res : Int32 × Int32 × Int32 × Int32), m_X11_could_L38 σ n x1 x2 x3 x4 x5 x6 = some res → ∀ ls : Array Slot, lv_has ls 7 [(0, .ref (ad 0)), (1, .int x1), (2, .int x2), (3, .int x3), (4, .int x4), (5, .int x5), (6, .int x6)] → (∀ ls : Array Slot, lv_has ls 7 [(2, .int res.1), (3, .int res.2.1), (4, .int res.2.2.1), (5, .int res.2.2.2)] → W p l e R s m args below meth c s.heap [] 0 0 (MQ below (rQi out) args s 0 0 noA) (F0 m 82 ls [])) → W p l e R s m args below meth c s.heap [] 0 0 (MQ below (rQi out) args s 0 0 noA) (F0 m 38 ls []) := by
  have hx := Z.x
  have hb := Z.b
  intro n
  induction n with
  | zero => intro x1 x2 x3 x4 x5 x6 res h; cases h
  | succ n ih =>
    intro x1 x2 x3 x4 x5 x6 res h ls hl kx
    rw [m_X11_could_L38] at h
    refine lv_iload hx hb dX11_could_38 (lv_at hl 6 rfl) ?_
    refine lv_bipush (v := 100) hx hb dX11_could_40 (by decide) ?_
    refine lv_icmp_gt (tgt := 82) hx hb dX11_could_42 (by decide) (fun c5 => ?_) (fun c5 => ?_)
    · rw [if_pos c5] at h
      obtain rfl := Option.some.inj h
      exact kx _ (lv_sub hl [2, 3, 4, 5] rfl)
    · rw [if_neg c5] at h
      refine lv_aload_n hx hb dX11_could_45 rfl (lv_at hl 0 rfl) ?_
      refine lv_iload_n hx hb dX11_could_46 rfl (lv_at hl 1 rfl) ?_
      refine lv_iload hx hb dX11_could_47 (lv_at hl 6 rfl) ?_
      obtain ⟨v6, hv6, h⟩ := bd h
      refine zqi (zrunV Z hP (As := [.int x1, .int x6]) (rest := []) (c_X11_leadsToWhatWasSeen (R := { frames := 2, cells := 0, slots := 0, locals := 36 }) Z.i (Nat.le_refl _) (Nat.le_refl _) hv6) cV_X11_228 rfl rfl ⟨(Nat.le_trans (Nat.le_of_ble_eq_true rfl) hRf), (Nat.le_trans (Nat.le_of_ble_eq_true rfl) hRl)⟩ 0 (gW_o rfl) rfl rfl rfl hl.1 rfl (Nat.le_of_ble_eq_true rfl) dX11_could_49 ⟨Nat.zero_le _, Nat.zero_le _⟩) ?_
      refine lv_if_eq (tgt := 76) hx hb dX11_could_52 (by decide) (fun c7 => ?_) (fun c7 => ?_)
      · rw [if_pos c7] at h
        refine lv_iinc (v := (x6 + 1)) (lv' := [(6, .int (x6 + 1)), (0, .ref (ad 0)), (1, .int x1), (2, .int x2), (3, .int x3), (4, .int x4), (5, .int x5)]) hx hb dX11_could_76 hl (k := 6) rfl rfl (by decide) rfl (fun ls hl => ?_)
        refine lv_goto (tgt := 38) hx hb dX11_could_79 (by decide) ?_
        exact ih x1 x2 x3 x4 x5 ((x6 + 1)) _ h _ (lv_sub hl [1, 2, 3, 4, 5, 6, 0] rfl) kx
      · rw [if_neg c7] at h
        refine lv_iinc (v := (x3 + 1)) (lv' := [(3, .int (x3 + 1)), (0, .ref (ad 0)), (1, .int x1), (2, .int x2), (4, .int x4), (5, .int x5), (6, .int x6)]) hx hb dX11_could_55 hl (k := 3) rfl rfl (by decide) rfl (fun ls hl => ?_)
        refine lv_iload_n hx hb dX11_could_58 rfl (lv_at hl 0 rfl) ?_
        refine lv_iconst (v := 1) hx hb dX11_could_59 (by decide) ?_
        refine lv_icmp_ne (tgt := 68) hx hb dX11_could_60 (by decide) (fun c8 => ?_) (fun c8 => ?_)
        · rw [if_neg c8] at h
          refine lv_iload hx hb dX11_could_68 (lv_at hl 4 rfl) ?_
          refine lv_istore (lv' := [(4, .int x4), (3, .int (x3 + 1)), (0, .ref (ad 0)), (1, .int x1), (2, .int x2), (5, .int x5), (6, .int x6)]) hx hb dX11_could_70 hl (by decide) rfl (fun ls hl => ?_)
          refine lv_iload hx hb dX11_could_72 (lv_at hl 6 rfl) ?_
          refine lv_istore (lv' := [(5, .int x6), (4, .int x4), (3, .int (x3 + 1)), (0, .ref (ad 0)), (1, .int x1), (2, .int x2), (6, .int x6)]) hx hb dX11_could_74 hl (by decide) rfl (fun ls hl => ?_)
          refine lv_iinc (v := (x6 + 1)) (lv' := [(6, .int (x6 + 1)), (5, .int x6), (4, .int x4), (3, .int (x3 + 1)), (0, .ref (ad 0)), (1, .int x1), (2, .int x2)]) hx hb dX11_could_76 hl (k := 6) rfl rfl (by decide) rfl (fun ls hl => ?_)
          refine lv_goto (tgt := 38) hx hb dX11_could_79 (by decide) ?_
          exact ih x1 x2 ((x3 + 1)) x4 x6 ((x6 + 1)) _ h _ (lv_sub hl [4, 5, 6, 3, 2, 1, 0] rfl) kx
        · rw [if_pos c8] at h
          refine lv_iload hx hb dX11_could_63 (lv_at hl 6 rfl) ?_
          refine lv_goto (tgt := 70) hx hb dX11_could_65 (by decide) ?_
          refine lv_istore (lv' := [(4, .int x6), (3, .int (x3 + 1)), (0, .ref (ad 0)), (1, .int x1), (2, .int x2), (5, .int x5), (6, .int x6)]) hx hb dX11_could_70 hl (by decide) rfl (fun ls hl => ?_)
          refine lv_iload hx hb dX11_could_72 (lv_at hl 6 rfl) ?_
          refine lv_istore (lv' := [(5, .int x6), (4, .int x6), (3, .int (x3 + 1)), (0, .ref (ad 0)), (1, .int x1), (2, .int x2), (6, .int x6)]) hx hb dX11_could_74 hl (by decide) rfl (fun ls hl => ?_)
          refine lv_iinc (v := (x6 + 1)) (lv' := [(6, .int (x6 + 1)), (5, .int x6), (4, .int x6), (3, .int (x3 + 1)), (0, .ref (ad 0)), (1, .int x1), (2, .int x2)]) hx hb dX11_could_76 hl (k := 6) rfl rfl (by decide) rfl (fun ls hl => ?_)
          refine lv_goto (tgt := 38) hx hb dX11_could_79 (by decide) ?_
          exact ih x1 x2 ((x3 + 1)) x6 x6 ((x6 + 1)) _ h _ (lv_sub hl [4, 5, 6, 3, 2, 1, 0] rfl) kx
set_option maxHeartbeats 4000000 in
set_option maxRecDepth 100000 in
theorem c_X11_could {l : Launch} {D : va_G} {cy : Nat → ClassId} {ad : Nat → Nat} {σ τ : Sx} {R : Room} (hI : gInj ad) (hRf : 3 ≤ R.frames) (hRl : 60 ≤ R.locals) {x1 : Int32} {x2 : Int32} {out : Int32} (h : m_X11_could σ x1 x2 = some out) : Met l yX11_could [Cond.code yX11_could cX11_could 7 (some .int)] R (va_Pc [.ref (ad 0), .int x1, .int x2] (gB D cy ad σ τ)) (rQi out) 0 0 noA := by
  refine zstart [.ref (ad 0), .int x1, .int x2] (by decide) rfl hI (Nat.le_of_ble_eq_true rfl) ?_
  intro p e s m below meth c Z hr hlk hP ls hl
  have hx := Z.x
  have hb := Z.b
  generalize hargs : ([.ref (ad 0), .int x1, .int x2] : List Value).toArray = args
  have hl : lv_has ls 7 [(0, .ref (ad 0)), (1, .int x1), (2, .int x2)] := hl
  unfold m_X11_could at h
  refine lv_iload_n hx hb dX11_could_0 rfl (lv_at hl 1 rfl) ?_
  refine lv_iconst (v := 0) hx hb dX11_could_1 (by decide) ?_
  refine lv_aload_n hx hb dX11_could_2 rfl (lv_at hl 0 rfl) ?_
  refine fg_0_13 Z hP wF_X11_75 dX11_could_3 ?_
  refine lv_iconst (v := 1) hx hb dX11_could_6 (by decide) ?_
  refine lv_isub hx hb dX11_could_7 ?_
  obtain ⟨v1, hv1, h⟩ := bd h
  refine zqi (zrunS Z hP (As := [.int x1, .int 0, .int ((σ.1 23) - 1)]) (rest := []) (c_X11_isWithin (R := { frames := 0, cells := 0, slots := 0, locals := 0 }) Z.i (Nat.le_refl _) (Nat.le_refl _) hv1) cV_X11_144 rfl rfl ⟨(Nat.le_trans (Nat.le_of_ble_eq_true rfl) hRf), (Nat.le_trans (Nat.le_of_ble_eq_true rfl) hRl)⟩ rfl hl.1 rfl (Nat.le_of_ble_eq_true rfl) dX11_could_8 ⟨Nat.zero_le _, Nat.zero_le _⟩) ?_
  refine lv_if_eq (tgt := 23) hx hb dX11_could_11 (by decide) (fun c2 => ?_) (fun c2 => ?_)
  · rw [if_pos c2] at h
    refine lv_iconst (v := (-1)) hx hb dX11_could_23 (by decide) ?_
    exact zri Z hr hlk h dX11_could_24
  · rw [if_neg c2] at h
    refine lv_iload_n hx hb dX11_could_14 rfl (lv_at hl 2 rfl) ?_
    refine lv_iconst (v := 0) hx hb dX11_could_15 (by decide) ?_
    refine lv_iconst (v := 2) hx hb dX11_could_16 (by decide) ?_
    obtain ⟨v3, hv3, h⟩ := bd h
    refine zqi (zrunS Z hP (As := [.int x2, .int 0, .int 2]) (rest := []) (c_X11_isWithin (R := { frames := 0, cells := 0, slots := 0, locals := 0 }) Z.i (Nat.le_refl _) (Nat.le_refl _) hv3) cV_X11_144 rfl rfl ⟨(Nat.le_trans (Nat.le_of_ble_eq_true rfl) hRf), (Nat.le_trans (Nat.le_of_ble_eq_true rfl) hRl)⟩ rfl hl.1 rfl (Nat.le_of_ble_eq_true rfl) dX11_could_17 ⟨Nat.zero_le _, Nat.zero_le _⟩) ?_
    refine lv_if_ne (tgt := 25) hx hb dX11_could_20 (by decide) (fun c4 => ?_) (fun c4 => ?_)
    · rw [if_neg c4] at h
      refine lv_iconst (v := 0) hx hb dX11_could_25 (by decide) ?_
      refine lv_istore_n (lv' := [(3, .int 0), (0, .ref (ad 0)), (1, .int x1), (2, .int x2)]) hx hb dX11_could_26 rfl hl (by decide) rfl (fun ls hl => ?_)
      refine lv_bipush (v := (-9)) hx hb dX11_could_27 (by decide) ?_
      refine lv_istore (lv' := [(4, .int (-9)), (3, .int 0), (0, .ref (ad 0)), (1, .int x1), (2, .int x2)]) hx hb dX11_could_29 hl (by decide) rfl (fun ls hl => ?_)
      refine lv_bipush (v := (-9)) hx hb dX11_could_31 (by decide) ?_
      refine lv_istore (lv' := [(5, .int (-9)), (4, .int (-9)), (3, .int 0), (0, .ref (ad 0)), (1, .int x1), (2, .int x2)]) hx hb dX11_could_33 hl (by decide) rfl (fun ls hl => ?_)
      refine lv_iconst (v := 0) hx hb dX11_could_35 (by decide) ?_
      refine lv_istore (lv' := [(6, .int 0), (5, .int (-9)), (4, .int (-9)), (3, .int 0), (0, .ref (ad 0)), (1, .int x1), (2, .int x2)]) hx hb dX11_could_36 hl (by decide) rfl (fun ls hl => ?_)
      obtain ⟨y9, hy9, h⟩ := bd h
      refine w_X11_could_L38 Z hP hr hlk hRf hRl out FU x1 x2 0 ((-9)) ((-9)) 0 y9 hy9 _ (lv_sub hl [4, 5, 6, 3, 2, 1, 0] rfl) (fun ls hl => ?_)
      refine lv_iload_n hx hb dX11_could_82 rfl (lv_at hl 0 rfl) ?_
      refine lv_if_ne (tgt := 90) hx hb dX11_could_83 (by decide) (fun c10 => ?_) (fun c10 => ?_)
      · rw [if_neg c10] at h
        refine lv_iload_n hx hb dX11_could_90 rfl (lv_at hl 0 rfl) ?_
        refine lv_iconst (v := 1) hx hb dX11_could_91 (by decide) ?_
        refine lv_icmp_ne (tgt := 100) hx hb dX11_could_92 (by decide) (fun c11 => ?_) (fun c11 => ?_)
        · rw [if_neg c11] at h
          refine lv_iload hx hb dX11_could_100 (lv_at hl 3 rfl) ?_
          exact zri Z hr hlk h dX11_could_102
        · rw [if_pos c11] at h
          refine lv_iload hx hb dX11_could_95 (lv_at hl 2 rfl) ?_
          refine lv_goto (tgt := 102) hx hb dX11_could_97 (by decide) ?_
          exact zri Z hr hlk h dX11_could_102
      · rw [if_pos c10] at h
        refine lv_iload_n hx hb dX11_could_86 rfl (lv_at hl 1 rfl) ?_
        refine lv_goto (tgt := 102) hx hb dX11_could_87 (by decide) ?_
        exact zri Z hr hlk h dX11_could_102
    · rw [if_pos c4] at h
      refine lv_iconst (v := (-1)) hx hb dX11_could_23 (by decide) ?_
      exact zri Z hr hlk h dX11_could_24
def m_X11_liars_L4 (σ : Sx) : Nat → Int32 → Int32 → Option (Int32)
  | 0, _, _ => none
  | n + 1, x1, x2 =>
  if (σ.1 23) ≤ x2 then (some x1) else ((ldA cLn σ 20 x2).bind (fun v2 => (m_X11_leadsToWhatWasSeen σ x2 v2).bind (fun v3 => if v3 = 0 then (m_X11_liars_L4 σ n ((x1 ||| ((1 : Int32) <<< (x2 &&& 31)))) ((x2 + 1))) else (m_X11_liars_L4 σ n x1 ((x2 + 1))))))
def m_X11_liars (σ : Sx) : Option (Int32) :=
  (m_X11_liars_L4 σ FU 0 0).bind (fun y5 => some y5)
set_option maxHeartbeats 4000000 in
set_option maxRecDepth 100000 in
theorem w_X11_liars_L4 {l : Launch} {D : va_G} {cy : Nat → ClassId} {ad : Nat → Nat} {σ τ : Sx} {p : Program} {e : Env} {R : Room} {s : State} {m : MethodId} {args : Array Value} {below : List Frame} {meth : Method} {c : Code} (Z : Zc p s m c cX11_liars 3 RX11 D cy ad) (hP : va_P D vwCl (gW cy ad σ τ) s.heap) (hr : meth.sig.returnType = (some .int)) (hlk : meth.locks = false) (hRf : 3 ≤ R.frames) (hRl : 60 ≤ R.locals) (out : Int32) : ∀ (n : Nat) (x1 : Int32) (x2 : Int32) (res : Int32), m_X11_liars_L4 σ n x1 x2 = some res → ∀ ls : Array Slot, lv_has ls 3 [(0, .ref (ad 0)), (1, .int x1), (2, .int x2)] → (∀ ls : Array Slot, lv_has ls 3 [(1, .int res)] → W p l e R s m args below meth c s.heap [] 0 0 (MQ below (rQi out) args s 0 0 noA) (F0 m 38 ls [])) → W p l e R s m args below meth c s.heap [] 0 0 (MQ below (rQi out) args s 0 0 noA) (F0 m 4 ls []) := by
  have hx := Z.x
  have hb := Z.b
  intro n
  induction n with
  | zero => intro x1 x2 res h; cases h
  | succ n ih =>
    intro x1 x2 res h ls hl kx
    rw [m_X11_liars_L4] at h
    refine lv_iload_n hx hb dX11_liars_4 rfl (lv_at hl 2 rfl) ?_
    refine lv_aload_n hx hb dX11_liars_5 rfl (lv_at hl 0 rfl) ?_
    refine fg_0_13 Z hP wF_X11_75 dX11_liars_6 ?_
    refine lv_icmp_ge (tgt := 38) hx hb dX11_liars_9 (by decide) (fun c1 => ?_) (fun c1 => ?_)
    · rw [if_pos c1] at h
      obtain rfl := Option.some.inj h
      exact kx _ (lv_sub hl [1] rfl)
    · rw [if_neg c1] at h
      refine lv_aload_n hx hb dX11_liars_12 rfl (lv_at hl 0 rfl) ?_
      refine lv_iload_n hx hb dX11_liars_13 rfl (lv_at hl 2 rfl) ?_
      refine lv_aload_n hx hb dX11_liars_14 rfl (lv_at hl 0 rfl) ?_
      refine fg_0_10 Z hP wF_X11_66 dX11_liars_15 ?_
      refine lv_iload_n hx hb dX11_liars_18 rfl (lv_at hl 2 rfl) ?_
      obtain ⟨v2, hv2, h⟩ := bd h
      refine zc_ld (j := 20) Z hP hv2 dX11_liars_19 ?_
      obtain ⟨v3, hv3, h⟩ := bd h
      refine zqi (zrunV Z hP (As := [.int x2, .int v2]) (rest := []) (c_X11_leadsToWhatWasSeen (R := { frames := 2, cells := 0, slots := 0, locals := 36 }) Z.i (Nat.le_refl _) (Nat.le_refl _) hv3) cV_X11_228 rfl rfl ⟨(Nat.le_trans (Nat.le_of_ble_eq_true rfl) hRf), (Nat.le_trans (Nat.le_of_ble_eq_true rfl) hRl)⟩ 0 (gW_o rfl) rfl rfl rfl hl.1 rfl (Nat.le_of_ble_eq_true rfl) dX11_liars_20 ⟨Nat.zero_le _, Nat.zero_le _⟩) ?_
      refine lv_if_ne (tgt := 32) hx hb dX11_liars_23 (by decide) (fun c4 => ?_) (fun c4 => ?_)
      · rw [if_neg c4] at h
        refine lv_iinc (v := (x2 + 1)) (lv' := [(2, .int (x2 + 1)), (0, .ref (ad 0)), (1, .int x1)]) hx hb dX11_liars_32 hl (k := 2) rfl rfl (by decide) rfl (fun ls hl => ?_)
        refine lv_goto (tgt := 4) hx hb dX11_liars_35 (by decide) ?_
        exact ih x1 ((x2 + 1)) _ h _ (lv_sub hl [1, 2, 0] rfl) kx
      · rw [if_pos c4] at h
        refine lv_iload_n hx hb dX11_liars_26 rfl (lv_at hl 1 rfl) ?_
        refine lv_iconst (v := 1) hx hb dX11_liars_27 (by decide) ?_
        refine lv_iload_n hx hb dX11_liars_28 rfl (lv_at hl 2 rfl) ?_
        refine lv_ishl hx hb dX11_liars_29 ?_
        refine lv_ior hx hb dX11_liars_30 ?_
        refine lv_istore_n (lv' := [(1, .int (x1 ||| ((1 : Int32) <<< (x2 &&& 31)))), (0, .ref (ad 0)), (2, .int x2)]) hx hb dX11_liars_31 rfl hl (by decide) rfl (fun ls hl => ?_)
        refine lv_iinc (v := (x2 + 1)) (lv' := [(2, .int (x2 + 1)), (1, .int (x1 ||| ((1 : Int32) <<< (x2 &&& 31)))), (0, .ref (ad 0))]) hx hb dX11_liars_32 hl (k := 2) rfl rfl (by decide) rfl (fun ls hl => ?_)
        refine lv_goto (tgt := 4) hx hb dX11_liars_35 (by decide) ?_
        exact ih ((x1 ||| ((1 : Int32) <<< (x2 &&& 31)))) ((x2 + 1)) _ h _ (lv_sub hl [2, 1, 0] rfl) kx
set_option maxHeartbeats 4000000 in
set_option maxRecDepth 100000 in
theorem c_X11_liars {l : Launch} {D : va_G} {cy : Nat → ClassId} {ad : Nat → Nat} {σ τ : Sx} {R : Room} (hI : gInj ad) (hRf : 3 ≤ R.frames) (hRl : 60 ≤ R.locals) {out : Int32} (h : m_X11_liars σ = some out) : Met l yX11_liars [Cond.code yX11_liars cX11_liars 3 (some .int)] R (va_Pc [.ref (ad 0)] (gB D cy ad σ τ)) (rQi out) 0 0 noA := by
  refine zstart [.ref (ad 0)] (by decide) rfl hI (Nat.le_of_ble_eq_true rfl) ?_
  intro p e s m below meth c Z hr hlk hP ls hl
  have hx := Z.x
  have hb := Z.b
  generalize hargs : ([.ref (ad 0)] : List Value).toArray = args
  have hl : lv_has ls 3 [(0, .ref (ad 0))] := hl
  unfold m_X11_liars at h
  refine lv_iconst (v := 0) hx hb dX11_liars_0 (by decide) ?_
  refine lv_istore_n (lv' := [(1, .int 0), (0, .ref (ad 0))]) hx hb dX11_liars_1 rfl hl (by decide) rfl (fun ls hl => ?_)
  refine lv_iconst (v := 0) hx hb dX11_liars_2 (by decide) ?_
  refine lv_istore_n (lv' := [(2, .int 0), (1, .int 0), (0, .ref (ad 0))]) hx hb dX11_liars_3 rfl hl (by decide) rfl (fun ls hl => ?_)
  obtain ⟨y5, hy5, h⟩ := bd h
  refine w_X11_liars_L4 Z hP hr hlk hRf hRl out FU 0 0 y5 hy5 _ (lv_sub hl [2, 1, 0] rfl) (fun ls hl => ?_)
  refine lv_iload_n hx hb dX11_liars_38 rfl (lv_at hl 0 rfl) ?_
  exact zri Z hr hlk h dX11_liars_39
def m_X11_odds_L79 (σ : Sx) : Nat → Int32 → Int32 → Int64 → Int64 → Int32 → Option (Int32 × Int64 × Int64)
  | 0, _, _, _, _, _ => none
  | n + 1, x4, x5, x6, x8, x10 =>
  if x4 ≤ x10 then (some ((x5, x6, x8))) else (m_X11_odds_L79 σ n x4 x5 x6 ((x8 * 10)) ((x10 + 1)))
def m_X11_odds (σ : Sx) (x1 : Int32) (x2 : Int32) (x3 : Int32) (x4 : Int32) (x5 : Int32) : Option (Int64) :=
  (m_X11_isPhone σ x1).bind (fun v1 => if v1 = 0 then (some ((-1))) else ((m_X11_isWithin x2 0 100).bind (fun v3 => if v3 = 0 then (some ((-1))) else ((m_X11_isWithin x3 0 10).bind (fun v5 => if v5 = 0 then (some ((-1))) else ((m_X11_isWithin x4 0 9).bind (fun v7 => if v7 = 0 then (some ((-1))) else ((m_X11_isWithin x5 0 1).bind (fun v9 => if v9 = 0 then (some ((-1))) else ((ldA cLn σ 17 x1).bind (fun v11 => (m_X11_waysOfTen 12 σ x1 x2 x3 v11 x4).bind (fun v12 => (m_X11_odds_L79 σ FU x4 x5 v12 1 0).bind (fun y14 => (m_X11_greatestDivisor y14.2.1 y14.2.2).bind (fun v15 => if (lg_cmp v15 0) = 0 then (some ((-1))) else (if y14.1 = 0 then ((dvL y14.2.1 v15).bind (fun v19 => some v19)) else ((dvL y14.2.2 v15).bind (fun v18 => some v18)))))))))))))))))
set_option maxHeartbeats 4000000 in
set_option maxRecDepth 100000 in
theorem w_X11_odds_L79 {l : Launch} {D : va_G} {cy : Nat → ClassId} {ad : Nat → Nat} {σ τ : Sx} {p : Program} {e : Env} {R : Room} {s : State} {m : MethodId} {args : Array Value} {below : List Frame} {meth : Method} {c : Code} (Z : Zc p s m c cX11_odds 12 RX11 D cy ad) (hP : va_P D vwCl (gW cy ad σ τ) s.heap) (hr : meth.sig.returnType = (some .long)) (hlk : meth.locks = false) (hRf : 15 ≤ R.frames) (hRl : 361 ≤ R.locals) (out : Int64) : ∀ (n : Nat) (x4 : Int32) (x5 : Int32) (x6 : Int64) (x8 : Int64) (x10 : Int32) (res : Int32 × Int64 × Int64), m_X11_odds_L79 σ n x4 x5 x6 x8 x10 = some res → ∀ ls : Array Slot, lv_has ls 12 [(4, .int x4), (5, .int x5), (6, .long x6), (8, .long x8), (10, .int x10)] → (∀ ls : Array Slot, lv_has ls 12 [(5, .int res.1), (6, .long res.2.1), (8, .long res.2.2)] → W p l e R s m args below meth c s.heap [] 0 0 (MQ below (rQl out) args s 0 0 noA) (F0 m 100 ls [])) → W p l e R s m args below meth c s.heap [] 0 0 (MQ below (rQl out) args s 0 0 noA) (F0 m 79 ls []) := by
  have hx := Z.x
  have hb := Z.b
  intro n
  induction n with
  | zero => intro x4 x5 x6 x8 x10 res h; cases h
  | succ n ih =>
    intro x4 x5 x6 x8 x10 res h ls hl kx
    rw [m_X11_odds_L79] at h
    refine lv_iload hx hb dX11_odds_79 (lv_at hl 4 rfl) ?_
    refine lv_iload hx hb dX11_odds_81 (lv_at hl 0 rfl) ?_
    refine lv_icmp_ge (tgt := 100) hx hb dX11_odds_83 (by decide) (fun c13 => ?_) (fun c13 => ?_)
    · rw [if_pos c13] at h
      obtain rfl := Option.some.inj h
      exact kx _ (lv_sub hl [1, 2, 3] rfl)
    · rw [if_neg c13] at h
      refine lv_lload hx hb dX11_odds_86 (lv_at hl 3 rfl) ?_
      refine lv_ldc2 hx hb Z.o (Z.t _ wK_X11_242 rfl _) dX11_odds_88 ?_
      refine lv_lmul hx hb dX11_odds_91 ?_
      refine lv_lstore (lv' := [(8, .long (x8 * 10)), (4, .int x4), (5, .int x5), (6, .long x6), (10, .int x10)]) hx hb dX11_odds_92 hl (by decide) rfl (fun ls hl => ?_)
      refine lv_iinc (v := (x10 + 1)) (lv' := [(10, .int (x10 + 1)), (8, .long (x8 * 10)), (4, .int x4), (5, .int x5), (6, .long x6)]) hx hb dX11_odds_94 hl (k := 4) rfl rfl (by decide) rfl (fun ls hl => ?_)
      refine lv_goto (tgt := 79) hx hb dX11_odds_97 (by decide) ?_
      exact ih x4 x5 x6 ((x8 * 10)) ((x10 + 1)) _ h _ (lv_sub hl [2, 3, 4, 1, 0] rfl) kx
set_option maxHeartbeats 4000000 in
set_option maxRecDepth 100000 in
theorem c_X11_odds {l : Launch} {D : va_G} {cy : Nat → ClassId} {ad : Nat → Nat} {σ τ : Sx} {R : Room} (hI : gInj ad) (hRf : 15 ≤ R.frames) (hRl : 361 ≤ R.locals) {x1 : Int32} {x2 : Int32} {x3 : Int32} {x4 : Int32} {x5 : Int32} {out : Int64} (h : m_X11_odds σ x1 x2 x3 x4 x5 = some out) : Met l yX11_odds [Cond.code yX11_odds cX11_odds 12 (some .long)] R (va_Pc [.ref (ad 0), .int x1, .int x2, .int x3, .int x4, .int x5] (gB D cy ad σ τ)) (rQl out) 0 0 noA := by
  refine zstart [.ref (ad 0), .int x1, .int x2, .int x3, .int x4, .int x5] (by decide) rfl hI (Nat.le_of_ble_eq_true rfl) ?_
  intro p e s m below meth c Z hr hlk hP ls hl
  have hx := Z.x
  have hb := Z.b
  generalize hargs : ([.ref (ad 0), .int x1, .int x2, .int x3, .int x4, .int x5] : List Value).toArray = args
  have hl : lv_has ls 12 [(0, .ref (ad 0)), (1, .int x1), (2, .int x2), (3, .int x3), (4, .int x4), (5, .int x5)] := hl
  unfold m_X11_odds at h
  refine lv_aload_n hx hb dX11_odds_0 rfl (lv_at hl 0 rfl) ?_
  refine lv_iload_n hx hb dX11_odds_1 rfl (lv_at hl 1 rfl) ?_
  obtain ⟨v1, hv1, h⟩ := bd h
  refine zqi (zrunV Z hP (As := [.int x1]) (rest := []) (c_X11_isPhone (R := { frames := 1, cells := 0, slots := 0, locals := 22 }) Z.i (Nat.le_refl _) (Nat.le_refl _) hv1) cV_X11_123 rfl rfl ⟨(Nat.le_trans (Nat.le_of_ble_eq_true rfl) hRf), (Nat.le_trans (Nat.le_of_ble_eq_true rfl) hRl)⟩ 0 (gW_o rfl) rfl rfl rfl hl.1 rfl (Nat.le_of_ble_eq_true rfl) dX11_odds_2 ⟨Nat.zero_le _, Nat.zero_le _⟩) ?_
  refine lv_if_eq (tgt := 49) hx hb dX11_odds_5 (by decide) (fun c2 => ?_) (fun c2 => ?_)
  · rw [if_pos c2] at h
    refine lv_ldc2 hx hb Z.o (Z.t _ wK_X11_236 rfl _) dX11_odds_49 ?_
    exact zrl Z hr hlk h dX11_odds_52
  · rw [if_neg c2] at h
    refine lv_iload_n hx hb dX11_odds_8 rfl (lv_at hl 2 rfl) ?_
    refine lv_iconst (v := 0) hx hb dX11_odds_9 (by decide) ?_
    refine lv_bipush (v := 100) hx hb dX11_odds_10 (by decide) ?_
    obtain ⟨v3, hv3, h⟩ := bd h
    refine zqi (zrunS Z hP (As := [.int x2, .int 0, .int 100]) (rest := []) (c_X11_isWithin (R := { frames := 0, cells := 0, slots := 0, locals := 0 }) Z.i (Nat.le_refl _) (Nat.le_refl _) hv3) cV_X11_144 rfl rfl ⟨(Nat.le_trans (Nat.le_of_ble_eq_true rfl) hRf), (Nat.le_trans (Nat.le_of_ble_eq_true rfl) hRl)⟩ rfl hl.1 rfl (Nat.le_of_ble_eq_true rfl) dX11_odds_12 ⟨Nat.zero_le _, Nat.zero_le _⟩) ?_
    refine lv_if_eq (tgt := 49) hx hb dX11_odds_15 (by decide) (fun c4 => ?_) (fun c4 => ?_)
    · rw [if_pos c4] at h
      refine lv_ldc2 hx hb Z.o (Z.t _ wK_X11_236 rfl _) dX11_odds_49 ?_
      exact zrl Z hr hlk h dX11_odds_52
    · rw [if_neg c4] at h
      refine lv_iload_n hx hb dX11_odds_18 rfl (lv_at hl 3 rfl) ?_
      refine lv_iconst (v := 0) hx hb dX11_odds_19 (by decide) ?_
      refine lv_bipush (v := 10) hx hb dX11_odds_20 (by decide) ?_
      obtain ⟨v5, hv5, h⟩ := bd h
      refine zqi (zrunS Z hP (As := [.int x3, .int 0, .int 10]) (rest := []) (c_X11_isWithin (R := { frames := 0, cells := 0, slots := 0, locals := 0 }) Z.i (Nat.le_refl _) (Nat.le_refl _) hv5) cV_X11_144 rfl rfl ⟨(Nat.le_trans (Nat.le_of_ble_eq_true rfl) hRf), (Nat.le_trans (Nat.le_of_ble_eq_true rfl) hRl)⟩ rfl hl.1 rfl (Nat.le_of_ble_eq_true rfl) dX11_odds_22 ⟨Nat.zero_le _, Nat.zero_le _⟩) ?_
      refine lv_if_eq (tgt := 49) hx hb dX11_odds_25 (by decide) (fun c6 => ?_) (fun c6 => ?_)
      · rw [if_pos c6] at h
        refine lv_ldc2 hx hb Z.o (Z.t _ wK_X11_236 rfl _) dX11_odds_49 ?_
        exact zrl Z hr hlk h dX11_odds_52
      · rw [if_neg c6] at h
        refine lv_iload hx hb dX11_odds_28 (lv_at hl 4 rfl) ?_
        refine lv_iconst (v := 0) hx hb dX11_odds_30 (by decide) ?_
        refine lv_bipush (v := 9) hx hb dX11_odds_31 (by decide) ?_
        obtain ⟨v7, hv7, h⟩ := bd h
        refine zqi (zrunS Z hP (As := [.int x4, .int 0, .int 9]) (rest := []) (c_X11_isWithin (R := { frames := 0, cells := 0, slots := 0, locals := 0 }) Z.i (Nat.le_refl _) (Nat.le_refl _) hv7) cV_X11_144 rfl rfl ⟨(Nat.le_trans (Nat.le_of_ble_eq_true rfl) hRf), (Nat.le_trans (Nat.le_of_ble_eq_true rfl) hRl)⟩ rfl hl.1 rfl (Nat.le_of_ble_eq_true rfl) dX11_odds_33 ⟨Nat.zero_le _, Nat.zero_le _⟩) ?_
        refine lv_if_eq (tgt := 49) hx hb dX11_odds_36 (by decide) (fun c8 => ?_) (fun c8 => ?_)
        · rw [if_pos c8] at h
          refine lv_ldc2 hx hb Z.o (Z.t _ wK_X11_236 rfl _) dX11_odds_49 ?_
          exact zrl Z hr hlk h dX11_odds_52
        · rw [if_neg c8] at h
          refine lv_iload hx hb dX11_odds_39 (lv_at hl 5 rfl) ?_
          refine lv_iconst (v := 0) hx hb dX11_odds_41 (by decide) ?_
          refine lv_iconst (v := 1) hx hb dX11_odds_42 (by decide) ?_
          obtain ⟨v9, hv9, h⟩ := bd h
          refine zqi (zrunS Z hP (As := [.int x5, .int 0, .int 1]) (rest := []) (c_X11_isWithin (R := { frames := 0, cells := 0, slots := 0, locals := 0 }) Z.i (Nat.le_refl _) (Nat.le_refl _) hv9) cV_X11_144 rfl rfl ⟨(Nat.le_trans (Nat.le_of_ble_eq_true rfl) hRf), (Nat.le_trans (Nat.le_of_ble_eq_true rfl) hRl)⟩ rfl hl.1 rfl (Nat.le_of_ble_eq_true rfl) dX11_odds_43 ⟨Nat.zero_le _, Nat.zero_le _⟩) ?_
          refine lv_if_ne (tgt := 53) hx hb dX11_odds_46 (by decide) (fun c10 => ?_) (fun c10 => ?_)
          · rw [if_neg c10] at h
            refine lv_aload_n hx hb dX11_odds_53 rfl (lv_at hl 0 rfl) ?_
            refine lv_iload_n hx hb dX11_odds_54 rfl (lv_at hl 1 rfl) ?_
            refine lv_iload_n hx hb dX11_odds_55 rfl (lv_at hl 2 rfl) ?_
            refine lv_iload_n hx hb dX11_odds_56 rfl (lv_at hl 3 rfl) ?_
            refine lv_aload_n hx hb dX11_odds_57 rfl (lv_at hl 0 rfl) ?_
            refine fg_0_3 Z hP wF_X11_29 dX11_odds_58 ?_
            refine fg_4_4 Z hP wF_X11_126 dX11_odds_61 ?_
            refine lv_iload_n hx hb dX11_odds_64 rfl (lv_at hl 1 rfl) ?_
            obtain ⟨v11, hv11, h⟩ := bd h
            refine zc_ld (j := 17) Z hP hv11 dX11_odds_65 ?_
            refine lv_iload hx hb dX11_odds_66 (lv_at hl 4 rfl) ?_
            obtain ⟨v12, hv12, h⟩ := bd h
            refine zql (zrunV Z hP (As := [.int x1, .int x2, .int x3, .int v11, .int x4]) (rest := []) (c_X11_waysOfTen Z.i 12 _ _ _ _ _ _ _ hv12) cV_X11_238 rfl rfl ⟨(Nat.le_trans (Nat.le_of_ble_eq_true rfl) hRf), (Nat.le_trans (Nat.le_of_ble_eq_true rfl) hRl)⟩ 0 (gW_o rfl) rfl rfl rfl hl.1 rfl (Nat.le_of_ble_eq_true rfl) dX11_odds_68 ⟨Nat.zero_le _, Nat.zero_le _⟩) ?_
            refine lv_lstore (lv' := [(6, .long v12), (0, .ref (ad 0)), (1, .int x1), (2, .int x2), (3, .int x3), (4, .int x4), (5, .int x5)]) hx hb dX11_odds_71 hl (by decide) rfl (fun ls hl => ?_)
            refine lv_lconst (v := 1) hx hb dX11_odds_73 (by decide) ?_
            refine lv_lstore (lv' := [(8, .long 1), (6, .long v12), (0, .ref (ad 0)), (1, .int x1), (2, .int x2), (3, .int x3), (4, .int x4), (5, .int x5)]) hx hb dX11_odds_74 hl (by decide) rfl (fun ls hl => ?_)
            refine lv_iconst (v := 0) hx hb dX11_odds_76 (by decide) ?_
            refine lv_istore (lv' := [(10, .int 0), (8, .long 1), (6, .long v12), (0, .ref (ad 0)), (1, .int x1), (2, .int x2), (3, .int x3), (4, .int x4), (5, .int x5)]) hx hb dX11_odds_77 hl (by decide) rfl (fun ls hl => ?_)
            obtain ⟨y14, hy14, h⟩ := bd h
            refine w_X11_odds_L79 Z hP hr hlk hRf hRl out FU x4 x5 v12 1 0 y14 hy14 _ (lv_sub hl [7, 8, 2, 1, 0] rfl) (fun ls hl => ?_)
            refine lv_lload hx hb dX11_odds_100 (lv_at hl 1 rfl) ?_
            refine lv_lload hx hb dX11_odds_102 (lv_at hl 2 rfl) ?_
            obtain ⟨v15, hv15, h⟩ := bd h
            refine zql (zrunS Z hP (As := [.long y14.2.1, .long y14.2.2]) (rest := []) (c_X11_greatestDivisor (R := { frames := 0, cells := 0, slots := 0, locals := 0 }) Z.i (Nat.le_refl _) (Nat.le_refl _) hv15) cV_X11_244 rfl rfl ⟨(Nat.le_trans (Nat.le_of_ble_eq_true rfl) hRf), (Nat.le_trans (Nat.le_of_ble_eq_true rfl) hRl)⟩ rfl hl.1 rfl (Nat.le_of_ble_eq_true rfl) dX11_odds_104 ⟨Nat.zero_le _, Nat.zero_le _⟩) ?_
            refine lv_lstore (lv' := [(10, .long v15), (5, .int y14.1), (6, .long y14.2.1), (8, .long y14.2.2)]) hx hb dX11_odds_107 hl (by decide) rfl (fun ls hl => ?_)
            refine lv_lload hx hb dX11_odds_109 (lv_at hl 0 rfl) ?_
            refine lv_lconst (v := 0) hx hb dX11_odds_111 (by decide) ?_
            refine W.lcmp hx hb dX11_odds_112 ?_
            refine lv_if_ne (tgt := 120) hx hb dX11_odds_113 (by decide) (fun c16 => ?_) (fun c16 => ?_)
            · rw [if_neg c16] at h
              refine lv_iload hx hb dX11_odds_120 (lv_at hl 1 rfl) ?_
              refine lv_if_ne (tgt := 130) hx hb dX11_odds_122 (by decide) (fun c17 => ?_) (fun c17 => ?_)
              · rw [if_neg c17] at h
                refine lv_lload hx hb dX11_odds_130 (lv_at hl 3 rfl) ?_
                refine lv_lload hx hb dX11_odds_132 (lv_at hl 0 rfl) ?_
                obtain ⟨v18, hv18, h⟩ := bd h
                refine zldiv Z hv18 dX11_odds_134 ?_
                exact zrl Z hr hlk h dX11_odds_135
              · rw [if_pos c17] at h
                refine lv_lload hx hb dX11_odds_125 (lv_at hl 2 rfl) ?_
                refine lv_goto (tgt := 132) hx hb dX11_odds_127 (by decide) ?_
                refine lv_lload hx hb dX11_odds_132 (lv_at hl 0 rfl) ?_
                obtain ⟨v19, hv19, h⟩ := bd h
                refine zldiv Z hv19 dX11_odds_134 ?_
                exact zrl Z hr hlk h dX11_odds_135
            · rw [if_pos c16] at h
              refine lv_ldc2 hx hb Z.o (Z.t _ wK_X11_236 rfl _) dX11_odds_116 ?_
              exact zrl Z hr hlk h dX11_odds_119
          · rw [if_pos c10] at h
            refine lv_ldc2 hx hb Z.o (Z.t _ wK_X11_236 rfl _) dX11_odds_49 ?_
            exact zrl Z hr hlk h dX11_odds_52
def m_X11_rate (σ : Sx) (x1 : Int32) (x2 : Int32) : Option (Int32 × Sx) :=
  (m_X11_isWithin x1 0 5).bind (fun v1 => if v1 = 0 then (some (((-1000000), σ))) else ((m_X11_isPhone σ x2).bind (fun v3 => if v3 = 0 then (some (((-1000000), σ))) else (if x1 = 0 then ((m_X9_worth_7 σ x2).bind (fun q6 => some ((q6.1, q6.2)))) else (if x1 = 1 then ((m_X0_worth_8 σ x2).bind (fun q8 => some ((q8.1, q8.2)))) else (if x1 = 2 then ((m_X3_worth_9 σ x2).bind (fun q10 => some ((q10.1, q10.2)))) else (if x1 = 3 then ((m_X1_worth σ x2).bind (fun q12 => some ((q12.1, q12.2)))) else (if x1 = 4 then ((m_X6_worth σ x2).bind (fun q14 => some ((q14.1, q14.2)))) else (if x1 = 5 then ((m_X8_worth σ x2).bind (fun q16 => some ((q16.1, q16.2)))) else (none))))))))))
set_option maxHeartbeats 4000000 in
set_option maxRecDepth 100000 in
theorem c_X11_rate {l : Launch} {D : va_G} {cy : Nat → ClassId} {ad : Nat → Nat} {σ τ : Sx} {R : Room} (hI : gInj ad) (hRf : 3 ≤ R.frames) (hRl : 67 ≤ R.locals) {x1 : Int32} {x2 : Int32} {out : Int32 × Sx} (h : m_X11_rate σ x1 x2 = some out) : Met l yX11_rate [Cond.code yX11_rate cX11_rate 4 (some .int)] R (va_Pc [.ref (ad 0), .int x1, .int x2] (gB D cy ad σ τ)) (cQi D cy ad τ out) 0 0 (gA ad) := by
  refine zstart [.ref (ad 0), .int x1, .int x2] (by decide) rfl hI (Nat.le_of_ble_eq_true rfl) ?_
  intro p e s m below meth c Z hr hlk hP ls hl
  have hx := Z.x
  have hb := Z.b
  generalize hargs : ([.ref (ad 0), .int x1, .int x2] : List Value).toArray = args
  have hl : lv_has ls 4 [(0, .ref (ad 0)), (1, .int x1), (2, .int x2)] := hl
  have hS : va_S (gA ad) s.heap s.heap [] := va_S.rf
  unfold m_X11_rate at h
  refine lv_iload_n hx hb dX11_rate_0 rfl (lv_at hl 1 rfl) ?_
  refine lv_iconst (v := 0) hx hb dX11_rate_1 (by decide) ?_
  refine lv_iconst (v := 5) hx hb dX11_rate_2 (by decide) ?_
  obtain ⟨v1, hv1, h⟩ := bd h
  refine zqi (zrunS Z hP (As := [.int x1, .int 0, .int 5]) (rest := []) (c_X11_isWithin (R := { frames := 0, cells := 0, slots := 0, locals := 0 }) Z.i (Nat.le_refl _) (Nat.le_refl _) hv1) cV_X11_144 rfl rfl ⟨(Nat.le_trans (Nat.le_of_ble_eq_true rfl) hRf), (Nat.le_trans (Nat.le_of_ble_eq_true rfl) hRl)⟩ rfl hl.1 rfl (Nat.le_of_ble_eq_true rfl) dX11_rate_3 ⟨Nat.zero_le _, Nat.zero_le _⟩) ?_
  refine lv_if_eq (tgt := 17) hx hb dX11_rate_6 (by decide) (fun c2 => ?_) (fun c2 => ?_)
  · rw [if_pos c2] at h
    refine lv_ldc hx hb Z.o (Z.t _ wK_X11_251 rfl _) dX11_rate_17 ?_
    exact zci Z hP hS hr hlk h dX11_rate_19
  · rw [if_neg c2] at h
    refine lv_aload_n hx hb dX11_rate_9 rfl (lv_at hl 0 rfl) ?_
    refine lv_iload_n hx hb dX11_rate_10 rfl (lv_at hl 2 rfl) ?_
    obtain ⟨v3, hv3, h⟩ := bd h
    refine zqi (zrunV Z hP (As := [.int x2]) (rest := []) (c_X11_isPhone (R := { frames := 1, cells := 0, slots := 0, locals := 22 }) Z.i (Nat.le_refl _) (Nat.le_refl _) hv3) cV_X11_123 rfl rfl ⟨(Nat.le_trans (Nat.le_of_ble_eq_true rfl) hRf), (Nat.le_trans (Nat.le_of_ble_eq_true rfl) hRl)⟩ 0 (gW_o rfl) rfl rfl rfl hl.1 rfl (Nat.le_of_ble_eq_true rfl) dX11_rate_11 ⟨Nat.zero_le _, Nat.zero_le _⟩) ?_
    refine lv_if_ne (tgt := 20) hx hb dX11_rate_14 (by decide) (fun c4 => ?_) (fun c4 => ?_)
    · rw [if_neg c4] at h
      refine lv_aload_n hx hb dX11_rate_20 rfl (lv_at hl 0 rfl) ?_
      refine fg_0_6 Z hP wF_X11_49 dX11_rate_21 ?_
      refine lv_iload_n hx hb dX11_rate_24 rfl (lv_at hl 1 rfl) ?_
      by_cases c5 : x1 = 0
      · rw [if_pos c5] at h
        refine zaldk (k := 0) Z hP c5 (by decide) dX11_rate_25 ?_
        refine lv_astore_n (lv' := [(3, .ref (ad 7)), (0, .ref (ad 0)), (1, .int x1), (2, .int x2)]) hx hb dX11_rate_26 rfl hl (by decide) rfl (fun ls hl => ?_)
        refine lv_aload_n hx hb dX11_rate_27 rfl (lv_at hl 0 rfl) ?_
        refine lv_ifnonnull (tgt := 36) hx hb dX11_rate_28 (by decide) ?_
        refine lv_aload_n hx hb dX11_rate_36 rfl (lv_at hl 0 rfl) ?_
        refine lv_aload_n hx hb dX11_rate_37 rfl (lv_at hl 1 rfl) ?_
        refine lv_iload_n hx hb dX11_rate_38 rfl (lv_at hl 3 rfl) ?_
        obtain ⟨q6, hq6, h⟩ := bd h
        refine zwci (zrunV Z hP (As := [.ref (ad 0), .int x2]) (rest := []) (c_X9_worth_7 (R := { frames := 0, cells := 0, slots := 0, locals := 0 }) Z.i (Nat.le_refl _) (Nat.le_refl _) hq6) cV_X11_252 rfl rfl ⟨(Nat.le_trans (Nat.le_of_ble_eq_true rfl) hRf), (Nat.le_trans (Nat.le_of_ble_eq_true rfl) hRl)⟩ 7 (gW_o rfl) rfl rfl rfl hl.1 rfl (Nat.le_of_ble_eq_true rfl) dX11_rate_39 ⟨Nat.zero_le _, Nat.zero_le _⟩) hS (fun H locs hP hS => ?_)
        exact zci Z hP hS hr hlk h dX11_rate_42
      · rw [if_neg c5] at h
        by_cases c7 : x1 = 1
        · rw [if_pos c7] at h
          refine zaldk (k := 1) Z hP c7 (by decide) dX11_rate_25 ?_
          refine lv_astore_n (lv' := [(3, .ref (ad 8)), (0, .ref (ad 0)), (1, .int x1), (2, .int x2)]) hx hb dX11_rate_26 rfl hl (by decide) rfl (fun ls hl => ?_)
          refine lv_aload_n hx hb dX11_rate_27 rfl (lv_at hl 0 rfl) ?_
          refine lv_ifnonnull (tgt := 36) hx hb dX11_rate_28 (by decide) ?_
          refine lv_aload_n hx hb dX11_rate_36 rfl (lv_at hl 0 rfl) ?_
          refine lv_aload_n hx hb dX11_rate_37 rfl (lv_at hl 1 rfl) ?_
          refine lv_iload_n hx hb dX11_rate_38 rfl (lv_at hl 3 rfl) ?_
          obtain ⟨q8, hq8, h⟩ := bd h
          refine zwci (zrunO Z hP (As := [.ref (ad 0), .int x2]) (rest := []) (c_X0_worth_8 (R := { frames := 1, cells := 0, slots := 0, locals := 23 }) Z.i (Nat.le_refl _) (Nat.le_refl _) hq8) cO_X11_252_X0 rfl rfl ⟨(Nat.le_trans (Nat.le_of_ble_eq_true rfl) hRf), (Nat.le_trans (Nat.le_of_ble_eq_true rfl) hRl)⟩ 8 (gW_o rfl) rfl rfl rfl hl.1 rfl (Nat.le_of_ble_eq_true rfl) dX11_rate_39 ⟨Nat.zero_le _, Nat.zero_le _⟩) hS (fun H locs hP hS => ?_)
          exact zci Z hP hS hr hlk h dX11_rate_42
        · rw [if_neg c7] at h
          by_cases c9 : x1 = 2
          · rw [if_pos c9] at h
            refine zaldk (k := 2) Z hP c9 (by decide) dX11_rate_25 ?_
            refine lv_astore_n (lv' := [(3, .ref (ad 9)), (0, .ref (ad 0)), (1, .int x1), (2, .int x2)]) hx hb dX11_rate_26 rfl hl (by decide) rfl (fun ls hl => ?_)
            refine lv_aload_n hx hb dX11_rate_27 rfl (lv_at hl 0 rfl) ?_
            refine lv_ifnonnull (tgt := 36) hx hb dX11_rate_28 (by decide) ?_
            refine lv_aload_n hx hb dX11_rate_36 rfl (lv_at hl 0 rfl) ?_
            refine lv_aload_n hx hb dX11_rate_37 rfl (lv_at hl 1 rfl) ?_
            refine lv_iload_n hx hb dX11_rate_38 rfl (lv_at hl 3 rfl) ?_
            obtain ⟨q10, hq10, h⟩ := bd h
            refine zwci (zrunO Z hP (As := [.ref (ad 0), .int x2]) (rest := []) (c_X3_worth_9 (R := { frames := 1, cells := 0, slots := 0, locals := 22 }) Z.i (Nat.le_refl _) (Nat.le_refl _) hq10) cO_X11_252_X3 rfl rfl ⟨(Nat.le_trans (Nat.le_of_ble_eq_true rfl) hRf), (Nat.le_trans (Nat.le_of_ble_eq_true rfl) hRl)⟩ 9 (gW_o rfl) rfl rfl rfl hl.1 rfl (Nat.le_of_ble_eq_true rfl) dX11_rate_39 ⟨Nat.zero_le _, Nat.zero_le _⟩) hS (fun H locs hP hS => ?_)
            exact zci Z hP hS hr hlk h dX11_rate_42
          · rw [if_neg c9] at h
            by_cases c11 : x1 = 3
            · rw [if_pos c11] at h
              refine zaldk (k := 3) Z hP c11 (by decide) dX11_rate_25 ?_
              refine lv_astore_n (lv' := [(3, .ref (ad 10)), (0, .ref (ad 0)), (1, .int x1), (2, .int x2)]) hx hb dX11_rate_26 rfl hl (by decide) rfl (fun ls hl => ?_)
              refine lv_aload_n hx hb dX11_rate_27 rfl (lv_at hl 0 rfl) ?_
              refine lv_ifnonnull (tgt := 36) hx hb dX11_rate_28 (by decide) ?_
              refine lv_aload_n hx hb dX11_rate_36 rfl (lv_at hl 0 rfl) ?_
              refine lv_aload_n hx hb dX11_rate_37 rfl (lv_at hl 1 rfl) ?_
              refine lv_iload_n hx hb dX11_rate_38 rfl (lv_at hl 3 rfl) ?_
              obtain ⟨q12, hq12, h⟩ := bd h
              refine zwci (zrunO Z hP (As := [.ref (ad 0), .int x2]) (rest := []) (c_X1_worth (R := { frames := 2, cells := 0, slots := 0, locals := 45 }) Z.i (Nat.le_refl _) (Nat.le_refl _) hq12) cO_X11_252_X1 rfl rfl ⟨(Nat.le_trans (Nat.le_of_ble_eq_true rfl) hRf), (Nat.le_trans (Nat.le_of_ble_eq_true rfl) hRl)⟩ 10 (gW_o rfl) rfl rfl rfl hl.1 rfl (Nat.le_of_ble_eq_true rfl) dX11_rate_39 ⟨Nat.zero_le _, Nat.zero_le _⟩) hS (fun H locs hP hS => ?_)
              exact zci Z hP hS hr hlk h dX11_rate_42
            · rw [if_neg c11] at h
              by_cases c13 : x1 = 4
              · rw [if_pos c13] at h
                refine zaldk (k := 4) Z hP c13 (by decide) dX11_rate_25 ?_
                refine lv_astore_n (lv' := [(3, .ref (ad 11)), (0, .ref (ad 0)), (1, .int x1), (2, .int x2)]) hx hb dX11_rate_26 rfl hl (by decide) rfl (fun ls hl => ?_)
                refine lv_aload_n hx hb dX11_rate_27 rfl (lv_at hl 0 rfl) ?_
                refine lv_ifnonnull (tgt := 36) hx hb dX11_rate_28 (by decide) ?_
                refine lv_aload_n hx hb dX11_rate_36 rfl (lv_at hl 0 rfl) ?_
                refine lv_aload_n hx hb dX11_rate_37 rfl (lv_at hl 1 rfl) ?_
                refine lv_iload_n hx hb dX11_rate_38 rfl (lv_at hl 3 rfl) ?_
                obtain ⟨q14, hq14, h⟩ := bd h
                refine zwci (zrunO Z hP (As := [.ref (ad 0), .int x2]) (rest := []) (c_X6_worth (R := { frames := 2, cells := 0, slots := 0, locals := 44 }) Z.i (Nat.le_refl _) (Nat.le_refl _) hq14) cO_X11_252_X6 rfl rfl ⟨(Nat.le_trans (Nat.le_of_ble_eq_true rfl) hRf), (Nat.le_trans (Nat.le_of_ble_eq_true rfl) hRl)⟩ 11 (gW_o rfl) rfl rfl rfl hl.1 rfl (Nat.le_of_ble_eq_true rfl) dX11_rate_39 ⟨Nat.zero_le _, Nat.zero_le _⟩) hS (fun H locs hP hS => ?_)
                exact zci Z hP hS hr hlk h dX11_rate_42
              · rw [if_neg c13] at h
                by_cases c15 : x1 = 5
                · rw [if_pos c15] at h
                  refine zaldk (k := 5) Z hP c15 (by decide) dX11_rate_25 ?_
                  refine lv_astore_n (lv' := [(3, .ref (ad 12)), (0, .ref (ad 0)), (1, .int x1), (2, .int x2)]) hx hb dX11_rate_26 rfl hl (by decide) rfl (fun ls hl => ?_)
                  refine lv_aload_n hx hb dX11_rate_27 rfl (lv_at hl 0 rfl) ?_
                  refine lv_ifnonnull (tgt := 36) hx hb dX11_rate_28 (by decide) ?_
                  refine lv_aload_n hx hb dX11_rate_36 rfl (lv_at hl 0 rfl) ?_
                  refine lv_aload_n hx hb dX11_rate_37 rfl (lv_at hl 1 rfl) ?_
                  refine lv_iload_n hx hb dX11_rate_38 rfl (lv_at hl 3 rfl) ?_
                  obtain ⟨q16, hq16, h⟩ := bd h
                  refine zwci (zrunO Z hP (As := [.ref (ad 0), .int x2]) (rest := []) (c_X8_worth (R := { frames := 1, cells := 0, slots := 0, locals := 22 }) Z.i (Nat.le_refl _) (Nat.le_refl _) hq16) cO_X11_252_X8 rfl rfl ⟨(Nat.le_trans (Nat.le_of_ble_eq_true rfl) hRf), (Nat.le_trans (Nat.le_of_ble_eq_true rfl) hRl)⟩ 12 (gW_o rfl) rfl rfl rfl hl.1 rfl (Nat.le_of_ble_eq_true rfl) dX11_rate_39 ⟨Nat.zero_le _, Nat.zero_le _⟩) hS (fun H locs hP hS => ?_)
                  exact zci Z hP hS hr hlk h dX11_rate_42
                · rw [if_neg c15] at h
                  cases h
    · rw [if_pos c4] at h
      refine lv_ldc hx hb Z.o (Z.t _ wK_X11_251 rfl _) dX11_rate_17 ?_
      exact zci Z hP hS hr hlk h dX11_rate_19
def m_X11_keep (σ : Sx) (x1 : Int32) : Option (Int32 × Sx) :=
  (m_X11_isWithin x1 0 1).bind (fun v1 => if v1 = 0 then (some (((-1), σ))) else ((ixq x1 2).bind (fun k3 => (m_X4_copyTo σ ((35 + k3))).bind (fun q4 => (stZ q4 47 x1 1).bind (fun q5 => some (((q5.1 14), q5)))))))
set_option maxHeartbeats 4000000 in
set_option maxRecDepth 100000 in
theorem c_X11_keep {l : Launch} {D : va_G} {cy : Nat → ClassId} {ad : Nat → Nat} {σ τ : Sx} {R : Room} (hI : gInj ad) (hRf : 2 ≤ R.frames) (hRl : 39 ≤ R.locals) {x1 : Int32} {out : Int32 × Sx} (h : m_X11_keep σ x1 = some out) : Met l yX11_keep [Cond.code yX11_keep cX11_keep 2 (some .int)] R (va_Pc [.ref (ad 0), .int x1] (gB D cy ad σ τ)) (cQi D cy ad τ out) 0 0 (gA ad) := by
  refine zstart [.ref (ad 0), .int x1] (by decide) rfl hI (Nat.le_of_ble_eq_true rfl) ?_
  intro p e s m below meth c Z hr hlk hP ls hl
  have hx := Z.x
  have hb := Z.b
  generalize hargs : ([.ref (ad 0), .int x1] : List Value).toArray = args
  have hl : lv_has ls 2 [(0, .ref (ad 0)), (1, .int x1)] := hl
  have hS : va_S (gA ad) s.heap s.heap [] := va_S.rf
  unfold m_X11_keep at h
  refine lv_iload_n hx hb dX11_keep_0 rfl (lv_at hl 1 rfl) ?_
  refine lv_iconst (v := 0) hx hb dX11_keep_1 (by decide) ?_
  refine lv_iconst (v := 1) hx hb dX11_keep_2 (by decide) ?_
  obtain ⟨v1, hv1, h⟩ := bd h
  refine zqi (zrunS Z hP (As := [.int x1, .int 0, .int 1]) (rest := []) (c_X11_isWithin (R := { frames := 0, cells := 0, slots := 0, locals := 0 }) Z.i (Nat.le_refl _) (Nat.le_refl _) hv1) cV_X11_144 rfl rfl ⟨(Nat.le_trans (Nat.le_of_ble_eq_true rfl) hRf), (Nat.le_trans (Nat.le_of_ble_eq_true rfl) hRl)⟩ rfl hl.1 rfl (Nat.le_of_ble_eq_true rfl) dX11_keep_3 ⟨Nat.zero_le _, Nat.zero_le _⟩) ?_
  refine lv_if_ne (tgt := 11) hx hb dX11_keep_6 (by decide) (fun c2 => ?_) (fun c2 => ?_)
  · rw [if_neg c2] at h
    refine lv_aload_n hx hb dX11_keep_11 rfl (lv_at hl 0 rfl) ?_
    refine fg_0_3 Z hP wF_X11_29 dX11_keep_12 ?_
    refine lv_aload_n hx hb dX11_keep_15 rfl (lv_at hl 0 rfl) ?_
    refine fg_0_7 Z hP wF_X11_55 dX11_keep_16 ?_
    refine lv_iload_n hx hb dX11_keep_19 rfl (lv_at hl 1 rfl) ?_
    obtain ⟨k3, hk3, h⟩ := bd h
    refine zald (n := 2) (b := 35) Z hP 14 (gW_o rfl) hk3 dX11_keep_20 ?_
    obtain ⟨q4, hq4, h⟩ := bd h
    refine zwcv (zrunV Z hP (As := [.ref (ad (19 + (35 + k3)))]) (rest := []) (c_X4_copyTo (R := { frames := 1, cells := 0, slots := 0, locals := 18 }) Z.i (Nat.le_refl _) (Nat.le_refl _) hq4) cV_X11_256 rfl rfl ⟨(Nat.le_trans (Nat.le_of_ble_eq_true rfl) hRf), (Nat.le_trans (Nat.le_of_ble_eq_true rfl) hRl)⟩ 4 (gW_o rfl) rfl rfl rfl hl.1 rfl (Nat.le_of_ble_eq_true rfl) dX11_keep_21 ⟨Nat.zero_le _, Nat.zero_le _⟩) hS (fun H locs hP hS => ?_)
    refine lv_aload_n hx hb dX11_keep_24 rfl (lv_at hl 0 rfl) ?_
    refine fg_0_8 Z hP wF_X11_58 dX11_keep_25 ?_
    refine lv_iload_n hx hb dX11_keep_28 rfl (lv_at hl 1 rfl) ?_
    refine lv_iconst (v := 1) hx hb dX11_keep_29 (by decide) ?_
    obtain ⟨q5, hq5, h⟩ := bd h
    refine zc_stz Z hP hS hq5 dX11_keep_30 (fun H locs hP hS => ?_)
    refine lv_aload_n hx hb dX11_keep_31 rfl (lv_at hl 0 rfl) ?_
    refine fg_0_3 Z hP wF_X11_29 dX11_keep_32 ?_
    refine fg_4_0 Z hP wF_X11_173 dX11_keep_35 ?_
    exact zci Z hP hS hr hlk h dX11_keep_38
  · rw [if_pos c2] at h
    refine lv_iconst (v := (-1)) hx hb dX11_keep_9 (by decide) ?_
    exact zci Z hP hS hr hlk h dX11_keep_10
def m_X11_back (σ : Sx) (x1 : Int32) : Option (Int32 × Sx) :=
  (m_X11_isWithin x1 0 1).bind (fun v1 => if v1 = 0 then (some (((-1), σ))) else ((ldZ σ 47 x1).bind (fun v3 => if v3 = 0 then (some (((-2), σ))) else ((ixq x1 2).bind (fun k5 => (m_X4_copyFrom σ ((35 + k5))).bind (fun q6 => some (((((sg q6 19 0)).1 14), (sg q6 19 0)))))))))
set_option maxHeartbeats 4000000 in
set_option maxRecDepth 100000 in
theorem c_X11_back {l : Launch} {D : va_G} {cy : Nat → ClassId} {ad : Nat → Nat} {σ τ : Sx} {R : Room} (hI : gInj ad) (hRf : 2 ≤ R.frames) (hRl : 39 ≤ R.locals) {x1 : Int32} {out : Int32 × Sx} (h : m_X11_back σ x1 = some out) : Met l yX11_back [Cond.code yX11_back cX11_back 2 (some .int)] R (va_Pc [.ref (ad 0), .int x1] (gB D cy ad σ τ)) (cQi D cy ad τ out) 0 0 (gA ad) := by
  refine zstart [.ref (ad 0), .int x1] (by decide) rfl hI (Nat.le_of_ble_eq_true rfl) ?_
  intro p e s m below meth c Z hr hlk hP ls hl
  have hx := Z.x
  have hb := Z.b
  generalize hargs : ([.ref (ad 0), .int x1] : List Value).toArray = args
  have hl : lv_has ls 2 [(0, .ref (ad 0)), (1, .int x1)] := hl
  have hS : va_S (gA ad) s.heap s.heap [] := va_S.rf
  unfold m_X11_back at h
  refine lv_iload_n hx hb dX11_back_0 rfl (lv_at hl 1 rfl) ?_
  refine lv_iconst (v := 0) hx hb dX11_back_1 (by decide) ?_
  refine lv_iconst (v := 1) hx hb dX11_back_2 (by decide) ?_
  obtain ⟨v1, hv1, h⟩ := bd h
  refine zqi (zrunS Z hP (As := [.int x1, .int 0, .int 1]) (rest := []) (c_X11_isWithin (R := { frames := 0, cells := 0, slots := 0, locals := 0 }) Z.i (Nat.le_refl _) (Nat.le_refl _) hv1) cV_X11_144 rfl rfl ⟨(Nat.le_trans (Nat.le_of_ble_eq_true rfl) hRf), (Nat.le_trans (Nat.le_of_ble_eq_true rfl) hRl)⟩ rfl hl.1 rfl (Nat.le_of_ble_eq_true rfl) dX11_back_3 ⟨Nat.zero_le _, Nat.zero_le _⟩) ?_
  refine lv_if_ne (tgt := 11) hx hb dX11_back_6 (by decide) (fun c2 => ?_) (fun c2 => ?_)
  · rw [if_neg c2] at h
    refine lv_aload_n hx hb dX11_back_11 rfl (lv_at hl 0 rfl) ?_
    refine fg_0_8 Z hP wF_X11_58 dX11_back_12 ?_
    refine lv_iload_n hx hb dX11_back_15 rfl (lv_at hl 1 rfl) ?_
    obtain ⟨v3, hv3, h⟩ := bd h
    refine zc_ldz Z hP hv3 dX11_back_16 ?_
    refine lv_if_ne (tgt := 23) hx hb dX11_back_17 (by decide) (fun c4 => ?_) (fun c4 => ?_)
    · rw [if_neg c4] at h
      refine lv_aload_n hx hb dX11_back_23 rfl (lv_at hl 0 rfl) ?_
      refine fg_0_3 Z hP wF_X11_29 dX11_back_24 ?_
      refine lv_aload_n hx hb dX11_back_27 rfl (lv_at hl 0 rfl) ?_
      refine fg_0_7 Z hP wF_X11_55 dX11_back_28 ?_
      refine lv_iload_n hx hb dX11_back_31 rfl (lv_at hl 1 rfl) ?_
      obtain ⟨k5, hk5, h⟩ := bd h
      refine zald (n := 2) (b := 35) Z hP 14 (gW_o rfl) hk5 dX11_back_32 ?_
      obtain ⟨q6, hq6, h⟩ := bd h
      refine zwcv (zrunV Z hP (As := [.ref (ad (19 + (35 + k5)))]) (rest := []) (c_X4_copyFrom (R := { frames := 1, cells := 0, slots := 0, locals := 18 }) Z.i (Nat.le_refl _) (Nat.le_refl _) hq6) cV_X11_260 rfl rfl ⟨(Nat.le_trans (Nat.le_of_ble_eq_true rfl) hRf), (Nat.le_trans (Nat.le_of_ble_eq_true rfl) hRl)⟩ 4 (gW_o rfl) rfl rfl rfl hl.1 rfl (Nat.le_of_ble_eq_true rfl) dX11_back_33 ⟨Nat.zero_le _, Nat.zero_le _⟩) hS (fun H locs hP hS => ?_)
      refine lv_aload_n hx hb dX11_back_36 rfl (lv_at hl 0 rfl) ?_
      refine fg_0_4 Z hP wF_X11_36 dX11_back_37 ?_
      refine lv_iconst (v := 0) hx hb dX11_back_40 (by decide) ?_
      refine fp_5_2 Z hP hS wF_X11_120 dX11_back_41 (fun H locs hP hS => ?_)
      refine lv_aload_n hx hb dX11_back_44 rfl (lv_at hl 0 rfl) ?_
      refine fg_0_3 Z hP wF_X11_29 dX11_back_45 ?_
      refine fg_4_0 Z hP wF_X11_173 dX11_back_48 ?_
      exact zci Z hP hS hr hlk h dX11_back_51
    · rw [if_pos c4] at h
      refine lv_bipush (v := (-2)) hx hb dX11_back_20 (by decide) ?_
      exact zci Z hP hS hr hlk h dX11_back_22
  · rw [if_pos c2] at h
    refine lv_iconst (v := (-1)) hx hb dX11_back_9 (by decide) ?_
    exact zci Z hP hS hr hlk h dX11_back_10
def m_X11_count (σ : Sx) (x1 : Int32) : Option (Int32) :=
  if x1 = 0 then (some ((σ.1 0))) else (if x1 = 1 then (some ((σ.1 1))) else (if x1 = 2 then (some ((σ.1 2))) else (if x1 = 3 then (some ((σ.1 3))) else (if x1 = 4 then (some ((σ.1 23))) else (if x1 = 5 then (some ((σ.1 8))) else (some ((-1))))))))
set_option maxHeartbeats 4000000 in
set_option maxRecDepth 100000 in
theorem c_X11_count {l : Launch} {D : va_G} {cy : Nat → ClassId} {ad : Nat → Nat} {σ τ : Sx} {R : Room} (hI : gInj ad) (hRf : 0 ≤ R.frames) (hRl : 0 ≤ R.locals) {x1 : Int32} {out : Int32} (h : m_X11_count σ x1 = some out) : Met l yX11_count [Cond.code yX11_count cX11_count 2 (some .int)] R (va_Pc [.ref (ad 0), .int x1] (gB D cy ad σ τ)) (rQi out) 0 0 noA := by
  refine zstart [.ref (ad 0), .int x1] (by decide) rfl hI (Nat.le_of_ble_eq_true rfl) ?_
  intro p e s m below meth c Z hr hlk hP ls hl
  have hx := Z.x
  have hb := Z.b
  generalize hargs : ([.ref (ad 0), .int x1] : List Value).toArray = args
  have hl : lv_has ls 2 [(0, .ref (ad 0)), (1, .int x1)] := hl
  unfold m_X11_count at h
  refine lv_iload_n hx hb dX11_count_0 rfl (lv_at hl 1 rfl) ?_
  by_cases c1 : x1 = 0
  · rw [if_pos c1] at h
    refine lv_tableIn (tgt := 40) hx hb dX11_count_1 (by rw [c1]; decide) (by rw [c1]; decide) (by rw [c1]; rfl) (by decide) ?_
    refine lv_aload_n hx hb dX11_count_40 rfl (lv_at hl 0 rfl) ?_
    refine fg_0_0 Z hP wF_X11_10 dX11_count_41 ?_
    refine fg_1_0 Z hP wF_X11_179 dX11_count_44 ?_
    exact zri Z hr hlk h dX11_count_47
  · rw [if_neg c1] at h
    by_cases c2 : x1 = 1
    · rw [if_pos c2] at h
      refine lv_tableIn (tgt := 48) hx hb dX11_count_1 (by rw [c2]; decide) (by rw [c2]; decide) (by rw [c2]; rfl) (by decide) ?_
      refine lv_aload_n hx hb dX11_count_48 rfl (lv_at hl 0 rfl) ?_
      refine fg_0_0 Z hP wF_X11_10 dX11_count_49 ?_
      refine fg_1_1 Z hP wF_X11_263 dX11_count_52 ?_
      exact zri Z hr hlk h dX11_count_55
    · rw [if_neg c2] at h
      by_cases c3 : x1 = 2
      · rw [if_pos c3] at h
        refine lv_tableIn (tgt := 56) hx hb dX11_count_1 (by rw [c3]; decide) (by rw [c3]; decide) (by rw [c3]; rfl) (by decide) ?_
        refine lv_aload_n hx hb dX11_count_56 rfl (lv_at hl 0 rfl) ?_
        refine fg_0_0 Z hP wF_X11_10 dX11_count_57 ?_
        refine fg_1_2 Z hP wF_X11_141 dX11_count_60 ?_
        exact zri Z hr hlk h dX11_count_63
      · rw [if_neg c3] at h
        by_cases c4 : x1 = 3
        · rw [if_pos c4] at h
          refine lv_tableIn (tgt := 64) hx hb dX11_count_1 (by rw [c4]; decide) (by rw [c4]; decide) (by rw [c4]; rfl) (by decide) ?_
          refine lv_aload_n hx hb dX11_count_64 rfl (lv_at hl 0 rfl) ?_
          refine fg_0_0 Z hP wF_X11_10 dX11_count_65 ?_
          refine fg_1_3 Z hP wF_X11_266 dX11_count_68 ?_
          exact zri Z hr hlk h dX11_count_71
        · rw [if_neg c4] at h
          by_cases c5 : x1 = 4
          · rw [if_pos c5] at h
            refine lv_tableIn (tgt := 72) hx hb dX11_count_1 (by rw [c5]; decide) (by rw [c5]; decide) (by rw [c5]; rfl) (by decide) ?_
            refine lv_aload_n hx hb dX11_count_72 rfl (lv_at hl 0 rfl) ?_
            refine fg_0_13 Z hP wF_X11_75 dX11_count_73 ?_
            exact zri Z hr hlk h dX11_count_76
          · rw [if_neg c5] at h
            by_cases c6 : x1 = 5
            · rw [if_pos c6] at h
              refine lv_tableIn (tgt := 77) hx hb dX11_count_1 (by rw [c6]; decide) (by rw [c6]; decide) (by rw [c6]; rfl) (by decide) ?_
              refine lv_aload_n hx hb dX11_count_77 rfl (lv_at hl 0 rfl) ?_
              refine fg_0_2 Z hP wF_X11_22 dX11_count_78 ?_
              refine fg_3_1 Z hP wF_X11_103 dX11_count_81 ?_
              exact zri Z hr hlk h dX11_count_84
            · rw [if_neg c6] at h
              refine lv_tableOut (tgt := 85) hx hb dX11_count_1 (by have ec1 := lv_neT c1 (a := 0) rfl; have ec2 := lv_neT c2 (a := 1) rfl; have ec3 := lv_neT c3 (a := 2) rfl; have ec4 := lv_neT c4 (a := 3) rfl; have ec5 := lv_neT c5 (a := 4) rfl; have ec6 := lv_neT c6 (a := 5) rfl; omega) (by decide) ?_
              refine lv_iconst (v := (-1)) hx hb dX11_count_85 (by decide) ?_
              exact zri Z hr hlk h dX11_count_86
def m_X11_trace (σ : Sx) : Option (Int64) :=
  some σ.2.1
set_option maxHeartbeats 4000000 in
set_option maxRecDepth 100000 in
theorem c_X11_trace {l : Launch} {D : va_G} {cy : Nat → ClassId} {ad : Nat → Nat} {σ τ : Sx} {R : Room} (hI : gInj ad) (hRf : 0 ≤ R.frames) (hRl : 0 ≤ R.locals) {out : Int64} (h : m_X11_trace σ = some out) : Met l yX11_trace [Cond.code yX11_trace cX11_trace 1 (some .long)] R (va_Pc [.ref (ad 0)] (gB D cy ad σ τ)) (rQl out) 0 0 noA := by
  refine zstart [.ref (ad 0)] (by decide) rfl hI (Nat.le_of_ble_eq_true rfl) ?_
  intro p e s m below meth c Z hr hlk hP ls hl
  have hx := Z.x
  have hb := Z.b
  generalize hargs : ([.ref (ad 0)] : List Value).toArray = args
  have hl : lv_has ls 1 [(0, .ref (ad 0))] := hl
  unfold m_X11_trace at h
  refine lv_aload_n hx hb dX11_trace_0 rfl (lv_at hl 0 rfl) ?_
  refine fg_0_14 Z hP wF_X11_79 dX11_trace_1 ?_
  exact zrl Z hr hlk h dX11_trace_4
