def m_X11_isWithin (x0 : Int32) (x1 : Int32) (x2 : Int32) : Option (Int32) :=
  if x0 < x1 then (some 0) else (if x2 < x0 then (some 0) else (some 1))
set_option maxHeartbeats 4000000 in
set_option maxRecDepth 100000 in
theorem c_X11_isWithin {l : Launch} {D : va_G} {cy : Nat → ClassId} {ad : Nat → Nat} {σ τ : Sx} {R : Room} (hI : gInj ad) (hRf : 0 ≤ R.frames) (hRl : 0 ≤ R.locals) {x0 : Int32} {x1 : Int32} {x2 : Int32} {out : Int32} (h : m_X11_isWithin x0 x1 x2 = some out) : Met l yX11_isWithin [Cond.code yX11_isWithin cX11_isWithin 3 (some .boolean)] R (va_Pc [.int x0, .int x1, .int x2] (gB D cy ad σ τ)) (rQi out) 0 0 noA := by
  refine zstart [.int x0, .int x1, .int x2] (by decide) rfl hI (Nat.le_of_ble_eq_true rfl) ?_
  intro p e s m below meth c Z hr hlk hP ls hl
  have hx := Z.x
  have hb := Z.b
  generalize hargs : ([.int x0, .int x1, .int x2] : List Value).toArray = args
  have hl : lv_has ls 3 [(0, .int x0), (1, .int x1), (2, .int x2)] := hl
  unfold m_X11_isWithin at h
  refine lv_iload_n hx hb dX11_isWithin_0 rfl (lv_at hl 0 rfl) ?_
  refine lv_iload_n hx hb dX11_isWithin_1 rfl (lv_at hl 1 rfl) ?_
  refine lv_icmp_lt (tgt := 14) hx hb dX11_isWithin_2 (by decide) (fun c1 => ?_) (fun c1 => ?_)
  · rw [if_pos c1] at h
    refine lv_iconst (v := 0) hx hb dX11_isWithin_14 (by decide) ?_
    exact zrzc Z hr hlk (Or.inl rfl) h dX11_isWithin_15
  · rw [if_neg c1] at h
    refine lv_iload_n hx hb dX11_isWithin_5 rfl (lv_at hl 0 rfl) ?_
    refine lv_iload_n hx hb dX11_isWithin_6 rfl (lv_at hl 2 rfl) ?_
    refine lv_icmp_gt (tgt := 14) hx hb dX11_isWithin_7 (by decide) (fun c2 => ?_) (fun c2 => ?_)
    · rw [if_pos c2] at h
      refine lv_iconst (v := 0) hx hb dX11_isWithin_14 (by decide) ?_
      exact zrzc Z hr hlk (Or.inl rfl) h dX11_isWithin_15
    · rw [if_neg c2] at h
      refine lv_iconst (v := 1) hx hb dX11_isWithin_10 (by decide) ?_
      refine lv_goto (tgt := 15) hx hb dX11_isWithin_11 (by decide) ?_
      exact zrzc Z hr hlk (Or.inr rfl) h dX11_isWithin_15
def m_J6_bitCount_0f7a4 (x0 : Int32) : Option (Int32) :=
  (some ((((x0 - (((Int32.toUInt32 x0 >>> (Int32.toUInt32 1 &&& Int32.toUInt32 31)).toInt32) &&& 1431655765)) &&& 858993459) + (((Int32.toUInt32 ((x0 - (((Int32.toUInt32 x0 >>> (Int32.toUInt32 1 &&& Int32.toUInt32 31)).toInt32) &&& 1431655765))) >>> (Int32.toUInt32 2 &&& Int32.toUInt32 31)).toInt32) &&& 858993459)))).bind (fun v1 => (some ((((v1 + ((Int32.toUInt32 v1 >>> (Int32.toUInt32 4 &&& Int32.toUInt32 31)).toInt32)) &&& 252645135) + ((Int32.toUInt32 (((v1 + ((Int32.toUInt32 v1 >>> (Int32.toUInt32 4 &&& Int32.toUInt32 31)).toInt32)) &&& 252645135)) >>> (Int32.toUInt32 8 &&& Int32.toUInt32 31)).toInt32)))).bind (fun v2 => some (((v2 + ((Int32.toUInt32 v2 >>> (Int32.toUInt32 16 &&& Int32.toUInt32 31)).toInt32)) &&& 63))))
set_option maxHeartbeats 4000000 in
set_option maxRecDepth 100000 in
theorem c_J6_bitCount_0f7a4 {l : Launch} {D : va_G} {cy : Nat → ClassId} {ad : Nat → Nat} {σ τ : Sx} {R : Room} (hI : gInj ad) (hRf : 0 ≤ R.frames) (hRl : 0 ≤ R.locals) {x0 : Int32} {out : Int32} (h : m_J6_bitCount_0f7a4 x0 = some out) : Met l yJ6_bitCount_0f7a4 [Cond.code yJ6_bitCount_0f7a4 cJ6_bitCount_0f7a4 1 (some .int)] R (va_Pc [.int x0] (gB D cy ad σ τ)) (rQi out) 0 0 noA := by
  refine zstart [.int x0] (by decide) rfl hI (Nat.le_of_ble_eq_true rfl) ?_
  intro p e s m below meth c Z hr hlk hP ls hl
  have hx := Z.x
  have hb := Z.b
  generalize hargs : ([.int x0] : List Value).toArray = args
  have hl : lv_has ls 1 [(0, .int x0)] := hl
  unfold m_J6_bitCount_0f7a4 at h
  refine lv_iload_n hx hb dJ6_bitCount_0f7a4_0 rfl (lv_at hl 0 rfl) ?_
  refine lv_iload_n hx hb dJ6_bitCount_0f7a4_1 rfl (lv_at hl 0 rfl) ?_
  refine lv_iconst (v := 1) hx hb dJ6_bitCount_0f7a4_2 (by decide) ?_
  refine lv_iushr (v := (Int32.toUInt32 x0 >>> (Int32.toUInt32 1 &&& Int32.toUInt32 31)).toInt32) hx hb dJ6_bitCount_0f7a4_3 rfl ?_
  refine lv_ldcw hx hb Z.o (Z.t _ wK_J6_265 rfl _) dJ6_bitCount_0f7a4_4 ?_
  refine lv_iand hx hb dJ6_bitCount_0f7a4_7 ?_
  refine lv_isub hx hb dJ6_bitCount_0f7a4_8 ?_
  refine lv_istore_n (lv' := [(0, .int (x0 - (((Int32.toUInt32 x0 >>> (Int32.toUInt32 1 &&& Int32.toUInt32 31)).toInt32) &&& 1431655765)))]) hx hb dJ6_bitCount_0f7a4_9 rfl hl (by decide) rfl (fun ls hl => ?_)
  refine lv_iload_n hx hb dJ6_bitCount_0f7a4_10 rfl (lv_at hl 0 rfl) ?_
  refine lv_ldcw hx hb Z.o (Z.t _ wK_J6_266 rfl _) dJ6_bitCount_0f7a4_11 ?_
  refine lv_iand hx hb dJ6_bitCount_0f7a4_14 ?_
  refine lv_iload_n hx hb dJ6_bitCount_0f7a4_15 rfl (lv_at hl 0 rfl) ?_
  refine lv_iconst (v := 2) hx hb dJ6_bitCount_0f7a4_16 (by decide) ?_
  refine lv_iushr (v := (Int32.toUInt32 ((x0 - (((Int32.toUInt32 x0 >>> (Int32.toUInt32 1 &&& Int32.toUInt32 31)).toInt32) &&& 1431655765))) >>> (Int32.toUInt32 2 &&& Int32.toUInt32 31)).toInt32) hx hb dJ6_bitCount_0f7a4_17 rfl ?_
  refine lv_ldcw hx hb Z.o (Z.t _ wK_J6_266 rfl _) dJ6_bitCount_0f7a4_18 ?_
  refine lv_iand hx hb dJ6_bitCount_0f7a4_21 ?_
  refine lv_iadd hx hb dJ6_bitCount_0f7a4_22 ?_
  obtain ⟨v1, hv1, h⟩ := bd h
  refine lv_topi (fun w9 e9 => ?_)
  have e8 : v1 = w9 := (e9.trans (Option.some.inj hv1)).symm
  subst e8
  refine lv_istore_n (lv' := [(0, .int v1)]) hx hb dJ6_bitCount_0f7a4_23 rfl hl (by decide) rfl (fun ls hl => ?_)
  refine lv_iload_n hx hb dJ6_bitCount_0f7a4_24 rfl (lv_at hl 0 rfl) ?_
  refine lv_iload_n hx hb dJ6_bitCount_0f7a4_25 rfl (lv_at hl 0 rfl) ?_
  refine lv_iconst (v := 4) hx hb dJ6_bitCount_0f7a4_26 (by decide) ?_
  refine lv_iushr (v := (Int32.toUInt32 v1 >>> (Int32.toUInt32 4 &&& Int32.toUInt32 31)).toInt32) hx hb dJ6_bitCount_0f7a4_27 rfl ?_
  refine lv_iadd hx hb dJ6_bitCount_0f7a4_28 ?_
  refine lv_ldcw hx hb Z.o (Z.t _ wK_J6_267 rfl _) dJ6_bitCount_0f7a4_29 ?_
  refine lv_iand hx hb dJ6_bitCount_0f7a4_32 ?_
  refine lv_istore_n (lv' := [(0, .int ((v1 + ((Int32.toUInt32 v1 >>> (Int32.toUInt32 4 &&& Int32.toUInt32 31)).toInt32)) &&& 252645135))]) hx hb dJ6_bitCount_0f7a4_33 rfl hl (by decide) rfl (fun ls hl => ?_)
  refine lv_iload_n hx hb dJ6_bitCount_0f7a4_34 rfl (lv_at hl 0 rfl) ?_
  refine lv_iload_n hx hb dJ6_bitCount_0f7a4_35 rfl (lv_at hl 0 rfl) ?_
  refine lv_bipush (v := 8) hx hb dJ6_bitCount_0f7a4_36 (by decide) ?_
  refine lv_iushr (v := (Int32.toUInt32 (((v1 + ((Int32.toUInt32 v1 >>> (Int32.toUInt32 4 &&& Int32.toUInt32 31)).toInt32)) &&& 252645135)) >>> (Int32.toUInt32 8 &&& Int32.toUInt32 31)).toInt32) hx hb dJ6_bitCount_0f7a4_38 rfl ?_
  refine lv_iadd hx hb dJ6_bitCount_0f7a4_39 ?_
  obtain ⟨v2, hv2, h⟩ := bd h
  refine lv_topi (fun w9 e9 => ?_)
  have e8 : v2 = w9 := (e9.trans (Option.some.inj hv2)).symm
  subst e8
  refine lv_istore_n (lv' := [(0, .int v2)]) hx hb dJ6_bitCount_0f7a4_40 rfl hl (by decide) rfl (fun ls hl => ?_)
  refine lv_iload_n hx hb dJ6_bitCount_0f7a4_41 rfl (lv_at hl 0 rfl) ?_
  refine lv_iload_n hx hb dJ6_bitCount_0f7a4_42 rfl (lv_at hl 0 rfl) ?_
  refine lv_bipush (v := 16) hx hb dJ6_bitCount_0f7a4_43 (by decide) ?_
  refine lv_iushr (v := (Int32.toUInt32 v2 >>> (Int32.toUInt32 16 &&& Int32.toUInt32 31)).toInt32) hx hb dJ6_bitCount_0f7a4_45 rfl ?_
  refine lv_iadd hx hb dJ6_bitCount_0f7a4_46 ?_
  refine lv_istore_n (lv' := [(0, .int (v2 + ((Int32.toUInt32 v2 >>> (Int32.toUInt32 16 &&& Int32.toUInt32 31)).toInt32)))]) hx hb dJ6_bitCount_0f7a4_47 rfl hl (by decide) rfl (fun ls hl => ?_)
  refine lv_iload_n hx hb dJ6_bitCount_0f7a4_48 rfl (lv_at hl 0 rfl) ?_
  refine lv_bipush (v := 63) hx hb dJ6_bitCount_0f7a4_49 (by decide) ?_
  refine lv_iand hx hb dJ6_bitCount_0f7a4_51 ?_
  exact zri Z hr hlk h dJ6_bitCount_0f7a4_52
def m_X7_isDigit (x0 : Int32) : Option (Int32) :=
  if x0 < 48 then (some 0) else (if 57 < x0 then (some 0) else (some 1))
set_option maxHeartbeats 4000000 in
set_option maxRecDepth 100000 in
theorem c_X7_isDigit {l : Launch} {D : va_G} {cy : Nat → ClassId} {ad : Nat → Nat} {σ τ : Sx} {R : Room} (hI : gInj ad) (hRf : 0 ≤ R.frames) (hRl : 0 ≤ R.locals) {x0 : Int32} {out : Int32} (h : m_X7_isDigit x0 = some out) : Met l yX7_isDigit [Cond.code yX7_isDigit cX7_isDigit 1 (some .boolean)] R (va_Pc [.int x0] (gB D cy ad σ τ)) (rQi out) 0 0 noA := by
  refine zstart [.int x0] (by decide) rfl hI (Nat.le_of_ble_eq_true rfl) ?_
  intro p e s m below meth c Z hr hlk hP ls hl
  have hx := Z.x
  have hb := Z.b
  generalize hargs : ([.int x0] : List Value).toArray = args
  have hl : lv_has ls 1 [(0, .int x0)] := hl
  unfold m_X7_isDigit at h
  refine lv_iload_n hx hb dX7_isDigit_0 rfl (lv_at hl 0 rfl) ?_
  refine lv_bipush (v := 48) hx hb dX7_isDigit_1 (by decide) ?_
  refine lv_icmp_lt (tgt := 16) hx hb dX7_isDigit_3 (by decide) (fun c1 => ?_) (fun c1 => ?_)
  · rw [if_pos c1] at h
    refine lv_iconst (v := 0) hx hb dX7_isDigit_16 (by decide) ?_
    exact zrzc Z hr hlk (Or.inl rfl) h dX7_isDigit_17
  · rw [if_neg c1] at h
    refine lv_iload_n hx hb dX7_isDigit_6 rfl (lv_at hl 0 rfl) ?_
    refine lv_bipush (v := 57) hx hb dX7_isDigit_7 (by decide) ?_
    refine lv_icmp_gt (tgt := 16) hx hb dX7_isDigit_9 (by decide) (fun c2 => ?_) (fun c2 => ?_)
    · rw [if_pos c2] at h
      refine lv_iconst (v := 0) hx hb dX7_isDigit_16 (by decide) ?_
      exact zrzc Z hr hlk (Or.inl rfl) h dX7_isDigit_17
    · rw [if_neg c2] at h
      refine lv_iconst (v := 1) hx hb dX7_isDigit_12 (by decide) ?_
      refine lv_goto (tgt := 17) hx hb dX7_isDigit_13 (by decide) ?_
      exact zrzc Z hr hlk (Or.inr rfl) h dX7_isDigit_17
def m_X7_isSign (x0 : Int32) : Option (Int32) :=
  if x0 = 116 then (some 1) else (if x0 = 104 then (some 1) else (if x0 = 99 then (some 1) else (if x0 = 100 then (some 1) else (if x0 = 59 then (some 1) else (some 0)))))
set_option maxHeartbeats 4000000 in
set_option maxRecDepth 100000 in
theorem c_X7_isSign {l : Launch} {D : va_G} {cy : Nat → ClassId} {ad : Nat → Nat} {σ τ : Sx} {R : Room} (hI : gInj ad) (hRf : 0 ≤ R.frames) (hRl : 0 ≤ R.locals) {x0 : Int32} {out : Int32} (h : m_X7_isSign x0 = some out) : Met l yX7_isSign [Cond.code yX7_isSign cX7_isSign 1 (some .boolean)] R (va_Pc [.int x0] (gB D cy ad σ τ)) (rQi out) 0 0 noA := by
  refine zstart [.int x0] (by decide) rfl hI (Nat.le_of_ble_eq_true rfl) ?_
  intro p e s m below meth c Z hr hlk hP ls hl
  have hx := Z.x
  have hb := Z.b
  generalize hargs : ([.int x0] : List Value).toArray = args
  have hl : lv_has ls 1 [(0, .int x0)] := hl
  unfold m_X7_isSign at h
  refine lv_iload_n hx hb dX7_isSign_0 rfl (lv_at hl 0 rfl) ?_
  refine lv_bipush (v := 116) hx hb dX7_isSign_1 (by decide) ?_
  refine lv_icmp_eq (tgt := 30) hx hb dX7_isSign_3 (by decide) (fun c1 => ?_) (fun c1 => ?_)
  · rw [if_pos c1] at h
    refine lv_iconst (v := 1) hx hb dX7_isSign_30 (by decide) ?_
    refine lv_goto (tgt := 35) hx hb dX7_isSign_31 (by decide) ?_
    exact zrzc Z hr hlk (Or.inr rfl) h dX7_isSign_35
  · rw [if_neg c1] at h
    refine lv_iload_n hx hb dX7_isSign_6 rfl (lv_at hl 0 rfl) ?_
    refine lv_bipush (v := 104) hx hb dX7_isSign_7 (by decide) ?_
    refine lv_icmp_eq (tgt := 30) hx hb dX7_isSign_9 (by decide) (fun c2 => ?_) (fun c2 => ?_)
    · rw [if_pos c2] at h
      refine lv_iconst (v := 1) hx hb dX7_isSign_30 (by decide) ?_
      refine lv_goto (tgt := 35) hx hb dX7_isSign_31 (by decide) ?_
      exact zrzc Z hr hlk (Or.inr rfl) h dX7_isSign_35
    · rw [if_neg c2] at h
      refine lv_iload_n hx hb dX7_isSign_12 rfl (lv_at hl 0 rfl) ?_
      refine lv_bipush (v := 99) hx hb dX7_isSign_13 (by decide) ?_
      refine lv_icmp_eq (tgt := 30) hx hb dX7_isSign_15 (by decide) (fun c3 => ?_) (fun c3 => ?_)
      · rw [if_pos c3] at h
        refine lv_iconst (v := 1) hx hb dX7_isSign_30 (by decide) ?_
        refine lv_goto (tgt := 35) hx hb dX7_isSign_31 (by decide) ?_
        exact zrzc Z hr hlk (Or.inr rfl) h dX7_isSign_35
      · rw [if_neg c3] at h
        refine lv_iload_n hx hb dX7_isSign_18 rfl (lv_at hl 0 rfl) ?_
        refine lv_bipush (v := 100) hx hb dX7_isSign_19 (by decide) ?_
        refine lv_icmp_eq (tgt := 30) hx hb dX7_isSign_21 (by decide) (fun c4 => ?_) (fun c4 => ?_)
        · rw [if_pos c4] at h
          refine lv_iconst (v := 1) hx hb dX7_isSign_30 (by decide) ?_
          refine lv_goto (tgt := 35) hx hb dX7_isSign_31 (by decide) ?_
          exact zrzc Z hr hlk (Or.inr rfl) h dX7_isSign_35
        · rw [if_neg c4] at h
          refine lv_iload_n hx hb dX7_isSign_24 rfl (lv_at hl 0 rfl) ?_
          refine lv_bipush (v := 59) hx hb dX7_isSign_25 (by decide) ?_
          refine lv_icmp_ne (tgt := 34) hx hb dX7_isSign_27 (by decide) (fun c5 => ?_) (fun c5 => ?_)
          · rw [if_neg c5] at h
            refine lv_iconst (v := 0) hx hb dX7_isSign_34 (by decide) ?_
            exact zrzc Z hr hlk (Or.inl rfl) h dX7_isSign_35
          · rw [if_pos c5] at h
            refine lv_iconst (v := 1) hx hb dX7_isSign_30 (by decide) ?_
            refine lv_goto (tgt := 35) hx hb dX7_isSign_31 (by decide) ?_
            exact zrzc Z hr hlk (Or.inr rfl) h dX7_isSign_35
def m_X12_in (x0 : Int32) (x1 : Int32) (x2 : Int32) : Option (Int32) :=
  if x0 < x1 then (some 0) else (if x2 < x0 then (some 0) else (some 1))
set_option maxHeartbeats 4000000 in
set_option maxRecDepth 100000 in
theorem c_X12_in {l : Launch} {D : va_G} {cy : Nat → ClassId} {ad : Nat → Nat} {σ τ : Sx} {R : Room} (hI : gInj ad) (hRf : 0 ≤ R.frames) (hRl : 0 ≤ R.locals) {x0 : Int32} {x1 : Int32} {x2 : Int32} {out : Int32} (h : m_X12_in x0 x1 x2 = some out) : Met l yX12_in [Cond.code yX12_in cX12_in 3 (some .boolean)] R (va_Pc [.int x0, .int x1, .int x2] (gB D cy ad σ τ)) (rQi out) 0 0 noA := by
  refine zstart [.int x0, .int x1, .int x2] (by decide) rfl hI (Nat.le_of_ble_eq_true rfl) ?_
  intro p e s m below meth c Z hr hlk hP ls hl
  have hx := Z.x
  have hb := Z.b
  generalize hargs : ([.int x0, .int x1, .int x2] : List Value).toArray = args
  have hl : lv_has ls 3 [(0, .int x0), (1, .int x1), (2, .int x2)] := hl
  unfold m_X12_in at h
  refine lv_iload_n hx hb dX12_in_0 rfl (lv_at hl 0 rfl) ?_
  refine lv_iload_n hx hb dX12_in_1 rfl (lv_at hl 1 rfl) ?_
  refine lv_icmp_lt (tgt := 14) hx hb dX12_in_2 (by decide) (fun c1 => ?_) (fun c1 => ?_)
  · rw [if_pos c1] at h
    refine lv_iconst (v := 0) hx hb dX12_in_14 (by decide) ?_
    exact zrzc Z hr hlk (Or.inl rfl) h dX12_in_15
  · rw [if_neg c1] at h
    refine lv_iload_n hx hb dX12_in_5 rfl (lv_at hl 0 rfl) ?_
    refine lv_iload_n hx hb dX12_in_6 rfl (lv_at hl 2 rfl) ?_
    refine lv_icmp_gt (tgt := 14) hx hb dX12_in_7 (by decide) (fun c2 => ?_) (fun c2 => ?_)
    · rw [if_pos c2] at h
      refine lv_iconst (v := 0) hx hb dX12_in_14 (by decide) ?_
      exact zrzc Z hr hlk (Or.inl rfl) h dX12_in_15
    · rw [if_neg c2] at h
      refine lv_iconst (v := 1) hx hb dX12_in_10 (by decide) ?_
      refine lv_goto (tgt := 15) hx hb dX12_in_11 (by decide) ?_
      exact zrzc Z hr hlk (Or.inr rfl) h dX12_in_15
def m_X12_ones_L4  : Nat → Int32 → Int32 → Int32 → Option (Int32)
  | 0, _, _, _ => none
  | n + 1, x0, x1, x2 =>
  if 5 ≤ x2 then (some x1) else (m_X12_ones_L4 n x0 ((x1 + ((x0 >>> (x2 &&& 31)) &&& 1))) ((x2 + 1)))
def m_X12_ones (x0 : Int32) : Option (Int32) :=
  (m_X12_ones_L4 FU x0 0 0).bind (fun y2 => some y2)
set_option maxHeartbeats 4000000 in
set_option maxRecDepth 100000 in
theorem w_X12_ones_L4 {l : Launch} {D : va_G} {cy : Nat → ClassId} {ad : Nat → Nat} {σ τ : Sx} {p : Program} {e : Env} {R : Room} {s : State} {m : MethodId} {args : Array Value} {below : List Frame} {meth : Method} {c : Code} (Z : Zc p s m c cX12_ones 3 RX12 D cy ad) (hP : va_P D vwCl (gW cy ad σ τ) s.heap) (hr : meth.sig.returnType = (some .int)) (hlk : meth.locks = false) (hRf : 0 ≤ R.frames) (hRl : 0 ≤ R.locals) (out : Int32) : ∀ (n : Nat) (x0 : Int32) (x1 : Int32) (x2 : Int32) (res : Int32), m_X12_ones_L4 n x0 x1 x2 = some res → ∀ ls : Array Slot, lv_has ls 3 [(0, .int x0), (1, .int x1), (2, .int x2)] → (∀ ls : Array Slot, lv_has ls 3 [(1, .int res)] → W p l e R s m args below meth c s.heap [] 0 0 (MQ below (rQi out) args s 0 0 noA) (F0 m 23 ls [])) → W p l e R s m args below meth c s.heap [] 0 0 (MQ below (rQi out) args s 0 0 noA) (F0 m 4 ls []) := by
  have hx := Z.x
  have hb := Z.b
  intro n
  induction n with
  | zero => intro x0 x1 x2 res h; cases h
  | succ n ih =>
    intro x0 x1 x2 res h ls hl kx
    rw [m_X12_ones_L4] at h
    refine lv_iload_n hx hb dX12_ones_4 rfl (lv_at hl 2 rfl) ?_
    refine lv_iconst (v := 5) hx hb dX12_ones_5 (by decide) ?_
    refine lv_icmp_ge (tgt := 23) hx hb dX12_ones_6 (by decide) (fun c1 => ?_) (fun c1 => ?_)
    · rw [if_pos c1] at h
      obtain rfl := Option.some.inj h
      exact kx _ (lv_sub hl [1] rfl)
    · rw [if_neg c1] at h
      refine lv_iload_n hx hb dX12_ones_9 rfl (lv_at hl 1 rfl) ?_
      refine lv_iload_n hx hb dX12_ones_10 rfl (lv_at hl 0 rfl) ?_
      refine lv_iload_n hx hb dX12_ones_11 rfl (lv_at hl 2 rfl) ?_
      refine lv_ishr hx hb dX12_ones_12 ?_
      refine lv_iconst (v := 1) hx hb dX12_ones_13 (by decide) ?_
      refine lv_iand hx hb dX12_ones_14 ?_
      refine lv_iadd hx hb dX12_ones_15 ?_
      refine lv_istore_n (lv' := [(1, .int (x1 + ((x0 >>> (x2 &&& 31)) &&& 1))), (0, .int x0), (2, .int x2)]) hx hb dX12_ones_16 rfl hl (by decide) rfl (fun ls hl => ?_)
      refine lv_iinc (v := (x2 + 1)) (lv' := [(2, .int (x2 + 1)), (1, .int (x1 + ((x0 >>> (x2 &&& 31)) &&& 1))), (0, .int x0)]) hx hb dX12_ones_17 hl (k := 2) rfl rfl (by decide) rfl (fun ls hl => ?_)
      refine lv_goto (tgt := 4) hx hb dX12_ones_20 (by decide) ?_
      exact ih x0 ((x1 + ((x0 >>> (x2 &&& 31)) &&& 1))) ((x2 + 1)) _ h _ (lv_sub hl [2, 1, 0] rfl) kx
set_option maxHeartbeats 4000000 in
set_option maxRecDepth 100000 in
theorem c_X12_ones {l : Launch} {D : va_G} {cy : Nat → ClassId} {ad : Nat → Nat} {σ τ : Sx} {R : Room} (hI : gInj ad) (hRf : 0 ≤ R.frames) (hRl : 0 ≤ R.locals) {x0 : Int32} {out : Int32} (h : m_X12_ones x0 = some out) : Met l yX12_ones [Cond.code yX12_ones cX12_ones 3 (some .int)] R (va_Pc [.int x0] (gB D cy ad σ τ)) (rQi out) 0 0 noA := by
  refine zstart [.int x0] (by decide) rfl hI (Nat.le_of_ble_eq_true rfl) ?_
  intro p e s m below meth c Z hr hlk hP ls hl
  have hx := Z.x
  have hb := Z.b
  generalize hargs : ([.int x0] : List Value).toArray = args
  have hl : lv_has ls 3 [(0, .int x0)] := hl
  unfold m_X12_ones at h
  refine lv_iconst (v := 0) hx hb dX12_ones_0 (by decide) ?_
  refine lv_istore_n (lv' := [(1, .int 0), (0, .int x0)]) hx hb dX12_ones_1 rfl hl (by decide) rfl (fun ls hl => ?_)
  refine lv_iconst (v := 0) hx hb dX12_ones_2 (by decide) ?_
  refine lv_istore_n (lv' := [(2, .int 0), (1, .int 0), (0, .int x0)]) hx hb dX12_ones_3 rfl hl (by decide) rfl (fun ls hl => ?_)
  obtain ⟨y2, hy2, h⟩ := bd h
  refine w_X12_ones_L4 Z hP hr hlk hRf hRl out FU x0 0 0 y2 hy2 _ (lv_sub hl [2, 1, 0] rfl) (fun ls hl => ?_)
  refine lv_iload_n hx hb dX12_ones_23 rfl (lv_at hl 0 rfl) ?_
  exact zri Z hr hlk h dX12_ones_24
def m_X12_filled_J27 (s0 : Int32) (s1 : Int32) : Option (Int32) :=
  if (s1 + s0) ≤ 100 then (some ((s1 + s0))) else (some 100)
def m_X12_filled_J14 (x0 : Int32) (x1 : Int32) (s0 : Int32) : Option (Int32) :=
  if 80 ≤ x0 then (m_X12_filled_J27 s0 x0) else (m_X12_filled_J27 x1 x0)
def m_X12_filled (x0 : Int32) (x1 : Int32) : Option (Int32) :=
  (dvI x1 2).bind (fun v1 => if 1 ≤ v1 then ((dvI x1 2).bind (fun v3 => m_X12_filled_J14 x0 x1 v3)) else (m_X12_filled_J14 x0 x1 1))
set_option maxHeartbeats 4000000 in
set_option maxRecDepth 100000 in
theorem c_X12_filled {l : Launch} {D : va_G} {cy : Nat → ClassId} {ad : Nat → Nat} {σ τ : Sx} {R : Room} (hI : gInj ad) (hRf : 0 ≤ R.frames) (hRl : 0 ≤ R.locals) {x0 : Int32} {x1 : Int32} {out : Int32} (h : m_X12_filled x0 x1 = some out) : Met l yX12_filled [Cond.code yX12_filled cX12_filled 4 (some .int)] R (va_Pc [.int x0, .int x1] (gB D cy ad σ τ)) (rQi out) 0 0 noA := by
  refine zstart [.int x0, .int x1] (by decide) rfl hI (Nat.le_of_ble_eq_true rfl) ?_
  intro p e s m below meth c Z hr hlk hP ls hl
  have hx := Z.x
  have hb := Z.b
  generalize hargs : ([.int x0, .int x1] : List Value).toArray = args
  have hl : lv_has ls 4 [(0, .int x0), (1, .int x1)] := hl
  have J27 : ∀ (s0 : Int32) (s1 : Int32), m_X12_filled_J27 s0 s1 = some out → ∀ ls : Array Slot, lv_has ls 4 [] → W p l e R s m args below meth c s.heap [] 0 0 (MQ below (rQi out) args s 0 0 noA) (F0 m 27 ls [.int s0, .int s1]) := by
    intro s0 s1 h ls hl
    unfold m_X12_filled_J27 at h
    refine lv_iadd hx hb dX12_filled_27 ?_
    refine lv_istore_n (lv' := [(3, .int (s1 + s0))]) hx hb dX12_filled_28 rfl hl (by decide) rfl (fun ls hl => ?_)
    refine lv_iload_n hx hb dX12_filled_29 rfl (lv_at hl 0 rfl) ?_
    refine lv_bipush (v := 100) hx hb dX12_filled_30 (by decide) ?_
    refine lv_icmp_le (tgt := 40) hx hb dX12_filled_32 (by decide) (fun c5 => ?_) (fun c5 => ?_)
    · rw [if_pos c5] at h
      refine lv_iload_n hx hb dX12_filled_40 rfl (lv_at hl 0 rfl) ?_
      exact zri Z hr hlk h dX12_filled_41
    · rw [if_neg c5] at h
      refine lv_bipush (v := 100) hx hb dX12_filled_35 (by decide) ?_
      refine lv_goto (tgt := 41) hx hb dX12_filled_37 (by decide) ?_
      exact zri Z hr hlk h dX12_filled_41
  have J14 : ∀ (x0 : Int32) (x1 : Int32) (s0 : Int32), m_X12_filled_J14 x0 x1 s0 = some out → ∀ ls : Array Slot, lv_has ls 4 [(0, .int x0), (1, .int x1)] → W p l e R s m args below meth c s.heap [] 0 0 (MQ below (rQi out) args s 0 0 noA) (F0 m 14 ls [.int s0]) := by
    intro x0 x1 s0 h ls hl
    unfold m_X12_filled_J14 at h
    refine lv_istore_n (lv' := [(2, .int s0), (0, .int x0), (1, .int x1)]) hx hb dX12_filled_14 rfl hl (by decide) rfl (fun ls hl => ?_)
    refine lv_iload_n hx hb dX12_filled_15 rfl (lv_at hl 1 rfl) ?_
    refine lv_iload_n hx hb dX12_filled_16 rfl (lv_at hl 1 rfl) ?_
    refine lv_bipush (v := 80) hx hb dX12_filled_17 (by decide) ?_
    refine lv_icmp_ge (tgt := 26) hx hb dX12_filled_19 (by decide) (fun c4 => ?_) (fun c4 => ?_)
    · rw [if_pos c4] at h
      refine lv_iload_n hx hb dX12_filled_26 rfl (lv_at hl 0 rfl) ?_
      exact J27 s0 x0 h _ (lv_sub hl [] rfl)
    · rw [if_neg c4] at h
      refine lv_iload_n hx hb dX12_filled_22 rfl (lv_at hl 2 rfl) ?_
      refine lv_goto (tgt := 27) hx hb dX12_filled_23 (by decide) ?_
      exact J27 x1 x0 h _ (lv_sub hl [] rfl)
  unfold m_X12_filled at h
  refine lv_iload_n hx hb dX12_filled_0 rfl (lv_at hl 1 rfl) ?_
  refine lv_iconst (v := 2) hx hb dX12_filled_1 (by decide) ?_
  obtain ⟨v1, hv1, h⟩ := bd h
  refine zdiv Z hv1 dX12_filled_2 ?_
  refine lv_iconst (v := 1) hx hb dX12_filled_3 (by decide) ?_
  refine lv_icmp_ge (tgt := 11) hx hb dX12_filled_4 (by decide) (fun c2 => ?_) (fun c2 => ?_)
  · rw [if_pos c2] at h
    refine lv_iload_n hx hb dX12_filled_11 rfl (lv_at hl 1 rfl) ?_
    refine lv_iconst (v := 2) hx hb dX12_filled_12 (by decide) ?_
    obtain ⟨v3, hv3, h⟩ := bd h
    refine zdiv Z hv3 dX12_filled_13 ?_
    exact J14 x0 x1 v3 h _ (lv_sub hl [0, 1] rfl)
  · rw [if_neg c2] at h
    refine lv_iconst (v := 1) hx hb dX12_filled_7 (by decide) ?_
    refine lv_goto (tgt := 14) hx hb dX12_filled_8 (by decide) ?_
    exact J14 x0 x1 1 h _ (lv_sub hl [0, 1] rfl)
def m_X12_lower (x0 : Int32) (x1 : Int32) : Option (Int32) :=
  if x1 ≤ x0 then (some ((x0 - x1))) else (some 0)
set_option maxHeartbeats 4000000 in
set_option maxRecDepth 100000 in
theorem c_X12_lower {l : Launch} {D : va_G} {cy : Nat → ClassId} {ad : Nat → Nat} {σ τ : Sx} {R : Room} (hI : gInj ad) (hRf : 0 ≤ R.frames) (hRl : 0 ≤ R.locals) {x0 : Int32} {x1 : Int32} {out : Int32} (h : m_X12_lower x0 x1 = some out) : Met l yX12_lower [Cond.code yX12_lower cX12_lower 2 (some .int)] R (va_Pc [.int x0, .int x1] (gB D cy ad σ τ)) (rQi out) 0 0 noA := by
  refine zstart [.int x0, .int x1] (by decide) rfl hI (Nat.le_of_ble_eq_true rfl) ?_
  intro p e s m below meth c Z hr hlk hP ls hl
  have hx := Z.x
  have hb := Z.b
  generalize hargs : ([.int x0, .int x1] : List Value).toArray = args
  have hl : lv_has ls 2 [(0, .int x0), (1, .int x1)] := hl
  unfold m_X12_lower at h
  refine lv_iload_n hx hb dX12_lower_0 rfl (lv_at hl 0 rfl) ?_
  refine lv_iload_n hx hb dX12_lower_1 rfl (lv_at hl 1 rfl) ?_
  refine lv_icmp_ge (tgt := 9) hx hb dX12_lower_2 (by decide) (fun c1 => ?_) (fun c1 => ?_)
  · rw [if_pos c1] at h
    refine lv_iload_n hx hb dX12_lower_9 rfl (lv_at hl 0 rfl) ?_
    refine lv_iload_n hx hb dX12_lower_10 rfl (lv_at hl 1 rfl) ?_
    refine lv_isub hx hb dX12_lower_11 ?_
    exact zri Z hr hlk h dX12_lower_12
  · rw [if_neg c1] at h
    refine lv_iconst (v := 0) hx hb dX12_lower_5 (by decide) ?_
    refine lv_goto (tgt := 12) hx hb dX12_lower_6 (by decide) ?_
    exact zri Z hr hlk h dX12_lower_12
def m_X12_power_L4  : Nat → Int32 → Int32 → Int32 → Int32 → Option (Int32)
  | 0, _, _, _, _ => none
  | n + 1, x0, x1, x2, x3 =>
  if x1 ≤ x3 then (some x2) else (m_X12_power_L4 n x0 x1 ((x2 * x0)) ((x3 + 1)))
def m_X12_power (x0 : Int32) (x1 : Int32) : Option (Int32) :=
  (m_X12_power_L4 FU x0 x1 1 0).bind (fun y2 => some y2)
set_option maxHeartbeats 4000000 in
set_option maxRecDepth 100000 in
theorem w_X12_power_L4 {l : Launch} {D : va_G} {cy : Nat → ClassId} {ad : Nat → Nat} {σ τ : Sx} {p : Program} {e : Env} {R : Room} {s : State} {m : MethodId} {args : Array Value} {below : List Frame} {meth : Method} {c : Code} (Z : Zc p s m c cX12_power 4 RX12 D cy ad) (hP : va_P D vwCl (gW cy ad σ τ) s.heap) (hr : meth.sig.returnType = (some .int)) (hlk : meth.locks = false) (hRf : 0 ≤ R.frames) (hRl : 0 ≤ R.locals) (out : Int32) : ∀ (n : Nat) (x0 : Int32) (x1 : Int32) (x2 : Int32) (x3 : Int32) (res : Int32), m_X12_power_L4 n x0 x1 x2 x3 = some res → ∀ ls : Array Slot, lv_has ls 4 [(0, .int x0), (1, .int x1), (2, .int x2), (3, .int x3)] → (∀ ls : Array Slot, lv_has ls 4 [(2, .int res)] → W p l e R s m args below meth c s.heap [] 0 0 (MQ below (rQi out) args s 0 0 noA) (F0 m 19 ls [])) → W p l e R s m args below meth c s.heap [] 0 0 (MQ below (rQi out) args s 0 0 noA) (F0 m 4 ls []) := by
  have hx := Z.x
  have hb := Z.b
  intro n
  induction n with
  | zero => intro x0 x1 x2 x3 res h; cases h
  | succ n ih =>
    intro x0 x1 x2 x3 res h ls hl kx
    rw [m_X12_power_L4] at h
    refine lv_iload_n hx hb dX12_power_4 rfl (lv_at hl 3 rfl) ?_
    refine lv_iload_n hx hb dX12_power_5 rfl (lv_at hl 1 rfl) ?_
    refine lv_icmp_ge (tgt := 19) hx hb dX12_power_6 (by decide) (fun c1 => ?_) (fun c1 => ?_)
    · rw [if_pos c1] at h
      obtain rfl := Option.some.inj h
      exact kx _ (lv_sub hl [2] rfl)
    · rw [if_neg c1] at h
      refine lv_iload_n hx hb dX12_power_9 rfl (lv_at hl 2 rfl) ?_
      refine lv_iload_n hx hb dX12_power_10 rfl (lv_at hl 0 rfl) ?_
      refine lv_imul hx hb dX12_power_11 ?_
      refine lv_istore_n (lv' := [(2, .int (x2 * x0)), (0, .int x0), (1, .int x1), (3, .int x3)]) hx hb dX12_power_12 rfl hl (by decide) rfl (fun ls hl => ?_)
      refine lv_iinc (v := (x3 + 1)) (lv' := [(3, .int (x3 + 1)), (2, .int (x2 * x0)), (0, .int x0), (1, .int x1)]) hx hb dX12_power_13 hl (k := 3) rfl rfl (by decide) rfl (fun ls hl => ?_)
      refine lv_goto (tgt := 4) hx hb dX12_power_16 (by decide) ?_
      exact ih x0 x1 ((x2 * x0)) ((x3 + 1)) _ h _ (lv_sub hl [2, 3, 1, 0] rfl) kx
set_option maxHeartbeats 4000000 in
set_option maxRecDepth 100000 in
theorem c_X12_power {l : Launch} {D : va_G} {cy : Nat → ClassId} {ad : Nat → Nat} {σ τ : Sx} {R : Room} (hI : gInj ad) (hRf : 0 ≤ R.frames) (hRl : 0 ≤ R.locals) {x0 : Int32} {x1 : Int32} {out : Int32} (h : m_X12_power x0 x1 = some out) : Met l yX12_power [Cond.code yX12_power cX12_power 4 (some .int)] R (va_Pc [.int x0, .int x1] (gB D cy ad σ τ)) (rQi out) 0 0 noA := by
  refine zstart [.int x0, .int x1] (by decide) rfl hI (Nat.le_of_ble_eq_true rfl) ?_
  intro p e s m below meth c Z hr hlk hP ls hl
  have hx := Z.x
  have hb := Z.b
  generalize hargs : ([.int x0, .int x1] : List Value).toArray = args
  have hl : lv_has ls 4 [(0, .int x0), (1, .int x1)] := hl
  unfold m_X12_power at h
  refine lv_iconst (v := 1) hx hb dX12_power_0 (by decide) ?_
  refine lv_istore_n (lv' := [(2, .int 1), (0, .int x0), (1, .int x1)]) hx hb dX12_power_1 rfl hl (by decide) rfl (fun ls hl => ?_)
  refine lv_iconst (v := 0) hx hb dX12_power_2 (by decide) ?_
  refine lv_istore_n (lv' := [(3, .int 0), (2, .int 1), (0, .int x0), (1, .int x1)]) hx hb dX12_power_3 rfl hl (by decide) rfl (fun ls hl => ?_)
  obtain ⟨y2, hy2, h⟩ := bd h
  refine w_X12_power_L4 Z hP hr hlk hRf hRl out FU x0 x1 1 0 y2 hy2 _ (lv_sub hl [2, 3, 1, 0] rfl) (fun ls hl => ?_)
  refine lv_iload_n hx hb dX12_power_19 rfl (lv_at hl 0 rfl) ?_
  exact zri Z hr hlk h dX12_power_20
def m_X12_gcd_L6  : Nat → Int64 → Int64 → Option (Int64)
  | 0, _, _ => none
  | n + 1, x4, x6 =>
  if (lg_cmp x6 0) = 0 then (some x4) else ((rmL x4 x6).bind (fun v2 => m_X12_gcd_L6 n x6 v2))
def m_X12_gcd (x0 : Int64) (x2 : Int64) : Option (Int64) :=
  (m_X12_gcd_L6 FU x0 x2).bind (fun y3 => some y3)
set_option maxHeartbeats 4000000 in
set_option maxRecDepth 100000 in
theorem w_X12_gcd_L6 {l : Launch} {D : va_G} {cy : Nat → ClassId} {ad : Nat → Nat} {σ τ : Sx} {p : Program} {e : Env} {R : Room} {s : State} {m : MethodId} {args : Array Value} {below : List Frame} {meth : Method} {c : Code} (Z : Zc p s m c cX12_gcd 10 RX12 D cy ad) (hP : va_P D vwCl (gW cy ad σ τ) s.heap) (hr : meth.sig.returnType = (some .long)) (hlk : meth.locks = false) (hRf : 0 ≤ R.frames) (hRl : 0 ≤ R.locals) (out : Int64) : ∀ (n : Nat) (x4 : Int64) (x6 : Int64) (res : Int64), m_X12_gcd_L6 n x4 x6 = some res → ∀ ls : Array Slot, lv_has ls 10 [(4, .long x4), (6, .long x6)] → (∀ ls : Array Slot, lv_has ls 10 [(4, .long res)] → W p l e R s m args below meth c s.heap [] 0 0 (MQ below (rQl out) args s 0 0 noA) (F0 m 31 ls [])) → W p l e R s m args below meth c s.heap [] 0 0 (MQ below (rQl out) args s 0 0 noA) (F0 m 6 ls []) := by
  have hx := Z.x
  have hb := Z.b
  intro n
  induction n with
  | zero => intro x4 x6 res h; cases h
  | succ n ih =>
    intro x4 x6 res h ls hl kx
    rw [m_X12_gcd_L6] at h
    refine lv_lload hx hb dX12_gcd_6 (lv_at hl 1 rfl) ?_
    refine lv_lconst (v := 0) hx hb dX12_gcd_8 (by decide) ?_
    refine W.lcmp hx hb dX12_gcd_9 ?_
    refine lv_if_eq (tgt := 31) hx hb dX12_gcd_10 (by decide) (fun c1 => ?_) (fun c1 => ?_)
    · rw [if_pos c1] at h
      obtain rfl := Option.some.inj h
      exact kx _ (lv_sub hl [0] rfl)
    · rw [if_neg c1] at h
      refine lv_lload hx hb dX12_gcd_13 (lv_at hl 0 rfl) ?_
      refine lv_lload hx hb dX12_gcd_15 (lv_at hl 1 rfl) ?_
      obtain ⟨v2, hv2, h⟩ := bd h
      refine zlrem Z hv2 dX12_gcd_17 ?_
      refine lv_lstore (lv' := [(8, .long v2), (4, .long x4), (6, .long x6)]) hx hb dX12_gcd_18 hl (by decide) rfl (fun ls hl => ?_)
      refine lv_lload hx hb dX12_gcd_20 (lv_at hl 2 rfl) ?_
      refine lv_lstore (lv' := [(4, .long x6), (8, .long v2), (6, .long x6)]) hx hb dX12_gcd_22 hl (by decide) rfl (fun ls hl => ?_)
      refine lv_lload hx hb dX12_gcd_24 (lv_at hl 1 rfl) ?_
      refine lv_lstore (lv' := [(6, .long v2), (4, .long x6), (8, .long v2)]) hx hb dX12_gcd_26 hl (by decide) rfl (fun ls hl => ?_)
      refine lv_goto (tgt := 6) hx hb dX12_gcd_28 (by decide) ?_
      exact ih x6 v2 _ h _ (lv_sub hl [1, 0] rfl) kx
set_option maxHeartbeats 4000000 in
set_option maxRecDepth 100000 in
theorem c_X12_gcd {l : Launch} {D : va_G} {cy : Nat → ClassId} {ad : Nat → Nat} {σ τ : Sx} {R : Room} (hI : gInj ad) (hRf : 0 ≤ R.frames) (hRl : 0 ≤ R.locals) {x0 : Int64} {x2 : Int64} {out : Int64} (h : m_X12_gcd x0 x2 = some out) : Met l yX12_gcd [Cond.code yX12_gcd cX12_gcd 10 (some .long)] R (va_Pc [.long x0, .long x2] (gB D cy ad σ τ)) (rQl out) 0 0 noA := by
  refine zstart [.long x0, .long x2] (by decide) rfl hI (Nat.le_of_ble_eq_true rfl) ?_
  intro p e s m below meth c Z hr hlk hP ls hl
  have hx := Z.x
  have hb := Z.b
  generalize hargs : ([.long x0, .long x2] : List Value).toArray = args
  have hl : lv_has ls 10 [(0, .long x0), (2, .long x2)] := hl
  unfold m_X12_gcd at h
  refine lv_lload_n hx hb dX12_gcd_0 rfl (lv_at hl 0 rfl) ?_
  refine lv_lstore (lv' := [(4, .long x0), (0, .long x0), (2, .long x2)]) hx hb dX12_gcd_1 hl (by decide) rfl (fun ls hl => ?_)
  refine lv_lload_n hx hb dX12_gcd_3 rfl (lv_at hl 2 rfl) ?_
  refine lv_lstore (lv' := [(6, .long x2), (4, .long x0), (0, .long x0), (2, .long x2)]) hx hb dX12_gcd_4 hl (by decide) rfl (fun ls hl => ?_)
  obtain ⟨y3, hy3, h⟩ := bd h
  refine w_X12_gcd_L6 Z hP hr hlk hRf hRl out FU x0 x2 y3 hy3 _ (lv_sub hl [1, 0] rfl) (fun ls hl => ?_)
  refine lv_lload hx hb dX12_gcd_31 (lv_at hl 0 rfl) ?_
  exact zrl Z hr hlk h dX12_gcd_33
def m_X11_greatestDivisor_L9  : Nat → Int64 → Int64 → Int32 → Option (Int64)
  | 0, _, _, _ => none
  | n + 1, x4, x6, x8 =>
  if 100 ≤ x8 then (some x4) else (if (lg_cmp x6 0) = 0 then (some x4) else ((rmL x4 x6).bind (fun v3 => m_X11_greatestDivisor_L9 n x6 v3 ((x8 + 1)))))
def m_X11_greatestDivisor (x0 : Int64) (x2 : Int64) : Option (Int64) :=
  (m_X11_greatestDivisor_L9 FU x2 x0 0).bind (fun y4 => some y4)
set_option maxHeartbeats 4000000 in
set_option maxRecDepth 100000 in
theorem w_X11_greatestDivisor_L9 {l : Launch} {D : va_G} {cy : Nat → ClassId} {ad : Nat → Nat} {σ τ : Sx} {p : Program} {e : Env} {R : Room} {s : State} {m : MethodId} {args : Array Value} {below : List Frame} {meth : Method} {c : Code} (Z : Zc p s m c cX11_greatestDivisor 11 RX11 D cy ad) (hP : va_P D vwCl (gW cy ad σ τ) s.heap) (hr : meth.sig.returnType = (some .long)) (hlk : meth.locks = false) (hRf : 0 ≤ R.frames) (hRl : 0 ≤ R.locals) (out : Int64) : ∀ (n : Nat) (x4 : Int64) (x6 : Int64) (x8 : Int32) (res : Int64), m_X11_greatestDivisor_L9 n x4 x6 x8 = some res → ∀ ls : Array Slot, lv_has ls 11 [(4, .long x4), (6, .long x6), (8, .int x8)] → (∀ ls : Array Slot, lv_has ls 11 [(4, .long res)] → W p l e R s m args below meth c s.heap [] 0 0 (MQ below (rQl out) args s 0 0 noA) (F0 m 44 ls [])) → W p l e R s m args below meth c s.heap [] 0 0 (MQ below (rQl out) args s 0 0 noA) (F0 m 9 ls []) := by
  have hx := Z.x
  have hb := Z.b
  intro n
  induction n with
  | zero => intro x4 x6 x8 res h; cases h
  | succ n ih =>
    intro x4 x6 x8 res h ls hl kx
    rw [m_X11_greatestDivisor_L9] at h
    refine lv_iload hx hb dX11_greatestDivisor_9 (lv_at hl 2 rfl) ?_
    refine lv_bipush (v := 100) hx hb dX11_greatestDivisor_11 (by decide) ?_
    refine lv_icmp_ge (tgt := 44) hx hb dX11_greatestDivisor_13 (by decide) (fun c1 => ?_) (fun c1 => ?_)
    · rw [if_pos c1] at h
      obtain rfl := Option.some.inj h
      exact kx _ (lv_sub hl [0] rfl)
    · rw [if_neg c1] at h
      refine lv_lload hx hb dX11_greatestDivisor_16 (lv_at hl 1 rfl) ?_
      refine lv_lconst (v := 0) hx hb dX11_greatestDivisor_18 (by decide) ?_
      refine W.lcmp hx hb dX11_greatestDivisor_19 ?_
      refine lv_if_eq (tgt := 44) hx hb dX11_greatestDivisor_20 (by decide) (fun c2 => ?_) (fun c2 => ?_)
      · rw [if_pos c2] at h
        obtain rfl := Option.some.inj h
        exact kx _ (lv_sub hl [0] rfl)
      · rw [if_neg c2] at h
        refine lv_lload hx hb dX11_greatestDivisor_23 (lv_at hl 0 rfl) ?_
        refine lv_lload hx hb dX11_greatestDivisor_25 (lv_at hl 1 rfl) ?_
        obtain ⟨v3, hv3, h⟩ := bd h
        refine zlrem Z hv3 dX11_greatestDivisor_27 ?_
        refine lv_lstore (lv' := [(9, .long v3), (4, .long x4), (6, .long x6), (8, .int x8)]) hx hb dX11_greatestDivisor_28 hl (by decide) rfl (fun ls hl => ?_)
        refine lv_lload hx hb dX11_greatestDivisor_30 (lv_at hl 2 rfl) ?_
        refine lv_lstore (lv' := [(4, .long x6), (9, .long v3), (6, .long x6), (8, .int x8)]) hx hb dX11_greatestDivisor_32 hl (by decide) rfl (fun ls hl => ?_)
        refine lv_lload hx hb dX11_greatestDivisor_34 (lv_at hl 1 rfl) ?_
        refine lv_lstore (lv' := [(6, .long v3), (4, .long x6), (9, .long v3), (8, .int x8)]) hx hb dX11_greatestDivisor_36 hl (by decide) rfl (fun ls hl => ?_)
        refine lv_iinc (v := (x8 + 1)) (lv' := [(8, .int (x8 + 1)), (6, .long v3), (4, .long x6), (9, .long v3)]) hx hb dX11_greatestDivisor_38 hl (k := 3) rfl rfl (by decide) rfl (fun ls hl => ?_)
        refine lv_goto (tgt := 9) hx hb dX11_greatestDivisor_41 (by decide) ?_
        exact ih x6 v3 ((x8 + 1)) _ h _ (lv_sub hl [2, 1, 0] rfl) kx
set_option maxHeartbeats 4000000 in
set_option maxRecDepth 100000 in
theorem c_X11_greatestDivisor {l : Launch} {D : va_G} {cy : Nat → ClassId} {ad : Nat → Nat} {σ τ : Sx} {R : Room} (hI : gInj ad) (hRf : 0 ≤ R.frames) (hRl : 0 ≤ R.locals) {x0 : Int64} {x2 : Int64} {out : Int64} (h : m_X11_greatestDivisor x0 x2 = some out) : Met l yX11_greatestDivisor [Cond.code yX11_greatestDivisor cX11_greatestDivisor 11 (some .long)] R (va_Pc [.long x0, .long x2] (gB D cy ad σ τ)) (rQl out) 0 0 noA := by
  refine zstart [.long x0, .long x2] (by decide) rfl hI (Nat.le_of_ble_eq_true rfl) ?_
  intro p e s m below meth c Z hr hlk hP ls hl
  have hx := Z.x
  have hb := Z.b
  generalize hargs : ([.long x0, .long x2] : List Value).toArray = args
  have hl : lv_has ls 11 [(0, .long x0), (2, .long x2)] := hl
  unfold m_X11_greatestDivisor at h
  refine lv_lload_n hx hb dX11_greatestDivisor_0 rfl (lv_at hl 1 rfl) ?_
  refine lv_lstore (lv' := [(4, .long x2), (0, .long x0), (2, .long x2)]) hx hb dX11_greatestDivisor_1 hl (by decide) rfl (fun ls hl => ?_)
  refine lv_lload_n hx hb dX11_greatestDivisor_3 rfl (lv_at hl 1 rfl) ?_
  refine lv_lstore (lv' := [(6, .long x0), (4, .long x2), (0, .long x0), (2, .long x2)]) hx hb dX11_greatestDivisor_4 hl (by decide) rfl (fun ls hl => ?_)
  refine lv_iconst (v := 0) hx hb dX11_greatestDivisor_6 (by decide) ?_
  refine lv_istore (lv' := [(8, .int 0), (6, .long x0), (4, .long x2), (0, .long x0), (2, .long x2)]) hx hb dX11_greatestDivisor_7 hl (by decide) rfl (fun ls hl => ?_)
  obtain ⟨y4, hy4, h⟩ := bd h
  refine w_X11_greatestDivisor_L9 Z hP hr hlk hRf hRl out FU x2 x0 0 y4 hy4 _ (lv_sub hl [2, 1, 0] rfl) (fun ls hl => ?_)
  refine lv_lload hx hb dX11_greatestDivisor_44 (lv_at hl 0 rfl) ?_
  exact zrl Z hr hlk h dX11_greatestDivisor_46
def m_X10_canBeOn (σ : Sx) (x1 : Int32) : Option (Int32) :=
  if x1 < 0 then (some 0) else (if ((1 : Int32) <<< ((σ.1 0) &&& 31)) ≤ x1 then (some 0) else ((m_J6_bitCount_0f7a4 x1).bind (fun v3 => if (σ.1 1) < v3 then (some 0) else (some 1))))
set_option maxHeartbeats 4000000 in
set_option maxRecDepth 100000 in
theorem c_X10_canBeOn {l : Launch} {D : va_G} {cy : Nat → ClassId} {ad : Nat → Nat} {σ τ : Sx} {R : Room} (hI : gInj ad) (hRf : 1 ≤ R.frames) (hRl : 20 ≤ R.locals) {x1 : Int32} {out : Int32} (h : m_X10_canBeOn σ x1 = some out) : Met l yX10_canBeOn [Cond.code yX10_canBeOn cX10_canBeOn 2 (some .boolean)] R (va_Pc [.ref (ad 1), .int x1] (gB D cy ad σ τ)) (rQi out) 0 0 noA := by
  refine zstart [.ref (ad 1), .int x1] (by decide) rfl hI (Nat.le_of_ble_eq_true rfl) ?_
  intro p e s m below meth c Z hr hlk hP ls hl
  have hx := Z.x
  have hb := Z.b
  generalize hargs : ([.ref (ad 1), .int x1] : List Value).toArray = args
  have hl : lv_has ls 2 [(0, .ref (ad 1)), (1, .int x1)] := hl
  unfold m_X10_canBeOn at h
  refine lv_iload_n hx hb dX10_canBeOn_0 rfl (lv_at hl 1 rfl) ?_
  refine lv_if_lt (tgt := 29) hx hb dX10_canBeOn_1 (by decide) (fun c1 => ?_) (fun c1 => ?_)
  · rw [if_pos c1] at h
    refine lv_iconst (v := 0) hx hb dX10_canBeOn_29 (by decide) ?_
    exact zrzc Z hr hlk (Or.inl rfl) h dX10_canBeOn_30
  · rw [if_neg c1] at h
    refine lv_iload_n hx hb dX10_canBeOn_4 rfl (lv_at hl 1 rfl) ?_
    refine lv_iconst (v := 1) hx hb dX10_canBeOn_5 (by decide) ?_
    refine lv_aload_n hx hb dX10_canBeOn_6 rfl (lv_at hl 0 rfl) ?_
    refine fg_1_0 Z hP wF_X10_9 dX10_canBeOn_7 ?_
    refine lv_ishl hx hb dX10_canBeOn_10 ?_
    refine lv_icmp_ge (tgt := 29) hx hb dX10_canBeOn_11 (by decide) (fun c2 => ?_) (fun c2 => ?_)
    · rw [if_pos c2] at h
      refine lv_iconst (v := 0) hx hb dX10_canBeOn_29 (by decide) ?_
      exact zrzc Z hr hlk (Or.inl rfl) h dX10_canBeOn_30
    · rw [if_neg c2] at h
      refine lv_iload_n hx hb dX10_canBeOn_14 rfl (lv_at hl 1 rfl) ?_
      obtain ⟨v3, hv3, h⟩ := bd h
      refine zqi (zrunS Z hP (As := [.int x1]) (rest := []) (c_J6_bitCount_0f7a4 (R := { frames := 0, cells := 0, slots := 0, locals := 0 }) Z.i (Nat.le_refl _) (Nat.le_refl _) hv3) cV_X10_55 rfl rfl ⟨(Nat.le_trans (Nat.le_of_ble_eq_true rfl) hRf), (Nat.le_trans (Nat.le_of_ble_eq_true rfl) hRl)⟩ rfl hl.1 rfl (Nat.le_of_ble_eq_true rfl) dX10_canBeOn_15 ⟨Nat.zero_le _, Nat.zero_le _⟩) ?_
      refine lv_aload_n hx hb dX10_canBeOn_18 rfl (lv_at hl 0 rfl) ?_
      refine fg_1_1 Z hP wF_X10_15 dX10_canBeOn_19 ?_
      refine lv_icmp_gt (tgt := 29) hx hb dX10_canBeOn_22 (by decide) (fun c4 => ?_) (fun c4 => ?_)
      · rw [if_pos c4] at h
        refine lv_iconst (v := 0) hx hb dX10_canBeOn_29 (by decide) ?_
        exact zrzc Z hr hlk (Or.inl rfl) h dX10_canBeOn_30
      · rw [if_neg c4] at h
        refine lv_iconst (v := 1) hx hb dX10_canBeOn_25 (by decide) ?_
        refine lv_goto (tgt := 30) hx hb dX10_canBeOn_26 (by decide) ?_
        exact zrzc Z hr hlk (Or.inr rfl) h dX10_canBeOn_30
def m_X10_isDark_L2 (σ : Sx) : Nat → Int32 → Int32 → Option (Sum (Int32) (Unit))
  | 0, _, _ => none
  | n + 1, x1, x2 =>
  if (σ.1 3) ≤ x2 then (some (.inr (()))) else ((ldA cLn σ 6 x2).bind (fun v2 => if x1 < v2 then (m_X10_isDark_L2 σ n x1 ((x2 + 1))) else ((ldA cLn σ 7 x2).bind (fun v4 => if v4 < x1 then (m_X10_isDark_L2 σ n x1 ((x2 + 1))) else (some (.inl 1))))))
def m_X10_isDark (σ : Sx) (x1 : Int32) : Option (Int32) :=
  (m_X10_isDark_L2 σ FU x1 0).bind (fun rs8 => Sum.elim (fun r7 => some r7) (fun y6 => some 0) rs8)
set_option maxHeartbeats 4000000 in
set_option maxRecDepth 100000 in
theorem w_X10_isDark_L2 {l : Launch} {D : va_G} {cy : Nat → ClassId} {ad : Nat → Nat} {σ τ : Sx} {p : Program} {e : Env} {R : Room} {s : State} {m : MethodId} {args : Array Value} {below : List Frame} {meth : Method} {c : Code} (Z : Zc p s m c cX10_isDark 3 RX10 D cy ad) (hP : va_P D vwCl (gW cy ad σ τ) s.heap) (hr : meth.sig.returnType = (some .boolean)) (hlk : meth.locks = false) (hRf : 0 ≤ R.frames) (hRl : 0 ≤ R.locals) (out : Int32) : ∀ (n : Nat) (x1 : Int32) (x2 : Int32) (res : Sum (Int32) (Unit)), m_X10_isDark_L2 σ n x1 x2 = some res → ∀ ls : Array Slot, lv_has ls 3 [(0, .ref (ad 1)), (1, .int x1), (2, .int x2)] → (∀ r : Int32, res = .inl r → r = out) → (∀ y : Unit, res = .inr y → ∀ ls : Array Slot, lv_has ls 3 [] → W p l e R s m args below meth c s.heap [] 0 0 (MQ below (rQi out) args s 0 0 noA) (F0 m 38 ls [])) → W p l e R s m args below meth c s.heap [] 0 0 (MQ below (rQi out) args s 0 0 noA) (F0 m 2 ls []) := by
  have hx := Z.x
  have hb := Z.b
  intro n
  induction n with
  | zero => intro x1 x2 res h; cases h
  | succ n ih =>
    intro x1 x2 res h ls hl hri kx
    rw [m_X10_isDark_L2] at h
    refine lv_iload_n hx hb dX10_isDark_2 rfl (lv_at hl 2 rfl) ?_
    refine lv_aload_n hx hb dX10_isDark_3 rfl (lv_at hl 0 rfl) ?_
    refine fg_1_3 Z hP wF_X10_21 dX10_isDark_4 ?_
    refine lv_icmp_ge (tgt := 38) hx hb dX10_isDark_7 (by decide) (fun c1 => ?_) (fun c1 => ?_)
    · rw [if_pos c1] at h
      exact kx _ (Option.some.inj h).symm _ (lv_sub hl [] rfl)
    · rw [if_neg c1] at h
      refine lv_iload_n hx hb dX10_isDark_10 rfl (lv_at hl 1 rfl) ?_
      refine lv_aload_n hx hb dX10_isDark_11 rfl (lv_at hl 0 rfl) ?_
      refine fg_1_10 Z hP wF_X10_43 dX10_isDark_12 ?_
      refine lv_iload_n hx hb dX10_isDark_15 rfl (lv_at hl 2 rfl) ?_
      obtain ⟨v2, hv2, h⟩ := bd h
      refine zc_ld (j := 6) Z hP hv2 dX10_isDark_16 ?_
      refine lv_icmp_lt (tgt := 32) hx hb dX10_isDark_17 (by decide) (fun c3 => ?_) (fun c3 => ?_)
      · rw [if_pos c3] at h
        refine lv_iinc (v := (x2 + 1)) (lv' := [(2, .int (x2 + 1)), (0, .ref (ad 1)), (1, .int x1)]) hx hb dX10_isDark_32 hl (k := 2) rfl rfl (by decide) rfl (fun ls hl => ?_)
        refine lv_goto (tgt := 2) hx hb dX10_isDark_35 (by decide) ?_
        exact ih x1 ((x2 + 1)) _ h _ (lv_sub hl [1, 2, 0] rfl) hri kx
      · rw [if_neg c3] at h
        refine lv_iload_n hx hb dX10_isDark_20 rfl (lv_at hl 1 rfl) ?_
        refine lv_aload_n hx hb dX10_isDark_21 rfl (lv_at hl 0 rfl) ?_
        refine fg_1_11 Z hP wF_X10_46 dX10_isDark_22 ?_
        refine lv_iload_n hx hb dX10_isDark_25 rfl (lv_at hl 2 rfl) ?_
        obtain ⟨v4, hv4, h⟩ := bd h
        refine zc_ld (j := 7) Z hP hv4 dX10_isDark_26 ?_
        refine lv_icmp_gt (tgt := 32) hx hb dX10_isDark_27 (by decide) (fun c5 => ?_) (fun c5 => ?_)
        · rw [if_pos c5] at h
          refine lv_iinc (v := (x2 + 1)) (lv' := [(2, .int (x2 + 1)), (0, .ref (ad 1)), (1, .int x1)]) hx hb dX10_isDark_32 hl (k := 2) rfl rfl (by decide) rfl (fun ls hl => ?_)
          refine lv_goto (tgt := 2) hx hb dX10_isDark_35 (by decide) ?_
          exact ih x1 ((x2 + 1)) _ h _ (lv_sub hl [1, 2, 0] rfl) hri kx
        · rw [if_neg c5] at h
          refine lv_iconst (v := 1) hx hb dX10_isDark_30 (by decide) ?_
          exact zrzc Z hr hlk (Or.inr rfl) (congrArg some (hri _ (Option.some.inj h).symm)) dX10_isDark_31
set_option maxHeartbeats 4000000 in
set_option maxRecDepth 100000 in
theorem c_X10_isDark {l : Launch} {D : va_G} {cy : Nat → ClassId} {ad : Nat → Nat} {σ τ : Sx} {R : Room} (hI : gInj ad) (hRf : 0 ≤ R.frames) (hRl : 0 ≤ R.locals) {x1 : Int32} {out : Int32} (h : m_X10_isDark σ x1 = some out) : Met l yX10_isDark [Cond.code yX10_isDark cX10_isDark 3 (some .boolean)] R (va_Pc [.ref (ad 1), .int x1] (gB D cy ad σ τ)) (rQi out) 0 0 noA := by
  refine zstart [.ref (ad 1), .int x1] (by decide) rfl hI (Nat.le_of_ble_eq_true rfl) ?_
  intro p e s m below meth c Z hr hlk hP ls hl
  have hx := Z.x
  have hb := Z.b
  generalize hargs : ([.ref (ad 1), .int x1] : List Value).toArray = args
  have hl : lv_has ls 3 [(0, .ref (ad 1)), (1, .int x1)] := hl
  unfold m_X10_isDark at h
  refine lv_iconst (v := 0) hx hb dX10_isDark_0 (by decide) ?_
  refine lv_istore_n (lv' := [(2, .int 0), (0, .ref (ad 1)), (1, .int x1)]) hx hb dX10_isDark_1 rfl hl (by decide) rfl (fun ls hl => ?_)
  obtain ⟨rs8, hrs8, h⟩ := bd h
  refine w_X10_isDark_L2 Z hP hr hlk hRf hRl out FU x1 0 rs8 hrs8 _ (lv_sub hl [1, 2, 0] rfl) (fun r7 e1 => ?_) (fun y6 e1 ls hl => ?_)
  · subst e1
    rw [Sum.elim_inl] at h
    exact (Option.some.inj h)
  · subst e1
    rw [Sum.elim_inr] at h
    refine lv_iconst (v := 0) hx hb dX10_isDark_38 (by decide) ?_
    exact zrzc Z hr hlk (Or.inl rfl) h dX10_isDark_39
def m_X10_isCallOf (σ : Sx) (x1 : Int32) (x2 : Int32) (x3 : Int32) : Option (Int32) :=
  (ldA cLn σ 3 x1).bind (fun v1 => if v1 = x2 then ((ldA cLn σ 4 x1).bind (fun v3 => if v3 = x3 then (some 1) else (some 0))) else (some 0))
set_option maxHeartbeats 4000000 in
set_option maxRecDepth 100000 in
theorem c_X10_isCallOf {l : Launch} {D : va_G} {cy : Nat → ClassId} {ad : Nat → Nat} {σ τ : Sx} {R : Room} (hI : gInj ad) (hRf : 0 ≤ R.frames) (hRl : 0 ≤ R.locals) {x1 : Int32} {x2 : Int32} {x3 : Int32} {out : Int32} (h : m_X10_isCallOf σ x1 x2 x3 = some out) : Met l yX10_isCallOf [Cond.code yX10_isCallOf cX10_isCallOf 4 (some .boolean)] R (va_Pc [.ref (ad 1), .int x1, .int x2, .int x3] (gB D cy ad σ τ)) (rQi out) 0 0 noA := by
  refine zstart [.ref (ad 1), .int x1, .int x2, .int x3] (by decide) rfl hI (Nat.le_of_ble_eq_true rfl) ?_
  intro p e s m below meth c Z hr hlk hP ls hl
  have hx := Z.x
  have hb := Z.b
  generalize hargs : ([.ref (ad 1), .int x1, .int x2, .int x3] : List Value).toArray = args
  have hl : lv_has ls 4 [(0, .ref (ad 1)), (1, .int x1), (2, .int x2), (3, .int x3)] := hl
  unfold m_X10_isCallOf at h
  refine lv_aload_n hx hb dX10_isCallOf_0 rfl (lv_at hl 0 rfl) ?_
  refine fg_1_7 Z hP wF_X10_34 dX10_isCallOf_1 ?_
  refine lv_iload_n hx hb dX10_isCallOf_4 rfl (lv_at hl 1 rfl) ?_
  obtain ⟨v1, hv1, h⟩ := bd h
  refine zc_ld (j := 3) Z hP hv1 dX10_isCallOf_5 ?_
  refine lv_iload_n hx hb dX10_isCallOf_6 rfl (lv_at hl 2 rfl) ?_
  refine lv_icmp_ne (tgt := 24) hx hb dX10_isCallOf_7 (by decide) (fun c2 => ?_) (fun c2 => ?_)
  · rw [if_neg c2] at h
    refine lv_iconst (v := 0) hx hb dX10_isCallOf_24 (by decide) ?_
    exact zrzc Z hr hlk (Or.inl rfl) h dX10_isCallOf_25
  · rw [if_pos c2] at h
    refine lv_aload_n hx hb dX10_isCallOf_10 rfl (lv_at hl 0 rfl) ?_
    refine fg_1_8 Z hP wF_X10_37 dX10_isCallOf_11 ?_
    refine lv_iload_n hx hb dX10_isCallOf_14 rfl (lv_at hl 1 rfl) ?_
    obtain ⟨v3, hv3, h⟩ := bd h
    refine zc_ld (j := 4) Z hP hv3 dX10_isCallOf_15 ?_
    refine lv_iload_n hx hb dX10_isCallOf_16 rfl (lv_at hl 3 rfl) ?_
    refine lv_icmp_ne (tgt := 24) hx hb dX10_isCallOf_17 (by decide) (fun c4 => ?_) (fun c4 => ?_)
    · rw [if_neg c4] at h
      refine lv_iconst (v := 0) hx hb dX10_isCallOf_24 (by decide) ?_
      exact zrzc Z hr hlk (Or.inl rfl) h dX10_isCallOf_25
    · rw [if_pos c4] at h
      refine lv_iconst (v := 1) hx hb dX10_isCallOf_20 (by decide) ?_
      refine lv_goto (tgt := 25) hx hb dX10_isCallOf_21 (by decide) ?_
      exact zrzc Z hr hlk (Or.inr rfl) h dX10_isCallOf_25
def m_X10_callsOf_L4 (σ : Sx) : Nat → Int32 → Int32 → Int32 → Option (Int32)
  | 0, _, _, _ => none
  | n + 1, x1, x2, x3 =>
  if (σ.1 2) ≤ x3 then (some x2) else ((ldA cLn σ 3 x3).bind (fun v2 => if v2 = x1 then (m_X10_callsOf_L4 σ n x1 ((x2 + 1)) ((x3 + 1))) else (m_X10_callsOf_L4 σ n x1 x2 ((x3 + 1)))))
def m_X10_callsOf (σ : Sx) (x1 : Int32) : Option (Int32) :=
  (m_X10_callsOf_L4 σ FU x1 0 0).bind (fun y4 => some y4)
set_option maxHeartbeats 4000000 in
set_option maxRecDepth 100000 in
theorem w_X10_callsOf_L4 {l : Launch} {D : va_G} {cy : Nat → ClassId} {ad : Nat → Nat} {σ τ : Sx} {p : Program} {e : Env} {R : Room} {s : State} {m : MethodId} {args : Array Value} {below : List Frame} {meth : Method} {c : Code} (Z : Zc p s m c cX10_callsOf 4 RX10 D cy ad) (hP : va_P D vwCl (gW cy ad σ τ) s.heap) (hr : meth.sig.returnType = (some .int)) (hlk : meth.locks = false) (hRf : 0 ≤ R.frames) (hRl : 0 ≤ R.locals) (out : Int32) : ∀ (n : Nat) (x1 : Int32) (x2 : Int32) (x3 : Int32) (res : Int32), m_X10_callsOf_L4 σ n x1 x2 x3 = some res → ∀ ls : Array Slot, lv_has ls 4 [(0, .ref (ad 1)), (1, .int x1), (2, .int x2), (3, .int x3)] → (∀ ls : Array Slot, lv_has ls 4 [(2, .int res)] → W p l e R s m args below meth c s.heap [] 0 0 (MQ below (rQi out) args s 0 0 noA) (F0 m 31 ls [])) → W p l e R s m args below meth c s.heap [] 0 0 (MQ below (rQi out) args s 0 0 noA) (F0 m 4 ls []) := by
  have hx := Z.x
  have hb := Z.b
  intro n
  induction n with
  | zero => intro x1 x2 x3 res h; cases h
  | succ n ih =>
    intro x1 x2 x3 res h ls hl kx
    rw [m_X10_callsOf_L4] at h
    refine lv_iload_n hx hb dX10_callsOf_4 rfl (lv_at hl 3 rfl) ?_
    refine lv_aload_n hx hb dX10_callsOf_5 rfl (lv_at hl 0 rfl) ?_
    refine fg_1_2 Z hP wF_X10_18 dX10_callsOf_6 ?_
    refine lv_icmp_ge (tgt := 31) hx hb dX10_callsOf_9 (by decide) (fun c1 => ?_) (fun c1 => ?_)
    · rw [if_pos c1] at h
      obtain rfl := Option.some.inj h
      exact kx _ (lv_sub hl [2] rfl)
    · rw [if_neg c1] at h
      refine lv_aload_n hx hb dX10_callsOf_12 rfl (lv_at hl 0 rfl) ?_
      refine fg_1_7 Z hP wF_X10_34 dX10_callsOf_13 ?_
      refine lv_iload_n hx hb dX10_callsOf_16 rfl (lv_at hl 3 rfl) ?_
      obtain ⟨v2, hv2, h⟩ := bd h
      refine zc_ld (j := 3) Z hP hv2 dX10_callsOf_17 ?_
      refine lv_iload_n hx hb dX10_callsOf_18 rfl (lv_at hl 1 rfl) ?_
      refine lv_icmp_ne (tgt := 25) hx hb dX10_callsOf_19 (by decide) (fun c3 => ?_) (fun c3 => ?_)
      · rw [if_neg c3] at h
        refine lv_iinc (v := (x3 + 1)) (lv' := [(3, .int (x3 + 1)), (0, .ref (ad 1)), (1, .int x1), (2, .int x2)]) hx hb dX10_callsOf_25 hl (k := 3) rfl rfl (by decide) rfl (fun ls hl => ?_)
        refine lv_goto (tgt := 4) hx hb dX10_callsOf_28 (by decide) ?_
        exact ih x1 x2 ((x3 + 1)) _ h _ (lv_sub hl [1, 2, 3, 0] rfl) kx
      · rw [if_pos c3] at h
        refine lv_iinc (v := (x2 + 1)) (lv' := [(2, .int (x2 + 1)), (0, .ref (ad 1)), (1, .int x1), (3, .int x3)]) hx hb dX10_callsOf_22 hl (k := 2) rfl rfl (by decide) rfl (fun ls hl => ?_)
        refine lv_iinc (v := (x3 + 1)) (lv' := [(3, .int (x3 + 1)), (2, .int (x2 + 1)), (0, .ref (ad 1)), (1, .int x1)]) hx hb dX10_callsOf_25 hl (k := 3) rfl rfl (by decide) rfl (fun ls hl => ?_)
        refine lv_goto (tgt := 4) hx hb dX10_callsOf_28 (by decide) ?_
        exact ih x1 ((x2 + 1)) ((x3 + 1)) _ h _ (lv_sub hl [2, 3, 1, 0] rfl) kx
set_option maxHeartbeats 4000000 in
set_option maxRecDepth 100000 in
theorem c_X10_callsOf {l : Launch} {D : va_G} {cy : Nat → ClassId} {ad : Nat → Nat} {σ τ : Sx} {R : Room} (hI : gInj ad) (hRf : 0 ≤ R.frames) (hRl : 0 ≤ R.locals) {x1 : Int32} {out : Int32} (h : m_X10_callsOf σ x1 = some out) : Met l yX10_callsOf [Cond.code yX10_callsOf cX10_callsOf 4 (some .int)] R (va_Pc [.ref (ad 1), .int x1] (gB D cy ad σ τ)) (rQi out) 0 0 noA := by
  refine zstart [.ref (ad 1), .int x1] (by decide) rfl hI (Nat.le_of_ble_eq_true rfl) ?_
  intro p e s m below meth c Z hr hlk hP ls hl
  have hx := Z.x
  have hb := Z.b
  generalize hargs : ([.ref (ad 1), .int x1] : List Value).toArray = args
  have hl : lv_has ls 4 [(0, .ref (ad 1)), (1, .int x1)] := hl
  unfold m_X10_callsOf at h
  refine lv_iconst (v := 0) hx hb dX10_callsOf_0 (by decide) ?_
  refine lv_istore_n (lv' := [(2, .int 0), (0, .ref (ad 1)), (1, .int x1)]) hx hb dX10_callsOf_1 rfl hl (by decide) rfl (fun ls hl => ?_)
  refine lv_iconst (v := 0) hx hb dX10_callsOf_2 (by decide) ?_
  refine lv_istore_n (lv' := [(3, .int 0), (2, .int 0), (0, .ref (ad 1)), (1, .int x1)]) hx hb dX10_callsOf_3 rfl hl (by decide) rfl (fun ls hl => ?_)
  obtain ⟨y4, hy4, h⟩ := bd h
  refine w_X10_callsOf_L4 Z hP hr hlk hRf hRl out FU x1 0 0 y4 hy4 _ (lv_sub hl [2, 3, 1, 0] rfl) (fun ls hl => ?_)
  refine lv_iload_n hx hb dX10_callsOf_31 rfl (lv_at hl 0 rfl) ?_
  exact zri Z hr hlk h dX10_callsOf_32
def m_X10_missedAt_L9 (σ : Sx) : Nat → Int32 → Int32 → Int32 → Int32 → Int32 → Option (Int32)
  | 0, _, _, _, _, _ => none
  | n + 1, x1, x2, x4, x5, x6 =>
  if (σ.1 2) ≤ x6 then (some x5) else ((m_X10_isCallOf σ x6 x2 x1).bind (fun v2 => if v2 = 0 then (m_X10_missedAt_L9 σ n x1 x2 x4 x5 ((x6 + 1))) else ((ldA cLn σ 5 x6).bind (fun v4 => if x4 < v4 then (m_X10_missedAt_L9 σ n x1 x2 x4 ((x5 + 1)) ((x6 + 1))) else ((ldA cLn σ 5 x6).bind (fun v6 => m_X10_missedAt_L9 σ n x1 x2 ((x4 - v6)) x5 ((x6 + 1))))))))
def m_X10_missedAt (σ : Sx) (x1 : Int32) (x2 : Int32) (x3 : Int32) : Option (Int32) :=
  (m_X10_missedAt_L9 σ FU x1 x2 x3 0 0).bind (fun y7 => some y7)
set_option maxHeartbeats 4000000 in
set_option maxRecDepth 100000 in
theorem w_X10_missedAt_L9 {l : Launch} {D : va_G} {cy : Nat → ClassId} {ad : Nat → Nat} {σ τ : Sx} {p : Program} {e : Env} {R : Room} {s : State} {m : MethodId} {args : Array Value} {below : List Frame} {meth : Method} {c : Code} (Z : Zc p s m c cX10_missedAt 7 RX10 D cy ad) (hP : va_P D vwCl (gW cy ad σ τ) s.heap) (hr : meth.sig.returnType = (some .int)) (hlk : meth.locks = false) (hRf : 1 ≤ R.frames) (hRl : 23 ≤ R.locals) (out : Int32) : ∀ (n : Nat) (x1 : Int32) (x2 : Int32) (x4 : Int32) (x5 : Int32) (x6 : Int32) (res : Int32), m_X10_missedAt_L9 σ n x1 x2 x4 x5 x6 = some res → ∀ ls : Array Slot, lv_has ls 7 [(0, .ref (ad 1)), (1, .int x1), (2, .int x2), (4, .int x4), (5, .int x5), (6, .int x6)] → (∀ ls : Array Slot, lv_has ls 7 [(5, .int res)] → W p l e R s m args below meth c s.heap [] 0 0 (MQ below (rQi out) args s 0 0 noA) (F0 m 65 ls [])) → W p l e R s m args below meth c s.heap [] 0 0 (MQ below (rQi out) args s 0 0 noA) (F0 m 9 ls []) := by
  have hx := Z.x
  have hb := Z.b
  intro n
  induction n with
  | zero => intro x1 x2 x4 x5 x6 res h; cases h
  | succ n ih =>
    intro x1 x2 x4 x5 x6 res h ls hl kx
    rw [m_X10_missedAt_L9] at h
    refine lv_iload hx hb dX10_missedAt_9 (lv_at hl 5 rfl) ?_
    refine lv_aload_n hx hb dX10_missedAt_11 rfl (lv_at hl 0 rfl) ?_
    refine fg_1_2 Z hP wF_X10_18 dX10_missedAt_12 ?_
    refine lv_icmp_ge (tgt := 65) hx hb dX10_missedAt_15 (by decide) (fun c1 => ?_) (fun c1 => ?_)
    · rw [if_pos c1] at h
      obtain rfl := Option.some.inj h
      exact kx _ (lv_sub hl [4] rfl)
    · rw [if_neg c1] at h
      refine lv_aload_n hx hb dX10_missedAt_18 rfl (lv_at hl 0 rfl) ?_
      refine lv_iload hx hb dX10_missedAt_19 (lv_at hl 5 rfl) ?_
      refine lv_iload_n hx hb dX10_missedAt_21 rfl (lv_at hl 2 rfl) ?_
      refine lv_iload_n hx hb dX10_missedAt_22 rfl (lv_at hl 1 rfl) ?_
      obtain ⟨v2, hv2, h⟩ := bd h
      refine zqi (zrunV Z hP (As := [.int x6, .int x2, .int x1]) (rest := []) (c_X10_isCallOf (R := { frames := 0, cells := 0, slots := 0, locals := 0 }) Z.i (Nat.le_refl _) (Nat.le_refl _) hv2) cV_X10_61 rfl rfl ⟨(Nat.le_trans (Nat.le_of_ble_eq_true rfl) hRf), (Nat.le_trans (Nat.le_of_ble_eq_true rfl) hRl)⟩ 1 (gW_o rfl) rfl rfl rfl hl.1 rfl (Nat.le_of_ble_eq_true rfl) dX10_missedAt_23 ⟨Nat.zero_le _, Nat.zero_le _⟩) ?_
      refine lv_if_eq (tgt := 59) hx hb dX10_missedAt_26 (by decide) (fun c3 => ?_) (fun c3 => ?_)
      · rw [if_pos c3] at h
        refine lv_iinc (v := (x6 + 1)) (lv' := [(6, .int (x6 + 1)), (0, .ref (ad 1)), (1, .int x1), (2, .int x2), (4, .int x4), (5, .int x5)]) hx hb dX10_missedAt_59 hl (k := 5) rfl rfl (by decide) rfl (fun ls hl => ?_)
        refine lv_goto (tgt := 9) hx hb dX10_missedAt_62 (by decide) ?_
        exact ih x1 x2 x4 x5 ((x6 + 1)) _ h _ (lv_sub hl [1, 2, 3, 4, 5, 0] rfl) kx
      · rw [if_neg c3] at h
        refine lv_iload hx hb dX10_missedAt_29 (lv_at hl 3 rfl) ?_
        refine lv_aload_n hx hb dX10_missedAt_31 rfl (lv_at hl 0 rfl) ?_
        refine fg_1_9 Z hP wF_X10_40 dX10_missedAt_32 ?_
        refine lv_iload hx hb dX10_missedAt_35 (lv_at hl 5 rfl) ?_
        obtain ⟨v4, hv4, h⟩ := bd h
        refine zc_ld (j := 5) Z hP hv4 dX10_missedAt_37 ?_
        refine lv_icmp_lt (tgt := 56) hx hb dX10_missedAt_38 (by decide) (fun c5 => ?_) (fun c5 => ?_)
        · rw [if_pos c5] at h
          refine lv_iinc (v := (x5 + 1)) (lv' := [(5, .int (x5 + 1)), (0, .ref (ad 1)), (1, .int x1), (2, .int x2), (4, .int x4), (6, .int x6)]) hx hb dX10_missedAt_56 hl (k := 4) rfl rfl (by decide) rfl (fun ls hl => ?_)
          refine lv_iinc (v := (x6 + 1)) (lv' := [(6, .int (x6 + 1)), (5, .int (x5 + 1)), (0, .ref (ad 1)), (1, .int x1), (2, .int x2), (4, .int x4)]) hx hb dX10_missedAt_59 hl (k := 5) rfl rfl (by decide) rfl (fun ls hl => ?_)
          refine lv_goto (tgt := 9) hx hb dX10_missedAt_62 (by decide) ?_
          exact ih x1 x2 x4 ((x5 + 1)) ((x6 + 1)) _ h _ (lv_sub hl [2, 3, 4, 5, 1, 0] rfl) kx
        · rw [if_neg c5] at h
          refine lv_iload hx hb dX10_missedAt_41 (lv_at hl 3 rfl) ?_
          refine lv_aload_n hx hb dX10_missedAt_43 rfl (lv_at hl 0 rfl) ?_
          refine fg_1_9 Z hP wF_X10_40 dX10_missedAt_44 ?_
          refine lv_iload hx hb dX10_missedAt_47 (lv_at hl 5 rfl) ?_
          obtain ⟨v6, hv6, h⟩ := bd h
          refine zc_ld (j := 5) Z hP hv6 dX10_missedAt_49 ?_
          refine lv_isub hx hb dX10_missedAt_50 ?_
          refine lv_istore (lv' := [(4, .int (x4 - v6)), (0, .ref (ad 1)), (1, .int x1), (2, .int x2), (5, .int x5), (6, .int x6)]) hx hb dX10_missedAt_51 hl (by decide) rfl (fun ls hl => ?_)
          refine lv_goto (tgt := 59) hx hb dX10_missedAt_53 (by decide) ?_
          refine lv_iinc (v := (x6 + 1)) (lv' := [(6, .int (x6 + 1)), (4, .int (x4 - v6)), (0, .ref (ad 1)), (1, .int x1), (2, .int x2), (5, .int x5)]) hx hb dX10_missedAt_59 hl (k := 5) rfl rfl (by decide) rfl (fun ls hl => ?_)
          refine lv_goto (tgt := 9) hx hb dX10_missedAt_62 (by decide) ?_
          exact ih x1 x2 ((x4 - v6)) x5 ((x6 + 1)) _ h _ (lv_sub hl [2, 3, 4, 1, 5, 0] rfl) kx
set_option maxHeartbeats 4000000 in
set_option maxRecDepth 100000 in
theorem c_X10_missedAt {l : Launch} {D : va_G} {cy : Nat → ClassId} {ad : Nat → Nat} {σ τ : Sx} {R : Room} (hI : gInj ad) (hRf : 1 ≤ R.frames) (hRl : 23 ≤ R.locals) {x1 : Int32} {x2 : Int32} {x3 : Int32} {out : Int32} (h : m_X10_missedAt σ x1 x2 x3 = some out) : Met l yX10_missedAt [Cond.code yX10_missedAt cX10_missedAt 7 (some .int)] R (va_Pc [.ref (ad 1), .int x1, .int x2, .int x3] (gB D cy ad σ τ)) (rQi out) 0 0 noA := by
  refine zstart [.ref (ad 1), .int x1, .int x2, .int x3] (by decide) rfl hI (Nat.le_of_ble_eq_true rfl) ?_
  intro p e s m below meth c Z hr hlk hP ls hl
  have hx := Z.x
  have hb := Z.b
  generalize hargs : ([.ref (ad 1), .int x1, .int x2, .int x3] : List Value).toArray = args
  have hl : lv_has ls 7 [(0, .ref (ad 1)), (1, .int x1), (2, .int x2), (3, .int x3)] := hl
  unfold m_X10_missedAt at h
  refine lv_iload_n hx hb dX10_missedAt_0 rfl (lv_at hl 3 rfl) ?_
  refine lv_istore (lv' := [(4, .int x3), (0, .ref (ad 1)), (1, .int x1), (2, .int x2), (3, .int x3)]) hx hb dX10_missedAt_1 hl (by decide) rfl (fun ls hl => ?_)
  refine lv_iconst (v := 0) hx hb dX10_missedAt_3 (by decide) ?_
  refine lv_istore (lv' := [(5, .int 0), (4, .int x3), (0, .ref (ad 1)), (1, .int x1), (2, .int x2), (3, .int x3)]) hx hb dX10_missedAt_4 hl (by decide) rfl (fun ls hl => ?_)
  refine lv_iconst (v := 0) hx hb dX10_missedAt_6 (by decide) ?_
  refine lv_istore (lv' := [(6, .int 0), (5, .int 0), (4, .int x3), (0, .ref (ad 1)), (1, .int x1), (2, .int x2), (3, .int x3)]) hx hb dX10_missedAt_7 hl (by decide) rfl (fun ls hl => ?_)
  obtain ⟨y7, hy7, h⟩ := bd h
  refine w_X10_missedAt_L9 Z hP hr hlk hRf hRl out FU x1 x2 x3 0 0 y7 hy7 _ (lv_sub hl [3, 4, 5, 2, 1, 0] rfl) (fun ls hl => ?_)
  refine lv_iload hx hb dX10_missedAt_65 (lv_at hl 0 rfl) ?_
  exact zri Z hr hlk h dX10_missedAt_67
def m_X10_leftByCalls_L6 (σ : Sx) : Nat → Int32 → Int32 → Int32 → Int32 → Option (Int32)
  | 0, _, _, _, _ => none
  | n + 1, x1, x2, x4, x5 =>
  if (σ.1 2) ≤ x5 then (some x4) else ((m_X10_isCallOf σ x5 x2 x1).bind (fun v2 => if v2 = 0 then (m_X10_leftByCalls_L6 σ n x1 x2 x4 ((x5 + 1))) else ((ldA cLn σ 5 x5).bind (fun v4 => if x4 < v4 then (m_X10_leftByCalls_L6 σ n x1 x2 x4 ((x5 + 1))) else ((ldA cLn σ 5 x5).bind (fun v6 => m_X10_leftByCalls_L6 σ n x1 x2 ((x4 - v6)) ((x5 + 1))))))))
def m_X10_leftByCalls (σ : Sx) (x1 : Int32) (x2 : Int32) (x3 : Int32) : Option (Int32) :=
  (m_X10_leftByCalls_L6 σ FU x1 x2 x3 0).bind (fun y7 => some y7)
set_option maxHeartbeats 4000000 in
set_option maxRecDepth 100000 in
theorem w_X10_leftByCalls_L6 {l : Launch} {D : va_G} {cy : Nat → ClassId} {ad : Nat → Nat} {σ τ : Sx} {p : Program} {e : Env} {R : Room} {s : State} {m : MethodId} {args : Array Value} {below : List Frame} {meth : Method} {c : Code} (Z : Zc p s m c cX10_leftByCalls 6 RX10 D cy ad) (hP : va_P D vwCl (gW cy ad σ τ) s.heap) (hr : meth.sig.returnType = (some .int)) (hlk : meth.locks = false) (hRf : 1 ≤ R.frames) (hRl : 23 ≤ R.locals) (out : Int32) : ∀ (n : Nat) (x1 : Int32) (x2 : Int32) (x4 : Int32) (x5 : Int32) (res : Int32), m_X10_leftByCalls_L6 σ n x1 x2 x4 x5 = some res → ∀ ls : Array Slot, lv_has ls 6 [(0, .ref (ad 1)), (1, .int x1), (2, .int x2), (4, .int x4), (5, .int x5)] → (∀ ls : Array Slot, lv_has ls 6 [(4, .int res)] → W p l e R s m args below meth c s.heap [] 0 0 (MQ below (rQi out) args s 0 0 noA) (F0 m 56 ls [])) → W p l e R s m args below meth c s.heap [] 0 0 (MQ below (rQi out) args s 0 0 noA) (F0 m 6 ls []) := by
  have hx := Z.x
  have hb := Z.b
  intro n
  induction n with
  | zero => intro x1 x2 x4 x5 res h; cases h
  | succ n ih =>
    intro x1 x2 x4 x5 res h ls hl kx
    rw [m_X10_leftByCalls_L6] at h
    refine lv_iload hx hb dX10_leftByCalls_6 (lv_at hl 4 rfl) ?_
    refine lv_aload_n hx hb dX10_leftByCalls_8 rfl (lv_at hl 0 rfl) ?_
    refine fg_1_2 Z hP wF_X10_18 dX10_leftByCalls_9 ?_
    refine lv_icmp_ge (tgt := 56) hx hb dX10_leftByCalls_12 (by decide) (fun c1 => ?_) (fun c1 => ?_)
    · rw [if_pos c1] at h
      obtain rfl := Option.some.inj h
      exact kx _ (lv_sub hl [3] rfl)
    · rw [if_neg c1] at h
      refine lv_aload_n hx hb dX10_leftByCalls_15 rfl (lv_at hl 0 rfl) ?_
      refine lv_iload hx hb dX10_leftByCalls_16 (lv_at hl 4 rfl) ?_
      refine lv_iload_n hx hb dX10_leftByCalls_18 rfl (lv_at hl 2 rfl) ?_
      refine lv_iload_n hx hb dX10_leftByCalls_19 rfl (lv_at hl 1 rfl) ?_
      obtain ⟨v2, hv2, h⟩ := bd h
      refine zqi (zrunV Z hP (As := [.int x5, .int x2, .int x1]) (rest := []) (c_X10_isCallOf (R := { frames := 0, cells := 0, slots := 0, locals := 0 }) Z.i (Nat.le_refl _) (Nat.le_refl _) hv2) cV_X10_61 rfl rfl ⟨(Nat.le_trans (Nat.le_of_ble_eq_true rfl) hRf), (Nat.le_trans (Nat.le_of_ble_eq_true rfl) hRl)⟩ 1 (gW_o rfl) rfl rfl rfl hl.1 rfl (Nat.le_of_ble_eq_true rfl) dX10_leftByCalls_20 ⟨Nat.zero_le _, Nat.zero_le _⟩) ?_
      refine lv_if_eq (tgt := 50) hx hb dX10_leftByCalls_23 (by decide) (fun c3 => ?_) (fun c3 => ?_)
      · rw [if_pos c3] at h
        refine lv_iinc (v := (x5 + 1)) (lv' := [(5, .int (x5 + 1)), (0, .ref (ad 1)), (1, .int x1), (2, .int x2), (4, .int x4)]) hx hb dX10_leftByCalls_50 hl (k := 4) rfl rfl (by decide) rfl (fun ls hl => ?_)
        refine lv_goto (tgt := 6) hx hb dX10_leftByCalls_53 (by decide) ?_
        exact ih x1 x2 x4 ((x5 + 1)) _ h _ (lv_sub hl [1, 2, 3, 4, 0] rfl) kx
      · rw [if_neg c3] at h
        refine lv_iload hx hb dX10_leftByCalls_26 (lv_at hl 3 rfl) ?_
        refine lv_aload_n hx hb dX10_leftByCalls_28 rfl (lv_at hl 0 rfl) ?_
        refine fg_1_9 Z hP wF_X10_40 dX10_leftByCalls_29 ?_
        refine lv_iload hx hb dX10_leftByCalls_32 (lv_at hl 4 rfl) ?_
        obtain ⟨v4, hv4, h⟩ := bd h
        refine zc_ld (j := 5) Z hP hv4 dX10_leftByCalls_34 ?_
        refine lv_icmp_lt (tgt := 50) hx hb dX10_leftByCalls_35 (by decide) (fun c5 => ?_) (fun c5 => ?_)
        · rw [if_pos c5] at h
          refine lv_iinc (v := (x5 + 1)) (lv' := [(5, .int (x5 + 1)), (0, .ref (ad 1)), (1, .int x1), (2, .int x2), (4, .int x4)]) hx hb dX10_leftByCalls_50 hl (k := 4) rfl rfl (by decide) rfl (fun ls hl => ?_)
          refine lv_goto (tgt := 6) hx hb dX10_leftByCalls_53 (by decide) ?_
          exact ih x1 x2 x4 ((x5 + 1)) _ h _ (lv_sub hl [1, 2, 3, 4, 0] rfl) kx
        · rw [if_neg c5] at h
          refine lv_iload hx hb dX10_leftByCalls_38 (lv_at hl 3 rfl) ?_
          refine lv_aload_n hx hb dX10_leftByCalls_40 rfl (lv_at hl 0 rfl) ?_
          refine fg_1_9 Z hP wF_X10_40 dX10_leftByCalls_41 ?_
          refine lv_iload hx hb dX10_leftByCalls_44 (lv_at hl 4 rfl) ?_
          obtain ⟨v6, hv6, h⟩ := bd h
          refine zc_ld (j := 5) Z hP hv6 dX10_leftByCalls_46 ?_
          refine lv_isub hx hb dX10_leftByCalls_47 ?_
          refine lv_istore (lv' := [(4, .int (x4 - v6)), (0, .ref (ad 1)), (1, .int x1), (2, .int x2), (5, .int x5)]) hx hb dX10_leftByCalls_48 hl (by decide) rfl (fun ls hl => ?_)
          refine lv_iinc (v := (x5 + 1)) (lv' := [(5, .int (x5 + 1)), (4, .int (x4 - v6)), (0, .ref (ad 1)), (1, .int x1), (2, .int x2)]) hx hb dX10_leftByCalls_50 hl (k := 4) rfl rfl (by decide) rfl (fun ls hl => ?_)
          refine lv_goto (tgt := 6) hx hb dX10_leftByCalls_53 (by decide) ?_
          exact ih x1 x2 ((x4 - v6)) ((x5 + 1)) _ h _ (lv_sub hl [2, 3, 4, 1, 0] rfl) kx
set_option maxHeartbeats 4000000 in
set_option maxRecDepth 100000 in
theorem c_X10_leftByCalls {l : Launch} {D : va_G} {cy : Nat → ClassId} {ad : Nat → Nat} {σ τ : Sx} {R : Room} (hI : gInj ad) (hRf : 1 ≤ R.frames) (hRl : 23 ≤ R.locals) {x1 : Int32} {x2 : Int32} {x3 : Int32} {out : Int32} (h : m_X10_leftByCalls σ x1 x2 x3 = some out) : Met l yX10_leftByCalls [Cond.code yX10_leftByCalls cX10_leftByCalls 6 (some .int)] R (va_Pc [.ref (ad 1), .int x1, .int x2, .int x3] (gB D cy ad σ τ)) (rQi out) 0 0 noA := by
  refine zstart [.ref (ad 1), .int x1, .int x2, .int x3] (by decide) rfl hI (Nat.le_of_ble_eq_true rfl) ?_
  intro p e s m below meth c Z hr hlk hP ls hl
  have hx := Z.x
  have hb := Z.b
  generalize hargs : ([.ref (ad 1), .int x1, .int x2, .int x3] : List Value).toArray = args
  have hl : lv_has ls 6 [(0, .ref (ad 1)), (1, .int x1), (2, .int x2), (3, .int x3)] := hl
  unfold m_X10_leftByCalls at h
  refine lv_iload_n hx hb dX10_leftByCalls_0 rfl (lv_at hl 3 rfl) ?_
  refine lv_istore (lv' := [(4, .int x3), (0, .ref (ad 1)), (1, .int x1), (2, .int x2), (3, .int x3)]) hx hb dX10_leftByCalls_1 hl (by decide) rfl (fun ls hl => ?_)
  refine lv_iconst (v := 0) hx hb dX10_leftByCalls_3 (by decide) ?_
  refine lv_istore (lv' := [(5, .int 0), (4, .int x3), (0, .ref (ad 1)), (1, .int x1), (2, .int x2), (3, .int x3)]) hx hb dX10_leftByCalls_4 hl (by decide) rfl (fun ls hl => ?_)
  obtain ⟨y7, hy7, h⟩ := bd h
  refine w_X10_leftByCalls_L6 Z hP hr hlk hRf hRl out FU x1 x2 x3 0 y7 hy7 _ (lv_sub hl [2, 3, 4, 1, 0] rfl) (fun ls hl => ?_)
  refine lv_iload hx hb dX10_leftByCalls_56 (lv_at hl 0 rfl) ?_
  exact zri Z hr hlk h dX10_leftByCalls_58
def m_X10_filled_J27 (σ : Sx) (x2 : Int32) (s0 : Int32) : Option (Int32) :=
  some ((if (x2 + s0) < 100 then (x2 + s0) else 100))
def m_X10_filled (σ : Sx) (x1 : Int32) (x2 : Int32) : Option (Int32) :=
  if 80 ≤ x2 then ((ldA cLn σ 1 x1).bind (fun v2 => (dvI v2 2).bind (fun v3 => m_X10_filled_J27 σ x2 ((if 1 < v3 then v3 else 1))))) else ((ldA cLn σ 1 x1).bind (fun v4 => m_X10_filled_J27 σ x2 v4))
set_option maxHeartbeats 4000000 in
set_option maxRecDepth 100000 in
theorem c_X10_filled {l : Launch} {D : va_G} {cy : Nat → ClassId} {ad : Nat → Nat} {σ τ : Sx} {R : Room} (hI : gInj ad) (hRf : 1 ≤ R.frames) (hRl : 13 ≤ R.locals) {x1 : Int32} {x2 : Int32} {out : Int32} (h : m_X10_filled σ x1 x2 = some out) : Met l yX10_filled [Cond.code yX10_filled cX10_filled 4 (some .int)] R (va_Pc [.ref (ad 1), .int x1, .int x2] (gB D cy ad σ τ)) (rQi out) 0 0 noA := by
  refine zstart [.ref (ad 1), .int x1, .int x2] (by decide) rfl hI (Nat.le_of_ble_eq_true rfl) ?_
  intro p e s m below meth c Z hr hlk hP ls hl
  have hx := Z.x
  have hb := Z.b
  generalize hargs : ([.ref (ad 1), .int x1, .int x2] : List Value).toArray = args
  have hl : lv_has ls 4 [(0, .ref (ad 1)), (1, .int x1), (2, .int x2)] := hl
  have J27 : ∀ (x2 : Int32) (s0 : Int32), m_X10_filled_J27 σ x2 s0 = some out → ∀ ls : Array Slot, lv_has ls 4 [(2, .int x2)] → W p l e R s m args below meth c s.heap [] 0 0 (MQ below (rQi out) args s 0 0 noA) (F0 m 27 ls [.int s0]) := by
    intro x2 s0 h ls hl
    unfold m_X10_filled_J27 at h
    refine lv_istore_n (lv' := [(3, .int s0), (2, .int x2)]) hx hb dX10_filled_27 rfl hl (by decide) rfl (fun ls hl => ?_)
    refine lv_bipush (v := 100) hx hb dX10_filled_28 (by decide) ?_
    refine lv_iload_n hx hb dX10_filled_30 rfl (lv_at hl 1 rfl) ?_
    refine lv_iload_n hx hb dX10_filled_31 rfl (lv_at hl 0 rfl) ?_
    refine lv_iadd hx hb dX10_filled_32 ?_
    refine va_mmin (rest := []) hx hb (Z.ml.trans hl.1.symm) Z.o (Z.t _ wA_X10_71 rfl _) (Z.t _ wM_min1 rfl _) (Z.t _ wM_i rfl _) (Z.t _ wM_min2 rfl _) (Nat.le_trans (Nat.le_of_ble_eq_true rfl) hRf) (Nat.le_trans (Nat.le_of_ble_eq_true rfl) hRl) (Nat.zero_le _) (Nat.zero_le _) dX10_filled_33 ?_
    exact zri Z hr hlk h dX10_filled_36
  unfold m_X10_filled at h
  refine lv_iload_n hx hb dX10_filled_0 rfl (lv_at hl 2 rfl) ?_
  refine lv_bipush (v := 80) hx hb dX10_filled_1 (by decide) ?_
  refine lv_icmp_ge (tgt := 15) hx hb dX10_filled_3 (by decide) (fun c1 => ?_) (fun c1 => ?_)
  · rw [if_pos c1] at h
    refine lv_iconst (v := 1) hx hb dX10_filled_15 (by decide) ?_
    refine lv_aload_n hx hb dX10_filled_16 rfl (lv_at hl 0 rfl) ?_
    refine fg_1_5 Z hP wF_X10_28 dX10_filled_17 ?_
    refine lv_iload_n hx hb dX10_filled_20 rfl (lv_at hl 1 rfl) ?_
    obtain ⟨v2, hv2, h⟩ := bd h
    refine zc_ld (j := 1) Z hP hv2 dX10_filled_21 ?_
    refine lv_iconst (v := 2) hx hb dX10_filled_22 (by decide) ?_
    obtain ⟨v3, hv3, h⟩ := bd h
    refine zdiv Z hv3 dX10_filled_23 ?_
    refine va_mmax (rest := []) hx hb (Z.ml.trans hl.1.symm) Z.o (Z.t _ wA_X10_65 rfl _) (Z.t _ wM_max1 rfl _) (Z.t _ wM_i rfl _) (Z.t _ wM_max2 rfl _) (Nat.le_trans (Nat.le_of_ble_eq_true rfl) hRf) (Nat.le_trans (Nat.le_of_ble_eq_true rfl) hRl) (Nat.zero_le _) (Nat.zero_le _) dX10_filled_24 ?_
    exact J27 x2 ((if 1 < v3 then v3 else 1)) h _ (lv_sub hl [2] rfl)
  · rw [if_neg c1] at h
    refine lv_aload_n hx hb dX10_filled_6 rfl (lv_at hl 0 rfl) ?_
    refine fg_1_5 Z hP wF_X10_28 dX10_filled_7 ?_
    refine lv_iload_n hx hb dX10_filled_10 rfl (lv_at hl 1 rfl) ?_
    obtain ⟨v4, hv4, h⟩ := bd h
    refine zc_ld (j := 1) Z hP hv4 dX10_filled_11 ?_
    refine lv_goto (tgt := 27) hx hb dX10_filled_12 (by decide) ?_
    exact J27 x2 v4 h _ (lv_sub hl [2] rfl)
def m_X10_drained (σ : Sx) (x1 : Int32) (x2 : Int32) : Option (Int32) :=
  (ldA cLn σ 2 x1).bind (fun v1 => some ((if 0 < (x2 - v1) then (x2 - v1) else 0)))
set_option maxHeartbeats 4000000 in
set_option maxRecDepth 100000 in
theorem c_X10_drained {l : Launch} {D : va_G} {cy : Nat → ClassId} {ad : Nat → Nat} {σ τ : Sx} {R : Room} (hI : gInj ad) (hRf : 1 ≤ R.frames) (hRl : 13 ≤ R.locals) {x1 : Int32} {x2 : Int32} {out : Int32} (h : m_X10_drained σ x1 x2 = some out) : Met l yX10_drained [Cond.code yX10_drained cX10_drained 3 (some .int)] R (va_Pc [.ref (ad 1), .int x1, .int x2] (gB D cy ad σ τ)) (rQi out) 0 0 noA := by
  refine zstart [.ref (ad 1), .int x1, .int x2] (by decide) rfl hI (Nat.le_of_ble_eq_true rfl) ?_
  intro p e s m below meth c Z hr hlk hP ls hl
  have hx := Z.x
  have hb := Z.b
  generalize hargs : ([.ref (ad 1), .int x1, .int x2] : List Value).toArray = args
  have hl : lv_has ls 3 [(0, .ref (ad 1)), (1, .int x1), (2, .int x2)] := hl
  unfold m_X10_drained at h
  refine lv_iconst (v := 0) hx hb dX10_drained_0 (by decide) ?_
  refine lv_iload_n hx hb dX10_drained_1 rfl (lv_at hl 2 rfl) ?_
  refine lv_aload_n hx hb dX10_drained_2 rfl (lv_at hl 0 rfl) ?_
  refine fg_1_6 Z hP wF_X10_31 dX10_drained_3 ?_
  refine lv_iload_n hx hb dX10_drained_6 rfl (lv_at hl 1 rfl) ?_
  obtain ⟨v1, hv1, h⟩ := bd h
  refine zc_ld (j := 2) Z hP hv1 dX10_drained_7 ?_
  refine lv_isub hx hb dX10_drained_8 ?_
  refine va_mmax (rest := []) hx hb (Z.ml.trans hl.1.symm) Z.o (Z.t _ wA_X10_65 rfl _) (Z.t _ wM_max1 rfl _) (Z.t _ wM_i rfl _) (Z.t _ wM_max2 rfl _) (Nat.le_trans (Nat.le_of_ble_eq_true rfl) hRf) (Nat.le_trans (Nat.le_of_ble_eq_true rfl) hRl) (Nat.zero_le _) (Nat.zero_le _) dX10_drained_9 ?_
  exact zri Z hr hlk h dX10_drained_12
def m_X10_levelBehind_J32 (σ : Sx) (x2 : Int32) (x5 : Int32) : Option (Int32) :=
  (m_X10_drained σ x2 x5).bind (fun v3 => some v3)
def m_X10_levelBehind (σ : Sx) (x1 : Int32) (x2 : Int32) (x3 : Int32) (x4 : Int32) : Option (Int32) :=
  (m_X10_leftByCalls σ x1 x2 x3).bind (fun v1 => if x4 = 0 then (m_X10_levelBehind_J32 σ x2 v1) else ((m_X10_isDark σ x1).bind (fun v4 => if v4 = 0 then ((m_X10_filled σ x2 v1).bind (fun v6 => some v6)) else (m_X10_levelBehind_J32 σ x2 v1))))
set_option maxHeartbeats 4000000 in
set_option maxRecDepth 100000 in
theorem c_X10_levelBehind {l : Launch} {D : va_G} {cy : Nat → ClassId} {ad : Nat → Nat} {σ τ : Sx} {R : Room} (hI : gInj ad) (hRf : 2 ≤ R.frames) (hRl : 48 ≤ R.locals) {x1 : Int32} {x2 : Int32} {x3 : Int32} {x4 : Int32} {out : Int32} (h : m_X10_levelBehind σ x1 x2 x3 x4 = some out) : Met l yX10_levelBehind [Cond.code yX10_levelBehind cX10_levelBehind 6 (some .int)] R (va_Pc [.ref (ad 1), .int x1, .int x2, .int x3, .int x4] (gB D cy ad σ τ)) (rQi out) 0 0 noA := by
  refine zstart [.ref (ad 1), .int x1, .int x2, .int x3, .int x4] (by decide) rfl hI (Nat.le_of_ble_eq_true rfl) ?_
  intro p e s m below meth c Z hr hlk hP ls hl
  have hx := Z.x
  have hb := Z.b
  generalize hargs : ([.ref (ad 1), .int x1, .int x2, .int x3, .int x4] : List Value).toArray = args
  have hl : lv_has ls 6 [(0, .ref (ad 1)), (1, .int x1), (2, .int x2), (3, .int x3), (4, .int x4)] := hl
  have J32 : ∀ (x2 : Int32) (x5 : Int32), m_X10_levelBehind_J32 σ x2 x5 = some out → ∀ ls : Array Slot, lv_has ls 6 [(0, .ref (ad 1)), (2, .int x2), (5, .int x5)] → W p l e R s m args below meth c s.heap [] 0 0 (MQ below (rQi out) args s 0 0 noA) (F0 m 32 ls []) := by
    intro x2 x5 h ls hl
    unfold m_X10_levelBehind_J32 at h
    refine lv_aload_n hx hb dX10_levelBehind_32 rfl (lv_at hl 0 rfl) ?_
    refine lv_iload_n hx hb dX10_levelBehind_33 rfl (lv_at hl 1 rfl) ?_
    refine lv_iload hx hb dX10_levelBehind_34 (lv_at hl 2 rfl) ?_
    obtain ⟨v3, hv3, h⟩ := bd h
    refine zqi (zrunV Z hP (As := [.int x2, .int x5]) (rest := []) (c_X10_drained (R := { frames := 1, cells := 0, slots := 0, locals := 13 }) Z.i (Nat.le_refl _) (Nat.le_refl _) hv3) cV_X10_85 rfl rfl ⟨(Nat.le_trans (Nat.le_of_ble_eq_true rfl) hRf), (Nat.le_trans (Nat.le_of_ble_eq_true rfl) hRl)⟩ 1 (gW_o rfl) rfl rfl rfl hl.1 rfl (Nat.le_of_ble_eq_true rfl) dX10_levelBehind_36 ⟨Nat.zero_le _, Nat.zero_le _⟩) ?_
    exact zri Z hr hlk h dX10_levelBehind_39
  unfold m_X10_levelBehind at h
  refine lv_aload_n hx hb dX10_levelBehind_0 rfl (lv_at hl 0 rfl) ?_
  refine lv_iload_n hx hb dX10_levelBehind_1 rfl (lv_at hl 1 rfl) ?_
  refine lv_iload_n hx hb dX10_levelBehind_2 rfl (lv_at hl 2 rfl) ?_
  refine lv_iload_n hx hb dX10_levelBehind_3 rfl (lv_at hl 3 rfl) ?_
  obtain ⟨v1, hv1, h⟩ := bd h
  refine zqi (zrunV Z hP (As := [.int x1, .int x2, .int x3]) (rest := []) (c_X10_leftByCalls (R := { frames := 1, cells := 0, slots := 0, locals := 23 }) Z.i (Nat.le_refl _) (Nat.le_refl _) hv1) cV_X10_74 rfl rfl ⟨(Nat.le_trans (Nat.le_of_ble_eq_true rfl) hRf), (Nat.le_trans (Nat.le_of_ble_eq_true rfl) hRl)⟩ 1 (gW_o rfl) rfl rfl rfl hl.1 rfl (Nat.le_of_ble_eq_true rfl) dX10_levelBehind_4 ⟨Nat.zero_le _, Nat.zero_le _⟩) ?_
  refine lv_istore (lv' := [(5, .int v1), (0, .ref (ad 1)), (1, .int x1), (2, .int x2), (3, .int x3), (4, .int x4)]) hx hb dX10_levelBehind_7 hl (by decide) rfl (fun ls hl => ?_)
  refine lv_iload hx hb dX10_levelBehind_9 (lv_at hl 5 rfl) ?_
  refine lv_if_eq (tgt := 32) hx hb dX10_levelBehind_11 (by decide) (fun c2 => ?_) (fun c2 => ?_)
  · rw [if_pos c2] at h
    exact J32 x2 v1 h _ (lv_sub hl [1, 3, 0] rfl)
  · rw [if_neg c2] at h
    refine lv_aload_n hx hb dX10_levelBehind_14 rfl (lv_at hl 1 rfl) ?_
    refine lv_iload_n hx hb dX10_levelBehind_15 rfl (lv_at hl 2 rfl) ?_
    obtain ⟨v4, hv4, h⟩ := bd h
    refine zqi (zrunV Z hP (As := [.int x1]) (rest := []) (c_X10_isDark (R := { frames := 0, cells := 0, slots := 0, locals := 0 }) Z.i (Nat.le_refl _) (Nat.le_refl _) hv4) cV_X10_78 rfl rfl ⟨(Nat.le_trans (Nat.le_of_ble_eq_true rfl) hRf), (Nat.le_trans (Nat.le_of_ble_eq_true rfl) hRl)⟩ 1 (gW_o rfl) rfl rfl rfl hl.1 rfl (Nat.le_of_ble_eq_true rfl) dX10_levelBehind_16 ⟨Nat.zero_le _, Nat.zero_le _⟩) ?_
    refine lv_if_ne (tgt := 32) hx hb dX10_levelBehind_19 (by decide) (fun c5 => ?_) (fun c5 => ?_)
    · rw [if_neg c5] at h
      exact J32 x2 v1 h _ (lv_sub hl [1, 3, 0] rfl)
    · rw [if_pos c5] at h
      refine lv_aload_n hx hb dX10_levelBehind_22 rfl (lv_at hl 1 rfl) ?_
      refine lv_iload_n hx hb dX10_levelBehind_23 rfl (lv_at hl 3 rfl) ?_
      refine lv_iload hx hb dX10_levelBehind_24 (lv_at hl 0 rfl) ?_
      obtain ⟨v6, hv6, h⟩ := bd h
      refine zqi (zrunV Z hP (As := [.int x2, .int v1]) (rest := []) (c_X10_filled (R := { frames := 1, cells := 0, slots := 0, locals := 13 }) Z.i (Nat.le_refl _) (Nat.le_refl _) hv6) cV_X10_82 rfl rfl ⟨(Nat.le_trans (Nat.le_of_ble_eq_true rfl) hRf), (Nat.le_trans (Nat.le_of_ble_eq_true rfl) hRl)⟩ 1 (gW_o rfl) rfl rfl rfl hl.1 rfl (Nat.le_of_ble_eq_true rfl) dX10_levelBehind_26 ⟨Nat.zero_le _, Nat.zero_le _⟩) ?_
      refine lv_goto (tgt := 39) hx hb dX10_levelBehind_29 (by decide) ?_
      exact zri Z hr hlk h dX10_levelBehind_39
