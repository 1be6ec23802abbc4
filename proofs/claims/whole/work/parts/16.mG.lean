def m_X12_goes_s_J83 (rec : Int32 → Sx → Option (Sx)) (x2 : Int32) (x4 : Int32) (s0 : Int32) (s1 : Int32) (s2 : Int32) (τ : Sx) : Option (Sx) :=
  (stA mLn τ 4 s2 ((s1 - s0))).bind (fun q11 => (ldA mLn q11 4 3).bind (fun v12 => if x4 = 0 then ((stA mLn q11 4 3 ((v12 + 1))).bind (fun q14 => rec ((x2 + 1)) q14)) else ((stA mLn q11 4 3 ((v12 + 0))).bind (fun q15 => rec ((x2 + 1)) q15))))
def m_X12_goes_s_J58 (rec : Int32 → Sx → Option (Sx)) (x2 : Int32) (x3 : Int32) (s0 : Int32) (τ : Sx) : Option (Sx) :=
  (ldA mLn τ 4 x3).bind (fun v9 => if s0 = 0 then (m_X12_goes_s_J83 rec x2 s0 0 v9 x3 τ) else ((ldA mLn τ 2 (((3 * x2) + 2))).bind (fun v16 => m_X12_goes_s_J83 rec x2 s0 v16 v9 x3 τ)))
def m_X12_goes_s_L2  : Nat → Int32 → Sx → Option (Sx)
  | 0, _, _ => none
  | n + 1, x2, τ =>
  if (τ.1 8) ≤ x2 then (some τ) else ((ldA mLn τ 2 ((3 * x2))).bind (fun v2 => (ldA mLn τ 2 (((3 * x2) + 1))).bind (fun v3 => (ldA mLn τ 4 0).bind (fun v4 => if v3 = v4 then ((ldA mLn τ 4 ((4 + v2))).bind (fun v6 => (ldA mLn τ 2 (((3 * x2) + 2))).bind (fun v7 => if v6 < v7 then (m_X12_goes_s_J58 (m_X12_goes_s_L2 n) x2 ((4 + v2)) 0 τ) else (m_X12_goes_s_J58 (m_X12_goes_s_L2 n) x2 ((4 + v2)) 1 τ)))) else (m_X12_goes_s_L2 n ((x2 + 1)) τ)))))
def m_X12_goes_s_J195 (rec : Int32 → Int32 → Sx → Option (Sx)) (x2 : Int32) (x3 : Int32) (x4 : Int32) (s0 : Int32) (s1 : Int32) (τ : Sx) : Option (Sx) :=
  (stA mLn τ 4 s1 s0).bind (fun q26 => (ldA mLn q26 4 ((9 + x3))).bind (fun v27 => if x4 = 0 then ((stA mLn q26 4 ((9 + x3)) ((v27 + 0))).bind (fun q29 => rec x2 ((x3 + 1)) q29)) else ((stA mLn q26 4 ((9 + x3)) ((v27 + 1))).bind (fun q30 => rec x2 ((x3 + 1)) q30))))
def m_X12_goes_s_J145 (rec : Int32 → Int32 → Sx → Option (Sx)) (x2 : Int32) (x3 : Int32) (s0 : Int32) (τ : Sx) : Option (Sx) :=
  if s0 = 0 then ((ldA mLn τ 4 ((4 + x3))).bind (fun v23 => (ldA mLn τ 1 (((3 * x3) + 2))).bind (fun v24 => (m_X12_lower v23 v24).bind (fun v25 => m_X12_goes_s_J195 rec x2 x3 s0 v25 ((4 + x3)) τ)))) else ((ldA mLn τ 4 ((4 + x3))).bind (fun v31 => (ldA mLn τ 1 (((3 * x3) + 1))).bind (fun v32 => (m_X12_filled v31 v32).bind (fun v33 => m_X12_goes_s_J195 rec x2 x3 s0 v33 ((4 + x3)) τ))))
def m_X12_goes_s_J144 (rec : Int32 → Int32 → Sx → Option (Sx)) (x2 : Int32) (x3 : Int32) (τ : Sx) : Option (Sx) :=
  m_X12_goes_s_J145 rec x2 x3 0 τ
def m_X12_goes_s_L117  : Nat → Int32 → Int32 → Sx → Option (Sx)
  | 0, _, _, _ => none
  | n + 1, x2, x3, τ =>
  if (τ.1 7) ≤ x3 then (some τ) else (if x2 = 0 then ((ldA mLn τ 4 1).bind (fun v34 => if ((v34 >>> (x3 &&& 31)) &&& 1) = 1 then (m_X12_goes_s_J145 (m_X12_goes_s_L117 n) x2 x3 1 τ) else (m_X12_goes_s_J144 (m_X12_goes_s_L117 n) x2 x3 τ))) else (m_X12_goes_s_J144 (m_X12_goes_s_L117 n) x2 x3 τ))
def m_X12_goes_s (τ : Sx) : Option (Sx) :=
  (m_X12_goes_s_L2 FU 0 τ).bind (fun y17 => (ldA mLn y17 4 0).bind (fun v18 => (m_X12_isDark y17 v18).bind (fun v19 => (m_X12_goes_s_L117 FU v19 0 y17).bind (fun y36 => (ldA mLn y36 4 0).bind (fun v37 => (stA mLn y36 4 0 ((v37 + 1))).bind (fun q38 => some q38))))))
set_option maxHeartbeats 4000000 in
set_option maxRecDepth 100000 in
theorem w_X12_goes_s_L2 {l : Launch} {D : va_G} {cy : Nat → ClassId} {ad : Nat → Nat} {σ : Sx} {p : Program} {e : Env} {R : Room} {s : State} {m : MethodId} {args : Array Value} {below : List Frame} {meth : Method} {c : Code} (Z : Zc p s m c cX12_goes 5 RX12 D cy ad) (hr : meth.sig.returnType = none) (hlk : meth.locks = false) (hRf : 2 ≤ R.frames) (hRl : 45 ≤ R.locals) (out : Sx) : ∀ (n : Nat) (x2 : Int32) (τ : Sx) (res : Sx), m_X12_goes_s_L2 n x2 τ = some res → ∀ (H : Heap) (locs : List Loc), va_P D vwCl (gW cy ad σ τ) H → va_S (gA ad) s.heap H locs → ∀ ls : Array Slot, lv_has ls 5 [(0, .ref (ad 66)), (1, .ref (ad (67 + 4))), (2, .int x2)] → (∀ (H : Heap) (locs : List Loc), va_P D vwCl (gW cy ad σ res) H → va_S (gA ad) s.heap H locs → ∀ ls : Array Slot, lv_has ls 5 [(0, .ref (ad 66)), (1, .ref (ad (67 + 4)))] → W p l e R s m args below meth c H locs 0 0 (MQ below (mQv D cy ad σ out) args s 0 0 (gA ad)) (F0 m 107 ls [])) → W p l e R s m args below meth c H locs 0 0 (MQ below (mQv D cy ad σ out) args s 0 0 (gA ad)) (F0 m 2 ls []) := by
  have hx := Z.x
  have hb := Z.b
  intro n
  induction n with
  | zero => intro x2 τ res h; cases h
  | succ n ih =>
    intro x2 τ res h H locs hP hS ls hl kx
    have J83 : ∀ (x2 : Int32) (x4 : Int32) (s0 : Int32) (s1 : Int32) (s2 : Int32) (τ : Sx), m_X12_goes_s_J83 (m_X12_goes_s_L2 n) x2 x4 s0 s1 s2 τ = some res → ∀ (H : Heap) (locs : List Loc), va_P D vwCl (gW cy ad σ τ) H → va_S (gA ad) s.heap H locs → ∀ ls : Array Slot, lv_has ls 5 [(0, .ref (ad 66)), (1, .ref (ad (67 + 4))), (2, .int x2), (4, .int x4)] → W p l e R s m args below meth c H locs 0 0 (MQ below (mQv D cy ad σ out) args s 0 0 (gA ad)) (F0 m 83 ls [.int s0, .int s1, .int s2, .ref (ad (67 + 4))]) := by
      intro x2 x4 s0 s1 s2 τ h H locs hP hS ls hl
      unfold m_X12_goes_s_J83 at h
      refine lv_isub hx hb dX12_goes_83 ?_
      obtain ⟨q11, hq11, h⟩ := bd h
      refine zm_st (j := 4) Z hP hS hq11 dX12_goes_84 (fun H locs hP hS => ?_)
      refine lv_aload_n hx hb dX12_goes_85 rfl (lv_at hl 1 rfl) ?_
      refine lv_iconst (v := 3) hx hb dX12_goes_86 (by decide) ?_
      refine lv_dup2_11 hx hb dX12_goes_87 rfl rfl ?_
      obtain ⟨v12, hv12, h⟩ := bd h
      refine zm_ld (j := 4) Z hP hv12 dX12_goes_88 ?_
      refine lv_iload hx hb dX12_goes_89 (lv_at hl 3 rfl) ?_
      refine lv_if_eq (tgt := 98) hx hb dX12_goes_91 (by decide) (fun c13 => ?_) (fun c13 => ?_)
      · rw [if_pos c13] at h
        refine lv_iconst (v := 1) hx hb dX12_goes_98 (by decide) ?_
        refine lv_iadd hx hb dX12_goes_99 ?_
        obtain ⟨q14, hq14, h⟩ := bd h
        refine zm_st (j := 4) Z hP hS hq14 dX12_goes_100 (fun H locs hP hS => ?_)
        refine lv_iinc (v := (x2 + 1)) (lv' := [(2, .int (x2 + 1)), (0, .ref (ad 66)), (1, .ref (ad (67 + 4))), (4, .int x4)]) hx hb dX12_goes_101 hl (k := 2) rfl rfl (by decide) rfl (fun ls hl => ?_)
        refine lv_goto (tgt := 2) hx hb dX12_goes_104 (by decide) ?_
        exact ih ((x2 + 1)) q14 _ h _ _ hP hS _ (lv_sub hl [1, 2, 0] rfl) kx
      · rw [if_neg c13] at h
        refine lv_iconst (v := 0) hx hb dX12_goes_94 (by decide) ?_
        refine lv_goto (tgt := 99) hx hb dX12_goes_95 (by decide) ?_
        refine lv_iadd hx hb dX12_goes_99 ?_
        obtain ⟨q15, hq15, h⟩ := bd h
        refine zm_st (j := 4) Z hP hS hq15 dX12_goes_100 (fun H locs hP hS => ?_)
        refine lv_iinc (v := (x2 + 1)) (lv' := [(2, .int (x2 + 1)), (0, .ref (ad 66)), (1, .ref (ad (67 + 4))), (4, .int x4)]) hx hb dX12_goes_101 hl (k := 2) rfl rfl (by decide) rfl (fun ls hl => ?_)
        refine lv_goto (tgt := 2) hx hb dX12_goes_104 (by decide) ?_
        exact ih ((x2 + 1)) q15 _ h _ _ hP hS _ (lv_sub hl [1, 2, 0] rfl) kx
    have J58 : ∀ (x2 : Int32) (x3 : Int32) (s0 : Int32) (τ : Sx), m_X12_goes_s_J58 (m_X12_goes_s_L2 n) x2 x3 s0 τ = some res → ∀ (H : Heap) (locs : List Loc), va_P D vwCl (gW cy ad σ τ) H → va_S (gA ad) s.heap H locs → ∀ ls : Array Slot, lv_has ls 5 [(0, .ref (ad 66)), (1, .ref (ad (67 + 4))), (2, .int x2), (3, .int x3)] → W p l e R s m args below meth c H locs 0 0 (MQ below (mQv D cy ad σ out) args s 0 0 (gA ad)) (F0 m 58 ls [.int s0]) := by
      intro x2 x3 s0 τ h H locs hP hS ls hl
      unfold m_X12_goes_s_J58 at h
      refine lv_istore (lv' := [(4, .int s0), (0, .ref (ad 66)), (1, .ref (ad (67 + 4))), (2, .int x2), (3, .int x3)]) hx hb dX12_goes_58 hl (by decide) rfl (fun ls hl => ?_)
      refine lv_aload_n hx hb dX12_goes_60 rfl (lv_at hl 2 rfl) ?_
      refine lv_iload_n hx hb dX12_goes_61 rfl (lv_at hl 4 rfl) ?_
      refine lv_dup2_11 hx hb dX12_goes_62 rfl rfl ?_
      obtain ⟨v9, hv9, h⟩ := bd h
      refine zm_ld (j := 4) Z hP hv9 dX12_goes_63 ?_
      refine lv_iload hx hb dX12_goes_64 (lv_at hl 0 rfl) ?_
      refine lv_if_eq (tgt := 82) hx hb dX12_goes_66 (by decide) (fun c10 => ?_) (fun c10 => ?_)
      · rw [if_pos c10] at h
        refine lv_iconst (v := 0) hx hb dX12_goes_82 (by decide) ?_
        exact J83 x2 s0 0 v9 x3 τ h _ _ hP hS _ (lv_sub hl [1, 2, 3, 0] rfl)
      · rw [if_neg c10] at h
        refine lv_aload_n hx hb dX12_goes_69 rfl (lv_at hl 1 rfl) ?_
        refine fg_66_10 Z hP wF_X12_16 dX12_goes_70 ?_
        refine lv_iconst (v := 3) hx hb dX12_goes_73 (by decide) ?_
        refine lv_iload_n hx hb dX12_goes_74 rfl (lv_at hl 3 rfl) ?_
        refine lv_imul hx hb dX12_goes_75 ?_
        refine lv_iconst (v := 2) hx hb dX12_goes_76 (by decide) ?_
        refine lv_iadd hx hb dX12_goes_77 ?_
        obtain ⟨v16, hv16, h⟩ := bd h
        refine zm_ld (j := 2) Z hP hv16 dX12_goes_78 ?_
        refine lv_goto (tgt := 83) hx hb dX12_goes_79 (by decide) ?_
        exact J83 x2 s0 v16 v9 x3 τ h _ _ hP hS _ (lv_sub hl [1, 2, 3, 0] rfl)
    rw [m_X12_goes_s_L2] at h
    refine lv_iload_n hx hb dX12_goes_2 rfl (lv_at hl 2 rfl) ?_
    refine lv_aload_n hx hb dX12_goes_3 rfl (lv_at hl 0 rfl) ?_
    refine fg_66_13 Z hP wF_X12_130 dX12_goes_4 ?_
    refine lv_icmp_ge (tgt := 107) hx hb dX12_goes_7 (by decide) (fun c1 => ?_) (fun c1 => ?_)
    · rw [if_pos c1] at h
      obtain rfl := Option.some.inj h
      exact kx _ _ hP hS _ (lv_sub hl [0, 1] rfl)
    · rw [if_neg c1] at h
      refine lv_iconst (v := 4) hx hb dX12_goes_10 (by decide) ?_
      refine lv_aload_n hx hb dX12_goes_11 rfl (lv_at hl 0 rfl) ?_
      refine fg_66_10 Z hP wF_X12_16 dX12_goes_12 ?_
      refine lv_iconst (v := 3) hx hb dX12_goes_15 (by decide) ?_
      refine lv_iload_n hx hb dX12_goes_16 rfl (lv_at hl 2 rfl) ?_
      refine lv_imul hx hb dX12_goes_17 ?_
      obtain ⟨v2, hv2, h⟩ := bd h
      refine zm_ld (j := 2) Z hP hv2 dX12_goes_18 ?_
      refine lv_iadd hx hb dX12_goes_19 ?_
      refine lv_istore_n (lv' := [(3, .int (4 + v2)), (0, .ref (ad 66)), (1, .ref (ad (67 + 4))), (2, .int x2)]) hx hb dX12_goes_20 rfl hl (by decide) rfl (fun ls hl => ?_)
      refine lv_aload_n hx hb dX12_goes_21 rfl (lv_at hl 1 rfl) ?_
      refine fg_66_10 Z hP wF_X12_16 dX12_goes_22 ?_
      refine lv_iconst (v := 3) hx hb dX12_goes_25 (by decide) ?_
      refine lv_iload_n hx hb dX12_goes_26 rfl (lv_at hl 3 rfl) ?_
      refine lv_imul hx hb dX12_goes_27 ?_
      refine lv_iconst (v := 1) hx hb dX12_goes_28 (by decide) ?_
      refine lv_iadd hx hb dX12_goes_29 ?_
      obtain ⟨v3, hv3, h⟩ := bd h
      refine zm_ld (j := 2) Z hP hv3 dX12_goes_30 ?_
      refine lv_aload_n hx hb dX12_goes_31 rfl (lv_at hl 2 rfl) ?_
      refine lv_iconst (v := 0) hx hb dX12_goes_32 (by decide) ?_
      obtain ⟨v4, hv4, h⟩ := bd h
      refine zm_ld (j := 4) Z hP hv4 dX12_goes_33 ?_
      refine lv_icmp_ne (tgt := 101) hx hb dX12_goes_34 (by decide) (fun c5 => ?_) (fun c5 => ?_)
      · rw [if_neg c5] at h
        refine lv_iinc (v := (x2 + 1)) (lv' := [(2, .int (x2 + 1)), (3, .int (4 + v2)), (0, .ref (ad 66)), (1, .ref (ad (67 + 4)))]) hx hb dX12_goes_101 hl (k := 3) rfl rfl (by decide) rfl (fun ls hl => ?_)
        refine lv_goto (tgt := 2) hx hb dX12_goes_104 (by decide) ?_
        exact ih ((x2 + 1)) τ _ h _ _ hP hS _ (lv_sub hl [2, 3, 0] rfl) kx
      · rw [if_pos c5] at h
        refine lv_aload_n hx hb dX12_goes_37 rfl (lv_at hl 2 rfl) ?_
        refine lv_iload_n hx hb dX12_goes_38 rfl (lv_at hl 0 rfl) ?_
        obtain ⟨v6, hv6, h⟩ := bd h
        refine zm_ld (j := 4) Z hP hv6 dX12_goes_39 ?_
        refine lv_aload_n hx hb dX12_goes_40 rfl (lv_at hl 1 rfl) ?_
        refine fg_66_10 Z hP wF_X12_16 dX12_goes_41 ?_
        refine lv_iconst (v := 3) hx hb dX12_goes_44 (by decide) ?_
        refine lv_iload_n hx hb dX12_goes_45 rfl (lv_at hl 3 rfl) ?_
        refine lv_imul hx hb dX12_goes_46 ?_
        refine lv_iconst (v := 2) hx hb dX12_goes_47 (by decide) ?_
        refine lv_iadd hx hb dX12_goes_48 ?_
        obtain ⟨v7, hv7, h⟩ := bd h
        refine zm_ld (j := 2) Z hP hv7 dX12_goes_49 ?_
        refine lv_icmp_lt (tgt := 57) hx hb dX12_goes_50 (by decide) (fun c8 => ?_) (fun c8 => ?_)
        · rw [if_pos c8] at h
          refine lv_iconst (v := 0) hx hb dX12_goes_57 (by decide) ?_
          exact J58 x2 ((4 + v2)) 0 τ h _ _ hP hS _ (lv_sub hl [1, 2, 3, 0] rfl)
        · rw [if_neg c8] at h
          refine lv_iconst (v := 1) hx hb dX12_goes_53 (by decide) ?_
          refine lv_goto (tgt := 58) hx hb dX12_goes_54 (by decide) ?_
          exact J58 x2 ((4 + v2)) 1 τ h _ _ hP hS _ (lv_sub hl [1, 2, 3, 0] rfl)
set_option maxHeartbeats 4000000 in
set_option maxRecDepth 100000 in
theorem w_X12_goes_s_L117 {l : Launch} {D : va_G} {cy : Nat → ClassId} {ad : Nat → Nat} {σ : Sx} {p : Program} {e : Env} {R : Room} {s : State} {m : MethodId} {args : Array Value} {below : List Frame} {meth : Method} {c : Code} (Z : Zc p s m c cX12_goes 5 RX12 D cy ad) (hr : meth.sig.returnType = none) (hlk : meth.locks = false) (hRf : 2 ≤ R.frames) (hRl : 45 ≤ R.locals) (out : Sx) : ∀ (n : Nat) (x2 : Int32) (x3 : Int32) (τ : Sx) (res : Sx), m_X12_goes_s_L117 n x2 x3 τ = some res → ∀ (H : Heap) (locs : List Loc), va_P D vwCl (gW cy ad σ τ) H → va_S (gA ad) s.heap H locs → ∀ ls : Array Slot, lv_has ls 5 [(0, .ref (ad 66)), (1, .ref (ad (67 + 4))), (2, .int x2), (3, .int x3)] → (∀ (H : Heap) (locs : List Loc), va_P D vwCl (gW cy ad σ res) H → va_S (gA ad) s.heap H locs → ∀ ls : Array Slot, lv_has ls 5 [(1, .ref (ad (67 + 4)))] → W p l e R s m args below meth c H locs 0 0 (MQ below (mQv D cy ad σ out) args s 0 0 (gA ad)) (F0 m 221 ls [])) → W p l e R s m args below meth c H locs 0 0 (MQ below (mQv D cy ad σ out) args s 0 0 (gA ad)) (F0 m 117 ls []) := by
  have hx := Z.x
  have hb := Z.b
  intro n
  induction n with
  | zero => intro x2 x3 τ res h; cases h
  | succ n ih =>
    intro x2 x3 τ res h H locs hP hS ls hl kx
    have J195 : ∀ (x2 : Int32) (x3 : Int32) (x4 : Int32) (s0 : Int32) (s1 : Int32) (τ : Sx), m_X12_goes_s_J195 (m_X12_goes_s_L117 n) x2 x3 x4 s0 s1 τ = some res → ∀ (H : Heap) (locs : List Loc), va_P D vwCl (gW cy ad σ τ) H → va_S (gA ad) s.heap H locs → ∀ ls : Array Slot, lv_has ls 5 [(0, .ref (ad 66)), (1, .ref (ad (67 + 4))), (2, .int x2), (3, .int x3), (4, .int x4)] → W p l e R s m args below meth c H locs 0 0 (MQ below (mQv D cy ad σ out) args s 0 0 (gA ad)) (F0 m 195 ls [.int s0, .int s1, .ref (ad (67 + 4))]) := by
      intro x2 x3 x4 s0 s1 τ h H locs hP hS ls hl
      unfold m_X12_goes_s_J195 at h
      obtain ⟨q26, hq26, h⟩ := bd h
      refine zm_st (j := 4) Z hP hS hq26 dX12_goes_195 (fun H locs hP hS => ?_)
      refine lv_aload_n hx hb dX12_goes_196 rfl (lv_at hl 1 rfl) ?_
      refine lv_bipush (v := 9) hx hb dX12_goes_197 (by decide) ?_
      refine lv_iload_n hx hb dX12_goes_199 rfl (lv_at hl 3 rfl) ?_
      refine lv_iadd hx hb dX12_goes_200 ?_
      refine lv_dup2_11 hx hb dX12_goes_201 rfl rfl ?_
      obtain ⟨v27, hv27, h⟩ := bd h
      refine zm_ld (j := 4) Z hP hv27 dX12_goes_202 ?_
      refine lv_iload hx hb dX12_goes_203 (lv_at hl 4 rfl) ?_
      refine lv_if_eq (tgt := 212) hx hb dX12_goes_205 (by decide) (fun c28 => ?_) (fun c28 => ?_)
      · rw [if_pos c28] at h
        refine lv_iconst (v := 0) hx hb dX12_goes_212 (by decide) ?_
        refine lv_iadd hx hb dX12_goes_213 ?_
        obtain ⟨q29, hq29, h⟩ := bd h
        refine zm_st (j := 4) Z hP hS hq29 dX12_goes_214 (fun H locs hP hS => ?_)
        refine lv_iinc (v := (x3 + 1)) (lv' := [(3, .int (x3 + 1)), (0, .ref (ad 66)), (1, .ref (ad (67 + 4))), (2, .int x2), (4, .int x4)]) hx hb dX12_goes_215 hl (k := 3) rfl rfl (by decide) rfl (fun ls hl => ?_)
        refine lv_goto (tgt := 117) hx hb dX12_goes_218 (by decide) ?_
        exact ih x2 ((x3 + 1)) q29 _ h _ _ hP hS _ (lv_sub hl [1, 2, 3, 0] rfl) kx
      · rw [if_neg c28] at h
        refine lv_iconst (v := 1) hx hb dX12_goes_208 (by decide) ?_
        refine lv_goto (tgt := 213) hx hb dX12_goes_209 (by decide) ?_
        refine lv_iadd hx hb dX12_goes_213 ?_
        obtain ⟨q30, hq30, h⟩ := bd h
        refine zm_st (j := 4) Z hP hS hq30 dX12_goes_214 (fun H locs hP hS => ?_)
        refine lv_iinc (v := (x3 + 1)) (lv' := [(3, .int (x3 + 1)), (0, .ref (ad 66)), (1, .ref (ad (67 + 4))), (2, .int x2), (4, .int x4)]) hx hb dX12_goes_215 hl (k := 3) rfl rfl (by decide) rfl (fun ls hl => ?_)
        refine lv_goto (tgt := 117) hx hb dX12_goes_218 (by decide) ?_
        exact ih x2 ((x3 + 1)) q30 _ h _ _ hP hS _ (lv_sub hl [1, 2, 3, 0] rfl) kx
    have J145 : ∀ (x2 : Int32) (x3 : Int32) (s0 : Int32) (τ : Sx), m_X12_goes_s_J145 (m_X12_goes_s_L117 n) x2 x3 s0 τ = some res → ∀ (H : Heap) (locs : List Loc), va_P D vwCl (gW cy ad σ τ) H → va_S (gA ad) s.heap H locs → ∀ ls : Array Slot, lv_has ls 5 [(0, .ref (ad 66)), (1, .ref (ad (67 + 4))), (2, .int x2), (3, .int x3)] → W p l e R s m args below meth c H locs 0 0 (MQ below (mQv D cy ad σ out) args s 0 0 (gA ad)) (F0 m 145 ls [.int s0]) := by
      intro x2 x3 s0 τ h H locs hP hS ls hl
      unfold m_X12_goes_s_J145 at h
      refine lv_istore (lv' := [(4, .int s0), (0, .ref (ad 66)), (1, .ref (ad (67 + 4))), (2, .int x2), (3, .int x3)]) hx hb dX12_goes_145 hl (by decide) rfl (fun ls hl => ?_)
      refine lv_aload_n hx hb dX12_goes_147 rfl (lv_at hl 2 rfl) ?_
      refine lv_iconst (v := 4) hx hb dX12_goes_148 (by decide) ?_
      refine lv_iload_n hx hb dX12_goes_149 rfl (lv_at hl 4 rfl) ?_
      refine lv_iadd hx hb dX12_goes_150 ?_
      refine lv_iload hx hb dX12_goes_151 (lv_at hl 0 rfl) ?_
      refine lv_if_eq (tgt := 177) hx hb dX12_goes_153 (by decide) (fun c22 => ?_) (fun c22 => ?_)
      · rw [if_pos c22] at h
        refine lv_aload_n hx hb dX12_goes_177 rfl (lv_at hl 2 rfl) ?_
        refine lv_iconst (v := 4) hx hb dX12_goes_178 (by decide) ?_
        refine lv_iload_n hx hb dX12_goes_179 rfl (lv_at hl 4 rfl) ?_
        refine lv_iadd hx hb dX12_goes_180 ?_
        obtain ⟨v23, hv23, h⟩ := bd h
        refine zm_ld (j := 4) Z hP hv23 dX12_goes_181 ?_
        refine lv_aload_n hx hb dX12_goes_182 rfl (lv_at hl 1 rfl) ?_
        refine fg_66_9 Z hP wF_X12_13 dX12_goes_183 ?_
        refine lv_iconst (v := 3) hx hb dX12_goes_186 (by decide) ?_
        refine lv_iload_n hx hb dX12_goes_187 rfl (lv_at hl 4 rfl) ?_
        refine lv_imul hx hb dX12_goes_188 ?_
        refine lv_iconst (v := 2) hx hb dX12_goes_189 (by decide) ?_
        refine lv_iadd hx hb dX12_goes_190 ?_
        obtain ⟨v24, hv24, h⟩ := bd h
        refine zm_ld (j := 1) Z hP hv24 dX12_goes_191 ?_
        obtain ⟨v25, hv25, h⟩ := bd h
        refine zqi (zrunS Z hP (As := [.int v23, .int v24]) (rest := [.int (4 + x3), .ref (ad (67 + 4))]) (c_X12_lower (R := { frames := 0, cells := 0, slots := 0, locals := 0 }) Z.i (Nat.le_refl _) (Nat.le_refl _) hv25) cV_X12_152 rfl rfl ⟨(Nat.le_trans (Nat.le_of_ble_eq_true rfl) hRf), (Nat.le_trans (Nat.le_of_ble_eq_true rfl) hRl)⟩ rfl hl.1 rfl (Nat.le_of_ble_eq_true rfl) dX12_goes_192 ⟨Nat.zero_le _, Nat.zero_le _⟩) ?_
        exact J195 x2 x3 s0 v25 ((4 + x3)) τ h _ _ hP hS _ (lv_sub hl [1, 2, 3, 4, 0] rfl)
      · rw [if_neg c22] at h
        refine lv_aload_n hx hb dX12_goes_156 rfl (lv_at hl 2 rfl) ?_
        refine lv_iconst (v := 4) hx hb dX12_goes_157 (by decide) ?_
        refine lv_iload_n hx hb dX12_goes_158 rfl (lv_at hl 4 rfl) ?_
        refine lv_iadd hx hb dX12_goes_159 ?_
        obtain ⟨v31, hv31, h⟩ := bd h
        refine zm_ld (j := 4) Z hP hv31 dX12_goes_160 ?_
        refine lv_aload_n hx hb dX12_goes_161 rfl (lv_at hl 1 rfl) ?_
        refine fg_66_9 Z hP wF_X12_13 dX12_goes_162 ?_
        refine lv_iconst (v := 3) hx hb dX12_goes_165 (by decide) ?_
        refine lv_iload_n hx hb dX12_goes_166 rfl (lv_at hl 4 rfl) ?_
        refine lv_imul hx hb dX12_goes_167 ?_
        refine lv_iconst (v := 1) hx hb dX12_goes_168 (by decide) ?_
        refine lv_iadd hx hb dX12_goes_169 ?_
        obtain ⟨v32, hv32, h⟩ := bd h
        refine zm_ld (j := 1) Z hP hv32 dX12_goes_170 ?_
        obtain ⟨v33, hv33, h⟩ := bd h
        refine zqi (zrunS Z hP (As := [.int v31, .int v32]) (rest := [.int (4 + x3), .ref (ad (67 + 4))]) (c_X12_filled (R := { frames := 0, cells := 0, slots := 0, locals := 0 }) Z.i (Nat.le_refl _) (Nat.le_refl _) hv33) cV_X12_149 rfl rfl ⟨(Nat.le_trans (Nat.le_of_ble_eq_true rfl) hRf), (Nat.le_trans (Nat.le_of_ble_eq_true rfl) hRl)⟩ rfl hl.1 rfl (Nat.le_of_ble_eq_true rfl) dX12_goes_171 ⟨Nat.zero_le _, Nat.zero_le _⟩) ?_
        refine lv_goto (tgt := 195) hx hb dX12_goes_174 (by decide) ?_
        exact J195 x2 x3 s0 v33 ((4 + x3)) τ h _ _ hP hS _ (lv_sub hl [1, 2, 3, 4, 0] rfl)
    have J144 : ∀ (x2 : Int32) (x3 : Int32) (τ : Sx), m_X12_goes_s_J144 (m_X12_goes_s_L117 n) x2 x3 τ = some res → ∀ (H : Heap) (locs : List Loc), va_P D vwCl (gW cy ad σ τ) H → va_S (gA ad) s.heap H locs → ∀ ls : Array Slot, lv_has ls 5 [(0, .ref (ad 66)), (1, .ref (ad (67 + 4))), (2, .int x2), (3, .int x3)] → W p l e R s m args below meth c H locs 0 0 (MQ below (mQv D cy ad σ out) args s 0 0 (gA ad)) (F0 m 144 ls []) := by
      intro x2 x3 τ h H locs hP hS ls hl
      unfold m_X12_goes_s_J144 at h
      refine lv_iconst (v := 0) hx hb dX12_goes_144 (by decide) ?_
      exact J145 x2 x3 0 τ h _ _ hP hS _ (lv_sub hl [0, 1, 2, 3] rfl)
    rw [m_X12_goes_s_L117] at h
    refine lv_iload_n hx hb dX12_goes_117 rfl (lv_at hl 3 rfl) ?_
    refine lv_aload_n hx hb dX12_goes_118 rfl (lv_at hl 0 rfl) ?_
    refine fg_66_12 Z hP wF_X12_127 dX12_goes_119 ?_
    refine lv_icmp_ge (tgt := 221) hx hb dX12_goes_122 (by decide) (fun c20 => ?_) (fun c20 => ?_)
    · rw [if_pos c20] at h
      obtain rfl := Option.some.inj h
      exact kx _ _ hP hS _ (lv_sub hl [1] rfl)
    · rw [if_neg c20] at h
      refine lv_iload_n hx hb dX12_goes_125 rfl (lv_at hl 2 rfl) ?_
      refine lv_if_ne (tgt := 144) hx hb dX12_goes_126 (by decide) (fun c21 => ?_) (fun c21 => ?_)
      · rw [if_neg c21] at h
        exact J144 x2 x3 τ h _ _ hP hS _ (lv_sub hl [0, 1, 2, 3] rfl)
      · rw [if_pos c21] at h
        refine lv_aload_n hx hb dX12_goes_129 rfl (lv_at hl 1 rfl) ?_
        refine lv_iconst (v := 1) hx hb dX12_goes_130 (by decide) ?_
        obtain ⟨v34, hv34, h⟩ := bd h
        refine zm_ld (j := 4) Z hP hv34 dX12_goes_131 ?_
        refine lv_iload_n hx hb dX12_goes_132 rfl (lv_at hl 3 rfl) ?_
        refine lv_ishr hx hb dX12_goes_133 ?_
        refine lv_iconst (v := 1) hx hb dX12_goes_134 (by decide) ?_
        refine lv_iand hx hb dX12_goes_135 ?_
        refine lv_iconst (v := 1) hx hb dX12_goes_136 (by decide) ?_
        refine lv_icmp_ne (tgt := 144) hx hb dX12_goes_137 (by decide) (fun c35 => ?_) (fun c35 => ?_)
        · rw [if_neg c35] at h
          exact J144 x2 x3 τ h _ _ hP hS _ (lv_sub hl [0, 1, 2, 3] rfl)
        · rw [if_pos c35] at h
          refine lv_iconst (v := 1) hx hb dX12_goes_140 (by decide) ?_
          refine lv_goto (tgt := 145) hx hb dX12_goes_141 (by decide) ?_
          exact J145 x2 x3 1 τ h _ _ hP hS _ (lv_sub hl [0, 1, 2, 3] rfl)
set_option maxHeartbeats 4000000 in
set_option maxRecDepth 100000 in
theorem c_X12_goes_s {l : Launch} {D : va_G} {cy : Nat → ClassId} {ad : Nat → Nat} {σ τ : Sx} {R : Room} (hI : gInj ad) (hRf : 2 ≤ R.frames) (hRl : 45 ≤ R.locals) {out : Sx} (h : m_X12_goes_s τ = some out) : Met l yX12_goes [Cond.code yX12_goes cX12_goes 5 none] R (va_Pc [.ref (ad 66), .ref (ad (67 + 4))] (gB D cy ad σ τ)) (mQv D cy ad σ out) 0 0 (gA ad) := by
  refine zstart [.ref (ad 66), .ref (ad (67 + 4))] (by decide) rfl hI (Nat.le_of_ble_eq_true rfl) ?_
  intro p e s m below meth c Z hr hlk hP ls hl
  have hx := Z.x
  have hb := Z.b
  generalize hargs : ([.ref (ad 66), .ref (ad (67 + 4))] : List Value).toArray = args
  have hl : lv_has ls 5 [(0, .ref (ad 66)), (1, .ref (ad (67 + 4)))] := hl
  have hS : va_S (gA ad) s.heap s.heap [] := va_S.rf
  unfold m_X12_goes_s at h
  refine lv_iconst (v := 0) hx hb dX12_goes_0 (by decide) ?_
  refine lv_istore_n (lv' := [(2, .int 0), (0, .ref (ad 66)), (1, .ref (ad (67 + 4)))]) hx hb dX12_goes_1 rfl hl (by decide) rfl (fun ls hl => ?_)
  obtain ⟨y17, hy17, h⟩ := bd h
  refine w_X12_goes_s_L2 Z hr hlk hRf hRl out FU 0 τ y17 hy17 _ _ hP hS _ (lv_sub hl [1, 2, 0] rfl) (fun H locs hP hS ls hl => ?_)
  refine lv_aload_n hx hb dX12_goes_107 rfl (lv_at hl 0 rfl) ?_
  refine lv_aload_n hx hb dX12_goes_108 rfl (lv_at hl 1 rfl) ?_
  refine lv_iconst (v := 0) hx hb dX12_goes_109 (by decide) ?_
  obtain ⟨v18, hv18, h⟩ := bd h
  refine zm_ld (j := 4) Z hP hv18 dX12_goes_110 ?_
  obtain ⟨v19, hv19, h⟩ := bd h
  refine zqi (zrunV Z hP (As := [.int v18]) (rest := []) (c_X12_isDark (R := { frames := 1, cells := 0, slots := 0, locals := 22 }) Z.i (Nat.le_refl _) (Nat.le_refl _) hv19) cV_X12_146 rfl rfl ⟨(Nat.le_trans (Nat.le_of_ble_eq_true rfl) hRf), (Nat.le_trans (Nat.le_of_ble_eq_true rfl) hRl)⟩ 66 (gW_mo.trans rfl) rfl rfl rfl hl.1 rfl (Nat.le_of_ble_eq_true rfl) dX12_goes_111 ⟨Nat.zero_le _, Nat.zero_le _⟩) ?_
  refine lv_istore_n (lv' := [(2, .int v19), (0, .ref (ad 66)), (1, .ref (ad (67 + 4)))]) hx hb dX12_goes_114 rfl hl (by decide) rfl (fun ls hl => ?_)
  refine lv_iconst (v := 0) hx hb dX12_goes_115 (by decide) ?_
  refine lv_istore_n (lv' := [(3, .int 0), (2, .int v19), (0, .ref (ad 66)), (1, .ref (ad (67 + 4)))]) hx hb dX12_goes_116 rfl hl (by decide) rfl (fun ls hl => ?_)
  obtain ⟨y36, hy36, h⟩ := bd h
  refine w_X12_goes_s_L117 Z hr hlk hRf hRl out FU v19 0 y17 y36 hy36 _ _ hP hS _ (lv_sub hl [2, 3, 1, 0] rfl) (fun H locs hP hS ls hl => ?_)
  refine lv_aload_n hx hb dX12_goes_221 rfl (lv_at hl 0 rfl) ?_
  refine lv_iconst (v := 0) hx hb dX12_goes_222 (by decide) ?_
  refine lv_dup2_11 hx hb dX12_goes_223 rfl rfl ?_
  obtain ⟨v37, hv37, h⟩ := bd h
  refine zm_ld (j := 4) Z hP hv37 dX12_goes_224 ?_
  refine lv_iconst (v := 1) hx hb dX12_goes_225 (by decide) ?_
  refine lv_iadd hx hb dX12_goes_226 ?_
  obtain ⟨q38, hq38, h⟩ := bd h
  refine zm_st (j := 4) Z hP hS hq38 dX12_goes_227 (fun H locs hP hS => ?_)
  exact zmv Z hP hS hr hlk h dX12_goes_228
def m_X12_goes_w_J83 (rec : Int32 → Sx → Option (Sx)) (x2 : Int32) (x4 : Int32) (s0 : Int32) (s1 : Int32) (s2 : Int32) (τ : Sx) : Option (Sx) :=
  (stA mLn τ 5 s2 ((s1 - s0))).bind (fun q11 => (ldA mLn q11 5 3).bind (fun v12 => if x4 = 0 then ((stA mLn q11 5 3 ((v12 + 1))).bind (fun q14 => rec ((x2 + 1)) q14)) else ((stA mLn q11 5 3 ((v12 + 0))).bind (fun q15 => rec ((x2 + 1)) q15))))
def m_X12_goes_w_J58 (rec : Int32 → Sx → Option (Sx)) (x2 : Int32) (x3 : Int32) (s0 : Int32) (τ : Sx) : Option (Sx) :=
  (ldA mLn τ 5 x3).bind (fun v9 => if s0 = 0 then (m_X12_goes_w_J83 rec x2 s0 0 v9 x3 τ) else ((ldA mLn τ 2 (((3 * x2) + 2))).bind (fun v16 => m_X12_goes_w_J83 rec x2 s0 v16 v9 x3 τ)))
def m_X12_goes_w_L2  : Nat → Int32 → Sx → Option (Sx)
  | 0, _, _ => none
  | n + 1, x2, τ =>
  if (τ.1 8) ≤ x2 then (some τ) else ((ldA mLn τ 2 ((3 * x2))).bind (fun v2 => (ldA mLn τ 2 (((3 * x2) + 1))).bind (fun v3 => (ldA mLn τ 5 0).bind (fun v4 => if v3 = v4 then ((ldA mLn τ 5 ((4 + v2))).bind (fun v6 => (ldA mLn τ 2 (((3 * x2) + 2))).bind (fun v7 => if v6 < v7 then (m_X12_goes_w_J58 (m_X12_goes_w_L2 n) x2 ((4 + v2)) 0 τ) else (m_X12_goes_w_J58 (m_X12_goes_w_L2 n) x2 ((4 + v2)) 1 τ)))) else (m_X12_goes_w_L2 n ((x2 + 1)) τ)))))
def m_X12_goes_w_J195 (rec : Int32 → Int32 → Sx → Option (Sx)) (x2 : Int32) (x3 : Int32) (x4 : Int32) (s0 : Int32) (s1 : Int32) (τ : Sx) : Option (Sx) :=
  (stA mLn τ 5 s1 s0).bind (fun q26 => (ldA mLn q26 5 ((9 + x3))).bind (fun v27 => if x4 = 0 then ((stA mLn q26 5 ((9 + x3)) ((v27 + 0))).bind (fun q29 => rec x2 ((x3 + 1)) q29)) else ((stA mLn q26 5 ((9 + x3)) ((v27 + 1))).bind (fun q30 => rec x2 ((x3 + 1)) q30))))
def m_X12_goes_w_J145 (rec : Int32 → Int32 → Sx → Option (Sx)) (x2 : Int32) (x3 : Int32) (s0 : Int32) (τ : Sx) : Option (Sx) :=
  if s0 = 0 then ((ldA mLn τ 5 ((4 + x3))).bind (fun v23 => (ldA mLn τ 1 (((3 * x3) + 2))).bind (fun v24 => (m_X12_lower v23 v24).bind (fun v25 => m_X12_goes_w_J195 rec x2 x3 s0 v25 ((4 + x3)) τ)))) else ((ldA mLn τ 5 ((4 + x3))).bind (fun v31 => (ldA mLn τ 1 (((3 * x3) + 1))).bind (fun v32 => (m_X12_filled v31 v32).bind (fun v33 => m_X12_goes_w_J195 rec x2 x3 s0 v33 ((4 + x3)) τ))))
def m_X12_goes_w_J144 (rec : Int32 → Int32 → Sx → Option (Sx)) (x2 : Int32) (x3 : Int32) (τ : Sx) : Option (Sx) :=
  m_X12_goes_w_J145 rec x2 x3 0 τ
def m_X12_goes_w_L117  : Nat → Int32 → Int32 → Sx → Option (Sx)
  | 0, _, _, _ => none
  | n + 1, x2, x3, τ =>
  if (τ.1 7) ≤ x3 then (some τ) else (if x2 = 0 then ((ldA mLn τ 5 1).bind (fun v34 => if ((v34 >>> (x3 &&& 31)) &&& 1) = 1 then (m_X12_goes_w_J145 (m_X12_goes_w_L117 n) x2 x3 1 τ) else (m_X12_goes_w_J144 (m_X12_goes_w_L117 n) x2 x3 τ))) else (m_X12_goes_w_J144 (m_X12_goes_w_L117 n) x2 x3 τ))
def m_X12_goes_w (τ : Sx) : Option (Sx) :=
  (m_X12_goes_w_L2 FU 0 τ).bind (fun y17 => (ldA mLn y17 5 0).bind (fun v18 => (m_X12_isDark y17 v18).bind (fun v19 => (m_X12_goes_w_L117 FU v19 0 y17).bind (fun y36 => (ldA mLn y36 5 0).bind (fun v37 => (stA mLn y36 5 0 ((v37 + 1))).bind (fun q38 => some q38))))))
set_option maxHeartbeats 4000000 in
set_option maxRecDepth 100000 in
theorem w_X12_goes_w_L2 {l : Launch} {D : va_G} {cy : Nat → ClassId} {ad : Nat → Nat} {σ : Sx} {p : Program} {e : Env} {R : Room} {s : State} {m : MethodId} {args : Array Value} {below : List Frame} {meth : Method} {c : Code} (Z : Zc p s m c cX12_goes 5 RX12 D cy ad) (hr : meth.sig.returnType = none) (hlk : meth.locks = false) (hRf : 2 ≤ R.frames) (hRl : 45 ≤ R.locals) (out : Sx) : ∀ (n : Nat) (x2 : Int32) (τ : Sx) (res : Sx), m_X12_goes_w_L2 n x2 τ = some res → ∀ (H : Heap) (locs : List Loc), va_P D vwCl (gW cy ad σ τ) H → va_S (gA ad) s.heap H locs → ∀ ls : Array Slot, lv_has ls 5 [(0, .ref (ad 66)), (1, .ref (ad (67 + 5))), (2, .int x2)] → (∀ (H : Heap) (locs : List Loc), va_P D vwCl (gW cy ad σ res) H → va_S (gA ad) s.heap H locs → ∀ ls : Array Slot, lv_has ls 5 [(0, .ref (ad 66)), (1, .ref (ad (67 + 5)))] → W p l e R s m args below meth c H locs 0 0 (MQ below (mQv D cy ad σ out) args s 0 0 (gA ad)) (F0 m 107 ls [])) → W p l e R s m args below meth c H locs 0 0 (MQ below (mQv D cy ad σ out) args s 0 0 (gA ad)) (F0 m 2 ls []) := by
  have hx := Z.x
  have hb := Z.b
  intro n
  induction n with
  | zero => intro x2 τ res h; cases h
  | succ n ih =>
    intro x2 τ res h H locs hP hS ls hl kx
    have J83 : ∀ (x2 : Int32) (x4 : Int32) (s0 : Int32) (s1 : Int32) (s2 : Int32) (τ : Sx), m_X12_goes_w_J83 (m_X12_goes_w_L2 n) x2 x4 s0 s1 s2 τ = some res → ∀ (H : Heap) (locs : List Loc), va_P D vwCl (gW cy ad σ τ) H → va_S (gA ad) s.heap H locs → ∀ ls : Array Slot, lv_has ls 5 [(0, .ref (ad 66)), (1, .ref (ad (67 + 5))), (2, .int x2), (4, .int x4)] → W p l e R s m args below meth c H locs 0 0 (MQ below (mQv D cy ad σ out) args s 0 0 (gA ad)) (F0 m 83 ls [.int s0, .int s1, .int s2, .ref (ad (67 + 5))]) := by
      intro x2 x4 s0 s1 s2 τ h H locs hP hS ls hl
      unfold m_X12_goes_w_J83 at h
      refine lv_isub hx hb dX12_goes_83 ?_
      obtain ⟨q11, hq11, h⟩ := bd h
      refine zm_st (j := 5) Z hP hS hq11 dX12_goes_84 (fun H locs hP hS => ?_)
      refine lv_aload_n hx hb dX12_goes_85 rfl (lv_at hl 1 rfl) ?_
      refine lv_iconst (v := 3) hx hb dX12_goes_86 (by decide) ?_
      refine lv_dup2_11 hx hb dX12_goes_87 rfl rfl ?_
      obtain ⟨v12, hv12, h⟩ := bd h
      refine zm_ld (j := 5) Z hP hv12 dX12_goes_88 ?_
      refine lv_iload hx hb dX12_goes_89 (lv_at hl 3 rfl) ?_
      refine lv_if_eq (tgt := 98) hx hb dX12_goes_91 (by decide) (fun c13 => ?_) (fun c13 => ?_)
      · rw [if_pos c13] at h
        refine lv_iconst (v := 1) hx hb dX12_goes_98 (by decide) ?_
        refine lv_iadd hx hb dX12_goes_99 ?_
        obtain ⟨q14, hq14, h⟩ := bd h
        refine zm_st (j := 5) Z hP hS hq14 dX12_goes_100 (fun H locs hP hS => ?_)
        refine lv_iinc (v := (x2 + 1)) (lv' := [(2, .int (x2 + 1)), (0, .ref (ad 66)), (1, .ref (ad (67 + 5))), (4, .int x4)]) hx hb dX12_goes_101 hl (k := 2) rfl rfl (by decide) rfl (fun ls hl => ?_)
        refine lv_goto (tgt := 2) hx hb dX12_goes_104 (by decide) ?_
        exact ih ((x2 + 1)) q14 _ h _ _ hP hS _ (lv_sub hl [1, 2, 0] rfl) kx
      · rw [if_neg c13] at h
        refine lv_iconst (v := 0) hx hb dX12_goes_94 (by decide) ?_
        refine lv_goto (tgt := 99) hx hb dX12_goes_95 (by decide) ?_
        refine lv_iadd hx hb dX12_goes_99 ?_
        obtain ⟨q15, hq15, h⟩ := bd h
        refine zm_st (j := 5) Z hP hS hq15 dX12_goes_100 (fun H locs hP hS => ?_)
        refine lv_iinc (v := (x2 + 1)) (lv' := [(2, .int (x2 + 1)), (0, .ref (ad 66)), (1, .ref (ad (67 + 5))), (4, .int x4)]) hx hb dX12_goes_101 hl (k := 2) rfl rfl (by decide) rfl (fun ls hl => ?_)
        refine lv_goto (tgt := 2) hx hb dX12_goes_104 (by decide) ?_
        exact ih ((x2 + 1)) q15 _ h _ _ hP hS _ (lv_sub hl [1, 2, 0] rfl) kx
    have J58 : ∀ (x2 : Int32) (x3 : Int32) (s0 : Int32) (τ : Sx), m_X12_goes_w_J58 (m_X12_goes_w_L2 n) x2 x3 s0 τ = some res → ∀ (H : Heap) (locs : List Loc), va_P D vwCl (gW cy ad σ τ) H → va_S (gA ad) s.heap H locs → ∀ ls : Array Slot, lv_has ls 5 [(0, .ref (ad 66)), (1, .ref (ad (67 + 5))), (2, .int x2), (3, .int x3)] → W p l e R s m args below meth c H locs 0 0 (MQ below (mQv D cy ad σ out) args s 0 0 (gA ad)) (F0 m 58 ls [.int s0]) := by
      intro x2 x3 s0 τ h H locs hP hS ls hl
      unfold m_X12_goes_w_J58 at h
      refine lv_istore (lv' := [(4, .int s0), (0, .ref (ad 66)), (1, .ref (ad (67 + 5))), (2, .int x2), (3, .int x3)]) hx hb dX12_goes_58 hl (by decide) rfl (fun ls hl => ?_)
      refine lv_aload_n hx hb dX12_goes_60 rfl (lv_at hl 2 rfl) ?_
      refine lv_iload_n hx hb dX12_goes_61 rfl (lv_at hl 4 rfl) ?_
      refine lv_dup2_11 hx hb dX12_goes_62 rfl rfl ?_
      obtain ⟨v9, hv9, h⟩ := bd h
      refine zm_ld (j := 5) Z hP hv9 dX12_goes_63 ?_
      refine lv_iload hx hb dX12_goes_64 (lv_at hl 0 rfl) ?_
      refine lv_if_eq (tgt := 82) hx hb dX12_goes_66 (by decide) (fun c10 => ?_) (fun c10 => ?_)
      · rw [if_pos c10] at h
        refine lv_iconst (v := 0) hx hb dX12_goes_82 (by decide) ?_
        exact J83 x2 s0 0 v9 x3 τ h _ _ hP hS _ (lv_sub hl [1, 2, 3, 0] rfl)
      · rw [if_neg c10] at h
        refine lv_aload_n hx hb dX12_goes_69 rfl (lv_at hl 1 rfl) ?_
        refine fg_66_10 Z hP wF_X12_16 dX12_goes_70 ?_
        refine lv_iconst (v := 3) hx hb dX12_goes_73 (by decide) ?_
        refine lv_iload_n hx hb dX12_goes_74 rfl (lv_at hl 3 rfl) ?_
        refine lv_imul hx hb dX12_goes_75 ?_
        refine lv_iconst (v := 2) hx hb dX12_goes_76 (by decide) ?_
        refine lv_iadd hx hb dX12_goes_77 ?_
        obtain ⟨v16, hv16, h⟩ := bd h
        refine zm_ld (j := 2) Z hP hv16 dX12_goes_78 ?_
        refine lv_goto (tgt := 83) hx hb dX12_goes_79 (by decide) ?_
        exact J83 x2 s0 v16 v9 x3 τ h _ _ hP hS _ (lv_sub hl [1, 2, 3, 0] rfl)
    rw [m_X12_goes_w_L2] at h
    refine lv_iload_n hx hb dX12_goes_2 rfl (lv_at hl 2 rfl) ?_
    refine lv_aload_n hx hb dX12_goes_3 rfl (lv_at hl 0 rfl) ?_
    refine fg_66_13 Z hP wF_X12_130 dX12_goes_4 ?_
    refine lv_icmp_ge (tgt := 107) hx hb dX12_goes_7 (by decide) (fun c1 => ?_) (fun c1 => ?_)
    · rw [if_pos c1] at h
      obtain rfl := Option.some.inj h
      exact kx _ _ hP hS _ (lv_sub hl [0, 1] rfl)
    · rw [if_neg c1] at h
      refine lv_iconst (v := 4) hx hb dX12_goes_10 (by decide) ?_
      refine lv_aload_n hx hb dX12_goes_11 rfl (lv_at hl 0 rfl) ?_
      refine fg_66_10 Z hP wF_X12_16 dX12_goes_12 ?_
      refine lv_iconst (v := 3) hx hb dX12_goes_15 (by decide) ?_
      refine lv_iload_n hx hb dX12_goes_16 rfl (lv_at hl 2 rfl) ?_
      refine lv_imul hx hb dX12_goes_17 ?_
      obtain ⟨v2, hv2, h⟩ := bd h
      refine zm_ld (j := 2) Z hP hv2 dX12_goes_18 ?_
      refine lv_iadd hx hb dX12_goes_19 ?_
      refine lv_istore_n (lv' := [(3, .int (4 + v2)), (0, .ref (ad 66)), (1, .ref (ad (67 + 5))), (2, .int x2)]) hx hb dX12_goes_20 rfl hl (by decide) rfl (fun ls hl => ?_)
      refine lv_aload_n hx hb dX12_goes_21 rfl (lv_at hl 1 rfl) ?_
      refine fg_66_10 Z hP wF_X12_16 dX12_goes_22 ?_
      refine lv_iconst (v := 3) hx hb dX12_goes_25 (by decide) ?_
      refine lv_iload_n hx hb dX12_goes_26 rfl (lv_at hl 3 rfl) ?_
      refine lv_imul hx hb dX12_goes_27 ?_
      refine lv_iconst (v := 1) hx hb dX12_goes_28 (by decide) ?_
      refine lv_iadd hx hb dX12_goes_29 ?_
      obtain ⟨v3, hv3, h⟩ := bd h
      refine zm_ld (j := 2) Z hP hv3 dX12_goes_30 ?_
      refine lv_aload_n hx hb dX12_goes_31 rfl (lv_at hl 2 rfl) ?_
      refine lv_iconst (v := 0) hx hb dX12_goes_32 (by decide) ?_
      obtain ⟨v4, hv4, h⟩ := bd h
      refine zm_ld (j := 5) Z hP hv4 dX12_goes_33 ?_
      refine lv_icmp_ne (tgt := 101) hx hb dX12_goes_34 (by decide) (fun c5 => ?_) (fun c5 => ?_)
      · rw [if_neg c5] at h
        refine lv_iinc (v := (x2 + 1)) (lv' := [(2, .int (x2 + 1)), (3, .int (4 + v2)), (0, .ref (ad 66)), (1, .ref (ad (67 + 5)))]) hx hb dX12_goes_101 hl (k := 3) rfl rfl (by decide) rfl (fun ls hl => ?_)
        refine lv_goto (tgt := 2) hx hb dX12_goes_104 (by decide) ?_
        exact ih ((x2 + 1)) τ _ h _ _ hP hS _ (lv_sub hl [2, 3, 0] rfl) kx
      · rw [if_pos c5] at h
        refine lv_aload_n hx hb dX12_goes_37 rfl (lv_at hl 2 rfl) ?_
        refine lv_iload_n hx hb dX12_goes_38 rfl (lv_at hl 0 rfl) ?_
        obtain ⟨v6, hv6, h⟩ := bd h
        refine zm_ld (j := 5) Z hP hv6 dX12_goes_39 ?_
        refine lv_aload_n hx hb dX12_goes_40 rfl (lv_at hl 1 rfl) ?_
        refine fg_66_10 Z hP wF_X12_16 dX12_goes_41 ?_
        refine lv_iconst (v := 3) hx hb dX12_goes_44 (by decide) ?_
        refine lv_iload_n hx hb dX12_goes_45 rfl (lv_at hl 3 rfl) ?_
        refine lv_imul hx hb dX12_goes_46 ?_
        refine lv_iconst (v := 2) hx hb dX12_goes_47 (by decide) ?_
        refine lv_iadd hx hb dX12_goes_48 ?_
        obtain ⟨v7, hv7, h⟩ := bd h
        refine zm_ld (j := 2) Z hP hv7 dX12_goes_49 ?_
        refine lv_icmp_lt (tgt := 57) hx hb dX12_goes_50 (by decide) (fun c8 => ?_) (fun c8 => ?_)
        · rw [if_pos c8] at h
          refine lv_iconst (v := 0) hx hb dX12_goes_57 (by decide) ?_
          exact J58 x2 ((4 + v2)) 0 τ h _ _ hP hS _ (lv_sub hl [1, 2, 3, 0] rfl)
        · rw [if_neg c8] at h
          refine lv_iconst (v := 1) hx hb dX12_goes_53 (by decide) ?_
          refine lv_goto (tgt := 58) hx hb dX12_goes_54 (by decide) ?_
          exact J58 x2 ((4 + v2)) 1 τ h _ _ hP hS _ (lv_sub hl [1, 2, 3, 0] rfl)
set_option maxHeartbeats 4000000 in
set_option maxRecDepth 100000 in
theorem w_X12_goes_w_L117 {l : Launch} {D : va_G} {cy : Nat → ClassId} {ad : Nat → Nat} {σ : Sx} {p : Program} {e : Env} {R : Room} {s : State} {m : MethodId} {args : Array Value} {below : List Frame} {meth : Method} {c : Code} (Z : Zc p s m c cX12_goes 5 RX12 D cy ad) (hr : meth.sig.returnType = none) (hlk : meth.locks = false) (hRf : 2 ≤ R.frames) (hRl : 45 ≤ R.locals) (out : Sx) : ∀ (n : Nat) (x2 : Int32) (x3 : Int32) (τ : Sx) (res : Sx), m_X12_goes_w_L117 n x2 x3 τ = some res → ∀ (H : Heap) (locs : List Loc), va_P D vwCl (gW cy ad σ τ) H → va_S (gA ad) s.heap H locs → ∀ ls : Array Slot, lv_has ls 5 [(0, .ref (ad 66)), (1, .ref (ad (67 + 5))), (2, .int x2), (3, .int x3)] → (∀ (H : Heap) (locs : List Loc), va_P D vwCl (gW cy ad σ res) H → va_S (gA ad) s.heap H locs → ∀ ls : Array Slot, lv_has ls 5 [(1, .ref (ad (67 + 5)))] → W p l e R s m args below meth c H locs 0 0 (MQ below (mQv D cy ad σ out) args s 0 0 (gA ad)) (F0 m 221 ls [])) → W p l e R s m args below meth c H locs 0 0 (MQ below (mQv D cy ad σ out) args s 0 0 (gA ad)) (F0 m 117 ls []) := by
  have hx := Z.x
  have hb := Z.b
  intro n
  induction n with
  | zero => intro x2 x3 τ res h; cases h
  | succ n ih =>
    intro x2 x3 τ res h H locs hP hS ls hl kx
    have J195 : ∀ (x2 : Int32) (x3 : Int32) (x4 : Int32) (s0 : Int32) (s1 : Int32) (τ : Sx), m_X12_goes_w_J195 (m_X12_goes_w_L117 n) x2 x3 x4 s0 s1 τ = some res → ∀ (H : Heap) (locs : List Loc), va_P D vwCl (gW cy ad σ τ) H → va_S (gA ad) s.heap H locs → ∀ ls : Array Slot, lv_has ls 5 [(0, .ref (ad 66)), (1, .ref (ad (67 + 5))), (2, .int x2), (3, .int x3), (4, .int x4)] → W p l e R s m args below meth c H locs 0 0 (MQ below (mQv D cy ad σ out) args s 0 0 (gA ad)) (F0 m 195 ls [.int s0, .int s1, .ref (ad (67 + 5))]) := by
      intro x2 x3 x4 s0 s1 τ h H locs hP hS ls hl
      unfold m_X12_goes_w_J195 at h
      obtain ⟨q26, hq26, h⟩ := bd h
      refine zm_st (j := 5) Z hP hS hq26 dX12_goes_195 (fun H locs hP hS => ?_)
      refine lv_aload_n hx hb dX12_goes_196 rfl (lv_at hl 1 rfl) ?_
      refine lv_bipush (v := 9) hx hb dX12_goes_197 (by decide) ?_
      refine lv_iload_n hx hb dX12_goes_199 rfl (lv_at hl 3 rfl) ?_
      refine lv_iadd hx hb dX12_goes_200 ?_
      refine lv_dup2_11 hx hb dX12_goes_201 rfl rfl ?_
      obtain ⟨v27, hv27, h⟩ := bd h
      refine zm_ld (j := 5) Z hP hv27 dX12_goes_202 ?_
      refine lv_iload hx hb dX12_goes_203 (lv_at hl 4 rfl) ?_
      refine lv_if_eq (tgt := 212) hx hb dX12_goes_205 (by decide) (fun c28 => ?_) (fun c28 => ?_)
      · rw [if_pos c28] at h
        refine lv_iconst (v := 0) hx hb dX12_goes_212 (by decide) ?_
        refine lv_iadd hx hb dX12_goes_213 ?_
        obtain ⟨q29, hq29, h⟩ := bd h
        refine zm_st (j := 5) Z hP hS hq29 dX12_goes_214 (fun H locs hP hS => ?_)
        refine lv_iinc (v := (x3 + 1)) (lv' := [(3, .int (x3 + 1)), (0, .ref (ad 66)), (1, .ref (ad (67 + 5))), (2, .int x2), (4, .int x4)]) hx hb dX12_goes_215 hl (k := 3) rfl rfl (by decide) rfl (fun ls hl => ?_)
        refine lv_goto (tgt := 117) hx hb dX12_goes_218 (by decide) ?_
        exact ih x2 ((x3 + 1)) q29 _ h _ _ hP hS _ (lv_sub hl [1, 2, 3, 0] rfl) kx
      · rw [if_neg c28] at h
        refine lv_iconst (v := 1) hx hb dX12_goes_208 (by decide) ?_
        refine lv_goto (tgt := 213) hx hb dX12_goes_209 (by decide) ?_
        refine lv_iadd hx hb dX12_goes_213 ?_
        obtain ⟨q30, hq30, h⟩ := bd h
        refine zm_st (j := 5) Z hP hS hq30 dX12_goes_214 (fun H locs hP hS => ?_)
        refine lv_iinc (v := (x3 + 1)) (lv' := [(3, .int (x3 + 1)), (0, .ref (ad 66)), (1, .ref (ad (67 + 5))), (2, .int x2), (4, .int x4)]) hx hb dX12_goes_215 hl (k := 3) rfl rfl (by decide) rfl (fun ls hl => ?_)
        refine lv_goto (tgt := 117) hx hb dX12_goes_218 (by decide) ?_
        exact ih x2 ((x3 + 1)) q30 _ h _ _ hP hS _ (lv_sub hl [1, 2, 3, 0] rfl) kx
    have J145 : ∀ (x2 : Int32) (x3 : Int32) (s0 : Int32) (τ : Sx), m_X12_goes_w_J145 (m_X12_goes_w_L117 n) x2 x3 s0 τ = some res → ∀ (H : Heap) (locs : List Loc), va_P D vwCl (gW cy ad σ τ) H → va_S (gA ad) s.heap H locs → ∀ ls : Array Slot, lv_has ls 5 [(0, .ref (ad 66)), (1, .ref (ad (67 + 5))), (2, .int x2), (3, .int x3)] → W p l e R s m args below meth c H locs 0 0 (MQ below (mQv D cy ad σ out) args s 0 0 (gA ad)) (F0 m 145 ls [.int s0]) := by
      intro x2 x3 s0 τ h H locs hP hS ls hl
      unfold m_X12_goes_w_J145 at h
      refine lv_istore (lv' := [(4, .int s0), (0, .ref (ad 66)), (1, .ref (ad (67 + 5))), (2, .int x2), (3, .int x3)]) hx hb dX12_goes_145 hl (by decide) rfl (fun ls hl => ?_)
      refine lv_aload_n hx hb dX12_goes_147 rfl (lv_at hl 2 rfl) ?_
      refine lv_iconst (v := 4) hx hb dX12_goes_148 (by decide) ?_
      refine lv_iload_n hx hb dX12_goes_149 rfl (lv_at hl 4 rfl) ?_
      refine lv_iadd hx hb dX12_goes_150 ?_
      refine lv_iload hx hb dX12_goes_151 (lv_at hl 0 rfl) ?_
      refine lv_if_eq (tgt := 177) hx hb dX12_goes_153 (by decide) (fun c22 => ?_) (fun c22 => ?_)
      · rw [if_pos c22] at h
        refine lv_aload_n hx hb dX12_goes_177 rfl (lv_at hl 2 rfl) ?_
        refine lv_iconst (v := 4) hx hb dX12_goes_178 (by decide) ?_
        refine lv_iload_n hx hb dX12_goes_179 rfl (lv_at hl 4 rfl) ?_
        refine lv_iadd hx hb dX12_goes_180 ?_
        obtain ⟨v23, hv23, h⟩ := bd h
        refine zm_ld (j := 5) Z hP hv23 dX12_goes_181 ?_
        refine lv_aload_n hx hb dX12_goes_182 rfl (lv_at hl 1 rfl) ?_
        refine fg_66_9 Z hP wF_X12_13 dX12_goes_183 ?_
        refine lv_iconst (v := 3) hx hb dX12_goes_186 (by decide) ?_
        refine lv_iload_n hx hb dX12_goes_187 rfl (lv_at hl 4 rfl) ?_
        refine lv_imul hx hb dX12_goes_188 ?_
        refine lv_iconst (v := 2) hx hb dX12_goes_189 (by decide) ?_
        refine lv_iadd hx hb dX12_goes_190 ?_
        obtain ⟨v24, hv24, h⟩ := bd h
        refine zm_ld (j := 1) Z hP hv24 dX12_goes_191 ?_
        obtain ⟨v25, hv25, h⟩ := bd h
        refine zqi (zrunS Z hP (As := [.int v23, .int v24]) (rest := [.int (4 + x3), .ref (ad (67 + 5))]) (c_X12_lower (R := { frames := 0, cells := 0, slots := 0, locals := 0 }) Z.i (Nat.le_refl _) (Nat.le_refl _) hv25) cV_X12_152 rfl rfl ⟨(Nat.le_trans (Nat.le_of_ble_eq_true rfl) hRf), (Nat.le_trans (Nat.le_of_ble_eq_true rfl) hRl)⟩ rfl hl.1 rfl (Nat.le_of_ble_eq_true rfl) dX12_goes_192 ⟨Nat.zero_le _, Nat.zero_le _⟩) ?_
        exact J195 x2 x3 s0 v25 ((4 + x3)) τ h _ _ hP hS _ (lv_sub hl [1, 2, 3, 4, 0] rfl)
      · rw [if_neg c22] at h
        refine lv_aload_n hx hb dX12_goes_156 rfl (lv_at hl 2 rfl) ?_
        refine lv_iconst (v := 4) hx hb dX12_goes_157 (by decide) ?_
        refine lv_iload_n hx hb dX12_goes_158 rfl (lv_at hl 4 rfl) ?_
        refine lv_iadd hx hb dX12_goes_159 ?_
        obtain ⟨v31, hv31, h⟩ := bd h
        refine zm_ld (j := 5) Z hP hv31 dX12_goes_160 ?_
        refine lv_aload_n hx hb dX12_goes_161 rfl (lv_at hl 1 rfl) ?_
        refine fg_66_9 Z hP wF_X12_13 dX12_goes_162 ?_
        refine lv_iconst (v := 3) hx hb dX12_goes_165 (by decide) ?_
        refine lv_iload_n hx hb dX12_goes_166 rfl (lv_at hl 4 rfl) ?_
        refine lv_imul hx hb dX12_goes_167 ?_
        refine lv_iconst (v := 1) hx hb dX12_goes_168 (by decide) ?_
        refine lv_iadd hx hb dX12_goes_169 ?_
        obtain ⟨v32, hv32, h⟩ := bd h
        refine zm_ld (j := 1) Z hP hv32 dX12_goes_170 ?_
        obtain ⟨v33, hv33, h⟩ := bd h
        refine zqi (zrunS Z hP (As := [.int v31, .int v32]) (rest := [.int (4 + x3), .ref (ad (67 + 5))]) (c_X12_filled (R := { frames := 0, cells := 0, slots := 0, locals := 0 }) Z.i (Nat.le_refl _) (Nat.le_refl _) hv33) cV_X12_149 rfl rfl ⟨(Nat.le_trans (Nat.le_of_ble_eq_true rfl) hRf), (Nat.le_trans (Nat.le_of_ble_eq_true rfl) hRl)⟩ rfl hl.1 rfl (Nat.le_of_ble_eq_true rfl) dX12_goes_171 ⟨Nat.zero_le _, Nat.zero_le _⟩) ?_
        refine lv_goto (tgt := 195) hx hb dX12_goes_174 (by decide) ?_
        exact J195 x2 x3 s0 v33 ((4 + x3)) τ h _ _ hP hS _ (lv_sub hl [1, 2, 3, 4, 0] rfl)
    have J144 : ∀ (x2 : Int32) (x3 : Int32) (τ : Sx), m_X12_goes_w_J144 (m_X12_goes_w_L117 n) x2 x3 τ = some res → ∀ (H : Heap) (locs : List Loc), va_P D vwCl (gW cy ad σ τ) H → va_S (gA ad) s.heap H locs → ∀ ls : Array Slot, lv_has ls 5 [(0, .ref (ad 66)), (1, .ref (ad (67 + 5))), (2, .int x2), (3, .int x3)] → W p l e R s m args below meth c H locs 0 0 (MQ below (mQv D cy ad σ out) args s 0 0 (gA ad)) (F0 m 144 ls []) := by
      intro x2 x3 τ h H locs hP hS ls hl
      unfold m_X12_goes_w_J144 at h
      refine lv_iconst (v := 0) hx hb dX12_goes_144 (by decide) ?_
      exact J145 x2 x3 0 τ h _ _ hP hS _ (lv_sub hl [0, 1, 2, 3] rfl)
    rw [m_X12_goes_w_L117] at h
    refine lv_iload_n hx hb dX12_goes_117 rfl (lv_at hl 3 rfl) ?_
    refine lv_aload_n hx hb dX12_goes_118 rfl (lv_at hl 0 rfl) ?_
    refine fg_66_12 Z hP wF_X12_127 dX12_goes_119 ?_
    refine lv_icmp_ge (tgt := 221) hx hb dX12_goes_122 (by decide) (fun c20 => ?_) (fun c20 => ?_)
    · rw [if_pos c20] at h
      obtain rfl := Option.some.inj h
      exact kx _ _ hP hS _ (lv_sub hl [1] rfl)
    · rw [if_neg c20] at h
      refine lv_iload_n hx hb dX12_goes_125 rfl (lv_at hl 2 rfl) ?_
      refine lv_if_ne (tgt := 144) hx hb dX12_goes_126 (by decide) (fun c21 => ?_) (fun c21 => ?_)
      · rw [if_neg c21] at h
        exact J144 x2 x3 τ h _ _ hP hS _ (lv_sub hl [0, 1, 2, 3] rfl)
      · rw [if_pos c21] at h
        refine lv_aload_n hx hb dX12_goes_129 rfl (lv_at hl 1 rfl) ?_
        refine lv_iconst (v := 1) hx hb dX12_goes_130 (by decide) ?_
        obtain ⟨v34, hv34, h⟩ := bd h
        refine zm_ld (j := 5) Z hP hv34 dX12_goes_131 ?_
        refine lv_iload_n hx hb dX12_goes_132 rfl (lv_at hl 3 rfl) ?_
        refine lv_ishr hx hb dX12_goes_133 ?_
        refine lv_iconst (v := 1) hx hb dX12_goes_134 (by decide) ?_
        refine lv_iand hx hb dX12_goes_135 ?_
        refine lv_iconst (v := 1) hx hb dX12_goes_136 (by decide) ?_
        refine lv_icmp_ne (tgt := 144) hx hb dX12_goes_137 (by decide) (fun c35 => ?_) (fun c35 => ?_)
        · rw [if_neg c35] at h
          exact J144 x2 x3 τ h _ _ hP hS _ (lv_sub hl [0, 1, 2, 3] rfl)
        · rw [if_pos c35] at h
          refine lv_iconst (v := 1) hx hb dX12_goes_140 (by decide) ?_
          refine lv_goto (tgt := 145) hx hb dX12_goes_141 (by decide) ?_
          exact J145 x2 x3 1 τ h _ _ hP hS _ (lv_sub hl [0, 1, 2, 3] rfl)
set_option maxHeartbeats 4000000 in
set_option maxRecDepth 100000 in
theorem c_X12_goes_w {l : Launch} {D : va_G} {cy : Nat → ClassId} {ad : Nat → Nat} {σ τ : Sx} {R : Room} (hI : gInj ad) (hRf : 2 ≤ R.frames) (hRl : 45 ≤ R.locals) {out : Sx} (h : m_X12_goes_w τ = some out) : Met l yX12_goes [Cond.code yX12_goes cX12_goes 5 none] R (va_Pc [.ref (ad 66), .ref (ad (67 + 5))] (gB D cy ad σ τ)) (mQv D cy ad σ out) 0 0 (gA ad) := by
  refine zstart [.ref (ad 66), .ref (ad (67 + 5))] (by decide) rfl hI (Nat.le_of_ble_eq_true rfl) ?_
  intro p e s m below meth c Z hr hlk hP ls hl
  have hx := Z.x
  have hb := Z.b
  generalize hargs : ([.ref (ad 66), .ref (ad (67 + 5))] : List Value).toArray = args
  have hl : lv_has ls 5 [(0, .ref (ad 66)), (1, .ref (ad (67 + 5)))] := hl
  have hS : va_S (gA ad) s.heap s.heap [] := va_S.rf
  unfold m_X12_goes_w at h
  refine lv_iconst (v := 0) hx hb dX12_goes_0 (by decide) ?_
  refine lv_istore_n (lv' := [(2, .int 0), (0, .ref (ad 66)), (1, .ref (ad (67 + 5)))]) hx hb dX12_goes_1 rfl hl (by decide) rfl (fun ls hl => ?_)
  obtain ⟨y17, hy17, h⟩ := bd h
  refine w_X12_goes_w_L2 Z hr hlk hRf hRl out FU 0 τ y17 hy17 _ _ hP hS _ (lv_sub hl [1, 2, 0] rfl) (fun H locs hP hS ls hl => ?_)
  refine lv_aload_n hx hb dX12_goes_107 rfl (lv_at hl 0 rfl) ?_
  refine lv_aload_n hx hb dX12_goes_108 rfl (lv_at hl 1 rfl) ?_
  refine lv_iconst (v := 0) hx hb dX12_goes_109 (by decide) ?_
  obtain ⟨v18, hv18, h⟩ := bd h
  refine zm_ld (j := 5) Z hP hv18 dX12_goes_110 ?_
  obtain ⟨v19, hv19, h⟩ := bd h
  refine zqi (zrunV Z hP (As := [.int v18]) (rest := []) (c_X12_isDark (R := { frames := 1, cells := 0, slots := 0, locals := 22 }) Z.i (Nat.le_refl _) (Nat.le_refl _) hv19) cV_X12_146 rfl rfl ⟨(Nat.le_trans (Nat.le_of_ble_eq_true rfl) hRf), (Nat.le_trans (Nat.le_of_ble_eq_true rfl) hRl)⟩ 66 (gW_mo.trans rfl) rfl rfl rfl hl.1 rfl (Nat.le_of_ble_eq_true rfl) dX12_goes_111 ⟨Nat.zero_le _, Nat.zero_le _⟩) ?_
  refine lv_istore_n (lv' := [(2, .int v19), (0, .ref (ad 66)), (1, .ref (ad (67 + 5)))]) hx hb dX12_goes_114 rfl hl (by decide) rfl (fun ls hl => ?_)
  refine lv_iconst (v := 0) hx hb dX12_goes_115 (by decide) ?_
  refine lv_istore_n (lv' := [(3, .int 0), (2, .int v19), (0, .ref (ad 66)), (1, .ref (ad (67 + 5)))]) hx hb dX12_goes_116 rfl hl (by decide) rfl (fun ls hl => ?_)
  obtain ⟨y36, hy36, h⟩ := bd h
  refine w_X12_goes_w_L117 Z hr hlk hRf hRl out FU v19 0 y17 y36 hy36 _ _ hP hS _ (lv_sub hl [2, 3, 1, 0] rfl) (fun H locs hP hS ls hl => ?_)
  refine lv_aload_n hx hb dX12_goes_221 rfl (lv_at hl 0 rfl) ?_
  refine lv_iconst (v := 0) hx hb dX12_goes_222 (by decide) ?_
  refine lv_dup2_11 hx hb dX12_goes_223 rfl rfl ?_
  obtain ⟨v37, hv37, h⟩ := bd h
  refine zm_ld (j := 5) Z hP hv37 dX12_goes_224 ?_
  refine lv_iconst (v := 1) hx hb dX12_goes_225 (by decide) ?_
  refine lv_iadd hx hb dX12_goes_226 ?_
  obtain ⟨q38, hq38, h⟩ := bd h
  refine zm_st (j := 5) Z hP hS hq38 dX12_goes_227 (fun H locs hP hS => ?_)
  exact zmv Z hP hS hr hlk h dX12_goes_228
def m_X12_notes_L46  : Nat → Int32 → Sx → Option (Sx)
  | 0, _, _ => none
  | n + 1, x1, τ =>
  if 14 ≤ x1 then (some τ) else ((ldA mLn τ 4 x1).bind (fun v3 => (stA mLn τ 7 (((14 * (τ.1 15)) + x1)) v3).bind (fun q4 => m_X12_notes_L46 n ((x1 + 1)) q4)))
def m_X12_notes_J44 (τ : Sx) : Option (Sx) :=
  (m_X12_notes_L46 FU 0 τ).bind (fun y5 => some ((sg y5 15 (((y5.1 15) + 1)))))
def m_X12_notes_L11  : Nat → Int32 → Sx → Option (Sx)
  | 0, _, _ => none
  | n + 1, x1, τ =>
  if 126 ≤ x1 then (some τ) else ((ldA mLn τ 7 ((x1 + 14))).bind (fun v7 => (stA mLn τ 7 x1 v7).bind (fun q8 => m_X12_notes_L11 n ((x1 + 1)) q8)))
def m_X12_notes (τ : Sx) : Option (Sx) :=
  if (τ.1 15) = 10 then ((m_X12_notes_L11 FU 0 τ).bind (fun y9 => m_X12_notes_J44 ((sg y9 15 9)))) else (m_X12_notes_J44 τ)
set_option maxHeartbeats 4000000 in
set_option maxRecDepth 100000 in
theorem w_X12_notes_L46 {l : Launch} {D : va_G} {cy : Nat → ClassId} {ad : Nat → Nat} {σ : Sx} {p : Program} {e : Env} {R : Room} {s : State} {m : MethodId} {args : Array Value} {below : List Frame} {meth : Method} {c : Code} (Z : Zc p s m c cX12_notes 2 RX12 D cy ad) (hr : meth.sig.returnType = none) (hlk : meth.locks = false) (hRf : 0 ≤ R.frames) (hRl : 0 ≤ R.locals) (out : Sx) : ∀ (n : Nat) (x1 : Int32) (τ : Sx) (res : Sx), m_X12_notes_L46 n x1 τ = some res → ∀ (H : Heap) (locs : List Loc), va_P D vwCl (gW cy ad σ τ) H → va_S (gA ad) s.heap H locs → ∀ ls : Array Slot, lv_has ls 2 [(0, .ref (ad 66)), (1, .int x1)] → (∀ (H : Heap) (locs : List Loc), va_P D vwCl (gW cy ad σ res) H → va_S (gA ad) s.heap H locs → ∀ ls : Array Slot, lv_has ls 2 [(0, .ref (ad 66))] → W p l e R s m args below meth c H locs 0 0 (MQ below (mQv D cy ad σ out) args s 0 0 (gA ad)) (F0 m 78 ls [])) → W p l e R s m args below meth c H locs 0 0 (MQ below (mQv D cy ad σ out) args s 0 0 (gA ad)) (F0 m 46 ls []) := by
  have hx := Z.x
  have hb := Z.b
  intro n
  induction n with
  | zero => intro x1 τ res h; cases h
  | succ n ih =>
    intro x1 τ res h H locs hP hS ls hl kx
    rw [m_X12_notes_L46] at h
    refine lv_iload_n hx hb dX12_notes_46 rfl (lv_at hl 1 rfl) ?_
    refine lv_bipush (v := 14) hx hb dX12_notes_47 (by decide) ?_
    refine lv_icmp_ge (tgt := 78) hx hb dX12_notes_49 (by decide) (fun c2 => ?_) (fun c2 => ?_)
    · rw [if_pos c2] at h
      obtain rfl := Option.some.inj h
      exact kx _ _ hP hS _ (lv_sub hl [0] rfl)
    · rw [if_neg c2] at h
      refine lv_aload_n hx hb dX12_notes_52 rfl (lv_at hl 0 rfl) ?_
      refine fg_66_24 Z hP wF_X12_35 dX12_notes_53 ?_
      refine lv_bipush (v := 14) hx hb dX12_notes_56 (by decide) ?_
      refine lv_aload_n hx hb dX12_notes_58 rfl (lv_at hl 0 rfl) ?_
      refine fg_66_25 Z hP wF_X12_136 dX12_notes_59 ?_
      refine lv_imul hx hb dX12_notes_62 ?_
      refine lv_iload_n hx hb dX12_notes_63 rfl (lv_at hl 1 rfl) ?_
      refine lv_iadd hx hb dX12_notes_64 ?_
      refine lv_aload_n hx hb dX12_notes_65 rfl (lv_at hl 0 rfl) ?_
      refine fg_66_20 Z hP wF_X12_22 dX12_notes_66 ?_
      refine lv_iload_n hx hb dX12_notes_69 rfl (lv_at hl 1 rfl) ?_
      obtain ⟨v3, hv3, h⟩ := bd h
      refine zm_ld (j := 4) Z hP hv3 dX12_notes_70 ?_
      obtain ⟨q4, hq4, h⟩ := bd h
      refine zm_st (j := 7) Z hP hS hq4 dX12_notes_71 (fun H locs hP hS => ?_)
      refine lv_iinc (v := (x1 + 1)) (lv' := [(1, .int (x1 + 1)), (0, .ref (ad 66))]) hx hb dX12_notes_72 hl (k := 1) rfl rfl (by decide) rfl (fun ls hl => ?_)
      refine lv_goto (tgt := 46) hx hb dX12_notes_75 (by decide) ?_
      exact ih ((x1 + 1)) q4 _ h _ _ hP hS _ (lv_sub hl [1, 0] rfl) kx
set_option maxHeartbeats 4000000 in
set_option maxRecDepth 100000 in
theorem w_X12_notes_L11 {l : Launch} {D : va_G} {cy : Nat → ClassId} {ad : Nat → Nat} {σ : Sx} {p : Program} {e : Env} {R : Room} {s : State} {m : MethodId} {args : Array Value} {below : List Frame} {meth : Method} {c : Code} (Z : Zc p s m c cX12_notes 2 RX12 D cy ad) (hr : meth.sig.returnType = none) (hlk : meth.locks = false) (hRf : 0 ≤ R.frames) (hRl : 0 ≤ R.locals) (out : Sx) : ∀ (n : Nat) (x1 : Int32) (τ : Sx) (res : Sx), m_X12_notes_L11 n x1 τ = some res → ∀ (H : Heap) (locs : List Loc), va_P D vwCl (gW cy ad σ τ) H → va_S (gA ad) s.heap H locs → ∀ ls : Array Slot, lv_has ls 2 [(0, .ref (ad 66)), (1, .int x1)] → (∀ (H : Heap) (locs : List Loc), va_P D vwCl (gW cy ad σ res) H → va_S (gA ad) s.heap H locs → ∀ ls : Array Slot, lv_has ls 2 [(0, .ref (ad 66))] → W p l e R s m args below meth c H locs 0 0 (MQ below (mQv D cy ad σ out) args s 0 0 (gA ad)) (F0 m 38 ls [])) → W p l e R s m args below meth c H locs 0 0 (MQ below (mQv D cy ad σ out) args s 0 0 (gA ad)) (F0 m 11 ls []) := by
  have hx := Z.x
  have hb := Z.b
  intro n
  induction n with
  | zero => intro x1 τ res h; cases h
  | succ n ih =>
    intro x1 τ res h H locs hP hS ls hl kx
    rw [m_X12_notes_L11] at h
    refine lv_iload_n hx hb dX12_notes_11 rfl (lv_at hl 1 rfl) ?_
    refine lv_bipush (v := 126) hx hb dX12_notes_12 (by decide) ?_
    refine lv_icmp_ge (tgt := 38) hx hb dX12_notes_14 (by decide) (fun c6 => ?_) (fun c6 => ?_)
    · rw [if_pos c6] at h
      obtain rfl := Option.some.inj h
      exact kx _ _ hP hS _ (lv_sub hl [0] rfl)
    · rw [if_neg c6] at h
      refine lv_aload_n hx hb dX12_notes_17 rfl (lv_at hl 0 rfl) ?_
      refine fg_66_24 Z hP wF_X12_35 dX12_notes_18 ?_
      refine lv_iload_n hx hb dX12_notes_21 rfl (lv_at hl 1 rfl) ?_
      refine lv_aload_n hx hb dX12_notes_22 rfl (lv_at hl 0 rfl) ?_
      refine fg_66_24 Z hP wF_X12_35 dX12_notes_23 ?_
      refine lv_iload_n hx hb dX12_notes_26 rfl (lv_at hl 1 rfl) ?_
      refine lv_bipush (v := 14) hx hb dX12_notes_27 (by decide) ?_
      refine lv_iadd hx hb dX12_notes_29 ?_
      obtain ⟨v7, hv7, h⟩ := bd h
      refine zm_ld (j := 7) Z hP hv7 dX12_notes_30 ?_
      obtain ⟨q8, hq8, h⟩ := bd h
      refine zm_st (j := 7) Z hP hS hq8 dX12_notes_31 (fun H locs hP hS => ?_)
      refine lv_iinc (v := (x1 + 1)) (lv' := [(1, .int (x1 + 1)), (0, .ref (ad 66))]) hx hb dX12_notes_32 hl (k := 1) rfl rfl (by decide) rfl (fun ls hl => ?_)
      refine lv_goto (tgt := 11) hx hb dX12_notes_35 (by decide) ?_
      exact ih ((x1 + 1)) q8 _ h _ _ hP hS _ (lv_sub hl [1, 0] rfl) kx
set_option maxHeartbeats 4000000 in
set_option maxRecDepth 100000 in
theorem c_X12_notes {l : Launch} {D : va_G} {cy : Nat → ClassId} {ad : Nat → Nat} {σ τ : Sx} {R : Room} (hI : gInj ad) (hRf : 0 ≤ R.frames) (hRl : 0 ≤ R.locals) {out : Sx} (h : m_X12_notes τ = some out) : Met l yX12_notes [Cond.code yX12_notes cX12_notes 2 none] R (va_Pc [.ref (ad 66)] (gB D cy ad σ τ)) (mQv D cy ad σ out) 0 0 (gA ad) := by
  refine zstart [.ref (ad 66)] (by decide) rfl hI (Nat.le_of_ble_eq_true rfl) ?_
  intro p e s m below meth c Z hr hlk hP ls hl
  have hx := Z.x
  have hb := Z.b
  generalize hargs : ([.ref (ad 66)] : List Value).toArray = args
  have hl : lv_has ls 2 [(0, .ref (ad 66))] := hl
  have hS : va_S (gA ad) s.heap s.heap [] := va_S.rf
  have J44 : ∀  (τ : Sx), m_X12_notes_J44 τ = some out → ∀ (H : Heap) (locs : List Loc), va_P D vwCl (gW cy ad σ τ) H → va_S (gA ad) s.heap H locs → ∀ ls : Array Slot, lv_has ls 2 [(0, .ref (ad 66))] → W p l e R s m args below meth c H locs 0 0 (MQ below (mQv D cy ad σ out) args s 0 0 (gA ad)) (F0 m 44 ls []) := by
    intro τ h H locs hP hS ls hl
    unfold m_X12_notes_J44 at h
    refine lv_iconst (v := 0) hx hb dX12_notes_44 (by decide) ?_
    refine lv_istore_n (lv' := [(1, .int 0), (0, .ref (ad 66))]) hx hb dX12_notes_45 rfl hl (by decide) rfl (fun ls hl => ?_)
    obtain ⟨y5, hy5, h⟩ := bd h
    refine w_X12_notes_L46 Z hr hlk hRf hRl out FU 0 τ y5 hy5 _ _ hP hS _ (lv_sub hl [1, 0] rfl) (fun H locs hP hS ls hl => ?_)
    refine lv_aload_n hx hb dX12_notes_78 rfl (lv_at hl 0 rfl) ?_
    refine lv_dup hx hb dX12_notes_79 rfl ?_
    refine fg_66_25 Z hP wF_X12_136 dX12_notes_80 ?_
    refine lv_iconst (v := 1) hx hb dX12_notes_83 (by decide) ?_
    refine lv_iadd hx hb dX12_notes_84 ?_
    refine fp_66_25 Z hP hS wF_X12_136 dX12_notes_85 (fun H locs hP hS => ?_)
    exact zmv Z hP hS hr hlk h dX12_notes_88
  unfold m_X12_notes at h
  refine lv_aload_n hx hb dX12_notes_0 rfl (lv_at hl 0 rfl) ?_
  refine fg_66_25 Z hP wF_X12_136 dX12_notes_1 ?_
  refine lv_bipush (v := 10) hx hb dX12_notes_4 (by decide) ?_
  refine lv_icmp_ne (tgt := 44) hx hb dX12_notes_6 (by decide) (fun c1 => ?_) (fun c1 => ?_)
  · rw [if_neg c1] at h
    exact J44 τ h _ _ hP hS _ (lv_sub hl [0] rfl)
  · rw [if_pos c1] at h
    refine lv_iconst (v := 0) hx hb dX12_notes_9 (by decide) ?_
    refine lv_istore_n (lv' := [(1, .int 0), (0, .ref (ad 66))]) hx hb dX12_notes_10 rfl hl (by decide) rfl (fun ls hl => ?_)
    obtain ⟨y9, hy9, h⟩ := bd h
    refine w_X12_notes_L11 Z hr hlk hRf hRl out FU 0 τ y9 hy9 _ _ hP hS _ (lv_sub hl [1, 0] rfl) (fun H locs hP hS ls hl => ?_)
    refine lv_aload_n hx hb dX12_notes_38 rfl (lv_at hl 0 rfl) ?_
    refine lv_bipush (v := 9) hx hb dX12_notes_39 (by decide) ?_
    refine fp_66_25 Z hP hS wF_X12_136 dX12_notes_41 (fun H locs hP hS => ?_)
    exact J44 ((sg y9 15 9)) h _ _ hP hS _ (lv_sub hl [0] rfl)
def m_X12_sets_s_J16 (x1 : Int32) (s0 : Int32) (s1 : Int32) (s2 : Int32) (τ : Sx) : Option (Sx) :=
  (stA mLn τ 4 s2 ((s1 + s0))).bind (fun q4 => (stA mLn q4 4 1 x1).bind (fun q5 => some q5))
def m_X12_sets_s (τ : Sx) (x1 : Int32) : Option (Sx) :=
  (ldA mLn τ 4 2).bind (fun v1 => (ldA mLn τ 4 1).bind (fun v2 => if v2 = x1 then (m_X12_sets_s_J16 x1 0 v1 2 τ) else (m_X12_sets_s_J16 x1 1 v1 2 τ)))
set_option maxHeartbeats 4000000 in
set_option maxRecDepth 100000 in
theorem c_X12_sets_s {l : Launch} {D : va_G} {cy : Nat → ClassId} {ad : Nat → Nat} {σ τ : Sx} {R : Room} (hI : gInj ad) (hRf : 0 ≤ R.frames) (hRl : 0 ≤ R.locals) {x1 : Int32} {out : Sx} (h : m_X12_sets_s τ x1 = some out) : Met l yX12_sets [Cond.code yX12_sets cX12_sets 2 none] R (va_Pc [.ref (ad (67 + 4)), .int x1] (gB D cy ad σ τ)) (mQv D cy ad σ out) 0 0 (gA ad) := by
  refine zstart [.ref (ad (67 + 4)), .int x1] (by decide) rfl hI (Nat.le_of_ble_eq_true rfl) ?_
  intro p e s m below meth c Z hr hlk hP ls hl
  have hx := Z.x
  have hb := Z.b
  generalize hargs : ([.ref (ad (67 + 4)), .int x1] : List Value).toArray = args
  have hl : lv_has ls 2 [(0, .ref (ad (67 + 4))), (1, .int x1)] := hl
  have hS : va_S (gA ad) s.heap s.heap [] := va_S.rf
  have J16 : ∀ (x1 : Int32) (s0 : Int32) (s1 : Int32) (s2 : Int32) (τ : Sx), m_X12_sets_s_J16 x1 s0 s1 s2 τ = some out → ∀ (H : Heap) (locs : List Loc), va_P D vwCl (gW cy ad σ τ) H → va_S (gA ad) s.heap H locs → ∀ ls : Array Slot, lv_has ls 2 [(0, .ref (ad (67 + 4))), (1, .int x1)] → W p l e R s m args below meth c H locs 0 0 (MQ below (mQv D cy ad σ out) args s 0 0 (gA ad)) (F0 m 16 ls [.int s0, .int s1, .int s2, .ref (ad (67 + 4))]) := by
    intro x1 s0 s1 s2 τ h H locs hP hS ls hl
    unfold m_X12_sets_s_J16 at h
    refine lv_iadd hx hb dX12_sets_16 ?_
    obtain ⟨q4, hq4, h⟩ := bd h
    refine zm_st (j := 4) Z hP hS hq4 dX12_sets_17 (fun H locs hP hS => ?_)
    refine lv_aload_n hx hb dX12_sets_18 rfl (lv_at hl 0 rfl) ?_
    refine lv_iconst (v := 1) hx hb dX12_sets_19 (by decide) ?_
    refine lv_iload_n hx hb dX12_sets_20 rfl (lv_at hl 1 rfl) ?_
    obtain ⟨q5, hq5, h⟩ := bd h
    refine zm_st (j := 4) Z hP hS hq5 dX12_sets_21 (fun H locs hP hS => ?_)
    exact zmv Z hP hS hr hlk h dX12_sets_22
  unfold m_X12_sets_s at h
  refine lv_aload_n hx hb dX12_sets_0 rfl (lv_at hl 0 rfl) ?_
  refine lv_iconst (v := 2) hx hb dX12_sets_1 (by decide) ?_
  refine lv_dup2_11 hx hb dX12_sets_2 rfl rfl ?_
  obtain ⟨v1, hv1, h⟩ := bd h
  refine zm_ld (j := 4) Z hP hv1 dX12_sets_3 ?_
  refine lv_aload_n hx hb dX12_sets_4 rfl (lv_at hl 0 rfl) ?_
  refine lv_iconst (v := 1) hx hb dX12_sets_5 (by decide) ?_
  obtain ⟨v2, hv2, h⟩ := bd h
  refine zm_ld (j := 4) Z hP hv2 dX12_sets_6 ?_
  refine lv_iload_n hx hb dX12_sets_7 rfl (lv_at hl 1 rfl) ?_
  refine lv_icmp_ne (tgt := 15) hx hb dX12_sets_8 (by decide) (fun c3 => ?_) (fun c3 => ?_)
  · rw [if_neg c3] at h
    refine lv_iconst (v := 1) hx hb dX12_sets_15 (by decide) ?_
    exact J16 x1 1 v1 2 τ h _ _ hP hS _ (lv_sub hl [0, 1] rfl)
  · rw [if_pos c3] at h
    refine lv_iconst (v := 0) hx hb dX12_sets_11 (by decide) ?_
    refine lv_goto (tgt := 16) hx hb dX12_sets_12 (by decide) ?_
    exact J16 x1 0 v1 2 τ h _ _ hP hS _ (lv_sub hl [0, 1] rfl)
def m_X12_sets_w_J16 (x1 : Int32) (s0 : Int32) (s1 : Int32) (s2 : Int32) (τ : Sx) : Option (Sx) :=
  (stA mLn τ 5 s2 ((s1 + s0))).bind (fun q4 => (stA mLn q4 5 1 x1).bind (fun q5 => some q5))
def m_X12_sets_w (τ : Sx) (x1 : Int32) : Option (Sx) :=
  (ldA mLn τ 5 2).bind (fun v1 => (ldA mLn τ 5 1).bind (fun v2 => if v2 = x1 then (m_X12_sets_w_J16 x1 0 v1 2 τ) else (m_X12_sets_w_J16 x1 1 v1 2 τ)))
set_option maxHeartbeats 4000000 in
set_option maxRecDepth 100000 in
theorem c_X12_sets_w {l : Launch} {D : va_G} {cy : Nat → ClassId} {ad : Nat → Nat} {σ τ : Sx} {R : Room} (hI : gInj ad) (hRf : 0 ≤ R.frames) (hRl : 0 ≤ R.locals) {x1 : Int32} {out : Sx} (h : m_X12_sets_w τ x1 = some out) : Met l yX12_sets [Cond.code yX12_sets cX12_sets 2 none] R (va_Pc [.ref (ad (67 + 5)), .int x1] (gB D cy ad σ τ)) (mQv D cy ad σ out) 0 0 (gA ad) := by
  refine zstart [.ref (ad (67 + 5)), .int x1] (by decide) rfl hI (Nat.le_of_ble_eq_true rfl) ?_
  intro p e s m below meth c Z hr hlk hP ls hl
  have hx := Z.x
  have hb := Z.b
  generalize hargs : ([.ref (ad (67 + 5)), .int x1] : List Value).toArray = args
  have hl : lv_has ls 2 [(0, .ref (ad (67 + 5))), (1, .int x1)] := hl
  have hS : va_S (gA ad) s.heap s.heap [] := va_S.rf
  have J16 : ∀ (x1 : Int32) (s0 : Int32) (s1 : Int32) (s2 : Int32) (τ : Sx), m_X12_sets_w_J16 x1 s0 s1 s2 τ = some out → ∀ (H : Heap) (locs : List Loc), va_P D vwCl (gW cy ad σ τ) H → va_S (gA ad) s.heap H locs → ∀ ls : Array Slot, lv_has ls 2 [(0, .ref (ad (67 + 5))), (1, .int x1)] → W p l e R s m args below meth c H locs 0 0 (MQ below (mQv D cy ad σ out) args s 0 0 (gA ad)) (F0 m 16 ls [.int s0, .int s1, .int s2, .ref (ad (67 + 5))]) := by
    intro x1 s0 s1 s2 τ h H locs hP hS ls hl
    unfold m_X12_sets_w_J16 at h
    refine lv_iadd hx hb dX12_sets_16 ?_
    obtain ⟨q4, hq4, h⟩ := bd h
    refine zm_st (j := 5) Z hP hS hq4 dX12_sets_17 (fun H locs hP hS => ?_)
    refine lv_aload_n hx hb dX12_sets_18 rfl (lv_at hl 0 rfl) ?_
    refine lv_iconst (v := 1) hx hb dX12_sets_19 (by decide) ?_
    refine lv_iload_n hx hb dX12_sets_20 rfl (lv_at hl 1 rfl) ?_
    obtain ⟨q5, hq5, h⟩ := bd h
    refine zm_st (j := 5) Z hP hS hq5 dX12_sets_21 (fun H locs hP hS => ?_)
    exact zmv Z hP hS hr hlk h dX12_sets_22
  unfold m_X12_sets_w at h
  refine lv_aload_n hx hb dX12_sets_0 rfl (lv_at hl 0 rfl) ?_
  refine lv_iconst (v := 2) hx hb dX12_sets_1 (by decide) ?_
  refine lv_dup2_11 hx hb dX12_sets_2 rfl rfl ?_
  obtain ⟨v1, hv1, h⟩ := bd h
  refine zm_ld (j := 5) Z hP hv1 dX12_sets_3 ?_
  refine lv_aload_n hx hb dX12_sets_4 rfl (lv_at hl 0 rfl) ?_
  refine lv_iconst (v := 1) hx hb dX12_sets_5 (by decide) ?_
  obtain ⟨v2, hv2, h⟩ := bd h
  refine zm_ld (j := 5) Z hP hv2 dX12_sets_6 ?_
  refine lv_iload_n hx hb dX12_sets_7 rfl (lv_at hl 1 rfl) ?_
  refine lv_icmp_ne (tgt := 15) hx hb dX12_sets_8 (by decide) (fun c3 => ?_) (fun c3 => ?_)
  · rw [if_neg c3] at h
    refine lv_iconst (v := 1) hx hb dX12_sets_15 (by decide) ?_
    exact J16 x1 1 v1 2 τ h _ _ hP hS _ (lv_sub hl [0, 1] rfl)
  · rw [if_pos c3] at h
    refine lv_iconst (v := 0) hx hb dX12_sets_11 (by decide) ?_
    refine lv_goto (tgt := 16) hx hb dX12_sets_12 (by decide) ?_
    exact J16 x1 0 v1 2 τ h _ _ hP hS _ (lv_sub hl [0, 1] rfl)
def m_X12_isSet (τ : Sx) (x1 : Int32) : Option (Int32) :=
  (m_X12_in x1 0 ((((1 : Int32) <<< ((τ.1 7) &&& 31)) - 1))).bind (fun v1 => if v1 = 0 then (some 0) else ((m_X12_ones x1).bind (fun v3 => if (τ.1 10) < v3 then (some 0) else (some 1))))
set_option maxHeartbeats 4000000 in
set_option maxRecDepth 100000 in
theorem c_X12_isSet {l : Launch} {D : va_G} {cy : Nat → ClassId} {ad : Nat → Nat} {σ τ : Sx} {R : Room} (hI : gInj ad) (hRf : 1 ≤ R.frames) (hRl : 22 ≤ R.locals) {x1 : Int32} {out : Int32} (h : m_X12_isSet τ x1 = some out) : Met l yX12_isSet [Cond.code yX12_isSet cX12_isSet 2 (some .boolean)] R (va_Pc [.ref (ad 66), .int x1] (gB D cy ad σ τ)) (rQi out) 0 0 noA := by
  refine zstart [.ref (ad 66), .int x1] (by decide) rfl hI (Nat.le_of_ble_eq_true rfl) ?_
  intro p e s m below meth c Z hr hlk hP ls hl
  have hx := Z.x
  have hb := Z.b
  generalize hargs : ([.ref (ad 66), .int x1] : List Value).toArray = args
  have hl : lv_has ls 2 [(0, .ref (ad 66)), (1, .int x1)] := hl
  unfold m_X12_isSet at h
  refine lv_iload_n hx hb dX12_isSet_0 rfl (lv_at hl 1 rfl) ?_
  refine lv_iconst (v := 0) hx hb dX12_isSet_1 (by decide) ?_
  refine lv_iconst (v := 1) hx hb dX12_isSet_2 (by decide) ?_
  refine lv_aload_n hx hb dX12_isSet_3 rfl (lv_at hl 0 rfl) ?_
  refine fg_66_12 Z hP wF_X12_127 dX12_isSet_4 ?_
  refine lv_ishl hx hb dX12_isSet_7 ?_
  refine lv_iconst (v := 1) hx hb dX12_isSet_8 (by decide) ?_
  refine lv_isub hx hb dX12_isSet_9 ?_
  obtain ⟨v1, hv1, h⟩ := bd h
  refine zqi (zrunS Z hP (As := [.int x1, .int 0, .int (((1 : Int32) <<< ((τ.1 7) &&& 31)) - 1)]) (rest := []) (c_X12_in (R := { frames := 0, cells := 0, slots := 0, locals := 0 }) Z.i (Nat.le_refl _) (Nat.le_refl _) hv1) cV_X12_64 rfl rfl ⟨(Nat.le_trans (Nat.le_of_ble_eq_true rfl) hRf), (Nat.le_trans (Nat.le_of_ble_eq_true rfl) hRl)⟩ rfl hl.1 rfl (Nat.le_of_ble_eq_true rfl) dX12_isSet_10 ⟨Nat.zero_le _, Nat.zero_le _⟩) ?_
  refine lv_if_eq (tgt := 31) hx hb dX12_isSet_13 (by decide) (fun c2 => ?_) (fun c2 => ?_)
  · rw [if_pos c2] at h
    refine lv_iconst (v := 0) hx hb dX12_isSet_31 (by decide) ?_
    exact zrzc Z hr hlk (Or.inl rfl) h dX12_isSet_32
  · rw [if_neg c2] at h
    refine lv_iload_n hx hb dX12_isSet_16 rfl (lv_at hl 1 rfl) ?_
    obtain ⟨v3, hv3, h⟩ := bd h
    refine zqi (zrunS Z hP (As := [.int x1]) (rest := []) (c_X12_ones (R := { frames := 0, cells := 0, slots := 0, locals := 0 }) Z.i (Nat.le_refl _) (Nat.le_refl _) hv3) cV_X12_155 rfl rfl ⟨(Nat.le_trans (Nat.le_of_ble_eq_true rfl) hRf), (Nat.le_trans (Nat.le_of_ble_eq_true rfl) hRl)⟩ rfl hl.1 rfl (Nat.le_of_ble_eq_true rfl) dX12_isSet_17 ⟨Nat.zero_le _, Nat.zero_le _⟩) ?_
    refine lv_aload_n hx hb dX12_isSet_20 rfl (lv_at hl 0 rfl) ?_
    refine fg_66_15 Z hP wF_X12_57 dX12_isSet_21 ?_
    refine lv_icmp_gt (tgt := 31) hx hb dX12_isSet_24 (by decide) (fun c4 => ?_) (fun c4 => ?_)
    · rw [if_pos c4] at h
      refine lv_iconst (v := 0) hx hb dX12_isSet_31 (by decide) ?_
      exact zrzc Z hr hlk (Or.inl rfl) h dX12_isSet_32
    · rw [if_neg c4] at h
      refine lv_iconst (v := 1) hx hb dX12_isSet_27 (by decide) ?_
      refine lv_goto (tgt := 32) hx hb dX12_isSet_28 (by decide) ?_
      exact zrzc Z hr hlk (Or.inr rfl) h dX12_isSet_32
def m_X12_puts (τ : Sx) (x1 : Int32) : Option (Int32 × Sx) :=
  (m_X12_isSet ((sg τ 0 0)) x1).bind (fun v1 => if v1 = 0 then (some (((-1), (sg τ 0 0)))) else ((m_X12_notes ((sg τ 0 0))).bind (fun q3 => (m_X12_sets_s q3 x1).bind (fun q4 => (ldA mLn q4 4 2).bind (fun v5 => some ((v5, q4)))))))
set_option maxHeartbeats 4000000 in
set_option maxRecDepth 100000 in
theorem c_X12_puts {l : Launch} {D : va_G} {cy : Nat → ClassId} {ad : Nat → Nat} {σ τ : Sx} {R : Room} (hI : gInj ad) (hRf : 2 ≤ R.frames) (hRl : 43 ≤ R.locals) {x1 : Int32} {out : Int32 × Sx} (h : m_X12_puts τ x1 = some out) : Met l yX12_puts [Cond.code yX12_puts cX12_puts 2 (some .int)] R (va_Pc [.ref (ad 66), .int x1] (gB D cy ad σ τ)) (mQi D cy ad σ out) 0 0 (gA ad) := by
  refine zstart [.ref (ad 66), .int x1] (by decide) rfl hI (Nat.le_of_ble_eq_true rfl) ?_
  intro p e s m below meth c Z hr hlk hP ls hl
  have hx := Z.x
  have hb := Z.b
  generalize hargs : ([.ref (ad 66), .int x1] : List Value).toArray = args
  have hl : lv_has ls 2 [(0, .ref (ad 66)), (1, .int x1)] := hl
  have hS : va_S (gA ad) s.heap s.heap [] := va_S.rf
  unfold m_X12_puts at h
  refine lv_aload_n hx hb dX12_puts_0 rfl (lv_at hl 0 rfl) ?_
  refine lv_iconst (v := 0) hx hb dX12_puts_1 (by decide) ?_
  refine fp_66_0 Z hP hS wF_X12_61 dX12_puts_2 (fun H locs hP hS => ?_)
  refine lv_aload_n hx hb dX12_puts_5 rfl (lv_at hl 0 rfl) ?_
  refine lv_iload_n hx hb dX12_puts_6 rfl (lv_at hl 1 rfl) ?_
  obtain ⟨v1, hv1, h⟩ := bd h
  refine zqi (zrunV Z hP (As := [.int x1]) (rest := []) (c_X12_isSet (R := { frames := 1, cells := 0, slots := 0, locals := 22 }) Z.i (Nat.le_refl _) (Nat.le_refl _) hv1) cV_X12_158 rfl rfl ⟨(Nat.le_trans (Nat.le_of_ble_eq_true rfl) hRf), (Nat.le_trans (Nat.le_of_ble_eq_true rfl) hRl)⟩ 66 (gW_mo.trans rfl) rfl rfl rfl hl.1 rfl (Nat.le_of_ble_eq_true rfl) dX12_puts_7 ⟨Nat.zero_le _, Nat.zero_le _⟩) ?_
  refine lv_if_ne (tgt := 15) hx hb dX12_puts_10 (by decide) (fun c2 => ?_) (fun c2 => ?_)
  · rw [if_neg c2] at h
    refine lv_aload_n hx hb dX12_puts_15 rfl (lv_at hl 0 rfl) ?_
    obtain ⟨q3, hq3, h⟩ := bd h
    refine zwmv (zrunV Z hP (As := []) (rest := []) (c_X12_notes (R := { frames := 0, cells := 0, slots := 0, locals := 0 }) Z.i (Nat.le_refl _) (Nat.le_refl _) hq3) cV_X12_161 rfl rfl ⟨(Nat.le_trans (Nat.le_of_ble_eq_true rfl) hRf), (Nat.le_trans (Nat.le_of_ble_eq_true rfl) hRl)⟩ 66 (gW_mo.trans rfl) rfl rfl rfl hl.1 rfl (Nat.le_of_ble_eq_true rfl) dX12_puts_16 ⟨Nat.zero_le _, Nat.zero_le _⟩) hS (fun H locs hP hS => ?_)
    refine lv_aload_n hx hb dX12_puts_19 rfl (lv_at hl 0 rfl) ?_
    refine fg_66_20 Z hP wF_X12_22 dX12_puts_20 ?_
    refine lv_iload_n hx hb dX12_puts_23 rfl (lv_at hl 1 rfl) ?_
    obtain ⟨q4, hq4, h⟩ := bd h
    refine zwmv (zrunS Z hP (As := [.ref (ad (67 + 4)), .int x1]) (rest := []) (c_X12_sets_s (R := { frames := 0, cells := 0, slots := 0, locals := 0 }) Z.i (Nat.le_refl _) (Nat.le_refl _) hq4) cV_X12_164 rfl rfl ⟨(Nat.le_trans (Nat.le_of_ble_eq_true rfl) hRf), (Nat.le_trans (Nat.le_of_ble_eq_true rfl) hRl)⟩ rfl hl.1 rfl (Nat.le_of_ble_eq_true rfl) dX12_puts_24 ⟨Nat.zero_le _, Nat.zero_le _⟩) hS (fun H locs hP hS => ?_)
    refine lv_aload_n hx hb dX12_puts_27 rfl (lv_at hl 0 rfl) ?_
    refine fg_66_20 Z hP wF_X12_22 dX12_puts_28 ?_
    refine lv_iconst (v := 2) hx hb dX12_puts_31 (by decide) ?_
    obtain ⟨v5, hv5, h⟩ := bd h
    refine zm_ld (j := 4) Z hP hv5 dX12_puts_32 ?_
    exact zmi Z hP hS hr hlk h dX12_puts_33
  · rw [if_pos c2] at h
    refine lv_iconst (v := (-1)) hx hb dX12_puts_13 (by decide) ?_
    exact zmi Z hP hS hr hlk h dX12_puts_14
def m_X12_outOnes_s_L4 (τ : Sx) : Nat → Int32 → Int32 → Option (Int32)
  | 0, _, _ => none
  | n + 1, x2, x3 =>
  if (τ.1 7) ≤ x3 then (some x2) else ((ldA mLn τ 4 ((4 + x3))).bind (fun v2 => if v2 = 0 then (m_X12_outOnes_s_L4 τ n ((x2 ||| ((1 : Int32) <<< (x3 &&& 31)))) ((x3 + 1))) else (m_X12_outOnes_s_L4 τ n ((x2 ||| 0)) ((x3 + 1)))))
def m_X12_outOnes_s (τ : Sx) : Option (Int32) :=
  (m_X12_outOnes_s_L4 τ FU 0 0).bind (fun y4 => some y4)
set_option maxHeartbeats 4000000 in
set_option maxRecDepth 100000 in
theorem w_X12_outOnes_s_L4 {l : Launch} {D : va_G} {cy : Nat → ClassId} {ad : Nat → Nat} {σ τ : Sx} {p : Program} {e : Env} {R : Room} {s : State} {m : MethodId} {args : Array Value} {below : List Frame} {meth : Method} {c : Code} (Z : Zc p s m c cX12_outOnes 4 RX12 D cy ad) (hP : va_P D vwCl (gW cy ad σ τ) s.heap) (hr : meth.sig.returnType = (some .int)) (hlk : meth.locks = false) (hRf : 0 ≤ R.frames) (hRl : 0 ≤ R.locals) (out : Int32) : ∀ (n : Nat) (x2 : Int32) (x3 : Int32) (res : Int32), m_X12_outOnes_s_L4 τ n x2 x3 = some res → ∀ ls : Array Slot, lv_has ls 4 [(0, .ref (ad 66)), (1, .ref (ad (67 + 4))), (2, .int x2), (3, .int x3)] → (∀ ls : Array Slot, lv_has ls 4 [(2, .int res)] → W p l e R s m args below meth c s.heap [] 0 0 (MQ below (rQi out) args s 0 0 noA) (F0 m 36 ls [])) → W p l e R s m args below meth c s.heap [] 0 0 (MQ below (rQi out) args s 0 0 noA) (F0 m 4 ls []) := by
  have hx := Z.x
  have hb := Z.b
  intro n
  induction n with
  | zero => intro x2 x3 res h; cases h
  | succ n ih =>
    intro x2 x3 res h ls hl kx
    rw [m_X12_outOnes_s_L4] at h
    refine lv_iload_n hx hb dX12_outOnes_4 rfl (lv_at hl 3 rfl) ?_
    refine lv_aload_n hx hb dX12_outOnes_5 rfl (lv_at hl 0 rfl) ?_
    refine fg_66_12 Z hP wF_X12_127 dX12_outOnes_6 ?_
    refine lv_icmp_ge (tgt := 36) hx hb dX12_outOnes_9 (by decide) (fun c1 => ?_) (fun c1 => ?_)
    · rw [if_pos c1] at h
      obtain rfl := Option.some.inj h
      exact kx _ (lv_sub hl [2] rfl)
    · rw [if_neg c1] at h
      refine lv_iload_n hx hb dX12_outOnes_12 rfl (lv_at hl 2 rfl) ?_
      refine lv_aload_n hx hb dX12_outOnes_13 rfl (lv_at hl 1 rfl) ?_
      refine lv_iconst (v := 4) hx hb dX12_outOnes_14 (by decide) ?_
      refine lv_iload_n hx hb dX12_outOnes_15 rfl (lv_at hl 3 rfl) ?_
      refine lv_iadd hx hb dX12_outOnes_16 ?_
      obtain ⟨v2, hv2, h⟩ := bd h
      refine zm_ld (j := 4) Z hP hv2 dX12_outOnes_17 ?_
      refine lv_if_ne (tgt := 27) hx hb dX12_outOnes_18 (by decide) (fun c3 => ?_) (fun c3 => ?_)
      · rw [if_neg c3] at h
        refine lv_iconst (v := 0) hx hb dX12_outOnes_27 (by decide) ?_
        refine lv_ior hx hb dX12_outOnes_28 ?_
        refine lv_istore_n (lv' := [(2, .int (x2 ||| 0)), (0, .ref (ad 66)), (1, .ref (ad (67 + 4))), (3, .int x3)]) hx hb dX12_outOnes_29 rfl hl (by decide) rfl (fun ls hl => ?_)
        refine lv_iinc (v := (x3 + 1)) (lv' := [(3, .int (x3 + 1)), (2, .int (x2 ||| 0)), (0, .ref (ad 66)), (1, .ref (ad (67 + 4)))]) hx hb dX12_outOnes_30 hl (k := 3) rfl rfl (by decide) rfl (fun ls hl => ?_)
        refine lv_goto (tgt := 4) hx hb dX12_outOnes_33 (by decide) ?_
        exact ih ((x2 ||| 0)) ((x3 + 1)) _ h _ (lv_sub hl [2, 3, 1, 0] rfl) kx
      · rw [if_pos c3] at h
        refine lv_iconst (v := 1) hx hb dX12_outOnes_21 (by decide) ?_
        refine lv_iload_n hx hb dX12_outOnes_22 rfl (lv_at hl 3 rfl) ?_
        refine lv_ishl hx hb dX12_outOnes_23 ?_
        refine lv_goto (tgt := 28) hx hb dX12_outOnes_24 (by decide) ?_
        refine lv_ior hx hb dX12_outOnes_28 ?_
        refine lv_istore_n (lv' := [(2, .int (x2 ||| ((1 : Int32) <<< (x3 &&& 31)))), (0, .ref (ad 66)), (1, .ref (ad (67 + 4))), (3, .int x3)]) hx hb dX12_outOnes_29 rfl hl (by decide) rfl (fun ls hl => ?_)
        refine lv_iinc (v := (x3 + 1)) (lv' := [(3, .int (x3 + 1)), (2, .int (x2 ||| ((1 : Int32) <<< (x3 &&& 31)))), (0, .ref (ad 66)), (1, .ref (ad (67 + 4)))]) hx hb dX12_outOnes_30 hl (k := 3) rfl rfl (by decide) rfl (fun ls hl => ?_)
        refine lv_goto (tgt := 4) hx hb dX12_outOnes_33 (by decide) ?_
        exact ih ((x2 ||| ((1 : Int32) <<< (x3 &&& 31)))) ((x3 + 1)) _ h _ (lv_sub hl [2, 3, 1, 0] rfl) kx
set_option maxHeartbeats 4000000 in
set_option maxRecDepth 100000 in
theorem c_X12_outOnes_s {l : Launch} {D : va_G} {cy : Nat → ClassId} {ad : Nat → Nat} {σ τ : Sx} {R : Room} (hI : gInj ad) (hRf : 0 ≤ R.frames) (hRl : 0 ≤ R.locals) {out : Int32} (h : m_X12_outOnes_s τ = some out) : Met l yX12_outOnes [Cond.code yX12_outOnes cX12_outOnes 4 (some .int)] R (va_Pc [.ref (ad 66), .ref (ad (67 + 4))] (gB D cy ad σ τ)) (rQi out) 0 0 noA := by
  refine zstart [.ref (ad 66), .ref (ad (67 + 4))] (by decide) rfl hI (Nat.le_of_ble_eq_true rfl) ?_
  intro p e s m below meth c Z hr hlk hP ls hl
  have hx := Z.x
  have hb := Z.b
  generalize hargs : ([.ref (ad 66), .ref (ad (67 + 4))] : List Value).toArray = args
  have hl : lv_has ls 4 [(0, .ref (ad 66)), (1, .ref (ad (67 + 4)))] := hl
  unfold m_X12_outOnes_s at h
  refine lv_iconst (v := 0) hx hb dX12_outOnes_0 (by decide) ?_
  refine lv_istore_n (lv' := [(2, .int 0), (0, .ref (ad 66)), (1, .ref (ad (67 + 4)))]) hx hb dX12_outOnes_1 rfl hl (by decide) rfl (fun ls hl => ?_)
  refine lv_iconst (v := 0) hx hb dX12_outOnes_2 (by decide) ?_
  refine lv_istore_n (lv' := [(3, .int 0), (2, .int 0), (0, .ref (ad 66)), (1, .ref (ad (67 + 4)))]) hx hb dX12_outOnes_3 rfl hl (by decide) rfl (fun ls hl => ?_)
  obtain ⟨y4, hy4, h⟩ := bd h
  refine w_X12_outOnes_s_L4 Z hP hr hlk hRf hRl out FU 0 0 y4 hy4 _ (lv_sub hl [2, 3, 1, 0] rfl) (fun ls hl => ?_)
  refine lv_iload_n hx hb dX12_outOnes_36 rfl (lv_at hl 0 rfl) ?_
  exact zri Z hr hlk h dX12_outOnes_37
def m_X12_outOnes_w_L4 (τ : Sx) : Nat → Int32 → Int32 → Option (Int32)
  | 0, _, _ => none
  | n + 1, x2, x3 =>
  if (τ.1 7) ≤ x3 then (some x2) else ((ldA mLn τ 5 ((4 + x3))).bind (fun v2 => if v2 = 0 then (m_X12_outOnes_w_L4 τ n ((x2 ||| ((1 : Int32) <<< (x3 &&& 31)))) ((x3 + 1))) else (m_X12_outOnes_w_L4 τ n ((x2 ||| 0)) ((x3 + 1)))))
def m_X12_outOnes_w (τ : Sx) : Option (Int32) :=
  (m_X12_outOnes_w_L4 τ FU 0 0).bind (fun y4 => some y4)
set_option maxHeartbeats 4000000 in
set_option maxRecDepth 100000 in
theorem w_X12_outOnes_w_L4 {l : Launch} {D : va_G} {cy : Nat → ClassId} {ad : Nat → Nat} {σ τ : Sx} {p : Program} {e : Env} {R : Room} {s : State} {m : MethodId} {args : Array Value} {below : List Frame} {meth : Method} {c : Code} (Z : Zc p s m c cX12_outOnes 4 RX12 D cy ad) (hP : va_P D vwCl (gW cy ad σ τ) s.heap) (hr : meth.sig.returnType = (some .int)) (hlk : meth.locks = false) (hRf : 0 ≤ R.frames) (hRl : 0 ≤ R.locals) (out : Int32) : ∀ (n : Nat) (x2 : Int32) (x3 : Int32) (res : Int32), m_X12_outOnes_w_L4 τ n x2 x3 = some res → ∀ ls : Array Slot, lv_has ls 4 [(0, .ref (ad 66)), (1, .ref (ad (67 + 5))), (2, .int x2), (3, .int x3)] → (∀ ls : Array Slot, lv_has ls 4 [(2, .int res)] → W p l e R s m args below meth c s.heap [] 0 0 (MQ below (rQi out) args s 0 0 noA) (F0 m 36 ls [])) → W p l e R s m args below meth c s.heap [] 0 0 (MQ below (rQi out) args s 0 0 noA) (F0 m 4 ls []) := by
  have hx := Z.x
  have hb := Z.b
  intro n
  induction n with
  | zero => intro x2 x3 res h; cases h
  | succ n ih =>
    intro x2 x3 res h ls hl kx
    rw [m_X12_outOnes_w_L4] at h
    refine lv_iload_n hx hb dX12_outOnes_4 rfl (lv_at hl 3 rfl) ?_
    refine lv_aload_n hx hb dX12_outOnes_5 rfl (lv_at hl 0 rfl) ?_
    refine fg_66_12 Z hP wF_X12_127 dX12_outOnes_6 ?_
    refine lv_icmp_ge (tgt := 36) hx hb dX12_outOnes_9 (by decide) (fun c1 => ?_) (fun c1 => ?_)
    · rw [if_pos c1] at h
      obtain rfl := Option.some.inj h
      exact kx _ (lv_sub hl [2] rfl)
    · rw [if_neg c1] at h
      refine lv_iload_n hx hb dX12_outOnes_12 rfl (lv_at hl 2 rfl) ?_
      refine lv_aload_n hx hb dX12_outOnes_13 rfl (lv_at hl 1 rfl) ?_
      refine lv_iconst (v := 4) hx hb dX12_outOnes_14 (by decide) ?_
      refine lv_iload_n hx hb dX12_outOnes_15 rfl (lv_at hl 3 rfl) ?_
      refine lv_iadd hx hb dX12_outOnes_16 ?_
      obtain ⟨v2, hv2, h⟩ := bd h
      refine zm_ld (j := 5) Z hP hv2 dX12_outOnes_17 ?_
      refine lv_if_ne (tgt := 27) hx hb dX12_outOnes_18 (by decide) (fun c3 => ?_) (fun c3 => ?_)
      · rw [if_neg c3] at h
        refine lv_iconst (v := 0) hx hb dX12_outOnes_27 (by decide) ?_
        refine lv_ior hx hb dX12_outOnes_28 ?_
        refine lv_istore_n (lv' := [(2, .int (x2 ||| 0)), (0, .ref (ad 66)), (1, .ref (ad (67 + 5))), (3, .int x3)]) hx hb dX12_outOnes_29 rfl hl (by decide) rfl (fun ls hl => ?_)
        refine lv_iinc (v := (x3 + 1)) (lv' := [(3, .int (x3 + 1)), (2, .int (x2 ||| 0)), (0, .ref (ad 66)), (1, .ref (ad (67 + 5)))]) hx hb dX12_outOnes_30 hl (k := 3) rfl rfl (by decide) rfl (fun ls hl => ?_)
        refine lv_goto (tgt := 4) hx hb dX12_outOnes_33 (by decide) ?_
        exact ih ((x2 ||| 0)) ((x3 + 1)) _ h _ (lv_sub hl [2, 3, 1, 0] rfl) kx
      · rw [if_pos c3] at h
        refine lv_iconst (v := 1) hx hb dX12_outOnes_21 (by decide) ?_
        refine lv_iload_n hx hb dX12_outOnes_22 rfl (lv_at hl 3 rfl) ?_
        refine lv_ishl hx hb dX12_outOnes_23 ?_
        refine lv_goto (tgt := 28) hx hb dX12_outOnes_24 (by decide) ?_
        refine lv_ior hx hb dX12_outOnes_28 ?_
        refine lv_istore_n (lv' := [(2, .int (x2 ||| ((1 : Int32) <<< (x3 &&& 31)))), (0, .ref (ad 66)), (1, .ref (ad (67 + 5))), (3, .int x3)]) hx hb dX12_outOnes_29 rfl hl (by decide) rfl (fun ls hl => ?_)
        refine lv_iinc (v := (x3 + 1)) (lv' := [(3, .int (x3 + 1)), (2, .int (x2 ||| ((1 : Int32) <<< (x3 &&& 31)))), (0, .ref (ad 66)), (1, .ref (ad (67 + 5)))]) hx hb dX12_outOnes_30 hl (k := 3) rfl rfl (by decide) rfl (fun ls hl => ?_)
        refine lv_goto (tgt := 4) hx hb dX12_outOnes_33 (by decide) ?_
        exact ih ((x2 ||| ((1 : Int32) <<< (x3 &&& 31)))) ((x3 + 1)) _ h _ (lv_sub hl [2, 3, 1, 0] rfl) kx
set_option maxHeartbeats 4000000 in
set_option maxRecDepth 100000 in
theorem c_X12_outOnes_w {l : Launch} {D : va_G} {cy : Nat → ClassId} {ad : Nat → Nat} {σ τ : Sx} {R : Room} (hI : gInj ad) (hRf : 0 ≤ R.frames) (hRl : 0 ≤ R.locals) {out : Int32} (h : m_X12_outOnes_w τ = some out) : Met l yX12_outOnes [Cond.code yX12_outOnes cX12_outOnes 4 (some .int)] R (va_Pc [.ref (ad 66), .ref (ad (67 + 5))] (gB D cy ad σ τ)) (rQi out) 0 0 noA := by
  refine zstart [.ref (ad 66), .ref (ad (67 + 5))] (by decide) rfl hI (Nat.le_of_ble_eq_true rfl) ?_
  intro p e s m below meth c Z hr hlk hP ls hl
  have hx := Z.x
  have hb := Z.b
  generalize hargs : ([.ref (ad 66), .ref (ad (67 + 5))] : List Value).toArray = args
  have hl : lv_has ls 4 [(0, .ref (ad 66)), (1, .ref (ad (67 + 5)))] := hl
  unfold m_X12_outOnes_w at h
  refine lv_iconst (v := 0) hx hb dX12_outOnes_0 (by decide) ?_
  refine lv_istore_n (lv' := [(2, .int 0), (0, .ref (ad 66)), (1, .ref (ad (67 + 5)))]) hx hb dX12_outOnes_1 rfl hl (by decide) rfl (fun ls hl => ?_)
  refine lv_iconst (v := 0) hx hb dX12_outOnes_2 (by decide) ?_
  refine lv_istore_n (lv' := [(3, .int 0), (2, .int 0), (0, .ref (ad 66)), (1, .ref (ad (67 + 5)))]) hx hb dX12_outOnes_3 rfl hl (by decide) rfl (fun ls hl => ?_)
  obtain ⟨y4, hy4, h⟩ := bd h
  refine w_X12_outOnes_w_L4 Z hP hr hlk hRf hRl out FU 0 0 y4 hy4 _ (lv_sub hl [2, 3, 1, 0] rfl) (fun ls hl => ?_)
  refine lv_iload_n hx hb dX12_outOnes_36 rfl (lv_at hl 0 rfl) ?_
  exact zri Z hr hlk h dX12_outOnes_37
def m_X12_turn (τ : Sx) : Option (Int32 × Sx) :=
  (ldA mLn ((sg τ 0 0)) 4 0).bind (fun v1 => if v1 = 99 then (some (((-2), (sg τ 0 0)))) else ((m_X12_notes ((sg τ 0 0))).bind (fun q3 => (m_X12_goes_s q3).bind (fun q4 => (m_X12_outOnes_s q4).bind (fun v5 => (m_X12_ones v5).bind (fun v6 => some ((v6, q4))))))))
set_option maxHeartbeats 4000000 in
set_option maxRecDepth 100000 in
theorem c_X12_turn {l : Launch} {D : va_G} {cy : Nat → ClassId} {ad : Nat → Nat} {σ τ : Sx} {R : Room} (hI : gInj ad) (hRf : 3 ≤ R.frames) (hRl : 69 ≤ R.locals) {out : Int32 × Sx} (h : m_X12_turn τ = some out) : Met l yX12_turn [Cond.code yX12_turn cX12_turn 1 (some .int)] R (va_Pc [.ref (ad 66)] (gB D cy ad σ τ)) (mQi D cy ad σ out) 0 0 (gA ad) := by
  refine zstart [.ref (ad 66)] (by decide) rfl hI (Nat.le_of_ble_eq_true rfl) ?_
  intro p e s m below meth c Z hr hlk hP ls hl
  have hx := Z.x
  have hb := Z.b
  generalize hargs : ([.ref (ad 66)] : List Value).toArray = args
  have hl : lv_has ls 1 [(0, .ref (ad 66))] := hl
  have hS : va_S (gA ad) s.heap s.heap [] := va_S.rf
  unfold m_X12_turn at h
  refine lv_aload_n hx hb dX12_turn_0 rfl (lv_at hl 0 rfl) ?_
  refine lv_iconst (v := 0) hx hb dX12_turn_1 (by decide) ?_
  refine fp_66_0 Z hP hS wF_X12_61 dX12_turn_2 (fun H locs hP hS => ?_)
  refine lv_aload_n hx hb dX12_turn_5 rfl (lv_at hl 0 rfl) ?_
  refine fg_66_20 Z hP wF_X12_22 dX12_turn_6 ?_
  refine lv_iconst (v := 0) hx hb dX12_turn_9 (by decide) ?_
  obtain ⟨v1, hv1, h⟩ := bd h
  refine zm_ld (j := 4) Z hP hv1 dX12_turn_10 ?_
  refine lv_bipush (v := 99) hx hb dX12_turn_11 (by decide) ?_
  refine lv_icmp_ne (tgt := 19) hx hb dX12_turn_13 (by decide) (fun c2 => ?_) (fun c2 => ?_)
  · rw [if_neg c2] at h
    refine lv_aload_n hx hb dX12_turn_19 rfl (lv_at hl 0 rfl) ?_
    obtain ⟨q3, hq3, h⟩ := bd h
    refine zwmv (zrunV Z hP (As := []) (rest := []) (c_X12_notes (R := { frames := 0, cells := 0, slots := 0, locals := 0 }) Z.i (Nat.le_refl _) (Nat.le_refl _) hq3) cV_X12_161 rfl rfl ⟨(Nat.le_trans (Nat.le_of_ble_eq_true rfl) hRf), (Nat.le_trans (Nat.le_of_ble_eq_true rfl) hRl)⟩ 66 (gW_mo.trans rfl) rfl rfl rfl hl.1 rfl (Nat.le_of_ble_eq_true rfl) dX12_turn_20 ⟨Nat.zero_le _, Nat.zero_le _⟩) hS (fun H locs hP hS => ?_)
    refine lv_aload_n hx hb dX12_turn_23 rfl (lv_at hl 0 rfl) ?_
    refine lv_aload_n hx hb dX12_turn_24 rfl (lv_at hl 0 rfl) ?_
    refine fg_66_20 Z hP wF_X12_22 dX12_turn_25 ?_
    obtain ⟨q4, hq4, h⟩ := bd h
    refine zwmv (zrunV Z hP (As := [.ref (ad (67 + 4))]) (rest := []) (c_X12_goes_s (R := { frames := 2, cells := 0, slots := 0, locals := 45 }) Z.i (Nat.le_refl _) (Nat.le_refl _) hq4) cV_X12_168 rfl rfl ⟨(Nat.le_trans (Nat.le_of_ble_eq_true rfl) hRf), (Nat.le_trans (Nat.le_of_ble_eq_true rfl) hRl)⟩ 66 (gW_mo.trans rfl) rfl rfl rfl hl.1 rfl (Nat.le_of_ble_eq_true rfl) dX12_turn_28 ⟨Nat.zero_le _, Nat.zero_le _⟩) hS (fun H locs hP hS => ?_)
    refine lv_aload_n hx hb dX12_turn_31 rfl (lv_at hl 0 rfl) ?_
    refine lv_aload_n hx hb dX12_turn_32 rfl (lv_at hl 0 rfl) ?_
    refine fg_66_20 Z hP wF_X12_22 dX12_turn_33 ?_
    obtain ⟨v5, hv5, h⟩ := bd h
    refine zqi (zrunV Z hP (As := [.ref (ad (67 + 4))]) (rest := []) (c_X12_outOnes_s (R := { frames := 0, cells := 0, slots := 0, locals := 0 }) Z.i (Nat.le_refl _) (Nat.le_refl _) hv5) cV_X12_172 rfl rfl ⟨(Nat.le_trans (Nat.le_of_ble_eq_true rfl) hRf), (Nat.le_trans (Nat.le_of_ble_eq_true rfl) hRl)⟩ 66 (gW_mo.trans rfl) rfl rfl rfl hl.1 rfl (Nat.le_of_ble_eq_true rfl) dX12_turn_36 ⟨Nat.zero_le _, Nat.zero_le _⟩) ?_
    obtain ⟨v6, hv6, h⟩ := bd h
    refine zqi (zrunS Z hP (As := [.int v5]) (rest := []) (c_X12_ones (R := { frames := 0, cells := 0, slots := 0, locals := 0 }) Z.i (Nat.le_refl _) (Nat.le_refl _) hv6) cV_X12_155 rfl rfl ⟨(Nat.le_trans (Nat.le_of_ble_eq_true rfl) hRf), (Nat.le_trans (Nat.le_of_ble_eq_true rfl) hRl)⟩ rfl hl.1 rfl (Nat.le_of_ble_eq_true rfl) dX12_turn_39 ⟨Nat.zero_le _, Nat.zero_le _⟩) ?_
    exact zmi Z hP hS hr hlk h dX12_turn_42
  · rw [if_pos c2] at h
    refine lv_bipush (v := (-2)) hx hb dX12_turn_16 (by decide) ?_
    exact zmi Z hP hS hr hlk h dX12_turn_18
def m_X12_lends (τ : Sx) (x1 : Int32) (x2 : Int32) : Option (Int32 × Sx) :=
  (m_X12_isPhone ((sg τ 0 0)) x1).bind (fun v1 => if v1 = 0 then (some (((-1), (sg τ 0 0)))) else ((m_X12_in x2 1 50).bind (fun v3 => if v3 = 0 then (some (((-1), (sg τ 0 0)))) else ((ldA mLn ((sg τ 0 0)) 4 ((4 + x1))).bind (fun v5 => if x2 ≤ v5 then ((m_X12_notes ((sg τ 0 0))).bind (fun q7 => (ldA mLn q7 4 ((4 + x1))).bind (fun v8 => (stA mLn q7 4 ((4 + x1)) ((v8 - x2))).bind (fun q9 => (ldA mLn q9 4 ((4 + x1))).bind (fun v10 => some ((v10, q9))))))) else (some (((-2), (sg τ 0 0)))))))))
set_option maxHeartbeats 4000000 in
set_option maxRecDepth 100000 in
theorem c_X12_lends {l : Launch} {D : va_G} {cy : Nat → ClassId} {ad : Nat → Nat} {σ τ : Sx} {R : Room} (hI : gInj ad) (hRf : 2 ≤ R.frames) (hRl : 43 ≤ R.locals) {x1 : Int32} {x2 : Int32} {out : Int32 × Sx} (h : m_X12_lends τ x1 x2 = some out) : Met l yX12_lends [Cond.code yX12_lends cX12_lends 3 (some .int)] R (va_Pc [.ref (ad 66), .int x1, .int x2] (gB D cy ad σ τ)) (mQi D cy ad σ out) 0 0 (gA ad) := by
  refine zstart [.ref (ad 66), .int x1, .int x2] (by decide) rfl hI (Nat.le_of_ble_eq_true rfl) ?_
  intro p e s m below meth c Z hr hlk hP ls hl
  have hx := Z.x
  have hb := Z.b
  generalize hargs : ([.ref (ad 66), .int x1, .int x2] : List Value).toArray = args
  have hl : lv_has ls 3 [(0, .ref (ad 66)), (1, .int x1), (2, .int x2)] := hl
  have hS : va_S (gA ad) s.heap s.heap [] := va_S.rf
  unfold m_X12_lends at h
  refine lv_aload_n hx hb dX12_lends_0 rfl (lv_at hl 0 rfl) ?_
  refine lv_iconst (v := 0) hx hb dX12_lends_1 (by decide) ?_
  refine fp_66_0 Z hP hS wF_X12_61 dX12_lends_2 (fun H locs hP hS => ?_)
  refine lv_aload_n hx hb dX12_lends_5 rfl (lv_at hl 0 rfl) ?_
  refine lv_iload_n hx hb dX12_lends_6 rfl (lv_at hl 1 rfl) ?_
  obtain ⟨v1, hv1, h⟩ := bd h
  refine zqi (zrunV Z hP (As := [.int x1]) (rest := []) (c_X12_isPhone (R := { frames := 1, cells := 0, slots := 0, locals := 22 }) Z.i (Nat.le_refl _) (Nat.le_refl _) hv1) cV_X12_142 rfl rfl ⟨(Nat.le_trans (Nat.le_of_ble_eq_true rfl) hRf), (Nat.le_trans (Nat.le_of_ble_eq_true rfl) hRl)⟩ 66 (gW_mo.trans rfl) rfl rfl rfl hl.1 rfl (Nat.le_of_ble_eq_true rfl) dX12_lends_7 ⟨Nat.zero_le _, Nat.zero_le _⟩) ?_
  refine lv_if_eq (tgt := 23) hx hb dX12_lends_10 (by decide) (fun c2 => ?_) (fun c2 => ?_)
  · rw [if_pos c2] at h
    refine lv_iconst (v := (-1)) hx hb dX12_lends_23 (by decide) ?_
    exact zmi Z hP hS hr hlk h dX12_lends_24
  · rw [if_neg c2] at h
    refine lv_iload_n hx hb dX12_lends_13 rfl (lv_at hl 2 rfl) ?_
    refine lv_iconst (v := 1) hx hb dX12_lends_14 (by decide) ?_
    refine lv_bipush (v := 50) hx hb dX12_lends_15 (by decide) ?_
    obtain ⟨v3, hv3, h⟩ := bd h
    refine zqi (zrunS Z hP (As := [.int x2, .int 1, .int 50]) (rest := []) (c_X12_in (R := { frames := 0, cells := 0, slots := 0, locals := 0 }) Z.i (Nat.le_refl _) (Nat.le_refl _) hv3) cV_X12_64 rfl rfl ⟨(Nat.le_trans (Nat.le_of_ble_eq_true rfl) hRf), (Nat.le_trans (Nat.le_of_ble_eq_true rfl) hRl)⟩ rfl hl.1 rfl (Nat.le_of_ble_eq_true rfl) dX12_lends_17 ⟨Nat.zero_le _, Nat.zero_le _⟩) ?_
    refine lv_if_ne (tgt := 25) hx hb dX12_lends_20 (by decide) (fun c4 => ?_) (fun c4 => ?_)
    · rw [if_neg c4] at h
      refine lv_aload_n hx hb dX12_lends_25 rfl (lv_at hl 0 rfl) ?_
      refine fg_66_20 Z hP wF_X12_22 dX12_lends_26 ?_
      refine lv_iconst (v := 4) hx hb dX12_lends_29 (by decide) ?_
      refine lv_iload_n hx hb dX12_lends_30 rfl (lv_at hl 1 rfl) ?_
      refine lv_iadd hx hb dX12_lends_31 ?_
      obtain ⟨v5, hv5, h⟩ := bd h
      refine zm_ld (j := 4) Z hP hv5 dX12_lends_32 ?_
      refine lv_iload_n hx hb dX12_lends_33 rfl (lv_at hl 2 rfl) ?_
      refine lv_icmp_ge (tgt := 40) hx hb dX12_lends_34 (by decide) (fun c6 => ?_) (fun c6 => ?_)
      · rw [if_pos c6] at h
        refine lv_aload_n hx hb dX12_lends_40 rfl (lv_at hl 0 rfl) ?_
        obtain ⟨q7, hq7, h⟩ := bd h
        refine zwmv (zrunV Z hP (As := []) (rest := []) (c_X12_notes (R := { frames := 0, cells := 0, slots := 0, locals := 0 }) Z.i (Nat.le_refl _) (Nat.le_refl _) hq7) cV_X12_161 rfl rfl ⟨(Nat.le_trans (Nat.le_of_ble_eq_true rfl) hRf), (Nat.le_trans (Nat.le_of_ble_eq_true rfl) hRl)⟩ 66 (gW_mo.trans rfl) rfl rfl rfl hl.1 rfl (Nat.le_of_ble_eq_true rfl) dX12_lends_41 ⟨Nat.zero_le _, Nat.zero_le _⟩) hS (fun H locs hP hS => ?_)
        refine lv_aload_n hx hb dX12_lends_44 rfl (lv_at hl 0 rfl) ?_
        refine fg_66_20 Z hP wF_X12_22 dX12_lends_45 ?_
        refine lv_iconst (v := 4) hx hb dX12_lends_48 (by decide) ?_
        refine lv_iload_n hx hb dX12_lends_49 rfl (lv_at hl 1 rfl) ?_
        refine lv_iadd hx hb dX12_lends_50 ?_
        refine lv_dup2_11 hx hb dX12_lends_51 rfl rfl ?_
        obtain ⟨v8, hv8, h⟩ := bd h
        refine zm_ld (j := 4) Z hP hv8 dX12_lends_52 ?_
        refine lv_iload_n hx hb dX12_lends_53 rfl (lv_at hl 2 rfl) ?_
        refine lv_isub hx hb dX12_lends_54 ?_
        obtain ⟨q9, hq9, h⟩ := bd h
        refine zm_st (j := 4) Z hP hS hq9 dX12_lends_55 (fun H locs hP hS => ?_)
        refine lv_aload_n hx hb dX12_lends_56 rfl (lv_at hl 0 rfl) ?_
        refine fg_66_20 Z hP wF_X12_22 dX12_lends_57 ?_
        refine lv_iconst (v := 4) hx hb dX12_lends_60 (by decide) ?_
        refine lv_iload_n hx hb dX12_lends_61 rfl (lv_at hl 1 rfl) ?_
        refine lv_iadd hx hb dX12_lends_62 ?_
        obtain ⟨v10, hv10, h⟩ := bd h
        refine zm_ld (j := 4) Z hP hv10 dX12_lends_63 ?_
        exact zmi Z hP hS hr hlk h dX12_lends_64
      · rw [if_neg c6] at h
        refine lv_bipush (v := (-2)) hx hb dX12_lends_37 (by decide) ?_
        exact zmi Z hP hS hr hlk h dX12_lends_39
    · rw [if_pos c4] at h
      refine lv_iconst (v := (-1)) hx hb dX12_lends_23 (by decide) ?_
      exact zmi Z hP hS hr hlk h dX12_lends_24
def m_X12_undo_L27  : Nat → Int32 → Sx → Option (Sx)
  | 0, _, _ => none
  | n + 1, x1, τ =>
  if 14 ≤ x1 then (some τ) else ((ldA mLn τ 7 (((14 * (τ.1 15)) + x1))).bind (fun v3 => (stA mLn τ 4 x1 v3).bind (fun q4 => m_X12_undo_L27 n ((x1 + 1)) q4)))
def m_X12_undo (τ : Sx) : Option (Int32 × Sx) :=
  if (((sg τ 0 0)).1 15) = 0 then (some (((-2), (sg τ 0 0)))) else ((m_X12_undo_L27 FU 0 ((sg (sg τ 0 0) 15 (((((sg τ 0 0)).1 15) - 1))))).bind (fun y5 => some (((y5.1 15), y5))))
set_option maxHeartbeats 4000000 in
set_option maxRecDepth 100000 in
theorem w_X12_undo_L27 {l : Launch} {D : va_G} {cy : Nat → ClassId} {ad : Nat → Nat} {σ : Sx} {p : Program} {e : Env} {R : Room} {s : State} {m : MethodId} {args : Array Value} {below : List Frame} {meth : Method} {c : Code} (Z : Zc p s m c cX12_undo 2 RX12 D cy ad) (hr : meth.sig.returnType = (some .int)) (hlk : meth.locks = false) (hRf : 0 ≤ R.frames) (hRl : 0 ≤ R.locals) (out : Int32 × Sx) : ∀ (n : Nat) (x1 : Int32) (τ : Sx) (res : Sx), m_X12_undo_L27 n x1 τ = some res → ∀ (H : Heap) (locs : List Loc), va_P D vwCl (gW cy ad σ τ) H → va_S (gA ad) s.heap H locs → ∀ ls : Array Slot, lv_has ls 2 [(0, .ref (ad 66)), (1, .int x1)] → (∀ (H : Heap) (locs : List Loc), va_P D vwCl (gW cy ad σ res) H → va_S (gA ad) s.heap H locs → ∀ ls : Array Slot, lv_has ls 2 [(0, .ref (ad 66))] → W p l e R s m args below meth c H locs 0 0 (MQ below (mQi D cy ad σ out) args s 0 0 (gA ad)) (F0 m 59 ls [])) → W p l e R s m args below meth c H locs 0 0 (MQ below (mQi D cy ad σ out) args s 0 0 (gA ad)) (F0 m 27 ls []) := by
  have hx := Z.x
  have hb := Z.b
  intro n
  induction n with
  | zero => intro x1 τ res h; cases h
  | succ n ih =>
    intro x1 τ res h H locs hP hS ls hl kx
    rw [m_X12_undo_L27] at h
    refine lv_iload_n hx hb dX12_undo_27 rfl (lv_at hl 1 rfl) ?_
    refine lv_bipush (v := 14) hx hb dX12_undo_28 (by decide) ?_
    refine lv_icmp_ge (tgt := 59) hx hb dX12_undo_30 (by decide) (fun c2 => ?_) (fun c2 => ?_)
    · rw [if_pos c2] at h
      obtain rfl := Option.some.inj h
      exact kx _ _ hP hS _ (lv_sub hl [0] rfl)
    · rw [if_neg c2] at h
      refine lv_aload_n hx hb dX12_undo_33 rfl (lv_at hl 0 rfl) ?_
      refine fg_66_20 Z hP wF_X12_22 dX12_undo_34 ?_
      refine lv_iload_n hx hb dX12_undo_37 rfl (lv_at hl 1 rfl) ?_
      refine lv_aload_n hx hb dX12_undo_38 rfl (lv_at hl 0 rfl) ?_
      refine fg_66_24 Z hP wF_X12_35 dX12_undo_39 ?_
      refine lv_bipush (v := 14) hx hb dX12_undo_42 (by decide) ?_
      refine lv_aload_n hx hb dX12_undo_44 rfl (lv_at hl 0 rfl) ?_
      refine fg_66_25 Z hP wF_X12_136 dX12_undo_45 ?_
      refine lv_imul hx hb dX12_undo_48 ?_
      refine lv_iload_n hx hb dX12_undo_49 rfl (lv_at hl 1 rfl) ?_
      refine lv_iadd hx hb dX12_undo_50 ?_
      obtain ⟨v3, hv3, h⟩ := bd h
      refine zm_ld (j := 7) Z hP hv3 dX12_undo_51 ?_
      obtain ⟨q4, hq4, h⟩ := bd h
      refine zm_st (j := 4) Z hP hS hq4 dX12_undo_52 (fun H locs hP hS => ?_)
      refine lv_iinc (v := (x1 + 1)) (lv' := [(1, .int (x1 + 1)), (0, .ref (ad 66))]) hx hb dX12_undo_53 hl (k := 1) rfl rfl (by decide) rfl (fun ls hl => ?_)
      refine lv_goto (tgt := 27) hx hb dX12_undo_56 (by decide) ?_
      exact ih ((x1 + 1)) q4 _ h _ _ hP hS _ (lv_sub hl [1, 0] rfl) kx
set_option maxHeartbeats 4000000 in
set_option maxRecDepth 100000 in
theorem c_X12_undo {l : Launch} {D : va_G} {cy : Nat → ClassId} {ad : Nat → Nat} {σ τ : Sx} {R : Room} (hI : gInj ad) (hRf : 0 ≤ R.frames) (hRl : 0 ≤ R.locals) {out : Int32 × Sx} (h : m_X12_undo τ = some out) : Met l yX12_undo [Cond.code yX12_undo cX12_undo 2 (some .int)] R (va_Pc [.ref (ad 66)] (gB D cy ad σ τ)) (mQi D cy ad σ out) 0 0 (gA ad) := by
  refine zstart [.ref (ad 66)] (by decide) rfl hI (Nat.le_of_ble_eq_true rfl) ?_
  intro p e s m below meth c Z hr hlk hP ls hl
  have hx := Z.x
  have hb := Z.b
  generalize hargs : ([.ref (ad 66)] : List Value).toArray = args
  have hl : lv_has ls 2 [(0, .ref (ad 66))] := hl
  have hS : va_S (gA ad) s.heap s.heap [] := va_S.rf
  unfold m_X12_undo at h
  refine lv_aload_n hx hb dX12_undo_0 rfl (lv_at hl 0 rfl) ?_
  refine lv_iconst (v := 0) hx hb dX12_undo_1 (by decide) ?_
  refine fp_66_0 Z hP hS wF_X12_61 dX12_undo_2 (fun H locs hP hS => ?_)
  refine lv_aload_n hx hb dX12_undo_5 rfl (lv_at hl 0 rfl) ?_
  refine fg_66_25 Z hP wF_X12_136 dX12_undo_6 ?_
  refine lv_if_ne (tgt := 15) hx hb dX12_undo_9 (by decide) (fun c1 => ?_) (fun c1 => ?_)
  · rw [if_neg c1] at h
    refine lv_aload_n hx hb dX12_undo_15 rfl (lv_at hl 0 rfl) ?_
    refine lv_dup hx hb dX12_undo_16 rfl ?_
    refine fg_66_25 Z hP wF_X12_136 dX12_undo_17 ?_
    refine lv_iconst (v := 1) hx hb dX12_undo_20 (by decide) ?_
    refine lv_isub hx hb dX12_undo_21 ?_
    refine fp_66_25 Z hP hS wF_X12_136 dX12_undo_22 (fun H locs hP hS => ?_)
    refine lv_iconst (v := 0) hx hb dX12_undo_25 (by decide) ?_
    refine lv_istore_n (lv' := [(1, .int 0), (0, .ref (ad 66))]) hx hb dX12_undo_26 rfl hl (by decide) rfl (fun ls hl => ?_)
    obtain ⟨y5, hy5, h⟩ := bd h
    refine w_X12_undo_L27 Z hr hlk hRf hRl out FU 0 ((sg (sg τ 0 0) 15 (((((sg τ 0 0)).1 15) - 1)))) y5 hy5 _ _ hP hS _ (lv_sub hl [1, 0] rfl) (fun H locs hP hS ls hl => ?_)
    refine lv_aload_n hx hb dX12_undo_59 rfl (lv_at hl 0 rfl) ?_
    refine fg_66_25 Z hP wF_X12_136 dX12_undo_60 ?_
    exact zmi Z hP hS hr hlk h dX12_undo_63
  · rw [if_pos c1] at h
    refine lv_bipush (v := (-2)) hx hb dX12_undo_12 (by decide) ?_
    exact zmi Z hP hS hr hlk h dX12_undo_14
def m_X12_fair_J42 (rec : Int32 → Int32 → Int32 → Option (Int32 × Int32)) (τ : Sx) (x2 : Int32) (x3 : Int32) (s0 : Int32) : Option (Int32 × Int32) :=
  (ldA mLn τ 4 ((9 + x3))).bind (fun v4 => if x2 ≤ v4 then (rec s0 x2 ((x3 + 1))) else ((ldA mLn τ 4 ((9 + x3))).bind (fun v6 => rec s0 v6 ((x3 + 1)))))
def m_X12_fair_L8 (τ : Sx) : Nat → Int32 → Int32 → Int32 → Option (Int32 × Int32)
  | 0, _, _, _ => none
  | n + 1, x1, x2, x3 =>
  if (τ.1 7) ≤ x3 then (some ((x1, x2))) else ((ldA mLn τ 4 ((9 + x3))).bind (fun v2 => if v2 ≤ x1 then (m_X12_fair_J42 (m_X12_fair_L8 τ n) τ x2 x3 x1) else ((ldA mLn τ 4 ((9 + x3))).bind (fun v7 => m_X12_fair_J42 (m_X12_fair_L8 τ n) τ x2 x3 v7))))
def m_X12_fair (τ : Sx) : Option (Int32) :=
  (m_X12_fair_L8 τ FU 0 1000 0).bind (fun y8 => if (τ.1 7) = 0 then (some 0) else (some ((y8.1 - y8.2))))
set_option maxHeartbeats 4000000 in
set_option maxRecDepth 100000 in
theorem w_X12_fair_L8 {l : Launch} {D : va_G} {cy : Nat → ClassId} {ad : Nat → Nat} {σ τ : Sx} {p : Program} {e : Env} {R : Room} {s : State} {m : MethodId} {args : Array Value} {below : List Frame} {meth : Method} {c : Code} (Z : Zc p s m c cX12_fair 4 RX12 D cy ad) (hP : va_P D vwCl (gW cy ad σ τ) s.heap) (hr : meth.sig.returnType = (some .int)) (hlk : meth.locks = false) (hRf : 0 ≤ R.frames) (hRl : 0 ≤ R.locals) (out : Int32) : ∀ (n : Nat) (x1 : Int32) (x2 : Int32) (x3 : Int32) (res : Int32 × Int32), m_X12_fair_L8 τ n x1 x2 x3 = some res → ∀ ls : Array Slot, lv_has ls 4 [(0, .ref (ad 66)), (1, .int x1), (2, .int x2), (3, .int x3)] → (∀ ls : Array Slot, lv_has ls 4 [(0, .ref (ad 66)), (1, .int res.1), (2, .int res.2)] → W p l e R s m args below meth c s.heap [] 0 0 (MQ below (rQi out) args s 0 0 noA) (F0 m 76 ls [])) → W p l e R s m args below meth c s.heap [] 0 0 (MQ below (rQi out) args s 0 0 noA) (F0 m 8 ls []) := by
  have hx := Z.x
  have hb := Z.b
  intro n
  induction n with
  | zero => intro x1 x2 x3 res h; cases h
  | succ n ih =>
    intro x1 x2 x3 res h ls hl kx
    have J42 : ∀ (x2 : Int32) (x3 : Int32) (s0 : Int32), m_X12_fair_J42 (m_X12_fair_L8 τ n) τ x2 x3 s0 = some res → ∀ ls : Array Slot, lv_has ls 4 [(0, .ref (ad 66)), (2, .int x2), (3, .int x3)] → W p l e R s m args below meth c s.heap [] 0 0 (MQ below (rQi out) args s 0 0 noA) (F0 m 42 ls [.int s0]) := by
      intro x2 x3 s0 h ls hl
      unfold m_X12_fair_J42 at h
      refine lv_istore_n (lv' := [(1, .int s0), (0, .ref (ad 66)), (2, .int x2), (3, .int x3)]) hx hb dX12_fair_42 rfl hl (by decide) rfl (fun ls hl => ?_)
      refine lv_aload_n hx hb dX12_fair_43 rfl (lv_at hl 1 rfl) ?_
      refine fg_66_20 Z hP wF_X12_22 dX12_fair_44 ?_
      refine lv_bipush (v := 9) hx hb dX12_fair_47 (by decide) ?_
      refine lv_iload_n hx hb dX12_fair_49 rfl (lv_at hl 3 rfl) ?_
      refine lv_iadd hx hb dX12_fair_50 ?_
      obtain ⟨v4, hv4, h⟩ := bd h
      refine zm_ld (j := 4) Z hP hv4 dX12_fair_51 ?_
      refine lv_iload_n hx hb dX12_fair_52 rfl (lv_at hl 2 rfl) ?_
      refine lv_icmp_ge (tgt := 68) hx hb dX12_fair_53 (by decide) (fun c5 => ?_) (fun c5 => ?_)
      · rw [if_pos c5] at h
        refine lv_iload_n hx hb dX12_fair_68 rfl (lv_at hl 2 rfl) ?_
        refine lv_istore_n (lv' := [(2, .int x2), (1, .int s0), (0, .ref (ad 66)), (3, .int x3)]) hx hb dX12_fair_69 rfl hl (by decide) rfl (fun ls hl => ?_)
        refine lv_iinc (v := (x3 + 1)) (lv' := [(3, .int (x3 + 1)), (2, .int x2), (1, .int s0), (0, .ref (ad 66))]) hx hb dX12_fair_70 hl (k := 3) rfl rfl (by decide) rfl (fun ls hl => ?_)
        refine lv_goto (tgt := 8) hx hb dX12_fair_73 (by decide) ?_
        exact ih s0 x2 ((x3 + 1)) _ h _ (lv_sub hl [3, 2, 1, 0] rfl) kx
      · rw [if_neg c5] at h
        refine lv_aload_n hx hb dX12_fair_56 rfl (lv_at hl 1 rfl) ?_
        refine fg_66_20 Z hP wF_X12_22 dX12_fair_57 ?_
        refine lv_bipush (v := 9) hx hb dX12_fair_60 (by decide) ?_
        refine lv_iload_n hx hb dX12_fair_62 rfl (lv_at hl 3 rfl) ?_
        refine lv_iadd hx hb dX12_fair_63 ?_
        obtain ⟨v6, hv6, h⟩ := bd h
        refine zm_ld (j := 4) Z hP hv6 dX12_fair_64 ?_
        refine lv_goto (tgt := 69) hx hb dX12_fair_65 (by decide) ?_
        refine lv_istore_n (lv' := [(2, .int v6), (1, .int s0), (0, .ref (ad 66)), (3, .int x3)]) hx hb dX12_fair_69 rfl hl (by decide) rfl (fun ls hl => ?_)
        refine lv_iinc (v := (x3 + 1)) (lv' := [(3, .int (x3 + 1)), (2, .int v6), (1, .int s0), (0, .ref (ad 66))]) hx hb dX12_fair_70 hl (k := 3) rfl rfl (by decide) rfl (fun ls hl => ?_)
        refine lv_goto (tgt := 8) hx hb dX12_fair_73 (by decide) ?_
        exact ih s0 v6 ((x3 + 1)) _ h _ (lv_sub hl [3, 2, 1, 0] rfl) kx
    rw [m_X12_fair_L8] at h
    refine lv_iload_n hx hb dX12_fair_8 rfl (lv_at hl 3 rfl) ?_
    refine lv_aload_n hx hb dX12_fair_9 rfl (lv_at hl 0 rfl) ?_
    refine fg_66_12 Z hP wF_X12_127 dX12_fair_10 ?_
    refine lv_icmp_ge (tgt := 76) hx hb dX12_fair_13 (by decide) (fun c1 => ?_) (fun c1 => ?_)
    · rw [if_pos c1] at h
      obtain rfl := Option.some.inj h
      exact kx _ (lv_sub hl [0, 1, 2] rfl)
    · rw [if_neg c1] at h
      refine lv_aload_n hx hb dX12_fair_16 rfl (lv_at hl 0 rfl) ?_
      refine fg_66_20 Z hP wF_X12_22 dX12_fair_17 ?_
      refine lv_bipush (v := 9) hx hb dX12_fair_20 (by decide) ?_
      refine lv_iload_n hx hb dX12_fair_22 rfl (lv_at hl 3 rfl) ?_
      refine lv_iadd hx hb dX12_fair_23 ?_
      obtain ⟨v2, hv2, h⟩ := bd h
      refine zm_ld (j := 4) Z hP hv2 dX12_fair_24 ?_
      refine lv_iload_n hx hb dX12_fair_25 rfl (lv_at hl 1 rfl) ?_
      refine lv_icmp_le (tgt := 41) hx hb dX12_fair_26 (by decide) (fun c3 => ?_) (fun c3 => ?_)
      · rw [if_pos c3] at h
        refine lv_iload_n hx hb dX12_fair_41 rfl (lv_at hl 1 rfl) ?_
        exact J42 x2 x3 x1 h _ (lv_sub hl [0, 2, 3] rfl)
      · rw [if_neg c3] at h
        refine lv_aload_n hx hb dX12_fair_29 rfl (lv_at hl 0 rfl) ?_
        refine fg_66_20 Z hP wF_X12_22 dX12_fair_30 ?_
        refine lv_bipush (v := 9) hx hb dX12_fair_33 (by decide) ?_
        refine lv_iload_n hx hb dX12_fair_35 rfl (lv_at hl 3 rfl) ?_
        refine lv_iadd hx hb dX12_fair_36 ?_
        obtain ⟨v7, hv7, h⟩ := bd h
        refine zm_ld (j := 4) Z hP hv7 dX12_fair_37 ?_
        refine lv_goto (tgt := 42) hx hb dX12_fair_38 (by decide) ?_
        exact J42 x2 x3 v7 h _ (lv_sub hl [0, 2, 3] rfl)
set_option maxHeartbeats 4000000 in
set_option maxRecDepth 100000 in
theorem c_X12_fair {l : Launch} {D : va_G} {cy : Nat → ClassId} {ad : Nat → Nat} {σ τ : Sx} {R : Room} (hI : gInj ad) (hRf : 0 ≤ R.frames) (hRl : 0 ≤ R.locals) {out : Int32} (h : m_X12_fair τ = some out) : Met l yX12_fair [Cond.code yX12_fair cX12_fair 4 (some .int)] R (va_Pc [.ref (ad 66)] (gB D cy ad σ τ)) (rQi out) 0 0 noA := by
  refine zstart [.ref (ad 66)] (by decide) rfl hI (Nat.le_of_ble_eq_true rfl) ?_
  intro p e s m below meth c Z hr hlk hP ls hl
  have hx := Z.x
  have hb := Z.b
  generalize hargs : ([.ref (ad 66)] : List Value).toArray = args
  have hl : lv_has ls 4 [(0, .ref (ad 66))] := hl
  unfold m_X12_fair at h
  refine lv_iconst (v := 0) hx hb dX12_fair_0 (by decide) ?_
  refine lv_istore_n (lv' := [(1, .int 0), (0, .ref (ad 66))]) hx hb dX12_fair_1 rfl hl (by decide) rfl (fun ls hl => ?_)
  refine lv_sipush (v := 1000) hx hb dX12_fair_2 (by decide) ?_
  refine lv_istore_n (lv' := [(2, .int 1000), (1, .int 0), (0, .ref (ad 66))]) hx hb dX12_fair_5 rfl hl (by decide) rfl (fun ls hl => ?_)
  refine lv_iconst (v := 0) hx hb dX12_fair_6 (by decide) ?_
  refine lv_istore_n (lv' := [(3, .int 0), (2, .int 1000), (1, .int 0), (0, .ref (ad 66))]) hx hb dX12_fair_7 rfl hl (by decide) rfl (fun ls hl => ?_)
  obtain ⟨y8, hy8, h⟩ := bd h
  refine w_X12_fair_L8 Z hP hr hlk hRf hRl out FU 0 1000 0 y8 hy8 _ (lv_sub hl [3, 2, 1, 0] rfl) (fun ls hl => ?_)
  refine lv_aload_n hx hb dX12_fair_76 rfl (lv_at hl 0 rfl) ?_
  refine fg_66_12 Z hP wF_X12_127 dX12_fair_77 ?_
  refine lv_if_ne (tgt := 87) hx hb dX12_fair_80 (by decide) (fun c9 => ?_) (fun c9 => ?_)
  · rw [if_neg c9] at h
    refine lv_iload_n hx hb dX12_fair_87 rfl (lv_at hl 1 rfl) ?_
    refine lv_iload_n hx hb dX12_fair_88 rfl (lv_at hl 2 rfl) ?_
    refine lv_isub hx hb dX12_fair_89 ?_
    exact zri Z hr hlk h dX12_fair_90
  · rw [if_pos c9] at h
    refine lv_iconst (v := 0) hx hb dX12_fair_83 (by decide) ?_
    refine lv_goto (tgt := 90) hx hb dX12_fair_84 (by decide) ?_
    exact zri Z hr hlk h dX12_fair_90
def m_X12_leans_J38 (rec : Int32 → Int32 → Int32 → Option (Int32 × Int32)) (τ : Sx) (x2 : Int32) (x3 : Int32) (s0 : Int32) : Option (Int32 × Int32) :=
  (ldA mLn τ 4 ((4 + x3))).bind (fun v5 => (ldA mLn τ 4 ((4 + x2))).bind (fun v6 => if v6 ≤ v5 then (rec s0 x2 ((x3 + 1))) else (rec s0 x3 ((x3 + 1)))))
def m_X12_leans_L6 (τ : Sx) : Nat → Int32 → Int32 → Int32 → Option (Int32 × Int32)
  | 0, _, _, _ => none
  | n + 1, x1, x2, x3 =>
  if (τ.1 7) ≤ x3 then (some ((x1, x2))) else ((ldA mLn τ 4 ((4 + x3))).bind (fun v2 => (ldA mLn τ 4 ((4 + x1))).bind (fun v3 => if v2 ≤ v3 then (m_X12_leans_J38 (m_X12_leans_L6 τ n) τ x2 x3 x1) else (m_X12_leans_J38 (m_X12_leans_L6 τ n) τ x2 x3 x3))))
def m_X12_leans (τ : Sx) : Option (Int32) :=
  (m_X12_leans_L6 τ FU 0 0 1).bind (fun y8 => if 2 ≤ (τ.1 7) then (some (((10 * y8.1) + y8.2))) else (some ((-9))))
set_option maxHeartbeats 4000000 in
set_option maxRecDepth 100000 in
theorem w_X12_leans_L6 {l : Launch} {D : va_G} {cy : Nat → ClassId} {ad : Nat → Nat} {σ τ : Sx} {p : Program} {e : Env} {R : Room} {s : State} {m : MethodId} {args : Array Value} {below : List Frame} {meth : Method} {c : Code} (Z : Zc p s m c cX12_leans 4 RX12 D cy ad) (hP : va_P D vwCl (gW cy ad σ τ) s.heap) (hr : meth.sig.returnType = (some .int)) (hlk : meth.locks = false) (hRf : 0 ≤ R.frames) (hRl : 0 ≤ R.locals) (out : Int32) : ∀ (n : Nat) (x1 : Int32) (x2 : Int32) (x3 : Int32) (res : Int32 × Int32), m_X12_leans_L6 τ n x1 x2 x3 = some res → ∀ ls : Array Slot, lv_has ls 4 [(0, .ref (ad 66)), (1, .int x1), (2, .int x2), (3, .int x3)] → (∀ ls : Array Slot, lv_has ls 4 [(0, .ref (ad 66)), (1, .int res.1), (2, .int res.2)] → W p l e R s m args below meth c s.heap [] 0 0 (MQ below (rQi out) args s 0 0 noA) (F0 m 70 ls [])) → W p l e R s m args below meth c s.heap [] 0 0 (MQ below (rQi out) args s 0 0 noA) (F0 m 6 ls []) := by
  have hx := Z.x
  have hb := Z.b
  intro n
  induction n with
  | zero => intro x1 x2 x3 res h; cases h
  | succ n ih =>
    intro x1 x2 x3 res h ls hl kx
    have J38 : ∀ (x2 : Int32) (x3 : Int32) (s0 : Int32), m_X12_leans_J38 (m_X12_leans_L6 τ n) τ x2 x3 s0 = some res → ∀ ls : Array Slot, lv_has ls 4 [(0, .ref (ad 66)), (2, .int x2), (3, .int x3)] → W p l e R s m args below meth c s.heap [] 0 0 (MQ below (rQi out) args s 0 0 noA) (F0 m 38 ls [.int s0]) := by
      intro x2 x3 s0 h ls hl
      unfold m_X12_leans_J38 at h
      refine lv_istore_n (lv' := [(1, .int s0), (0, .ref (ad 66)), (2, .int x2), (3, .int x3)]) hx hb dX12_leans_38 rfl hl (by decide) rfl (fun ls hl => ?_)
      refine lv_aload_n hx hb dX12_leans_39 rfl (lv_at hl 1 rfl) ?_
      refine fg_66_20 Z hP wF_X12_22 dX12_leans_40 ?_
      refine lv_iconst (v := 4) hx hb dX12_leans_43 (by decide) ?_
      refine lv_iload_n hx hb dX12_leans_44 rfl (lv_at hl 3 rfl) ?_
      refine lv_iadd hx hb dX12_leans_45 ?_
      obtain ⟨v5, hv5, h⟩ := bd h
      refine zm_ld (j := 4) Z hP hv5 dX12_leans_46 ?_
      refine lv_aload_n hx hb dX12_leans_47 rfl (lv_at hl 1 rfl) ?_
      refine fg_66_20 Z hP wF_X12_22 dX12_leans_48 ?_
      refine lv_iconst (v := 4) hx hb dX12_leans_51 (by decide) ?_
      refine lv_iload_n hx hb dX12_leans_52 rfl (lv_at hl 2 rfl) ?_
      refine lv_iadd hx hb dX12_leans_53 ?_
      obtain ⟨v6, hv6, h⟩ := bd h
      refine zm_ld (j := 4) Z hP hv6 dX12_leans_54 ?_
      refine lv_icmp_ge (tgt := 62) hx hb dX12_leans_55 (by decide) (fun c7 => ?_) (fun c7 => ?_)
      · rw [if_pos c7] at h
        refine lv_iload_n hx hb dX12_leans_62 rfl (lv_at hl 2 rfl) ?_
        refine lv_istore_n (lv' := [(2, .int x2), (1, .int s0), (0, .ref (ad 66)), (3, .int x3)]) hx hb dX12_leans_63 rfl hl (by decide) rfl (fun ls hl => ?_)
        refine lv_iinc (v := (x3 + 1)) (lv' := [(3, .int (x3 + 1)), (2, .int x2), (1, .int s0), (0, .ref (ad 66))]) hx hb dX12_leans_64 hl (k := 3) rfl rfl (by decide) rfl (fun ls hl => ?_)
        refine lv_goto (tgt := 6) hx hb dX12_leans_67 (by decide) ?_
        exact ih s0 x2 ((x3 + 1)) _ h _ (lv_sub hl [3, 2, 1, 0] rfl) kx
      · rw [if_neg c7] at h
        refine lv_iload_n hx hb dX12_leans_58 rfl (lv_at hl 3 rfl) ?_
        refine lv_goto (tgt := 63) hx hb dX12_leans_59 (by decide) ?_
        refine lv_istore_n (lv' := [(2, .int x3), (1, .int s0), (0, .ref (ad 66)), (3, .int x3)]) hx hb dX12_leans_63 rfl hl (by decide) rfl (fun ls hl => ?_)
        refine lv_iinc (v := (x3 + 1)) (lv' := [(3, .int (x3 + 1)), (2, .int x3), (1, .int s0), (0, .ref (ad 66))]) hx hb dX12_leans_64 hl (k := 3) rfl rfl (by decide) rfl (fun ls hl => ?_)
        refine lv_goto (tgt := 6) hx hb dX12_leans_67 (by decide) ?_
        exact ih s0 x3 ((x3 + 1)) _ h _ (lv_sub hl [3, 2, 1, 0] rfl) kx
    rw [m_X12_leans_L6] at h
    refine lv_iload_n hx hb dX12_leans_6 rfl (lv_at hl 3 rfl) ?_
    refine lv_aload_n hx hb dX12_leans_7 rfl (lv_at hl 0 rfl) ?_
    refine fg_66_12 Z hP wF_X12_127 dX12_leans_8 ?_
    refine lv_icmp_ge (tgt := 70) hx hb dX12_leans_11 (by decide) (fun c1 => ?_) (fun c1 => ?_)
    · rw [if_pos c1] at h
      obtain rfl := Option.some.inj h
      exact kx _ (lv_sub hl [0, 1, 2] rfl)
    · rw [if_neg c1] at h
      refine lv_aload_n hx hb dX12_leans_14 rfl (lv_at hl 0 rfl) ?_
      refine fg_66_20 Z hP wF_X12_22 dX12_leans_15 ?_
      refine lv_iconst (v := 4) hx hb dX12_leans_18 (by decide) ?_
      refine lv_iload_n hx hb dX12_leans_19 rfl (lv_at hl 3 rfl) ?_
      refine lv_iadd hx hb dX12_leans_20 ?_
      obtain ⟨v2, hv2, h⟩ := bd h
      refine zm_ld (j := 4) Z hP hv2 dX12_leans_21 ?_
      refine lv_aload_n hx hb dX12_leans_22 rfl (lv_at hl 0 rfl) ?_
      refine fg_66_20 Z hP wF_X12_22 dX12_leans_23 ?_
      refine lv_iconst (v := 4) hx hb dX12_leans_26 (by decide) ?_
      refine lv_iload_n hx hb dX12_leans_27 rfl (lv_at hl 1 rfl) ?_
      refine lv_iadd hx hb dX12_leans_28 ?_
      obtain ⟨v3, hv3, h⟩ := bd h
      refine zm_ld (j := 4) Z hP hv3 dX12_leans_29 ?_
      refine lv_icmp_le (tgt := 37) hx hb dX12_leans_30 (by decide) (fun c4 => ?_) (fun c4 => ?_)
      · rw [if_pos c4] at h
        refine lv_iload_n hx hb dX12_leans_37 rfl (lv_at hl 1 rfl) ?_
        exact J38 x2 x3 x1 h _ (lv_sub hl [0, 2, 3] rfl)
      · rw [if_neg c4] at h
        refine lv_iload_n hx hb dX12_leans_33 rfl (lv_at hl 3 rfl) ?_
        refine lv_goto (tgt := 38) hx hb dX12_leans_34 (by decide) ?_
        exact J38 x2 x3 x3 h _ (lv_sub hl [0, 2, 3] rfl)
set_option maxHeartbeats 4000000 in
set_option maxRecDepth 100000 in
theorem c_X12_leans {l : Launch} {D : va_G} {cy : Nat → ClassId} {ad : Nat → Nat} {σ τ : Sx} {R : Room} (hI : gInj ad) (hRf : 0 ≤ R.frames) (hRl : 0 ≤ R.locals) {out : Int32} (h : m_X12_leans τ = some out) : Met l yX12_leans [Cond.code yX12_leans cX12_leans 4 (some .int)] R (va_Pc [.ref (ad 66)] (gB D cy ad σ τ)) (rQi out) 0 0 noA := by
  refine zstart [.ref (ad 66)] (by decide) rfl hI (Nat.le_of_ble_eq_true rfl) ?_
  intro p e s m below meth c Z hr hlk hP ls hl
  have hx := Z.x
  have hb := Z.b
  generalize hargs : ([.ref (ad 66)] : List Value).toArray = args
  have hl : lv_has ls 4 [(0, .ref (ad 66))] := hl
  unfold m_X12_leans at h
  refine lv_iconst (v := 0) hx hb dX12_leans_0 (by decide) ?_
  refine lv_istore_n (lv' := [(1, .int 0), (0, .ref (ad 66))]) hx hb dX12_leans_1 rfl hl (by decide) rfl (fun ls hl => ?_)
  refine lv_iconst (v := 0) hx hb dX12_leans_2 (by decide) ?_
  refine lv_istore_n (lv' := [(2, .int 0), (1, .int 0), (0, .ref (ad 66))]) hx hb dX12_leans_3 rfl hl (by decide) rfl (fun ls hl => ?_)
  refine lv_iconst (v := 1) hx hb dX12_leans_4 (by decide) ?_
  refine lv_istore_n (lv' := [(3, .int 1), (2, .int 0), (1, .int 0), (0, .ref (ad 66))]) hx hb dX12_leans_5 rfl hl (by decide) rfl (fun ls hl => ?_)
  obtain ⟨y8, hy8, h⟩ := bd h
  refine w_X12_leans_L6 Z hP hr hlk hRf hRl out FU 0 0 1 y8 hy8 _ (lv_sub hl [3, 2, 1, 0] rfl) (fun ls hl => ?_)
  refine lv_aload_n hx hb dX12_leans_70 rfl (lv_at hl 0 rfl) ?_
  refine fg_66_12 Z hP wF_X12_127 dX12_leans_71 ?_
  refine lv_iconst (v := 2) hx hb dX12_leans_74 (by decide) ?_
  refine lv_icmp_ge (tgt := 83) hx hb dX12_leans_75 (by decide) (fun c9 => ?_) (fun c9 => ?_)
  · rw [if_pos c9] at h
    refine lv_bipush (v := 10) hx hb dX12_leans_83 (by decide) ?_
    refine lv_iload_n hx hb dX12_leans_85 rfl (lv_at hl 1 rfl) ?_
    refine lv_imul hx hb dX12_leans_86 ?_
    refine lv_iload_n hx hb dX12_leans_87 rfl (lv_at hl 2 rfl) ?_
    refine lv_iadd hx hb dX12_leans_88 ?_
    exact zri Z hr hlk h dX12_leans_89
  · rw [if_neg c9] at h
    refine lv_bipush (v := (-9)) hx hb dX12_leans_78 (by decide) ?_
    refine lv_goto (tgt := 89) hx hb dX12_leans_80 (by decide) ?_
    exact zri Z hr hlk h dX12_leans_89
def m_X12_now (τ : Sx) (x1 : Int32) : Option (Int32 × Sx) :=
  (m_X12_in x1 0 7).bind (fun v1 => if v1 = 0 then (some (((-1), (sg τ 0 0)))) else (if 4 ≤ x1 then (if x1 = 4 then ((ldA mLn ((sg τ 0 0)) 4 2).bind (fun v9 => some ((v9, (sg τ 0 0))))) else (if x1 = 5 then ((m_X12_fair ((sg τ 0 0))).bind (fun v8 => some ((v8, (sg τ 0 0))))) else (if x1 = 6 then ((m_X12_leans ((sg τ 0 0))).bind (fun v7 => some ((v7, (sg τ 0 0))))) else (some (((((sg τ 0 0)).1 15), (sg τ 0 0))))))) else (if x1 = 0 then ((ldA mLn ((sg τ 0 0)) 4 0).bind (fun v16 => some ((v16, (sg τ 0 0))))) else (if x1 = 1 then ((ldA mLn ((sg τ 0 0)) 4 1).bind (fun v15 => some ((v15, (sg τ 0 0))))) else (if x1 = 2 then ((m_X12_outOnes_s ((sg τ 0 0))).bind (fun v14 => some ((v14, (sg τ 0 0))))) else ((ldA mLn ((sg τ 0 0)) 4 3).bind (fun v13 => some ((v13, (sg τ 0 0))))))))))
set_option maxHeartbeats 4000000 in
set_option maxRecDepth 100000 in
theorem c_X12_now {l : Launch} {D : va_G} {cy : Nat → ClassId} {ad : Nat → Nat} {σ τ : Sx} {R : Room} (hI : gInj ad) (hRf : 1 ≤ R.frames) (hRl : 23 ≤ R.locals) {x1 : Int32} {out : Int32 × Sx} (h : m_X12_now τ x1 = some out) : Met l yX12_now [Cond.code yX12_now cX12_now 2 (some .int)] R (va_Pc [.ref (ad 66), .int x1] (gB D cy ad σ τ)) (mQi D cy ad σ out) 0 0 (gA ad) := by
  refine zstart [.ref (ad 66), .int x1] (by decide) rfl hI (Nat.le_of_ble_eq_true rfl) ?_
  intro p e s m below meth c Z hr hlk hP ls hl
  have hx := Z.x
  have hb := Z.b
  generalize hargs : ([.ref (ad 66), .int x1] : List Value).toArray = args
  have hl : lv_has ls 2 [(0, .ref (ad 66)), (1, .int x1)] := hl
  have hS : va_S (gA ad) s.heap s.heap [] := va_S.rf
  unfold m_X12_now at h
  refine lv_aload_n hx hb dX12_now_0 rfl (lv_at hl 0 rfl) ?_
  refine lv_iconst (v := 0) hx hb dX12_now_1 (by decide) ?_
  refine fp_66_0 Z hP hS wF_X12_61 dX12_now_2 (fun H locs hP hS => ?_)
  refine lv_iload_n hx hb dX12_now_5 rfl (lv_at hl 1 rfl) ?_
  refine lv_iconst (v := 0) hx hb dX12_now_6 (by decide) ?_
  refine lv_bipush (v := 7) hx hb dX12_now_7 (by decide) ?_
  obtain ⟨v1, hv1, h⟩ := bd h
  refine zqi (zrunS Z hP (As := [.int x1, .int 0, .int 7]) (rest := []) (c_X12_in (R := { frames := 0, cells := 0, slots := 0, locals := 0 }) Z.i (Nat.le_refl _) (Nat.le_refl _) hv1) cV_X12_64 rfl rfl ⟨(Nat.le_trans (Nat.le_of_ble_eq_true rfl) hRf), (Nat.le_trans (Nat.le_of_ble_eq_true rfl) hRl)⟩ rfl hl.1 rfl (Nat.le_of_ble_eq_true rfl) dX12_now_9 ⟨Nat.zero_le _, Nat.zero_le _⟩) ?_
  refine lv_if_ne (tgt := 17) hx hb dX12_now_12 (by decide) (fun c2 => ?_) (fun c2 => ?_)
  · rw [if_neg c2] at h
    refine lv_iload_n hx hb dX12_now_17 rfl (lv_at hl 1 rfl) ?_
    refine lv_iconst (v := 4) hx hb dX12_now_18 (by decide) ?_
    refine lv_icmp_ge (tgt := 72) hx hb dX12_now_19 (by decide) (fun c3 => ?_) (fun c3 => ?_)
    · rw [if_pos c3] at h
      refine lv_iload_n hx hb dX12_now_72 rfl (lv_at hl 1 rfl) ?_
      refine lv_iconst (v := 4) hx hb dX12_now_73 (by decide) ?_
      refine lv_icmp_ne (tgt := 86) hx hb dX12_now_74 (by decide) (fun c4 => ?_) (fun c4 => ?_)
      · rw [if_neg c4] at h
        refine lv_iload_n hx hb dX12_now_86 rfl (lv_at hl 1 rfl) ?_
        refine lv_iconst (v := 5) hx hb dX12_now_87 (by decide) ?_
        refine lv_icmp_ne (tgt := 98) hx hb dX12_now_88 (by decide) (fun c5 => ?_) (fun c5 => ?_)
        · rw [if_neg c5] at h
          refine lv_iload_n hx hb dX12_now_98 rfl (lv_at hl 1 rfl) ?_
          refine lv_bipush (v := 6) hx hb dX12_now_99 (by decide) ?_
          refine lv_icmp_ne (tgt := 111) hx hb dX12_now_101 (by decide) (fun c6 => ?_) (fun c6 => ?_)
          · rw [if_neg c6] at h
            refine lv_aload_n hx hb dX12_now_111 rfl (lv_at hl 0 rfl) ?_
            refine fg_66_25 Z hP wF_X12_136 dX12_now_112 ?_
            exact zmi Z hP hS hr hlk h dX12_now_115
          · rw [if_pos c6] at h
            refine lv_aload_n hx hb dX12_now_104 rfl (lv_at hl 0 rfl) ?_
            obtain ⟨v7, hv7, h⟩ := bd h
            refine zqi (zrunV Z hP (As := []) (rest := []) (c_X12_leans (R := { frames := 0, cells := 0, slots := 0, locals := 0 }) Z.i (Nat.le_refl _) (Nat.le_refl _) hv7) cV_X12_180 rfl rfl ⟨(Nat.le_trans (Nat.le_of_ble_eq_true rfl) hRf), (Nat.le_trans (Nat.le_of_ble_eq_true rfl) hRl)⟩ 66 (gW_mo.trans rfl) rfl rfl rfl hl.1 rfl (Nat.le_of_ble_eq_true rfl) dX12_now_105 ⟨Nat.zero_le _, Nat.zero_le _⟩) ?_
            refine lv_goto (tgt := 115) hx hb dX12_now_108 (by decide) ?_
            exact zmi Z hP hS hr hlk h dX12_now_115
        · rw [if_pos c5] at h
          refine lv_aload_n hx hb dX12_now_91 rfl (lv_at hl 0 rfl) ?_
          obtain ⟨v8, hv8, h⟩ := bd h
          refine zqi (zrunV Z hP (As := []) (rest := []) (c_X12_fair (R := { frames := 0, cells := 0, slots := 0, locals := 0 }) Z.i (Nat.le_refl _) (Nat.le_refl _) hv8) cV_X12_176 rfl rfl ⟨(Nat.le_trans (Nat.le_of_ble_eq_true rfl) hRf), (Nat.le_trans (Nat.le_of_ble_eq_true rfl) hRl)⟩ 66 (gW_mo.trans rfl) rfl rfl rfl hl.1 rfl (Nat.le_of_ble_eq_true rfl) dX12_now_92 ⟨Nat.zero_le _, Nat.zero_le _⟩) ?_
          refine lv_goto (tgt := 115) hx hb dX12_now_95 (by decide) ?_
          exact zmi Z hP hS hr hlk h dX12_now_115
      · rw [if_pos c4] at h
        refine lv_aload_n hx hb dX12_now_77 rfl (lv_at hl 0 rfl) ?_
        refine fg_66_20 Z hP wF_X12_22 dX12_now_78 ?_
        refine lv_iconst (v := 2) hx hb dX12_now_81 (by decide) ?_
        obtain ⟨v9, hv9, h⟩ := bd h
        refine zm_ld (j := 4) Z hP hv9 dX12_now_82 ?_
        refine lv_goto (tgt := 115) hx hb dX12_now_83 (by decide) ?_
        exact zmi Z hP hS hr hlk h dX12_now_115
    · rw [if_neg c3] at h
      refine lv_iload_n hx hb dX12_now_22 rfl (lv_at hl 1 rfl) ?_
      refine lv_if_ne (tgt := 35) hx hb dX12_now_23 (by decide) (fun c10 => ?_) (fun c10 => ?_)
      · rw [if_neg c10] at h
        refine lv_iload_n hx hb dX12_now_35 rfl (lv_at hl 1 rfl) ?_
        refine lv_iconst (v := 1) hx hb dX12_now_36 (by decide) ?_
        refine lv_icmp_ne (tgt := 49) hx hb dX12_now_37 (by decide) (fun c11 => ?_) (fun c11 => ?_)
        · rw [if_neg c11] at h
          refine lv_iload_n hx hb dX12_now_49 rfl (lv_at hl 1 rfl) ?_
          refine lv_iconst (v := 2) hx hb dX12_now_50 (by decide) ?_
          refine lv_icmp_ne (tgt := 65) hx hb dX12_now_51 (by decide) (fun c12 => ?_) (fun c12 => ?_)
          · rw [if_neg c12] at h
            refine lv_aload_n hx hb dX12_now_65 rfl (lv_at hl 0 rfl) ?_
            refine fg_66_20 Z hP wF_X12_22 dX12_now_66 ?_
            refine lv_iconst (v := 3) hx hb dX12_now_69 (by decide) ?_
            obtain ⟨v13, hv13, h⟩ := bd h
            refine zm_ld (j := 4) Z hP hv13 dX12_now_70 ?_
            exact zmi Z hP hS hr hlk h dX12_now_71
          · rw [if_pos c12] at h
            refine lv_aload_n hx hb dX12_now_54 rfl (lv_at hl 0 rfl) ?_
            refine lv_aload_n hx hb dX12_now_55 rfl (lv_at hl 0 rfl) ?_
            refine fg_66_20 Z hP wF_X12_22 dX12_now_56 ?_
            obtain ⟨v14, hv14, h⟩ := bd h
            refine zqi (zrunV Z hP (As := [.ref (ad (67 + 4))]) (rest := []) (c_X12_outOnes_s (R := { frames := 0, cells := 0, slots := 0, locals := 0 }) Z.i (Nat.le_refl _) (Nat.le_refl _) hv14) cV_X12_172 rfl rfl ⟨(Nat.le_trans (Nat.le_of_ble_eq_true rfl) hRf), (Nat.le_trans (Nat.le_of_ble_eq_true rfl) hRl)⟩ 66 (gW_mo.trans rfl) rfl rfl rfl hl.1 rfl (Nat.le_of_ble_eq_true rfl) dX12_now_59 ⟨Nat.zero_le _, Nat.zero_le _⟩) ?_
            refine lv_goto (tgt := 71) hx hb dX12_now_62 (by decide) ?_
            exact zmi Z hP hS hr hlk h dX12_now_71
        · rw [if_pos c11] at h
          refine lv_aload_n hx hb dX12_now_40 rfl (lv_at hl 0 rfl) ?_
          refine fg_66_20 Z hP wF_X12_22 dX12_now_41 ?_
          refine lv_iconst (v := 1) hx hb dX12_now_44 (by decide) ?_
          obtain ⟨v15, hv15, h⟩ := bd h
          refine zm_ld (j := 4) Z hP hv15 dX12_now_45 ?_
          refine lv_goto (tgt := 71) hx hb dX12_now_46 (by decide) ?_
          exact zmi Z hP hS hr hlk h dX12_now_71
      · rw [if_pos c10] at h
        refine lv_aload_n hx hb dX12_now_26 rfl (lv_at hl 0 rfl) ?_
        refine fg_66_20 Z hP wF_X12_22 dX12_now_27 ?_
        refine lv_iconst (v := 0) hx hb dX12_now_30 (by decide) ?_
        obtain ⟨v16, hv16, h⟩ := bd h
        refine zm_ld (j := 4) Z hP hv16 dX12_now_31 ?_
        refine lv_goto (tgt := 71) hx hb dX12_now_32 (by decide) ?_
        exact zmi Z hP hS hr hlk h dX12_now_71
  · rw [if_pos c2] at h
    refine lv_iconst (v := (-1)) hx hb dX12_now_15 (by decide) ?_
    exact zmi Z hP hS hr hlk h dX12_now_16
def m_X12_asNow_L2  : Nat → Int32 → Sx → Option (Sx)
  | 0, _, _ => none
  | n + 1, x1, τ =>
  if 14 ≤ x1 then (some τ) else ((ldA mLn τ 4 x1).bind (fun v2 => (stA mLn τ 5 x1 v2).bind (fun q3 => m_X12_asNow_L2 n ((x1 + 1)) q3)))
def m_X12_asNow (τ : Sx) : Option (Sx) :=
  (m_X12_asNow_L2 FU 0 τ).bind (fun y4 => some y4)
set_option maxHeartbeats 4000000 in
set_option maxRecDepth 100000 in
theorem w_X12_asNow_L2 {l : Launch} {D : va_G} {cy : Nat → ClassId} {ad : Nat → Nat} {σ : Sx} {p : Program} {e : Env} {R : Room} {s : State} {m : MethodId} {args : Array Value} {below : List Frame} {meth : Method} {c : Code} (Z : Zc p s m c cX12_asNow 2 RX12 D cy ad) (hr : meth.sig.returnType = none) (hlk : meth.locks = false) (hRf : 0 ≤ R.frames) (hRl : 0 ≤ R.locals) (out : Sx) : ∀ (n : Nat) (x1 : Int32) (τ : Sx) (res : Sx), m_X12_asNow_L2 n x1 τ = some res → ∀ (H : Heap) (locs : List Loc), va_P D vwCl (gW cy ad σ τ) H → va_S (gA ad) s.heap H locs → ∀ ls : Array Slot, lv_has ls 2 [(0, .ref (ad 66)), (1, .int x1)] → (∀ (H : Heap) (locs : List Loc), va_P D vwCl (gW cy ad σ res) H → va_S (gA ad) s.heap H locs → ∀ ls : Array Slot, lv_has ls 2 [] → W p l e R s m args below meth c H locs 0 0 (MQ below (mQv D cy ad σ out) args s 0 0 (gA ad)) (F0 m 26 ls [])) → W p l e R s m args below meth c H locs 0 0 (MQ below (mQv D cy ad σ out) args s 0 0 (gA ad)) (F0 m 2 ls []) := by
  have hx := Z.x
  have hb := Z.b
  intro n
  induction n with
  | zero => intro x1 τ res h; cases h
  | succ n ih =>
    intro x1 τ res h H locs hP hS ls hl kx
    rw [m_X12_asNow_L2] at h
    refine lv_iload_n hx hb dX12_asNow_2 rfl (lv_at hl 1 rfl) ?_
    refine lv_bipush (v := 14) hx hb dX12_asNow_3 (by decide) ?_
    refine lv_icmp_ge (tgt := 26) hx hb dX12_asNow_5 (by decide) (fun c1 => ?_) (fun c1 => ?_)
    · rw [if_pos c1] at h
      obtain rfl := Option.some.inj h
      exact kx _ _ hP hS _ (lv_sub hl [] rfl)
    · rw [if_neg c1] at h
      refine lv_aload_n hx hb dX12_asNow_8 rfl (lv_at hl 0 rfl) ?_
      refine fg_66_21 Z hP wF_X12_25 dX12_asNow_9 ?_
      refine lv_iload_n hx hb dX12_asNow_12 rfl (lv_at hl 1 rfl) ?_
      refine lv_aload_n hx hb dX12_asNow_13 rfl (lv_at hl 0 rfl) ?_
      refine fg_66_20 Z hP wF_X12_22 dX12_asNow_14 ?_
      refine lv_iload_n hx hb dX12_asNow_17 rfl (lv_at hl 1 rfl) ?_
      obtain ⟨v2, hv2, h⟩ := bd h
      refine zm_ld (j := 4) Z hP hv2 dX12_asNow_18 ?_
      obtain ⟨q3, hq3, h⟩ := bd h
      refine zm_st (j := 5) Z hP hS hq3 dX12_asNow_19 (fun H locs hP hS => ?_)
      refine lv_iinc (v := (x1 + 1)) (lv' := [(1, .int (x1 + 1)), (0, .ref (ad 66))]) hx hb dX12_asNow_20 hl (k := 1) rfl rfl (by decide) rfl (fun ls hl => ?_)
      refine lv_goto (tgt := 2) hx hb dX12_asNow_23 (by decide) ?_
      exact ih ((x1 + 1)) q3 _ h _ _ hP hS _ (lv_sub hl [1, 0] rfl) kx
set_option maxHeartbeats 4000000 in
set_option maxRecDepth 100000 in
theorem c_X12_asNow {l : Launch} {D : va_G} {cy : Nat → ClassId} {ad : Nat → Nat} {σ τ : Sx} {R : Room} (hI : gInj ad) (hRf : 0 ≤ R.frames) (hRl : 0 ≤ R.locals) {out : Sx} (h : m_X12_asNow τ = some out) : Met l yX12_asNow [Cond.code yX12_asNow cX12_asNow 2 none] R (va_Pc [.ref (ad 66)] (gB D cy ad σ τ)) (mQv D cy ad σ out) 0 0 (gA ad) := by
  refine zstart [.ref (ad 66)] (by decide) rfl hI (Nat.le_of_ble_eq_true rfl) ?_
  intro p e s m below meth c Z hr hlk hP ls hl
  have hx := Z.x
  have hb := Z.b
  generalize hargs : ([.ref (ad 66)] : List Value).toArray = args
  have hl : lv_has ls 2 [(0, .ref (ad 66))] := hl
  have hS : va_S (gA ad) s.heap s.heap [] := va_S.rf
  unfold m_X12_asNow at h
  refine lv_iconst (v := 0) hx hb dX12_asNow_0 (by decide) ?_
  refine lv_istore_n (lv' := [(1, .int 0), (0, .ref (ad 66))]) hx hb dX12_asNow_1 rfl hl (by decide) rfl (fun ls hl => ?_)
  obtain ⟨y4, hy4, h⟩ := bd h
  refine w_X12_asNow_L2 Z hr hlk hRf hRl out FU 0 τ y4 hy4 _ _ hP hS _ (lv_sub hl [1, 0] rfl) (fun H locs hP hS ls hl => ?_)
  exact zmv Z hP hS hr hlk h dX12_asNow_26
def m_X12_choose_L7  : Nat → Int32 → Sx → Option (Sx)
  | 0, _, _ => none
  | n + 1, x1, τ =>
  if ((1 : Int32) <<< ((τ.1 7) &&& 31)) ≤ x1 then (some τ) else ((m_X12_isSet τ x1).bind (fun v2 => if v2 = 0 then (m_X12_choose_L7 n ((x1 + 1)) τ) else ((stA mLn τ 11 ((τ.1 17)) x1).bind (fun q4 => m_X12_choose_L7 n ((x1 + 1)) ((sg q4 17 (((q4.1 17) + 1))))))))
def m_X12_choose (τ : Sx) : Option (Sx) :=
  (m_X12_choose_L7 FU 0 ((sg τ 17 0))).bind (fun y5 => some y5)
set_option maxHeartbeats 4000000 in
set_option maxRecDepth 100000 in
theorem w_X12_choose_L7 {l : Launch} {D : va_G} {cy : Nat → ClassId} {ad : Nat → Nat} {σ : Sx} {p : Program} {e : Env} {R : Room} {s : State} {m : MethodId} {args : Array Value} {below : List Frame} {meth : Method} {c : Code} (Z : Zc p s m c cX12_choose 2 RX12 D cy ad) (hr : meth.sig.returnType = none) (hlk : meth.locks = false) (hRf : 2 ≤ R.frames) (hRl : 43 ≤ R.locals) (out : Sx) : ∀ (n : Nat) (x1 : Int32) (τ : Sx) (res : Sx), m_X12_choose_L7 n x1 τ = some res → ∀ (H : Heap) (locs : List Loc), va_P D vwCl (gW cy ad σ τ) H → va_S (gA ad) s.heap H locs → ∀ ls : Array Slot, lv_has ls 2 [(0, .ref (ad 66)), (1, .int x1)] → (∀ (H : Heap) (locs : List Loc), va_P D vwCl (gW cy ad σ res) H → va_S (gA ad) s.heap H locs → ∀ ls : Array Slot, lv_has ls 2 [] → W p l e R s m args below meth c H locs 0 0 (MQ below (mQv D cy ad σ out) args s 0 0 (gA ad)) (F0 m 51 ls [])) → W p l e R s m args below meth c H locs 0 0 (MQ below (mQv D cy ad σ out) args s 0 0 (gA ad)) (F0 m 7 ls []) := by
  have hx := Z.x
  have hb := Z.b
  intro n
  induction n with
  | zero => intro x1 τ res h; cases h
  | succ n ih =>
    intro x1 τ res h H locs hP hS ls hl kx
    rw [m_X12_choose_L7] at h
    refine lv_iload_n hx hb dX12_choose_7 rfl (lv_at hl 1 rfl) ?_
    refine lv_iconst (v := 1) hx hb dX12_choose_8 (by decide) ?_
    refine lv_aload_n hx hb dX12_choose_9 rfl (lv_at hl 0 rfl) ?_
    refine fg_66_12 Z hP wF_X12_127 dX12_choose_10 ?_
    refine lv_ishl hx hb dX12_choose_13 ?_
    refine lv_icmp_ge (tgt := 51) hx hb dX12_choose_14 (by decide) (fun c1 => ?_) (fun c1 => ?_)
    · rw [if_pos c1] at h
      obtain rfl := Option.some.inj h
      exact kx _ _ hP hS _ (lv_sub hl [] rfl)
    · rw [if_neg c1] at h
      refine lv_aload_n hx hb dX12_choose_17 rfl (lv_at hl 0 rfl) ?_
      refine lv_iload_n hx hb dX12_choose_18 rfl (lv_at hl 1 rfl) ?_
      obtain ⟨v2, hv2, h⟩ := bd h
      refine zqi (zrunV Z hP (As := [.int x1]) (rest := []) (c_X12_isSet (R := { frames := 1, cells := 0, slots := 0, locals := 22 }) Z.i (Nat.le_refl _) (Nat.le_refl _) hv2) cV_X12_158 rfl rfl ⟨(Nat.le_trans (Nat.le_of_ble_eq_true rfl) hRf), (Nat.le_trans (Nat.le_of_ble_eq_true rfl) hRl)⟩ 66 (gW_mo.trans rfl) rfl rfl rfl hl.1 rfl (Nat.le_of_ble_eq_true rfl) dX12_choose_19 ⟨Nat.zero_le _, Nat.zero_le _⟩) ?_
      refine lv_if_eq (tgt := 45) hx hb dX12_choose_22 (by decide) (fun c3 => ?_) (fun c3 => ?_)
      · rw [if_pos c3] at h
        refine lv_iinc (v := (x1 + 1)) (lv' := [(1, .int (x1 + 1)), (0, .ref (ad 66))]) hx hb dX12_choose_45 hl (k := 1) rfl rfl (by decide) rfl (fun ls hl => ?_)
        refine lv_goto (tgt := 7) hx hb dX12_choose_48 (by decide) ?_
        exact ih ((x1 + 1)) τ _ h _ _ hP hS _ (lv_sub hl [1, 0] rfl) kx
      · rw [if_neg c3] at h
        refine lv_aload_n hx hb dX12_choose_25 rfl (lv_at hl 0 rfl) ?_
        refine fg_66_32 Z hP wF_X12_54 dX12_choose_26 ?_
        refine lv_aload_n hx hb dX12_choose_29 rfl (lv_at hl 0 rfl) ?_
        refine fg_66_33 Z hP wF_X12_183 dX12_choose_30 ?_
        refine lv_iload_n hx hb dX12_choose_33 rfl (lv_at hl 1 rfl) ?_
        obtain ⟨q4, hq4, h⟩ := bd h
        refine zm_st (j := 11) Z hP hS hq4 dX12_choose_34 (fun H locs hP hS => ?_)
        refine lv_aload_n hx hb dX12_choose_35 rfl (lv_at hl 0 rfl) ?_
        refine lv_dup hx hb dX12_choose_36 rfl ?_
        refine fg_66_33 Z hP wF_X12_183 dX12_choose_37 ?_
        refine lv_iconst (v := 1) hx hb dX12_choose_40 (by decide) ?_
        refine lv_iadd hx hb dX12_choose_41 ?_
        refine fp_66_33 Z hP hS wF_X12_183 dX12_choose_42 (fun H locs hP hS => ?_)
        refine lv_iinc (v := (x1 + 1)) (lv' := [(1, .int (x1 + 1)), (0, .ref (ad 66))]) hx hb dX12_choose_45 hl (k := 1) rfl rfl (by decide) rfl (fun ls hl => ?_)
        refine lv_goto (tgt := 7) hx hb dX12_choose_48 (by decide) ?_
        exact ih ((x1 + 1)) ((sg q4 17 (((q4.1 17) + 1)))) _ h _ _ hP hS _ (lv_sub hl [1, 0] rfl) kx
set_option maxHeartbeats 4000000 in
set_option maxRecDepth 100000 in
theorem c_X12_choose {l : Launch} {D : va_G} {cy : Nat → ClassId} {ad : Nat → Nat} {σ τ : Sx} {R : Room} (hI : gInj ad) (hRf : 2 ≤ R.frames) (hRl : 43 ≤ R.locals) {out : Sx} (h : m_X12_choose τ = some out) : Met l yX12_choose [Cond.code yX12_choose cX12_choose 2 none] R (va_Pc [.ref (ad 66)] (gB D cy ad σ τ)) (mQv D cy ad σ out) 0 0 (gA ad) := by
  refine zstart [.ref (ad 66)] (by decide) rfl hI (Nat.le_of_ble_eq_true rfl) ?_
  intro p e s m below meth c Z hr hlk hP ls hl
  have hx := Z.x
  have hb := Z.b
  generalize hargs : ([.ref (ad 66)] : List Value).toArray = args
  have hl : lv_has ls 2 [(0, .ref (ad 66))] := hl
  have hS : va_S (gA ad) s.heap s.heap [] := va_S.rf
  unfold m_X12_choose at h
  refine lv_aload_n hx hb dX12_choose_0 rfl (lv_at hl 0 rfl) ?_
  refine lv_iconst (v := 0) hx hb dX12_choose_1 (by decide) ?_
  refine fp_66_33 Z hP hS wF_X12_183 dX12_choose_2 (fun H locs hP hS => ?_)
  refine lv_iconst (v := 0) hx hb dX12_choose_5 (by decide) ?_
  refine lv_istore_n (lv' := [(1, .int 0), (0, .ref (ad 66))]) hx hb dX12_choose_6 rfl hl (by decide) rfl (fun ls hl => ?_)
  obtain ⟨y5, hy5, h⟩ := bd h
  refine w_X12_choose_L7 Z hr hlk hRf hRl out FU 0 ((sg τ 17 0)) y5 hy5 _ _ hP hS _ (lv_sub hl [1, 0] rfl) (fun H locs hP hS ls hl => ?_)
  exact zmv Z hP hS hr hlk h dX12_choose_51
def m_X12_tries_L16  : Nat → Int32 → Int32 → Int32 → Int32 → Sx → Option (Sx)
  | 0, _, _, _, _, _ => none
  | n + 1, x1, x2, x3, x4, τ =>
  if x2 ≤ x4 then (some τ) else ((dvI x3 ((τ.1 17))).bind (fun v4 => (dvI x1 v4).bind (fun v5 => (rmI v5 ((τ.1 17))).bind (fun v6 => (ldA mLn τ 11 v6).bind (fun v7 => (stA mLn τ 9 x4 v7).bind (fun q8 => (ldA mLn q8 9 x4).bind (fun v9 => (m_X12_sets_w q8 v9).bind (fun q10 => (m_X12_goes_w q10).bind (fun q11 => m_X12_tries_L16 n x1 x2 v4 ((x4 + 1)) q11)))))))))
def m_X12_tries (τ : Sx) (x1 : Int32) (x2 : Int32) : Option (Sx) :=
  (m_X12_power ((τ.1 17)) x2).bind (fun v1 => (m_X12_asNow τ).bind (fun q2 => (m_X12_tries_L16 FU x1 x2 v1 0 q2).bind (fun y12 => some y12)))
set_option maxHeartbeats 4000000 in
set_option maxRecDepth 100000 in
theorem w_X12_tries_L16 {l : Launch} {D : va_G} {cy : Nat → ClassId} {ad : Nat → Nat} {σ : Sx} {p : Program} {e : Env} {R : Room} {s : State} {m : MethodId} {args : Array Value} {below : List Frame} {meth : Method} {c : Code} (Z : Zc p s m c cX12_tries 5 RX12 D cy ad) (hr : meth.sig.returnType = none) (hlk : meth.locks = false) (hRf : 3 ≤ R.frames) (hRl : 69 ≤ R.locals) (out : Sx) : ∀ (n : Nat) (x1 : Int32) (x2 : Int32) (x3 : Int32) (x4 : Int32) (τ : Sx) (res : Sx), m_X12_tries_L16 n x1 x2 x3 x4 τ = some res → ∀ (H : Heap) (locs : List Loc), va_P D vwCl (gW cy ad σ τ) H → va_S (gA ad) s.heap H locs → ∀ ls : Array Slot, lv_has ls 5 [(0, .ref (ad 66)), (1, .int x1), (2, .int x2), (3, .int x3), (4, .int x4)] → (∀ (H : Heap) (locs : List Loc), va_P D vwCl (gW cy ad σ res) H → va_S (gA ad) s.heap H locs → ∀ ls : Array Slot, lv_has ls 5 [] → W p l e R s m args below meth c H locs 0 0 (MQ below (mQv D cy ad σ out) args s 0 0 (gA ad)) (F0 m 77 ls [])) → W p l e R s m args below meth c H locs 0 0 (MQ below (mQv D cy ad σ out) args s 0 0 (gA ad)) (F0 m 16 ls []) := by
  have hx := Z.x
  have hb := Z.b
  intro n
  induction n with
  | zero => intro x1 x2 x3 x4 τ res h; cases h
  | succ n ih =>
    intro x1 x2 x3 x4 τ res h H locs hP hS ls hl kx
    rw [m_X12_tries_L16] at h
    refine lv_iload hx hb dX12_tries_16 (lv_at hl 4 rfl) ?_
    refine lv_iload_n hx hb dX12_tries_18 rfl (lv_at hl 2 rfl) ?_
    refine lv_icmp_ge (tgt := 77) hx hb dX12_tries_19 (by decide) (fun c3 => ?_) (fun c3 => ?_)
    · rw [if_pos c3] at h
      obtain rfl := Option.some.inj h
      exact kx _ _ hP hS _ (lv_sub hl [] rfl)
    · rw [if_neg c3] at h
      refine lv_iload_n hx hb dX12_tries_22 rfl (lv_at hl 3 rfl) ?_
      refine lv_aload_n hx hb dX12_tries_23 rfl (lv_at hl 0 rfl) ?_
      refine fg_66_33 Z hP wF_X12_183 dX12_tries_24 ?_
      obtain ⟨v4, hv4, h⟩ := bd h
      refine zdiv Z hv4 dX12_tries_27 ?_
      refine lv_istore_n (lv' := [(3, .int v4), (0, .ref (ad 66)), (1, .int x1), (2, .int x2), (4, .int x4)]) hx hb dX12_tries_28 rfl hl (by decide) rfl (fun ls hl => ?_)
      refine lv_aload_n hx hb dX12_tries_29 rfl (lv_at hl 1 rfl) ?_
      refine fg_66_28 Z hP wF_X12_41 dX12_tries_30 ?_
      refine lv_iload hx hb dX12_tries_33 (lv_at hl 4 rfl) ?_
      refine lv_aload_n hx hb dX12_tries_35 rfl (lv_at hl 1 rfl) ?_
      refine fg_66_32 Z hP wF_X12_54 dX12_tries_36 ?_
      refine lv_iload_n hx hb dX12_tries_39 rfl (lv_at hl 2 rfl) ?_
      refine lv_iload_n hx hb dX12_tries_40 rfl (lv_at hl 0 rfl) ?_
      obtain ⟨v5, hv5, h⟩ := bd h
      refine zdiv Z hv5 dX12_tries_41 ?_
      refine lv_aload_n hx hb dX12_tries_42 rfl (lv_at hl 1 rfl) ?_
      refine fg_66_33 Z hP wF_X12_183 dX12_tries_43 ?_
      obtain ⟨v6, hv6, h⟩ := bd h
      refine zrem Z hv6 dX12_tries_46 ?_
      obtain ⟨v7, hv7, h⟩ := bd h
      refine zm_ld (j := 11) Z hP hv7 dX12_tries_47 ?_
      obtain ⟨q8, hq8, h⟩ := bd h
      refine zm_st (j := 9) Z hP hS hq8 dX12_tries_48 (fun H locs hP hS => ?_)
      refine lv_aload_n hx hb dX12_tries_49 rfl (lv_at hl 1 rfl) ?_
      refine fg_66_21 Z hP wF_X12_25 dX12_tries_50 ?_
      refine lv_aload_n hx hb dX12_tries_53 rfl (lv_at hl 1 rfl) ?_
      refine fg_66_28 Z hP wF_X12_41 dX12_tries_54 ?_
      refine lv_iload hx hb dX12_tries_57 (lv_at hl 4 rfl) ?_
      obtain ⟨v9, hv9, h⟩ := bd h
      refine zm_ld (j := 9) Z hP hv9 dX12_tries_59 ?_
      obtain ⟨q10, hq10, h⟩ := bd h
      refine zwmv (zrunS Z hP (As := [.ref (ad (67 + 5)), .int v9]) (rest := []) (c_X12_sets_w (R := { frames := 0, cells := 0, slots := 0, locals := 0 }) Z.i (Nat.le_refl _) (Nat.le_refl _) hq10) cV_X12_164 rfl rfl ⟨(Nat.le_trans (Nat.le_of_ble_eq_true rfl) hRf), (Nat.le_trans (Nat.le_of_ble_eq_true rfl) hRl)⟩ rfl hl.1 rfl (Nat.le_of_ble_eq_true rfl) dX12_tries_60 ⟨Nat.zero_le _, Nat.zero_le _⟩) hS (fun H locs hP hS => ?_)
      refine lv_aload_n hx hb dX12_tries_63 rfl (lv_at hl 1 rfl) ?_
      refine lv_aload_n hx hb dX12_tries_64 rfl (lv_at hl 1 rfl) ?_
      refine fg_66_21 Z hP wF_X12_25 dX12_tries_65 ?_
      obtain ⟨q11, hq11, h⟩ := bd h
      refine zwmv (zrunV Z hP (As := [.ref (ad (67 + 5))]) (rest := []) (c_X12_goes_w (R := { frames := 2, cells := 0, slots := 0, locals := 45 }) Z.i (Nat.le_refl _) (Nat.le_refl _) hq11) cV_X12_168 rfl rfl ⟨(Nat.le_trans (Nat.le_of_ble_eq_true rfl) hRf), (Nat.le_trans (Nat.le_of_ble_eq_true rfl) hRl)⟩ 66 (gW_mo.trans rfl) rfl rfl rfl hl.1 rfl (Nat.le_of_ble_eq_true rfl) dX12_tries_68 ⟨Nat.zero_le _, Nat.zero_le _⟩) hS (fun H locs hP hS => ?_)
      refine lv_iinc (v := (x4 + 1)) (lv' := [(4, .int (x4 + 1)), (3, .int v4), (0, .ref (ad 66)), (1, .int x1), (2, .int x2)]) hx hb dX12_tries_71 hl (k := 4) rfl rfl (by decide) rfl (fun ls hl => ?_)
      refine lv_goto (tgt := 16) hx hb dX12_tries_74 (by decide) ?_
      exact ih x1 x2 v4 ((x4 + 1)) q11 _ h _ _ hP hS _ (lv_sub hl [2, 3, 4, 1, 0] rfl) kx
set_option maxHeartbeats 4000000 in
set_option maxRecDepth 100000 in
theorem c_X12_tries {l : Launch} {D : va_G} {cy : Nat → ClassId} {ad : Nat → Nat} {σ τ : Sx} {R : Room} (hI : gInj ad) (hRf : 3 ≤ R.frames) (hRl : 69 ≤ R.locals) {x1 : Int32} {x2 : Int32} {out : Sx} (h : m_X12_tries τ x1 x2 = some out) : Met l yX12_tries [Cond.code yX12_tries cX12_tries 5 none] R (va_Pc [.ref (ad 66), .int x1, .int x2] (gB D cy ad σ τ)) (mQv D cy ad σ out) 0 0 (gA ad) := by
  refine zstart [.ref (ad 66), .int x1, .int x2] (by decide) rfl hI (Nat.le_of_ble_eq_true rfl) ?_
  intro p e s m below meth c Z hr hlk hP ls hl
  have hx := Z.x
  have hb := Z.b
  generalize hargs : ([.ref (ad 66), .int x1, .int x2] : List Value).toArray = args
  have hl : lv_has ls 5 [(0, .ref (ad 66)), (1, .int x1), (2, .int x2)] := hl
  have hS : va_S (gA ad) s.heap s.heap [] := va_S.rf
  unfold m_X12_tries at h
  refine lv_aload_n hx hb dX12_tries_0 rfl (lv_at hl 0 rfl) ?_
  refine fg_66_33 Z hP wF_X12_183 dX12_tries_1 ?_
  refine lv_iload_n hx hb dX12_tries_4 rfl (lv_at hl 2 rfl) ?_
  obtain ⟨v1, hv1, h⟩ := bd h
  refine zqi (zrunS Z hP (As := [.int (τ.1 17), .int x2]) (rest := []) (c_X12_power (R := { frames := 0, cells := 0, slots := 0, locals := 0 }) Z.i (Nat.le_refl _) (Nat.le_refl _) hv1) cV_X12_186 rfl rfl ⟨(Nat.le_trans (Nat.le_of_ble_eq_true rfl) hRf), (Nat.le_trans (Nat.le_of_ble_eq_true rfl) hRl)⟩ rfl hl.1 rfl (Nat.le_of_ble_eq_true rfl) dX12_tries_5 ⟨Nat.zero_le _, Nat.zero_le _⟩) ?_
  refine lv_istore_n (lv' := [(3, .int v1), (0, .ref (ad 66)), (1, .int x1), (2, .int x2)]) hx hb dX12_tries_8 rfl hl (by decide) rfl (fun ls hl => ?_)
  refine lv_aload_n hx hb dX12_tries_9 rfl (lv_at hl 1 rfl) ?_
  obtain ⟨q2, hq2, h⟩ := bd h
  refine zwmv (zrunV Z hP (As := []) (rest := []) (c_X12_asNow (R := { frames := 0, cells := 0, slots := 0, locals := 0 }) Z.i (Nat.le_refl _) (Nat.le_refl _) hq2) cV_X12_189 rfl rfl ⟨(Nat.le_trans (Nat.le_of_ble_eq_true rfl) hRf), (Nat.le_trans (Nat.le_of_ble_eq_true rfl) hRl)⟩ 66 (gW_mo.trans rfl) rfl rfl rfl hl.1 rfl (Nat.le_of_ble_eq_true rfl) dX12_tries_10 ⟨Nat.zero_le _, Nat.zero_le _⟩) hS (fun H locs hP hS => ?_)
  refine lv_iconst (v := 0) hx hb dX12_tries_13 (by decide) ?_
  refine lv_istore (lv' := [(4, .int 0), (3, .int v1), (0, .ref (ad 66)), (1, .int x1), (2, .int x2)]) hx hb dX12_tries_14 hl (by decide) rfl (fun ls hl => ?_)
  obtain ⟨y12, hy12, h⟩ := bd h
  refine w_X12_tries_L16 Z hr hlk hRf hRl out FU x1 x2 v1 0 q2 y12 hy12 _ _ hP hS _ (lv_sub hl [2, 3, 4, 1, 0] rfl) (fun H locs hP hS ls hl => ?_)
  exact zmv Z hP hS hr hlk h dX12_tries_77
def m_X12_plans_L151  : Nat → Int32 → Int32 → Int32 → Int32 → Sx → Option (Int32 × Int32 × Int32 × Sx)
  | 0, _, _, _, _, _ => none
  | n + 1, x1, x2, x3, x8, τ =>
  if x1 ≤ x8 then (some ((x1, x2, x3, τ))) else ((ldA mLn τ 9 x8).bind (fun v14 => (stA mLn τ 10 x8 v14).bind (fun q15 => m_X12_plans_L151 n x1 x2 x3 ((x8 + 1)) q15)))
def m_X12_plans_J130 (rec : Int32 → Int32 → Int32 → Sx → Option (Sx)) (x1 : Int32) (x2 : Int32) (x3 : Int32) (x4 : Int32) (x5 : Int32) (x6 : Int32) (τ : Sx) : Option (Sx) :=
  (m_X12_plans_L151 FU x1 x2 x3 0 ((sg (sg (sg τ 18 x4) 19 x5) 20 x6))).bind (fun y16 => rec y16.1 y16.2.1 ((y16.2.2.1 + 1)) y16.2.2.2)
def m_X12_plans_J119 (rec : Int32 → Int32 → Int32 → Sx → Option (Sx)) (x1 : Int32) (x2 : Int32) (x3 : Int32) (x4 : Int32) (x5 : Int32) (x6 : Int32) (s0 : Int32) (τ : Sx) : Option (Sx) :=
  if x3 = 0 then (m_X12_plans_J130 rec x1 x2 x3 x4 x5 x6 τ) else (if s0 = 0 then (rec x1 x2 ((x3 + 1)) τ) else (m_X12_plans_J130 rec x1 x2 x3 x4 x5 x6 τ))
def m_X12_plans_J114 (rec : Int32 → Int32 → Int32 → Sx → Option (Sx)) (x1 : Int32) (x2 : Int32) (x3 : Int32) (x4 : Int32) (x5 : Int32) (x6 : Int32) (τ : Sx) : Option (Sx) :=
  m_X12_plans_J119 rec x1 x2 x3 x4 x5 x6 1 τ
def m_X12_plans_J118 (rec : Int32 → Int32 → Int32 → Sx → Option (Sx)) (x1 : Int32) (x2 : Int32) (x3 : Int32) (x4 : Int32) (x5 : Int32) (x6 : Int32) (τ : Sx) : Option (Sx) :=
  m_X12_plans_J119 rec x1 x2 x3 x4 x5 x6 0 τ
def m_X12_plans_L15  : Nat → Int32 → Int32 → Int32 → Sx → Option (Sx)
  | 0, _, _, _, _ => none
  | n + 1, x1, x2, x3, τ =>
  if x2 ≤ x3 then (some τ) else ((m_X12_tries τ x3 x1).bind (fun q4 => (ldA mLn q4 5 3).bind (fun v5 => (ldA mLn q4 4 3).bind (fun v6 => (m_X12_outOnes_w q4).bind (fun v7 => (m_X12_ones v7).bind (fun v8 => (ldA mLn q4 5 2).bind (fun v9 => (ldA mLn q4 4 2).bind (fun v10 => if (v5 - v6) < (q4.1 18) then (m_X12_plans_J114 (m_X12_plans_L15 n) x1 x2 x3 ((v5 - v6)) v8 ((v9 - v10)) q4) else (if (v5 - v6) = (q4.1 18) then (if v8 < (q4.1 19) then (m_X12_plans_J114 (m_X12_plans_L15 n) x1 x2 x3 ((v5 - v6)) v8 ((v9 - v10)) q4) else (if v8 = (q4.1 19) then (if (q4.1 20) ≤ (v9 - v10) then (m_X12_plans_J118 (m_X12_plans_L15 n) x1 x2 x3 ((v5 - v6)) v8 ((v9 - v10)) q4) else (m_X12_plans_J114 (m_X12_plans_L15 n) x1 x2 x3 ((v5 - v6)) v8 ((v9 - v10)) q4)) else (m_X12_plans_J118 (m_X12_plans_L15 n) x1 x2 x3 ((v5 - v6)) v8 ((v9 - v10)) q4))) else (m_X12_plans_J118 (m_X12_plans_L15 n) x1 x2 x3 ((v5 - v6)) v8 ((v9 - v10)) q4))))))))))
def m_X12_plans (τ : Sx) (x1 : Int32) : Option (Sx) :=
  (m_X12_choose τ).bind (fun q1 => (m_X12_power ((q1.1 17)) x1).bind (fun v2 => (m_X12_plans_L15 FU x1 v2 0 q1).bind (fun y22 => some y22)))
set_option maxHeartbeats 4000000 in
set_option maxRecDepth 100000 in
theorem w_X12_plans_L151 {l : Launch} {D : va_G} {cy : Nat → ClassId} {ad : Nat → Nat} {σ : Sx} {p : Program} {e : Env} {R : Room} {s : State} {m : MethodId} {args : Array Value} {below : List Frame} {meth : Method} {c : Code} (Z : Zc p s m c cX12_plans 9 RX12 D cy ad) (hr : meth.sig.returnType = none) (hlk : meth.locks = false) (hRf : 4 ≤ R.frames) (hRl : 93 ≤ R.locals) (out : Sx) : ∀ (n : Nat) (x1 : Int32) (x2 : Int32) (x3 : Int32) (x8 : Int32) (τ : Sx) (res : Int32 × Int32 × Int32 × Sx), m_X12_plans_L151 n x1 x2 x3 x8 τ = some res → ∀ (H : Heap) (locs : List Loc), va_P D vwCl (gW cy ad σ τ) H → va_S (gA ad) s.heap H locs → ∀ ls : Array Slot, lv_has ls 9 [(0, .ref (ad 66)), (1, .int x1), (2, .int x2), (3, .int x3), (8, .int x8)] → (∀ (H : Heap) (locs : List Loc), va_P D vwCl (gW cy ad σ res.2.2.2) H → va_S (gA ad) s.heap H locs → ∀ ls : Array Slot, lv_has ls 9 [(0, .ref (ad 66)), (1, .int res.1), (2, .int res.2.1), (3, .int res.2.2.1)] → W p l e R s m args below meth c H locs 0 0 (MQ below (mQv D cy ad σ out) args s 0 0 (gA ad)) (F0 m 177 ls [])) → W p l e R s m args below meth c H locs 0 0 (MQ below (mQv D cy ad σ out) args s 0 0 (gA ad)) (F0 m 151 ls []) := by
  have hx := Z.x
  have hb := Z.b
  intro n
  induction n with
  | zero => intro x1 x2 x3 x8 τ res h; cases h
  | succ n ih =>
    intro x1 x2 x3 x8 τ res h H locs hP hS ls hl kx
    rw [m_X12_plans_L151] at h
    refine lv_iload hx hb dX12_plans_151 (lv_at hl 4 rfl) ?_
    refine lv_iload_n hx hb dX12_plans_153 rfl (lv_at hl 1 rfl) ?_
    refine lv_icmp_ge (tgt := 177) hx hb dX12_plans_154 (by decide) (fun c13 => ?_) (fun c13 => ?_)
    · rw [if_pos c13] at h
      obtain rfl := Option.some.inj h
      exact kx _ _ hP hS _ (lv_sub hl [0, 1, 2, 3] rfl)
    · rw [if_neg c13] at h
      refine lv_aload_n hx hb dX12_plans_157 rfl (lv_at hl 0 rfl) ?_
      refine fg_66_29 Z hP wF_X12_44 dX12_plans_158 ?_
      refine lv_iload hx hb dX12_plans_161 (lv_at hl 4 rfl) ?_
      refine lv_aload_n hx hb dX12_plans_163 rfl (lv_at hl 0 rfl) ?_
      refine fg_66_28 Z hP wF_X12_41 dX12_plans_164 ?_
      refine lv_iload hx hb dX12_plans_167 (lv_at hl 4 rfl) ?_
      obtain ⟨v14, hv14, h⟩ := bd h
      refine zm_ld (j := 9) Z hP hv14 dX12_plans_169 ?_
      obtain ⟨q15, hq15, h⟩ := bd h
      refine zm_st (j := 10) Z hP hS hq15 dX12_plans_170 (fun H locs hP hS => ?_)
      refine lv_iinc (v := (x8 + 1)) (lv' := [(8, .int (x8 + 1)), (0, .ref (ad 66)), (1, .int x1), (2, .int x2), (3, .int x3)]) hx hb dX12_plans_171 hl (k := 4) rfl rfl (by decide) rfl (fun ls hl => ?_)
      refine lv_goto (tgt := 151) hx hb dX12_plans_174 (by decide) ?_
      exact ih x1 x2 x3 ((x8 + 1)) q15 _ h _ _ hP hS _ (lv_sub hl [1, 2, 3, 4, 0] rfl) kx
set_option maxHeartbeats 4000000 in
set_option maxRecDepth 100000 in
theorem w_X12_plans_L15 {l : Launch} {D : va_G} {cy : Nat → ClassId} {ad : Nat → Nat} {σ : Sx} {p : Program} {e : Env} {R : Room} {s : State} {m : MethodId} {args : Array Value} {below : List Frame} {meth : Method} {c : Code} (Z : Zc p s m c cX12_plans 9 RX12 D cy ad) (hr : meth.sig.returnType = none) (hlk : meth.locks = false) (hRf : 4 ≤ R.frames) (hRl : 93 ≤ R.locals) (out : Sx) : ∀ (n : Nat) (x1 : Int32) (x2 : Int32) (x3 : Int32) (τ : Sx) (res : Sx), m_X12_plans_L15 n x1 x2 x3 τ = some res → ∀ (H : Heap) (locs : List Loc), va_P D vwCl (gW cy ad σ τ) H → va_S (gA ad) s.heap H locs → ∀ ls : Array Slot, lv_has ls 9 [(0, .ref (ad 66)), (1, .int x1), (2, .int x2), (3, .int x3)] → (∀ (H : Heap) (locs : List Loc), va_P D vwCl (gW cy ad σ res) H → va_S (gA ad) s.heap H locs → ∀ ls : Array Slot, lv_has ls 9 [] → W p l e R s m args below meth c H locs 0 0 (MQ below (mQv D cy ad σ out) args s 0 0 (gA ad)) (F0 m 183 ls [])) → W p l e R s m args below meth c H locs 0 0 (MQ below (mQv D cy ad σ out) args s 0 0 (gA ad)) (F0 m 15 ls []) := by
  have hx := Z.x
  have hb := Z.b
  intro n
  induction n with
  | zero => intro x1 x2 x3 τ res h; cases h
  | succ n ih =>
    intro x1 x2 x3 τ res h H locs hP hS ls hl kx
    have J130 : ∀ (x1 : Int32) (x2 : Int32) (x3 : Int32) (x4 : Int32) (x5 : Int32) (x6 : Int32) (τ : Sx), m_X12_plans_J130 (m_X12_plans_L15 n) x1 x2 x3 x4 x5 x6 τ = some res → ∀ (H : Heap) (locs : List Loc), va_P D vwCl (gW cy ad σ τ) H → va_S (gA ad) s.heap H locs → ∀ ls : Array Slot, lv_has ls 9 [(0, .ref (ad 66)), (1, .int x1), (2, .int x2), (3, .int x3), (4, .int x4), (5, .int x5), (6, .int x6)] → W p l e R s m args below meth c H locs 0 0 (MQ below (mQv D cy ad σ out) args s 0 0 (gA ad)) (F0 m 130 ls []) := by
      intro x1 x2 x3 x4 x5 x6 τ h H locs hP hS ls hl
      unfold m_X12_plans_J130 at h
      refine lv_aload_n hx hb dX12_plans_130 rfl (lv_at hl 0 rfl) ?_
      refine lv_iload hx hb dX12_plans_131 (lv_at hl 4 rfl) ?_
      refine fp_66_34 Z hP hS wF_X12_199 dX12_plans_133 (fun H locs hP hS => ?_)
      refine lv_aload_n hx hb dX12_plans_136 rfl (lv_at hl 0 rfl) ?_
      refine lv_iload hx hb dX12_plans_137 (lv_at hl 5 rfl) ?_
      refine fp_66_35 Z hP hS wF_X12_202 dX12_plans_139 (fun H locs hP hS => ?_)
      refine lv_aload_n hx hb dX12_plans_142 rfl (lv_at hl 0 rfl) ?_
      refine lv_iload hx hb dX12_plans_143 (lv_at hl 6 rfl) ?_
      refine fp_66_36 Z hP hS wF_X12_205 dX12_plans_145 (fun H locs hP hS => ?_)
      refine lv_iconst (v := 0) hx hb dX12_plans_148 (by decide) ?_
      refine lv_istore (lv' := [(8, .int 0), (0, .ref (ad 66)), (1, .int x1), (2, .int x2), (3, .int x3), (4, .int x4), (5, .int x5), (6, .int x6)]) hx hb dX12_plans_149 hl (by decide) rfl (fun ls hl => ?_)
      obtain ⟨y16, hy16, h⟩ := bd h
      refine w_X12_plans_L151 Z hr hlk hRf hRl out FU x1 x2 x3 0 ((sg (sg (sg τ 18 x4) 19 x5) 20 x6)) y16 hy16 _ _ hP hS _ (lv_sub hl [1, 2, 3, 4, 0] rfl) (fun H locs hP hS ls hl => ?_)
      refine lv_iinc (v := (y16.2.2.1 + 1)) (lv' := [(3, .int (y16.2.2.1 + 1)), (0, .ref (ad 66)), (1, .int y16.1), (2, .int y16.2.1)]) hx hb dX12_plans_177 hl (k := 3) rfl rfl (by decide) rfl (fun ls hl => ?_)
      refine lv_goto (tgt := 15) hx hb dX12_plans_180 (by decide) ?_
      exact ih y16.1 y16.2.1 ((y16.2.2.1 + 1)) y16.2.2.2 _ h _ _ hP hS _ (lv_sub hl [1, 2, 3, 0] rfl) kx
    have J119 : ∀ (x1 : Int32) (x2 : Int32) (x3 : Int32) (x4 : Int32) (x5 : Int32) (x6 : Int32) (s0 : Int32) (τ : Sx), m_X12_plans_J119 (m_X12_plans_L15 n) x1 x2 x3 x4 x5 x6 s0 τ = some res → ∀ (H : Heap) (locs : List Loc), va_P D vwCl (gW cy ad σ τ) H → va_S (gA ad) s.heap H locs → ∀ ls : Array Slot, lv_has ls 9 [(0, .ref (ad 66)), (1, .int x1), (2, .int x2), (3, .int x3), (4, .int x4), (5, .int x5), (6, .int x6)] → W p l e R s m args below meth c H locs 0 0 (MQ below (mQv D cy ad σ out) args s 0 0 (gA ad)) (F0 m 119 ls [.int s0]) := by
      intro x1 x2 x3 x4 x5 x6 s0 τ h H locs hP hS ls hl
      unfold m_X12_plans_J119 at h
      refine lv_istore (lv' := [(7, .int s0), (0, .ref (ad 66)), (1, .int x1), (2, .int x2), (3, .int x3), (4, .int x4), (5, .int x5), (6, .int x6)]) hx hb dX12_plans_119 hl (by decide) rfl (fun ls hl => ?_)
      refine lv_iload_n hx hb dX12_plans_121 rfl (lv_at hl 4 rfl) ?_
      refine lv_if_eq (tgt := 130) hx hb dX12_plans_122 (by decide) (fun c12 => ?_) (fun c12 => ?_)
      · rw [if_pos c12] at h
        exact J130 x1 x2 x3 x4 x5 x6 τ h _ _ hP hS _ (lv_sub hl [1, 2, 3, 4, 5, 6, 7] rfl)
      · rw [if_neg c12] at h
        refine lv_iload hx hb dX12_plans_125 (lv_at hl 0 rfl) ?_
        refine lv_if_eq (tgt := 177) hx hb dX12_plans_127 (by decide) (fun c17 => ?_) (fun c17 => ?_)
        · rw [if_pos c17] at h
          refine lv_iinc (v := (x3 + 1)) (lv' := [(3, .int (x3 + 1)), (7, .int s0), (0, .ref (ad 66)), (1, .int x1), (2, .int x2), (4, .int x4), (5, .int x5), (6, .int x6)]) hx hb dX12_plans_177 hl (k := 4) rfl rfl (by decide) rfl (fun ls hl => ?_)
          refine lv_goto (tgt := 15) hx hb dX12_plans_180 (by decide) ?_
          exact ih x1 x2 ((x3 + 1)) τ _ h _ _ hP hS _ (lv_sub hl [2, 3, 4, 0] rfl) kx
        · rw [if_neg c17] at h
          exact J130 x1 x2 x3 x4 x5 x6 τ h _ _ hP hS _ (lv_sub hl [1, 2, 3, 4, 5, 6, 7] rfl)
    have J114 : ∀ (x1 : Int32) (x2 : Int32) (x3 : Int32) (x4 : Int32) (x5 : Int32) (x6 : Int32) (τ : Sx), m_X12_plans_J114 (m_X12_plans_L15 n) x1 x2 x3 x4 x5 x6 τ = some res → ∀ (H : Heap) (locs : List Loc), va_P D vwCl (gW cy ad σ τ) H → va_S (gA ad) s.heap H locs → ∀ ls : Array Slot, lv_has ls 9 [(0, .ref (ad 66)), (1, .int x1), (2, .int x2), (3, .int x3), (4, .int x4), (5, .int x5), (6, .int x6)] → W p l e R s m args below meth c H locs 0 0 (MQ below (mQv D cy ad σ out) args s 0 0 (gA ad)) (F0 m 114 ls []) := by
      intro x1 x2 x3 x4 x5 x6 τ h H locs hP hS ls hl
      unfold m_X12_plans_J114 at h
      refine lv_iconst (v := 1) hx hb dX12_plans_114 (by decide) ?_
      refine lv_goto (tgt := 119) hx hb dX12_plans_115 (by decide) ?_
      exact J119 x1 x2 x3 x4 x5 x6 1 τ h _ _ hP hS _ (lv_sub hl [0, 1, 2, 3, 4, 5, 6] rfl)
    have J118 : ∀ (x1 : Int32) (x2 : Int32) (x3 : Int32) (x4 : Int32) (x5 : Int32) (x6 : Int32) (τ : Sx), m_X12_plans_J118 (m_X12_plans_L15 n) x1 x2 x3 x4 x5 x6 τ = some res → ∀ (H : Heap) (locs : List Loc), va_P D vwCl (gW cy ad σ τ) H → va_S (gA ad) s.heap H locs → ∀ ls : Array Slot, lv_has ls 9 [(0, .ref (ad 66)), (1, .int x1), (2, .int x2), (3, .int x3), (4, .int x4), (5, .int x5), (6, .int x6)] → W p l e R s m args below meth c H locs 0 0 (MQ below (mQv D cy ad σ out) args s 0 0 (gA ad)) (F0 m 118 ls []) := by
      intro x1 x2 x3 x4 x5 x6 τ h H locs hP hS ls hl
      unfold m_X12_plans_J118 at h
      refine lv_iconst (v := 0) hx hb dX12_plans_118 (by decide) ?_
      exact J119 x1 x2 x3 x4 x5 x6 0 τ h _ _ hP hS _ (lv_sub hl [0, 1, 2, 3, 4, 5, 6] rfl)
    rw [m_X12_plans_L15] at h
    refine lv_iload_n hx hb dX12_plans_15 rfl (lv_at hl 3 rfl) ?_
    refine lv_iload_n hx hb dX12_plans_16 rfl (lv_at hl 2 rfl) ?_
    refine lv_icmp_ge (tgt := 183) hx hb dX12_plans_17 (by decide) (fun c3 => ?_) (fun c3 => ?_)
    · rw [if_pos c3] at h
      obtain rfl := Option.some.inj h
      exact kx _ _ hP hS _ (lv_sub hl [] rfl)
    · rw [if_neg c3] at h
      refine lv_aload_n hx hb dX12_plans_20 rfl (lv_at hl 0 rfl) ?_
      refine lv_iload_n hx hb dX12_plans_21 rfl (lv_at hl 3 rfl) ?_
      refine lv_iload_n hx hb dX12_plans_22 rfl (lv_at hl 1 rfl) ?_
      obtain ⟨q4, hq4, h⟩ := bd h
      refine zwmv (zrunV Z hP (As := [.int x3, .int x1]) (rest := []) (c_X12_tries (R := { frames := 3, cells := 0, slots := 0, locals := 69 }) Z.i (Nat.le_refl _) (Nat.le_refl _) hq4) cV_X12_195 rfl rfl ⟨(Nat.le_trans (Nat.le_of_ble_eq_true rfl) hRf), (Nat.le_trans (Nat.le_of_ble_eq_true rfl) hRl)⟩ 66 (gW_mo.trans rfl) rfl rfl rfl hl.1 rfl (Nat.le_of_ble_eq_true rfl) dX12_plans_23 ⟨Nat.zero_le _, Nat.zero_le _⟩) hS (fun H locs hP hS => ?_)
      refine lv_aload_n hx hb dX12_plans_26 rfl (lv_at hl 0 rfl) ?_
      refine fg_66_21 Z hP wF_X12_25 dX12_plans_27 ?_
      refine lv_iconst (v := 3) hx hb dX12_plans_30 (by decide) ?_
      obtain ⟨v5, hv5, h⟩ := bd h
      refine zm_ld (j := 5) Z hP hv5 dX12_plans_31 ?_
      refine lv_aload_n hx hb dX12_plans_32 rfl (lv_at hl 0 rfl) ?_
      refine fg_66_20 Z hP wF_X12_22 dX12_plans_33 ?_
      refine lv_iconst (v := 3) hx hb dX12_plans_36 (by decide) ?_
      obtain ⟨v6, hv6, h⟩ := bd h
      refine zm_ld (j := 4) Z hP hv6 dX12_plans_37 ?_
      refine lv_isub hx hb dX12_plans_38 ?_
      refine lv_istore (lv' := [(4, .int (v5 - v6)), (0, .ref (ad 66)), (1, .int x1), (2, .int x2), (3, .int x3)]) hx hb dX12_plans_39 hl (by decide) rfl (fun ls hl => ?_)
      refine lv_aload_n hx hb dX12_plans_41 rfl (lv_at hl 1 rfl) ?_
      refine lv_aload_n hx hb dX12_plans_42 rfl (lv_at hl 1 rfl) ?_
      refine fg_66_21 Z hP wF_X12_25 dX12_plans_43 ?_
      obtain ⟨v7, hv7, h⟩ := bd h
      refine zqi (zrunV Z hP (As := [.ref (ad (67 + 5))]) (rest := []) (c_X12_outOnes_w (R := { frames := 0, cells := 0, slots := 0, locals := 0 }) Z.i (Nat.le_refl _) (Nat.le_refl _) hv7) cV_X12_172 rfl rfl ⟨(Nat.le_trans (Nat.le_of_ble_eq_true rfl) hRf), (Nat.le_trans (Nat.le_of_ble_eq_true rfl) hRl)⟩ 66 (gW_mo.trans rfl) rfl rfl rfl hl.1 rfl (Nat.le_of_ble_eq_true rfl) dX12_plans_46 ⟨Nat.zero_le _, Nat.zero_le _⟩) ?_
      obtain ⟨v8, hv8, h⟩ := bd h
      refine zqi (zrunS Z hP (As := [.int v7]) (rest := []) (c_X12_ones (R := { frames := 0, cells := 0, slots := 0, locals := 0 }) Z.i (Nat.le_refl _) (Nat.le_refl _) hv8) cV_X12_155 rfl rfl ⟨(Nat.le_trans (Nat.le_of_ble_eq_true rfl) hRf), (Nat.le_trans (Nat.le_of_ble_eq_true rfl) hRl)⟩ rfl hl.1 rfl (Nat.le_of_ble_eq_true rfl) dX12_plans_49 ⟨Nat.zero_le _, Nat.zero_le _⟩) ?_
      refine lv_istore (lv' := [(5, .int v8), (4, .int (v5 - v6)), (0, .ref (ad 66)), (1, .int x1), (2, .int x2), (3, .int x3)]) hx hb dX12_plans_52 hl (by decide) rfl (fun ls hl => ?_)
      refine lv_aload_n hx hb dX12_plans_54 rfl (lv_at hl 2 rfl) ?_
      refine fg_66_21 Z hP wF_X12_25 dX12_plans_55 ?_
      refine lv_iconst (v := 2) hx hb dX12_plans_58 (by decide) ?_
      obtain ⟨v9, hv9, h⟩ := bd h
      refine zm_ld (j := 5) Z hP hv9 dX12_plans_59 ?_
      refine lv_aload_n hx hb dX12_plans_60 rfl (lv_at hl 2 rfl) ?_
      refine fg_66_20 Z hP wF_X12_22 dX12_plans_61 ?_
      refine lv_iconst (v := 2) hx hb dX12_plans_64 (by decide) ?_
      obtain ⟨v10, hv10, h⟩ := bd h
      refine zm_ld (j := 4) Z hP hv10 dX12_plans_65 ?_
      refine lv_isub hx hb dX12_plans_66 ?_
      refine lv_istore (lv' := [(6, .int (v9 - v10)), (5, .int v8), (4, .int (v5 - v6)), (0, .ref (ad 66)), (1, .int x1), (2, .int x2), (3, .int x3)]) hx hb dX12_plans_67 hl (by decide) rfl (fun ls hl => ?_)
      refine lv_iload hx hb dX12_plans_69 (lv_at hl 2 rfl) ?_
      refine lv_aload_n hx hb dX12_plans_71 rfl (lv_at hl 3 rfl) ?_
      refine fg_66_34 Z hP wF_X12_199 dX12_plans_72 ?_
      refine lv_icmp_lt (tgt := 114) hx hb dX12_plans_75 (by decide) (fun c11 => ?_) (fun c11 => ?_)
      · rw [if_pos c11] at h
        exact J114 x1 x2 x3 ((v5 - v6)) v8 ((v9 - v10)) q4 h _ _ hP hS _ (lv_sub hl [3, 4, 5, 6, 2, 1, 0] rfl)
      · rw [if_neg c11] at h
        refine lv_iload hx hb dX12_plans_78 (lv_at hl 2 rfl) ?_
        refine lv_aload_n hx hb dX12_plans_80 rfl (lv_at hl 3 rfl) ?_
        refine fg_66_34 Z hP wF_X12_199 dX12_plans_81 ?_
        refine lv_icmp_ne (tgt := 118) hx hb dX12_plans_84 (by decide) (fun c18 => ?_) (fun c18 => ?_)
        · rw [if_neg c18] at h
          exact J118 x1 x2 x3 ((v5 - v6)) v8 ((v9 - v10)) q4 h _ _ hP hS _ (lv_sub hl [3, 4, 5, 6, 2, 1, 0] rfl)
        · rw [if_pos c18] at h
          refine lv_iload hx hb dX12_plans_87 (lv_at hl 1 rfl) ?_
          refine lv_aload_n hx hb dX12_plans_89 rfl (lv_at hl 3 rfl) ?_
          refine fg_66_35 Z hP wF_X12_202 dX12_plans_90 ?_
          refine lv_icmp_lt (tgt := 114) hx hb dX12_plans_93 (by decide) (fun c19 => ?_) (fun c19 => ?_)
          · rw [if_pos c19] at h
            exact J114 x1 x2 x3 ((v5 - v6)) v8 ((v9 - v10)) q4 h _ _ hP hS _ (lv_sub hl [3, 4, 5, 6, 2, 1, 0] rfl)
          · rw [if_neg c19] at h
            refine lv_iload hx hb dX12_plans_96 (lv_at hl 1 rfl) ?_
            refine lv_aload_n hx hb dX12_plans_98 rfl (lv_at hl 3 rfl) ?_
            refine fg_66_35 Z hP wF_X12_202 dX12_plans_99 ?_
            refine lv_icmp_ne (tgt := 118) hx hb dX12_plans_102 (by decide) (fun c20 => ?_) (fun c20 => ?_)
            · rw [if_neg c20] at h
              exact J118 x1 x2 x3 ((v5 - v6)) v8 ((v9 - v10)) q4 h _ _ hP hS _ (lv_sub hl [3, 4, 5, 6, 2, 1, 0] rfl)
            · rw [if_pos c20] at h
              refine lv_iload hx hb dX12_plans_105 (lv_at hl 0 rfl) ?_
              refine lv_aload_n hx hb dX12_plans_107 rfl (lv_at hl 3 rfl) ?_
              refine fg_66_36 Z hP wF_X12_205 dX12_plans_108 ?_
              refine lv_icmp_ge (tgt := 118) hx hb dX12_plans_111 (by decide) (fun c21 => ?_) (fun c21 => ?_)
              · rw [if_pos c21] at h
                exact J118 x1 x2 x3 ((v5 - v6)) v8 ((v9 - v10)) q4 h _ _ hP hS _ (lv_sub hl [3, 4, 5, 6, 2, 1, 0] rfl)
              · rw [if_neg c21] at h
                exact J114 x1 x2 x3 ((v5 - v6)) v8 ((v9 - v10)) q4 h _ _ hP hS _ (lv_sub hl [3, 4, 5, 6, 2, 1, 0] rfl)
set_option maxHeartbeats 4000000 in
set_option maxRecDepth 100000 in
theorem c_X12_plans {l : Launch} {D : va_G} {cy : Nat → ClassId} {ad : Nat → Nat} {σ τ : Sx} {R : Room} (hI : gInj ad) (hRf : 4 ≤ R.frames) (hRl : 93 ≤ R.locals) {x1 : Int32} {out : Sx} (h : m_X12_plans τ x1 = some out) : Met l yX12_plans [Cond.code yX12_plans cX12_plans 9 none] R (va_Pc [.ref (ad 66), .int x1] (gB D cy ad σ τ)) (mQv D cy ad σ out) 0 0 (gA ad) := by
  refine zstart [.ref (ad 66), .int x1] (by decide) rfl hI (Nat.le_of_ble_eq_true rfl) ?_
  intro p e s m below meth c Z hr hlk hP ls hl
  have hx := Z.x
  have hb := Z.b
  generalize hargs : ([.ref (ad 66), .int x1] : List Value).toArray = args
  have hl : lv_has ls 9 [(0, .ref (ad 66)), (1, .int x1)] := hl
  have hS : va_S (gA ad) s.heap s.heap [] := va_S.rf
  unfold m_X12_plans at h
  refine lv_aload_n hx hb dX12_plans_0 rfl (lv_at hl 0 rfl) ?_
  obtain ⟨q1, hq1, h⟩ := bd h
  refine zwmv (zrunV Z hP (As := []) (rest := []) (c_X12_choose (R := { frames := 2, cells := 0, slots := 0, locals := 43 }) Z.i (Nat.le_refl _) (Nat.le_refl _) hq1) cV_X12_192 rfl rfl ⟨(Nat.le_trans (Nat.le_of_ble_eq_true rfl) hRf), (Nat.le_trans (Nat.le_of_ble_eq_true rfl) hRl)⟩ 66 (gW_mo.trans rfl) rfl rfl rfl hl.1 rfl (Nat.le_of_ble_eq_true rfl) dX12_plans_1 ⟨Nat.zero_le _, Nat.zero_le _⟩) hS (fun H locs hP hS => ?_)
  refine lv_aload_n hx hb dX12_plans_4 rfl (lv_at hl 0 rfl) ?_
  refine fg_66_33 Z hP wF_X12_183 dX12_plans_5 ?_
  refine lv_iload_n hx hb dX12_plans_8 rfl (lv_at hl 1 rfl) ?_
  obtain ⟨v2, hv2, h⟩ := bd h
  refine zqi (zrunS Z hP (As := [.int (q1.1 17), .int x1]) (rest := []) (c_X12_power (R := { frames := 0, cells := 0, slots := 0, locals := 0 }) Z.i (Nat.le_refl _) (Nat.le_refl _) hv2) cV_X12_186 rfl rfl ⟨(Nat.le_trans (Nat.le_of_ble_eq_true rfl) hRf), (Nat.le_trans (Nat.le_of_ble_eq_true rfl) hRl)⟩ rfl hl.1 rfl (Nat.le_of_ble_eq_true rfl) dX12_plans_9 ⟨Nat.zero_le _, Nat.zero_le _⟩) ?_
  refine lv_istore_n (lv' := [(2, .int v2), (0, .ref (ad 66)), (1, .int x1)]) hx hb dX12_plans_12 rfl hl (by decide) rfl (fun ls hl => ?_)
  refine lv_iconst (v := 0) hx hb dX12_plans_13 (by decide) ?_
  refine lv_istore_n (lv' := [(3, .int 0), (2, .int v2), (0, .ref (ad 66)), (1, .int x1)]) hx hb dX12_plans_14 rfl hl (by decide) rfl (fun ls hl => ?_)
  obtain ⟨y22, hy22, h⟩ := bd h
  refine w_X12_plans_L15 Z hr hlk hRf hRl out FU x1 v2 0 q1 y22 hy22 _ _ hP hS _ (lv_sub hl [2, 3, 1, 0] rfl) (fun H locs hP hS ls hl => ?_)
  exact zmv Z hP hS hr hlk h dX12_plans_183
def m_X12_plan (τ : Sx) (x1 : Int32) (x2 : Int32) : Option (Int32 × Sx) :=
  (m_X12_in x1 0 4).bind (fun v1 => if v1 = 0 then (some (((-1), (sg τ 0 0)))) else ((m_X12_in x2 0 6).bind (fun v3 => if v3 = 0 then (some (((-1), (sg τ 0 0)))) else ((m_X12_plans ((sg τ 0 0)) x1).bind (fun q5 => if 4 ≤ x2 then (if x2 = 4 then (some (((q5.1 18), q5))) else (if x2 = 5 then (some (((q5.1 19), q5))) else (some (((q5.1 20), q5))))) else (if x1 ≤ x2 then (some (((-5), q5))) else ((ldA mLn q5 10 x2).bind (fun v10 => some ((v10, q5))))))))))
set_option maxHeartbeats 4000000 in
set_option maxRecDepth 100000 in
theorem c_X12_plan {l : Launch} {D : va_G} {cy : Nat → ClassId} {ad : Nat → Nat} {σ τ : Sx} {R : Room} (hI : gInj ad) (hRf : 5 ≤ R.frames) (hRl : 121 ≤ R.locals) {x1 : Int32} {x2 : Int32} {out : Int32 × Sx} (h : m_X12_plan τ x1 x2 = some out) : Met l yX12_plan [Cond.code yX12_plan cX12_plan 3 (some .int)] R (va_Pc [.ref (ad 66), .int x1, .int x2] (gB D cy ad σ τ)) (mQi D cy ad σ out) 0 0 (gA ad) := by
  refine zstart [.ref (ad 66), .int x1, .int x2] (by decide) rfl hI (Nat.le_of_ble_eq_true rfl) ?_
  intro p e s m below meth c Z hr hlk hP ls hl
  have hx := Z.x
  have hb := Z.b
  generalize hargs : ([.ref (ad 66), .int x1, .int x2] : List Value).toArray = args
  have hl : lv_has ls 3 [(0, .ref (ad 66)), (1, .int x1), (2, .int x2)] := hl
  have hS : va_S (gA ad) s.heap s.heap [] := va_S.rf
  unfold m_X12_plan at h
  refine lv_aload_n hx hb dX12_plan_0 rfl (lv_at hl 0 rfl) ?_
  refine lv_iconst (v := 0) hx hb dX12_plan_1 (by decide) ?_
  refine fp_66_0 Z hP hS wF_X12_61 dX12_plan_2 (fun H locs hP hS => ?_)
  refine lv_iload_n hx hb dX12_plan_5 rfl (lv_at hl 1 rfl) ?_
  refine lv_iconst (v := 0) hx hb dX12_plan_6 (by decide) ?_
  refine lv_iconst (v := 4) hx hb dX12_plan_7 (by decide) ?_
  obtain ⟨v1, hv1, h⟩ := bd h
  refine zqi (zrunS Z hP (As := [.int x1, .int 0, .int 4]) (rest := []) (c_X12_in (R := { frames := 0, cells := 0, slots := 0, locals := 0 }) Z.i (Nat.le_refl _) (Nat.le_refl _) hv1) cV_X12_64 rfl rfl ⟨(Nat.le_trans (Nat.le_of_ble_eq_true rfl) hRf), (Nat.le_trans (Nat.le_of_ble_eq_true rfl) hRl)⟩ rfl hl.1 rfl (Nat.le_of_ble_eq_true rfl) dX12_plan_8 ⟨Nat.zero_le _, Nat.zero_le _⟩) ?_
  refine lv_if_eq (tgt := 24) hx hb dX12_plan_11 (by decide) (fun c2 => ?_) (fun c2 => ?_)
  · rw [if_pos c2] at h
    refine lv_iconst (v := (-1)) hx hb dX12_plan_24 (by decide) ?_
    exact zmi Z hP hS hr hlk h dX12_plan_25
  · rw [if_neg c2] at h
    refine lv_iload_n hx hb dX12_plan_14 rfl (lv_at hl 2 rfl) ?_
    refine lv_iconst (v := 0) hx hb dX12_plan_15 (by decide) ?_
    refine lv_bipush (v := 6) hx hb dX12_plan_16 (by decide) ?_
    obtain ⟨v3, hv3, h⟩ := bd h
    refine zqi (zrunS Z hP (As := [.int x2, .int 0, .int 6]) (rest := []) (c_X12_in (R := { frames := 0, cells := 0, slots := 0, locals := 0 }) Z.i (Nat.le_refl _) (Nat.le_refl _) hv3) cV_X12_64 rfl rfl ⟨(Nat.le_trans (Nat.le_of_ble_eq_true rfl) hRf), (Nat.le_trans (Nat.le_of_ble_eq_true rfl) hRl)⟩ rfl hl.1 rfl (Nat.le_of_ble_eq_true rfl) dX12_plan_18 ⟨Nat.zero_le _, Nat.zero_le _⟩) ?_
    refine lv_if_ne (tgt := 26) hx hb dX12_plan_21 (by decide) (fun c4 => ?_) (fun c4 => ?_)
    · rw [if_neg c4] at h
      refine lv_aload_n hx hb dX12_plan_26 rfl (lv_at hl 0 rfl) ?_
      refine lv_iload_n hx hb dX12_plan_27 rfl (lv_at hl 1 rfl) ?_
      obtain ⟨q5, hq5, h⟩ := bd h
      refine zwmv (zrunV Z hP (As := [.int x1]) (rest := []) (c_X12_plans (R := { frames := 4, cells := 0, slots := 0, locals := 93 }) Z.i (Nat.le_refl _) (Nat.le_refl _) hq5) cV_X12_208 rfl rfl ⟨(Nat.le_trans (Nat.le_of_ble_eq_true rfl) hRf), (Nat.le_trans (Nat.le_of_ble_eq_true rfl) hRl)⟩ 66 (gW_mo.trans rfl) rfl rfl rfl hl.1 rfl (Nat.le_of_ble_eq_true rfl) dX12_plan_28 ⟨Nat.zero_le _, Nat.zero_le _⟩) hS (fun H locs hP hS => ?_)
      refine lv_iload_n hx hb dX12_plan_31 rfl (lv_at hl 2 rfl) ?_
      refine lv_iconst (v := 4) hx hb dX12_plan_32 (by decide) ?_
      refine lv_icmp_ge (tgt := 53) hx hb dX12_plan_33 (by decide) (fun c6 => ?_) (fun c6 => ?_)
      · rw [if_pos c6] at h
        refine lv_iload_n hx hb dX12_plan_53 rfl (lv_at hl 2 rfl) ?_
        refine lv_iconst (v := 4) hx hb dX12_plan_54 (by decide) ?_
        refine lv_icmp_ne (tgt := 65) hx hb dX12_plan_55 (by decide) (fun c7 => ?_) (fun c7 => ?_)
        · rw [if_neg c7] at h
          refine lv_iload_n hx hb dX12_plan_65 rfl (lv_at hl 2 rfl) ?_
          refine lv_iconst (v := 5) hx hb dX12_plan_66 (by decide) ?_
          refine lv_icmp_ne (tgt := 77) hx hb dX12_plan_67 (by decide) (fun c8 => ?_) (fun c8 => ?_)
          · rw [if_neg c8] at h
            refine lv_aload_n hx hb dX12_plan_77 rfl (lv_at hl 0 rfl) ?_
            refine fg_66_36 Z hP wF_X12_205 dX12_plan_78 ?_
            exact zmi Z hP hS hr hlk h dX12_plan_81
          · rw [if_pos c8] at h
            refine lv_aload_n hx hb dX12_plan_70 rfl (lv_at hl 0 rfl) ?_
            refine fg_66_35 Z hP wF_X12_202 dX12_plan_71 ?_
            refine lv_goto (tgt := 81) hx hb dX12_plan_74 (by decide) ?_
            exact zmi Z hP hS hr hlk h dX12_plan_81
        · rw [if_pos c7] at h
          refine lv_aload_n hx hb dX12_plan_58 rfl (lv_at hl 0 rfl) ?_
          refine fg_66_34 Z hP wF_X12_199 dX12_plan_59 ?_
          refine lv_goto (tgt := 81) hx hb dX12_plan_62 (by decide) ?_
          exact zmi Z hP hS hr hlk h dX12_plan_81
      · rw [if_neg c6] at h
        refine lv_iload_n hx hb dX12_plan_36 rfl (lv_at hl 2 rfl) ?_
        refine lv_iload_n hx hb dX12_plan_37 rfl (lv_at hl 1 rfl) ?_
        refine lv_icmp_ge (tgt := 50) hx hb dX12_plan_38 (by decide) (fun c9 => ?_) (fun c9 => ?_)
        · rw [if_pos c9] at h
          refine lv_bipush (v := (-5)) hx hb dX12_plan_50 (by decide) ?_
          exact zmi Z hP hS hr hlk h dX12_plan_52
        · rw [if_neg c9] at h
          refine lv_aload_n hx hb dX12_plan_41 rfl (lv_at hl 0 rfl) ?_
          refine fg_66_29 Z hP wF_X12_44 dX12_plan_42 ?_
          refine lv_iload_n hx hb dX12_plan_45 rfl (lv_at hl 2 rfl) ?_
          obtain ⟨v10, hv10, h⟩ := bd h
          refine zm_ld (j := 10) Z hP hv10 dX12_plan_46 ?_
          refine lv_goto (tgt := 52) hx hb dX12_plan_47 (by decide) ?_
          exact zmi Z hP hS hr hlk h dX12_plan_52
    · rw [if_pos c4] at h
      refine lv_iconst (v := (-1)) hx hb dX12_plan_24 (by decide) ?_
      exact zmi Z hP hS hr hlk h dX12_plan_25
def m_X12_fullBy_L40  : Nat → Int32 → Int32 → Int32 → Sx → Option (Sum (Int32 × Sx) (Sx))
  | 0, _, _, _, _ => none
  | n + 1, x1, x2, x3, τ =>
  if 61 ≤ x3 then (some (.inr τ)) else ((ldA mLn τ 5 ((4 + x1))).bind (fun v8 => if v8 < x2 then ((m_X12_goes_w τ).bind (fun q10 => m_X12_fullBy_L40 n x1 x2 ((x3 + 1)) q10)) else (some (.inl ((x3, τ))))))
def m_X12_fullBy (τ : Sx) (x1 : Int32) (x2 : Int32) : Option (Int32 × Sx) :=
  (m_X12_isPhone ((sg τ 0 0)) x1).bind (fun v1 => if v1 = 0 then (some (((-1), (sg τ 0 0)))) else ((m_X12_in x2 0 100).bind (fun v3 => if v3 = 0 then (some (((-1), (sg τ 0 0)))) else ((m_X12_asNow ((sg τ 0 0))).bind (fun q5 => (stA mLn q5 5 1 (((1 : Int32) <<< (x1 &&& 31)))).bind (fun q6 => (m_X12_fullBy_L40 FU x1 x2 0 q6).bind (fun rs13 => Sum.elim (fun r12 => some r12) (fun y11 => some (((-9), y11))) rs13)))))))
set_option maxHeartbeats 4000000 in
set_option maxRecDepth 100000 in
theorem w_X12_fullBy_L40 {l : Launch} {D : va_G} {cy : Nat → ClassId} {ad : Nat → Nat} {σ : Sx} {p : Program} {e : Env} {R : Room} {s : State} {m : MethodId} {args : Array Value} {below : List Frame} {meth : Method} {c : Code} (Z : Zc p s m c cX12_fullBy 4 RX12 D cy ad) (hr : meth.sig.returnType = (some .int)) (hlk : meth.locks = false) (hRf : 3 ≤ R.frames) (hRl : 69 ≤ R.locals) (out : Int32 × Sx) : ∀ (n : Nat) (x1 : Int32) (x2 : Int32) (x3 : Int32) (τ : Sx) (res : Sum (Int32 × Sx) (Sx)), m_X12_fullBy_L40 n x1 x2 x3 τ = some res → ∀ (H : Heap) (locs : List Loc), va_P D vwCl (gW cy ad σ τ) H → va_S (gA ad) s.heap H locs → ∀ ls : Array Slot, lv_has ls 4 [(0, .ref (ad 66)), (1, .int x1), (2, .int x2), (3, .int x3)] → (∀ r : Int32 × Sx, res = .inl r → r = out) → (∀ y : Sx, res = .inr y → ∀ (H : Heap) (locs : List Loc), va_P D vwCl (gW cy ad σ y) H → va_S (gA ad) s.heap H locs → ∀ ls : Array Slot, lv_has ls 4 [] → W p l e R s m args below meth c H locs 0 0 (MQ below (mQi D cy ad σ out) args s 0 0 (gA ad)) (F0 m 74 ls [])) → W p l e R s m args below meth c H locs 0 0 (MQ below (mQi D cy ad σ out) args s 0 0 (gA ad)) (F0 m 40 ls []) := by
  have hx := Z.x
  have hb := Z.b
  intro n
  induction n with
  | zero => intro x1 x2 x3 τ res h; cases h
  | succ n ih =>
    intro x1 x2 x3 τ res h H locs hP hS ls hl hri kx
    rw [m_X12_fullBy_L40] at h
    refine lv_iload_n hx hb dX12_fullBy_40 rfl (lv_at hl 3 rfl) ?_
    refine lv_bipush (v := 61) hx hb dX12_fullBy_41 (by decide) ?_
    refine lv_icmp_ge (tgt := 74) hx hb dX12_fullBy_43 (by decide) (fun c7 => ?_) (fun c7 => ?_)
    · rw [if_pos c7] at h
      exact kx _ (Option.some.inj h).symm _ _ hP hS _ (lv_sub hl [] rfl)
    · rw [if_neg c7] at h
      refine lv_aload_n hx hb dX12_fullBy_46 rfl (lv_at hl 0 rfl) ?_
      refine fg_66_21 Z hP wF_X12_25 dX12_fullBy_47 ?_
      refine lv_iconst (v := 4) hx hb dX12_fullBy_50 (by decide) ?_
      refine lv_iload_n hx hb dX12_fullBy_51 rfl (lv_at hl 1 rfl) ?_
      refine lv_iadd hx hb dX12_fullBy_52 ?_
      obtain ⟨v8, hv8, h⟩ := bd h
      refine zm_ld (j := 5) Z hP hv8 dX12_fullBy_53 ?_
      refine lv_iload_n hx hb dX12_fullBy_54 rfl (lv_at hl 2 rfl) ?_
      refine lv_icmp_lt (tgt := 60) hx hb dX12_fullBy_55 (by decide) (fun c9 => ?_) (fun c9 => ?_)
      · rw [if_pos c9] at h
        refine lv_aload_n hx hb dX12_fullBy_60 rfl (lv_at hl 0 rfl) ?_
        refine lv_aload_n hx hb dX12_fullBy_61 rfl (lv_at hl 0 rfl) ?_
        refine fg_66_21 Z hP wF_X12_25 dX12_fullBy_62 ?_
        obtain ⟨q10, hq10, h⟩ := bd h
        refine zwmv (zrunV Z hP (As := [.ref (ad (67 + 5))]) (rest := []) (c_X12_goes_w (R := { frames := 2, cells := 0, slots := 0, locals := 45 }) Z.i (Nat.le_refl _) (Nat.le_refl _) hq10) cV_X12_168 rfl rfl ⟨(Nat.le_trans (Nat.le_of_ble_eq_true rfl) hRf), (Nat.le_trans (Nat.le_of_ble_eq_true rfl) hRl)⟩ 66 (gW_mo.trans rfl) rfl rfl rfl hl.1 rfl (Nat.le_of_ble_eq_true rfl) dX12_fullBy_65 ⟨Nat.zero_le _, Nat.zero_le _⟩) hS (fun H locs hP hS => ?_)
        refine lv_iinc (v := (x3 + 1)) (lv' := [(3, .int (x3 + 1)), (0, .ref (ad 66)), (1, .int x1), (2, .int x2)]) hx hb dX12_fullBy_68 hl (k := 3) rfl rfl (by decide) rfl (fun ls hl => ?_)
        refine lv_goto (tgt := 40) hx hb dX12_fullBy_71 (by decide) ?_
        exact ih x1 x2 ((x3 + 1)) q10 _ h _ _ hP hS _ (lv_sub hl [1, 2, 3, 0] rfl) hri kx
      · rw [if_neg c9] at h
        refine lv_iload_n hx hb dX12_fullBy_58 rfl (lv_at hl 3 rfl) ?_
        exact zmi Z hP hS hr hlk (congrArg some (hri _ (Option.some.inj h).symm)) dX12_fullBy_59
set_option maxHeartbeats 4000000 in
set_option maxRecDepth 100000 in
theorem c_X12_fullBy {l : Launch} {D : va_G} {cy : Nat → ClassId} {ad : Nat → Nat} {σ τ : Sx} {R : Room} (hI : gInj ad) (hRf : 3 ≤ R.frames) (hRl : 69 ≤ R.locals) {x1 : Int32} {x2 : Int32} {out : Int32 × Sx} (h : m_X12_fullBy τ x1 x2 = some out) : Met l yX12_fullBy [Cond.code yX12_fullBy cX12_fullBy 4 (some .int)] R (va_Pc [.ref (ad 66), .int x1, .int x2] (gB D cy ad σ τ)) (mQi D cy ad σ out) 0 0 (gA ad) := by
  refine zstart [.ref (ad 66), .int x1, .int x2] (by decide) rfl hI (Nat.le_of_ble_eq_true rfl) ?_
  intro p e s m below meth c Z hr hlk hP ls hl
  have hx := Z.x
  have hb := Z.b
  generalize hargs : ([.ref (ad 66), .int x1, .int x2] : List Value).toArray = args
  have hl : lv_has ls 4 [(0, .ref (ad 66)), (1, .int x1), (2, .int x2)] := hl
  have hS : va_S (gA ad) s.heap s.heap [] := va_S.rf
  unfold m_X12_fullBy at h
  refine lv_aload_n hx hb dX12_fullBy_0 rfl (lv_at hl 0 rfl) ?_
  refine lv_iconst (v := 0) hx hb dX12_fullBy_1 (by decide) ?_
  refine fp_66_0 Z hP hS wF_X12_61 dX12_fullBy_2 (fun H locs hP hS => ?_)
  refine lv_aload_n hx hb dX12_fullBy_5 rfl (lv_at hl 0 rfl) ?_
  refine lv_iload_n hx hb dX12_fullBy_6 rfl (lv_at hl 1 rfl) ?_
  obtain ⟨v1, hv1, h⟩ := bd h
  refine zqi (zrunV Z hP (As := [.int x1]) (rest := []) (c_X12_isPhone (R := { frames := 1, cells := 0, slots := 0, locals := 22 }) Z.i (Nat.le_refl _) (Nat.le_refl _) hv1) cV_X12_142 rfl rfl ⟨(Nat.le_trans (Nat.le_of_ble_eq_true rfl) hRf), (Nat.le_trans (Nat.le_of_ble_eq_true rfl) hRl)⟩ 66 (gW_mo.trans rfl) rfl rfl rfl hl.1 rfl (Nat.le_of_ble_eq_true rfl) dX12_fullBy_7 ⟨Nat.zero_le _, Nat.zero_le _⟩) ?_
  refine lv_if_eq (tgt := 23) hx hb dX12_fullBy_10 (by decide) (fun c2 => ?_) (fun c2 => ?_)
  · rw [if_pos c2] at h
    refine lv_iconst (v := (-1)) hx hb dX12_fullBy_23 (by decide) ?_
    exact zmi Z hP hS hr hlk h dX12_fullBy_24
  · rw [if_neg c2] at h
    refine lv_iload_n hx hb dX12_fullBy_13 rfl (lv_at hl 2 rfl) ?_
    refine lv_iconst (v := 0) hx hb dX12_fullBy_14 (by decide) ?_
    refine lv_bipush (v := 100) hx hb dX12_fullBy_15 (by decide) ?_
    obtain ⟨v3, hv3, h⟩ := bd h
    refine zqi (zrunS Z hP (As := [.int x2, .int 0, .int 100]) (rest := []) (c_X12_in (R := { frames := 0, cells := 0, slots := 0, locals := 0 }) Z.i (Nat.le_refl _) (Nat.le_refl _) hv3) cV_X12_64 rfl rfl ⟨(Nat.le_trans (Nat.le_of_ble_eq_true rfl) hRf), (Nat.le_trans (Nat.le_of_ble_eq_true rfl) hRl)⟩ rfl hl.1 rfl (Nat.le_of_ble_eq_true rfl) dX12_fullBy_17 ⟨Nat.zero_le _, Nat.zero_le _⟩) ?_
    refine lv_if_ne (tgt := 25) hx hb dX12_fullBy_20 (by decide) (fun c4 => ?_) (fun c4 => ?_)
    · rw [if_neg c4] at h
      refine lv_aload_n hx hb dX12_fullBy_25 rfl (lv_at hl 0 rfl) ?_
      obtain ⟨q5, hq5, h⟩ := bd h
      refine zwmv (zrunV Z hP (As := []) (rest := []) (c_X12_asNow (R := { frames := 0, cells := 0, slots := 0, locals := 0 }) Z.i (Nat.le_refl _) (Nat.le_refl _) hq5) cV_X12_189 rfl rfl ⟨(Nat.le_trans (Nat.le_of_ble_eq_true rfl) hRf), (Nat.le_trans (Nat.le_of_ble_eq_true rfl) hRl)⟩ 66 (gW_mo.trans rfl) rfl rfl rfl hl.1 rfl (Nat.le_of_ble_eq_true rfl) dX12_fullBy_26 ⟨Nat.zero_le _, Nat.zero_le _⟩) hS (fun H locs hP hS => ?_)
      refine lv_aload_n hx hb dX12_fullBy_29 rfl (lv_at hl 0 rfl) ?_
      refine fg_66_21 Z hP wF_X12_25 dX12_fullBy_30 ?_
      refine lv_iconst (v := 1) hx hb dX12_fullBy_33 (by decide) ?_
      refine lv_iconst (v := 1) hx hb dX12_fullBy_34 (by decide) ?_
      refine lv_iload_n hx hb dX12_fullBy_35 rfl (lv_at hl 1 rfl) ?_
      refine lv_ishl hx hb dX12_fullBy_36 ?_
      obtain ⟨q6, hq6, h⟩ := bd h
      refine zm_st (j := 5) Z hP hS hq6 dX12_fullBy_37 (fun H locs hP hS => ?_)
      refine lv_iconst (v := 0) hx hb dX12_fullBy_38 (by decide) ?_
      refine lv_istore_n (lv' := [(3, .int 0), (0, .ref (ad 66)), (1, .int x1), (2, .int x2)]) hx hb dX12_fullBy_39 rfl hl (by decide) rfl (fun ls hl => ?_)
      obtain ⟨rs13, hrs13, h⟩ := bd h
      refine w_X12_fullBy_L40 Z hr hlk hRf hRl out FU x1 x2 0 q6 rs13 hrs13 _ _ hP hS _ (lv_sub hl [1, 2, 3, 0] rfl) (fun r12 e1 => ?_) (fun y11 e1 H locs hP hS ls hl => ?_)
      · subst e1
        rw [Sum.elim_inl] at h
        exact (Option.some.inj h)
      · subst e1
        rw [Sum.elim_inr] at h
        refine lv_bipush (v := (-9)) hx hb dX12_fullBy_74 (by decide) ?_
        exact zmi Z hP hS hr hlk h dX12_fullBy_76
    · rw [if_pos c4] at h
      refine lv_iconst (v := (-1)) hx hb dX12_fullBy_23 (by decide) ?_
      exact zmi Z hP hS hr hlk h dX12_fullBy_24
def m_X12_missedBy_J82 (rec : Int32 → Int32 → Int32 → Int32 → Sx → Option (Int32 × Sx)) (x1 : Int32) (x2 : Int32) (x4 : Int32) (x5 : Int32) (s0 : Int32) (s1 : Int32) (τ : Sx) : Option (Int32 × Sx) :=
  (ldA mLn τ 5 ((4 + x1))).bind (fun v5 => if x5 = 0 then ((stA mLn τ 5 ((4 + x1)) ((v5 - 0))).bind (fun q7 => rec x1 x2 ((s1 + s0)) ((x4 + 1)) q7)) else ((ldA mLn τ 5 ((4 + x1))).bind (fun v8 => (ldA mLn τ 2 (((3 * x4) + 2))).bind (fun v9 => if v8 < v9 then ((stA mLn τ 5 ((4 + x1)) ((v5 - 0))).bind (fun q11 => rec x1 x2 ((s1 + s0)) ((x4 + 1)) q11)) else ((ldA mLn τ 2 (((3 * x4) + 2))).bind (fun v12 => (stA mLn τ 5 ((4 + x1)) ((v5 - v12))).bind (fun q13 => rec x1 x2 ((s1 + s0)) ((x4 + 1)) q13)))))))
def m_X12_missedBy_J81 (rec : Int32 → Int32 → Int32 → Int32 → Sx → Option (Int32 × Sx)) (x1 : Int32) (x2 : Int32) (x4 : Int32) (x5 : Int32) (s0 : Int32) (τ : Sx) : Option (Int32 × Sx) :=
  m_X12_missedBy_J82 rec x1 x2 x4 x5 0 s0 τ
def m_X12_missedBy_J47 (rec : Int32 → Int32 → Int32 → Int32 → Sx → Option (Int32 × Sx)) (x1 : Int32) (x2 : Int32) (x3 : Int32) (x4 : Int32) (s0 : Int32) (τ : Sx) : Option (Int32 × Sx) :=
  if s0 = 0 then (m_X12_missedBy_J81 rec x1 x2 x4 s0 x3 τ) else ((ldA mLn τ 5 ((4 + x1))).bind (fun v14 => (ldA mLn τ 2 (((3 * x4) + 2))).bind (fun v15 => if v15 ≤ v14 then (m_X12_missedBy_J81 rec x1 x2 x4 s0 x3 τ) else (m_X12_missedBy_J82 rec x1 x2 x4 s0 1 x3 τ))))
def m_X12_missedBy_J46 (rec : Int32 → Int32 → Int32 → Int32 → Sx → Option (Int32 × Sx)) (x1 : Int32) (x2 : Int32) (x3 : Int32) (x4 : Int32) (τ : Sx) : Option (Int32 × Sx) :=
  m_X12_missedBy_J47 rec x1 x2 x3 x4 0 τ
def m_X12_missedBy_L5  : Nat → Int32 → Int32 → Int32 → Int32 → Sx → Option (Int32 × Sx)
  | 0, _, _, _, _, _ => none
  | n + 1, x1, x2, x3, x4, τ =>
  if (τ.1 8) ≤ x4 then (some ((x3, τ))) else ((ldA mLn τ 2 ((3 * x4))).bind (fun v2 => if v2 = x1 then ((ldA mLn τ 2 (((3 * x4) + 1))).bind (fun v17 => if v17 = x2 then (m_X12_missedBy_J47 (m_X12_missedBy_L5 n) x1 x2 x3 x4 1 τ) else (m_X12_missedBy_J46 (m_X12_missedBy_L5 n) x1 x2 x3 x4 τ))) else (m_X12_missedBy_J46 (m_X12_missedBy_L5 n) x1 x2 x3 x4 τ)))
def m_X12_missedBy (τ : Sx) (x1 : Int32) (x2 : Int32) : Option (Int32 × Sx) :=
  (m_X12_missedBy_L5 FU x1 x2 0 0 τ).bind (fun y19 => some ((y19.1, y19.2)))
set_option maxHeartbeats 4000000 in
set_option maxRecDepth 100000 in
theorem w_X12_missedBy_L5 {l : Launch} {D : va_G} {cy : Nat → ClassId} {ad : Nat → Nat} {σ : Sx} {p : Program} {e : Env} {R : Room} {s : State} {m : MethodId} {args : Array Value} {below : List Frame} {meth : Method} {c : Code} (Z : Zc p s m c cX12_missedBy 6 RX12 D cy ad) (hr : meth.sig.returnType = (some .int)) (hlk : meth.locks = false) (hRf : 0 ≤ R.frames) (hRl : 0 ≤ R.locals) (out : Int32 × Sx) : ∀ (n : Nat) (x1 : Int32) (x2 : Int32) (x3 : Int32) (x4 : Int32) (τ : Sx) (res : Int32 × Sx), m_X12_missedBy_L5 n x1 x2 x3 x4 τ = some res → ∀ (H : Heap) (locs : List Loc), va_P D vwCl (gW cy ad σ τ) H → va_S (gA ad) s.heap H locs → ∀ ls : Array Slot, lv_has ls 6 [(0, .ref (ad 66)), (1, .int x1), (2, .int x2), (3, .int x3), (4, .int x4)] → (∀ (H : Heap) (locs : List Loc), va_P D vwCl (gW cy ad σ res.2) H → va_S (gA ad) s.heap H locs → ∀ ls : Array Slot, lv_has ls 6 [(3, .int res.1)] → W p l e R s m args below meth c H locs 0 0 (MQ below (mQi D cy ad σ out) args s 0 0 (gA ad)) (F0 m 143 ls [])) → W p l e R s m args below meth c H locs 0 0 (MQ below (mQi D cy ad σ out) args s 0 0 (gA ad)) (F0 m 5 ls []) := by
  have hx := Z.x
  have hb := Z.b
  intro n
  induction n with
  | zero => intro x1 x2 x3 x4 τ res h; cases h
  | succ n ih =>
    intro x1 x2 x3 x4 τ res h H locs hP hS ls hl kx
    have J82 : ∀ (x1 : Int32) (x2 : Int32) (x4 : Int32) (x5 : Int32) (s0 : Int32) (s1 : Int32) (τ : Sx), m_X12_missedBy_J82 (m_X12_missedBy_L5 n) x1 x2 x4 x5 s0 s1 τ = some res → ∀ (H : Heap) (locs : List Loc), va_P D vwCl (gW cy ad σ τ) H → va_S (gA ad) s.heap H locs → ∀ ls : Array Slot, lv_has ls 6 [(0, .ref (ad 66)), (1, .int x1), (2, .int x2), (4, .int x4), (5, .int x5)] → W p l e R s m args below meth c H locs 0 0 (MQ below (mQi D cy ad σ out) args s 0 0 (gA ad)) (F0 m 82 ls [.int s0, .int s1]) := by
      intro x1 x2 x4 x5 s0 s1 τ h H locs hP hS ls hl
      unfold m_X12_missedBy_J82 at h
      refine lv_iadd hx hb dX12_missedBy_82 ?_
      refine lv_istore_n (lv' := [(3, .int (s1 + s0)), (0, .ref (ad 66)), (1, .int x1), (2, .int x2), (4, .int x4), (5, .int x5)]) hx hb dX12_missedBy_83 rfl hl (by decide) rfl (fun ls hl => ?_)
      refine lv_aload_n hx hb dX12_missedBy_84 rfl (lv_at hl 1 rfl) ?_
      refine fg_66_21 Z hP wF_X12_25 dX12_missedBy_85 ?_
      refine lv_iconst (v := 4) hx hb dX12_missedBy_88 (by decide) ?_
      refine lv_iload_n hx hb dX12_missedBy_89 rfl (lv_at hl 2 rfl) ?_
      refine lv_iadd hx hb dX12_missedBy_90 ?_
      refine lv_dup2_11 hx hb dX12_missedBy_91 rfl rfl ?_
      obtain ⟨v5, hv5, h⟩ := bd h
      refine zm_ld (j := 5) Z hP hv5 dX12_missedBy_92 ?_
      refine lv_iload hx hb dX12_missedBy_93 (lv_at hl 5 rfl) ?_
      refine lv_if_eq (tgt := 134) hx hb dX12_missedBy_95 (by decide) (fun c6 => ?_) (fun c6 => ?_)
      · rw [if_pos c6] at h
        refine lv_iconst (v := 0) hx hb dX12_missedBy_134 (by decide) ?_
        refine lv_isub hx hb dX12_missedBy_135 ?_
        obtain ⟨q7, hq7, h⟩ := bd h
        refine zm_st (j := 5) Z hP hS hq7 dX12_missedBy_136 (fun H locs hP hS => ?_)
        refine lv_iinc (v := (x4 + 1)) (lv' := [(4, .int (x4 + 1)), (3, .int (s1 + s0)), (0, .ref (ad 66)), (1, .int x1), (2, .int x2), (5, .int x5)]) hx hb dX12_missedBy_137 hl (k := 4) rfl rfl (by decide) rfl (fun ls hl => ?_)
        refine lv_goto (tgt := 5) hx hb dX12_missedBy_140 (by decide) ?_
        exact ih x1 x2 ((s1 + s0)) ((x4 + 1)) q7 _ h _ _ hP hS _ (lv_sub hl [2, 3, 4, 1, 0] rfl) kx
      · rw [if_neg c6] at h
        refine lv_aload_n hx hb dX12_missedBy_98 rfl (lv_at hl 1 rfl) ?_
        refine fg_66_21 Z hP wF_X12_25 dX12_missedBy_99 ?_
        refine lv_iconst (v := 4) hx hb dX12_missedBy_102 (by decide) ?_
        refine lv_iload_n hx hb dX12_missedBy_103 rfl (lv_at hl 2 rfl) ?_
        refine lv_iadd hx hb dX12_missedBy_104 ?_
        obtain ⟨v8, hv8, h⟩ := bd h
        refine zm_ld (j := 5) Z hP hv8 dX12_missedBy_105 ?_
        refine lv_aload_n hx hb dX12_missedBy_106 rfl (lv_at hl 1 rfl) ?_
        refine fg_66_10 Z hP wF_X12_16 dX12_missedBy_107 ?_
        refine lv_iconst (v := 3) hx hb dX12_missedBy_110 (by decide) ?_
        refine lv_iload hx hb dX12_missedBy_111 (lv_at hl 4 rfl) ?_
        refine lv_imul hx hb dX12_missedBy_113 ?_
        refine lv_iconst (v := 2) hx hb dX12_missedBy_114 (by decide) ?_
        refine lv_iadd hx hb dX12_missedBy_115 ?_
        obtain ⟨v9, hv9, h⟩ := bd h
        refine zm_ld (j := 2) Z hP hv9 dX12_missedBy_116 ?_
        refine lv_icmp_lt (tgt := 134) hx hb dX12_missedBy_117 (by decide) (fun c10 => ?_) (fun c10 => ?_)
        · rw [if_pos c10] at h
          refine lv_iconst (v := 0) hx hb dX12_missedBy_134 (by decide) ?_
          refine lv_isub hx hb dX12_missedBy_135 ?_
          obtain ⟨q11, hq11, h⟩ := bd h
          refine zm_st (j := 5) Z hP hS hq11 dX12_missedBy_136 (fun H locs hP hS => ?_)
          refine lv_iinc (v := (x4 + 1)) (lv' := [(4, .int (x4 + 1)), (3, .int (s1 + s0)), (0, .ref (ad 66)), (1, .int x1), (2, .int x2), (5, .int x5)]) hx hb dX12_missedBy_137 hl (k := 4) rfl rfl (by decide) rfl (fun ls hl => ?_)
          refine lv_goto (tgt := 5) hx hb dX12_missedBy_140 (by decide) ?_
          exact ih x1 x2 ((s1 + s0)) ((x4 + 1)) q11 _ h _ _ hP hS _ (lv_sub hl [2, 3, 4, 1, 0] rfl) kx
        · rw [if_neg c10] at h
          refine lv_aload_n hx hb dX12_missedBy_120 rfl (lv_at hl 1 rfl) ?_
          refine fg_66_10 Z hP wF_X12_16 dX12_missedBy_121 ?_
          refine lv_iconst (v := 3) hx hb dX12_missedBy_124 (by decide) ?_
          refine lv_iload hx hb dX12_missedBy_125 (lv_at hl 4 rfl) ?_
          refine lv_imul hx hb dX12_missedBy_127 ?_
          refine lv_iconst (v := 2) hx hb dX12_missedBy_128 (by decide) ?_
          refine lv_iadd hx hb dX12_missedBy_129 ?_
          obtain ⟨v12, hv12, h⟩ := bd h
          refine zm_ld (j := 2) Z hP hv12 dX12_missedBy_130 ?_
          refine lv_goto (tgt := 135) hx hb dX12_missedBy_131 (by decide) ?_
          refine lv_isub hx hb dX12_missedBy_135 ?_
          obtain ⟨q13, hq13, h⟩ := bd h
          refine zm_st (j := 5) Z hP hS hq13 dX12_missedBy_136 (fun H locs hP hS => ?_)
          refine lv_iinc (v := (x4 + 1)) (lv' := [(4, .int (x4 + 1)), (3, .int (s1 + s0)), (0, .ref (ad 66)), (1, .int x1), (2, .int x2), (5, .int x5)]) hx hb dX12_missedBy_137 hl (k := 4) rfl rfl (by decide) rfl (fun ls hl => ?_)
          refine lv_goto (tgt := 5) hx hb dX12_missedBy_140 (by decide) ?_
          exact ih x1 x2 ((s1 + s0)) ((x4 + 1)) q13 _ h _ _ hP hS _ (lv_sub hl [2, 3, 4, 1, 0] rfl) kx
    have J81 : ∀ (x1 : Int32) (x2 : Int32) (x4 : Int32) (x5 : Int32) (s0 : Int32) (τ : Sx), m_X12_missedBy_J81 (m_X12_missedBy_L5 n) x1 x2 x4 x5 s0 τ = some res → ∀ (H : Heap) (locs : List Loc), va_P D vwCl (gW cy ad σ τ) H → va_S (gA ad) s.heap H locs → ∀ ls : Array Slot, lv_has ls 6 [(0, .ref (ad 66)), (1, .int x1), (2, .int x2), (4, .int x4), (5, .int x5)] → W p l e R s m args below meth c H locs 0 0 (MQ below (mQi D cy ad σ out) args s 0 0 (gA ad)) (F0 m 81 ls [.int s0]) := by
      intro x1 x2 x4 x5 s0 τ h H locs hP hS ls hl
      unfold m_X12_missedBy_J81 at h
      refine lv_iconst (v := 0) hx hb dX12_missedBy_81 (by decide) ?_
      exact J82 x1 x2 x4 x5 0 s0 τ h _ _ hP hS _ (lv_sub hl [0, 1, 2, 3, 4] rfl)
    have J47 : ∀ (x1 : Int32) (x2 : Int32) (x3 : Int32) (x4 : Int32) (s0 : Int32) (τ : Sx), m_X12_missedBy_J47 (m_X12_missedBy_L5 n) x1 x2 x3 x4 s0 τ = some res → ∀ (H : Heap) (locs : List Loc), va_P D vwCl (gW cy ad σ τ) H → va_S (gA ad) s.heap H locs → ∀ ls : Array Slot, lv_has ls 6 [(0, .ref (ad 66)), (1, .int x1), (2, .int x2), (3, .int x3), (4, .int x4)] → W p l e R s m args below meth c H locs 0 0 (MQ below (mQi D cy ad σ out) args s 0 0 (gA ad)) (F0 m 47 ls [.int s0]) := by
      intro x1 x2 x3 x4 s0 τ h H locs hP hS ls hl
      unfold m_X12_missedBy_J47 at h
      refine lv_istore (lv' := [(5, .int s0), (0, .ref (ad 66)), (1, .int x1), (2, .int x2), (3, .int x3), (4, .int x4)]) hx hb dX12_missedBy_47 hl (by decide) rfl (fun ls hl => ?_)
      refine lv_iload_n hx hb dX12_missedBy_49 rfl (lv_at hl 4 rfl) ?_
      refine lv_iload hx hb dX12_missedBy_50 (lv_at hl 0 rfl) ?_
      refine lv_if_eq (tgt := 81) hx hb dX12_missedBy_52 (by decide) (fun c4 => ?_) (fun c4 => ?_)
      · rw [if_pos c4] at h
        exact J81 x1 x2 x4 s0 x3 τ h _ _ hP hS _ (lv_sub hl [1, 2, 3, 5, 0] rfl)
      · rw [if_neg c4] at h
        refine lv_aload_n hx hb dX12_missedBy_55 rfl (lv_at hl 1 rfl) ?_
        refine fg_66_21 Z hP wF_X12_25 dX12_missedBy_56 ?_
        refine lv_iconst (v := 4) hx hb dX12_missedBy_59 (by decide) ?_
        refine lv_iload_n hx hb dX12_missedBy_60 rfl (lv_at hl 2 rfl) ?_
        refine lv_iadd hx hb dX12_missedBy_61 ?_
        obtain ⟨v14, hv14, h⟩ := bd h
        refine zm_ld (j := 5) Z hP hv14 dX12_missedBy_62 ?_
        refine lv_aload_n hx hb dX12_missedBy_63 rfl (lv_at hl 1 rfl) ?_
        refine fg_66_10 Z hP wF_X12_16 dX12_missedBy_64 ?_
        refine lv_iconst (v := 3) hx hb dX12_missedBy_67 (by decide) ?_
        refine lv_iload hx hb dX12_missedBy_68 (lv_at hl 5 rfl) ?_
        refine lv_imul hx hb dX12_missedBy_70 ?_
        refine lv_iconst (v := 2) hx hb dX12_missedBy_71 (by decide) ?_
        refine lv_iadd hx hb dX12_missedBy_72 ?_
        obtain ⟨v15, hv15, h⟩ := bd h
        refine zm_ld (j := 2) Z hP hv15 dX12_missedBy_73 ?_
        refine lv_icmp_ge (tgt := 81) hx hb dX12_missedBy_74 (by decide) (fun c16 => ?_) (fun c16 => ?_)
        · rw [if_pos c16] at h
          exact J81 x1 x2 x4 s0 x3 τ h _ _ hP hS _ (lv_sub hl [1, 2, 3, 5, 0] rfl)
        · rw [if_neg c16] at h
          refine lv_iconst (v := 1) hx hb dX12_missedBy_77 (by decide) ?_
          refine lv_goto (tgt := 82) hx hb dX12_missedBy_78 (by decide) ?_
          exact J82 x1 x2 x4 s0 1 x3 τ h _ _ hP hS _ (lv_sub hl [1, 2, 3, 5, 0] rfl)
    have J46 : ∀ (x1 : Int32) (x2 : Int32) (x3 : Int32) (x4 : Int32) (τ : Sx), m_X12_missedBy_J46 (m_X12_missedBy_L5 n) x1 x2 x3 x4 τ = some res → ∀ (H : Heap) (locs : List Loc), va_P D vwCl (gW cy ad σ τ) H → va_S (gA ad) s.heap H locs → ∀ ls : Array Slot, lv_has ls 6 [(0, .ref (ad 66)), (1, .int x1), (2, .int x2), (3, .int x3), (4, .int x4)] → W p l e R s m args below meth c H locs 0 0 (MQ below (mQi D cy ad σ out) args s 0 0 (gA ad)) (F0 m 46 ls []) := by
      intro x1 x2 x3 x4 τ h H locs hP hS ls hl
      unfold m_X12_missedBy_J46 at h
      refine lv_iconst (v := 0) hx hb dX12_missedBy_46 (by decide) ?_
      exact J47 x1 x2 x3 x4 0 τ h _ _ hP hS _ (lv_sub hl [0, 1, 2, 3, 4] rfl)
    rw [m_X12_missedBy_L5] at h
    refine lv_iload hx hb dX12_missedBy_5 (lv_at hl 4 rfl) ?_
    refine lv_aload_n hx hb dX12_missedBy_7 rfl (lv_at hl 0 rfl) ?_
    refine fg_66_13 Z hP wF_X12_130 dX12_missedBy_8 ?_
    refine lv_icmp_ge (tgt := 143) hx hb dX12_missedBy_11 (by decide) (fun c1 => ?_) (fun c1 => ?_)
    · rw [if_pos c1] at h
      obtain rfl := Option.some.inj h
      exact kx _ _ hP hS _ (lv_sub hl [3] rfl)
    · rw [if_neg c1] at h
      refine lv_aload_n hx hb dX12_missedBy_14 rfl (lv_at hl 0 rfl) ?_
      refine fg_66_10 Z hP wF_X12_16 dX12_missedBy_15 ?_
      refine lv_iconst (v := 3) hx hb dX12_missedBy_18 (by decide) ?_
      refine lv_iload hx hb dX12_missedBy_19 (lv_at hl 4 rfl) ?_
      refine lv_imul hx hb dX12_missedBy_21 ?_
      obtain ⟨v2, hv2, h⟩ := bd h
      refine zm_ld (j := 2) Z hP hv2 dX12_missedBy_22 ?_
      refine lv_iload_n hx hb dX12_missedBy_23 rfl (lv_at hl 1 rfl) ?_
      refine lv_icmp_ne (tgt := 46) hx hb dX12_missedBy_24 (by decide) (fun c3 => ?_) (fun c3 => ?_)
      · rw [if_neg c3] at h
        exact J46 x1 x2 x3 x4 τ h _ _ hP hS _ (lv_sub hl [0, 1, 2, 3, 4] rfl)
      · rw [if_pos c3] at h
        refine lv_aload_n hx hb dX12_missedBy_27 rfl (lv_at hl 0 rfl) ?_
        refine fg_66_10 Z hP wF_X12_16 dX12_missedBy_28 ?_
        refine lv_iconst (v := 3) hx hb dX12_missedBy_31 (by decide) ?_
        refine lv_iload hx hb dX12_missedBy_32 (lv_at hl 4 rfl) ?_
        refine lv_imul hx hb dX12_missedBy_34 ?_
        refine lv_iconst (v := 1) hx hb dX12_missedBy_35 (by decide) ?_
        refine lv_iadd hx hb dX12_missedBy_36 ?_
        obtain ⟨v17, hv17, h⟩ := bd h
        refine zm_ld (j := 2) Z hP hv17 dX12_missedBy_37 ?_
        refine lv_iload_n hx hb dX12_missedBy_38 rfl (lv_at hl 2 rfl) ?_
        refine lv_icmp_ne (tgt := 46) hx hb dX12_missedBy_39 (by decide) (fun c18 => ?_) (fun c18 => ?_)
        · rw [if_neg c18] at h
          exact J46 x1 x2 x3 x4 τ h _ _ hP hS _ (lv_sub hl [0, 1, 2, 3, 4] rfl)
        · rw [if_pos c18] at h
          refine lv_iconst (v := 1) hx hb dX12_missedBy_42 (by decide) ?_
          refine lv_goto (tgt := 47) hx hb dX12_missedBy_43 (by decide) ?_
          exact J47 x1 x2 x3 x4 1 τ h _ _ hP hS _ (lv_sub hl [0, 1, 2, 3, 4] rfl)
set_option maxHeartbeats 4000000 in
set_option maxRecDepth 100000 in
theorem c_X12_missedBy {l : Launch} {D : va_G} {cy : Nat → ClassId} {ad : Nat → Nat} {σ τ : Sx} {R : Room} (hI : gInj ad) (hRf : 0 ≤ R.frames) (hRl : 0 ≤ R.locals) {x1 : Int32} {x2 : Int32} {out : Int32 × Sx} (h : m_X12_missedBy τ x1 x2 = some out) : Met l yX12_missedBy [Cond.code yX12_missedBy cX12_missedBy 6 (some .int)] R (va_Pc [.ref (ad 66), .int x1, .int x2] (gB D cy ad σ τ)) (mQi D cy ad σ out) 0 0 (gA ad) := by
  refine zstart [.ref (ad 66), .int x1, .int x2] (by decide) rfl hI (Nat.le_of_ble_eq_true rfl) ?_
  intro p e s m below meth c Z hr hlk hP ls hl
  have hx := Z.x
  have hb := Z.b
  generalize hargs : ([.ref (ad 66), .int x1, .int x2] : List Value).toArray = args
  have hl : lv_has ls 6 [(0, .ref (ad 66)), (1, .int x1), (2, .int x2)] := hl
  have hS : va_S (gA ad) s.heap s.heap [] := va_S.rf
  unfold m_X12_missedBy at h
  refine lv_iconst (v := 0) hx hb dX12_missedBy_0 (by decide) ?_
  refine lv_istore_n (lv' := [(3, .int 0), (0, .ref (ad 66)), (1, .int x1), (2, .int x2)]) hx hb dX12_missedBy_1 rfl hl (by decide) rfl (fun ls hl => ?_)
  refine lv_iconst (v := 0) hx hb dX12_missedBy_2 (by decide) ?_
  refine lv_istore (lv' := [(4, .int 0), (3, .int 0), (0, .ref (ad 66)), (1, .int x1), (2, .int x2)]) hx hb dX12_missedBy_3 hl (by decide) rfl (fun ls hl => ?_)
  obtain ⟨y19, hy19, h⟩ := bd h
  refine w_X12_missedBy_L5 Z hr hlk hRf hRl out FU x1 x2 0 0 τ y19 hy19 _ _ hP hS _ (lv_sub hl [2, 3, 4, 1, 0] rfl) (fun H locs hP hS ls hl => ?_)
  refine lv_iload_n hx hb dX12_missedBy_143 rfl (lv_at hl 0 rfl) ?_
  exact zmi Z hP hS hr hlk h dX12_missedBy_144
def m_X12_isHeard_J53 (rec : Int32 → Int32 → Int32 → Int32 → Int32 → Sx → Option (Int32 × Sx)) (x1 : Int32) (x2 : Int32) (x3 : Int32) (x4 : Int32) (x5 : Int32) (s0 : Int32) (τ : Sx) : Option (Int32 × Sx) :=
  if s0 = 0 then ((ldA mLn τ 5 ((4 + x1))).bind (fun v7 => (ldA mLn τ 1 (((3 * x1) + 2))).bind (fun v8 => (m_X12_lower v7 v8).bind (fun v9 => (stA mLn τ 5 ((4 + x1)) v9).bind (fun q10 => rec x1 x2 x3 x4 ((x5 + 1)) q10))))) else ((ldA mLn τ 5 ((4 + x1))).bind (fun v11 => (ldA mLn τ 1 (((3 * x1) + 1))).bind (fun v12 => (m_X12_filled v11 v12).bind (fun v13 => (stA mLn τ 5 ((4 + x1)) v13).bind (fun q14 => rec x1 x2 x3 x4 ((x5 + 1)) q14)))))
def m_X12_isHeard_J52 (rec : Int32 → Int32 → Int32 → Int32 → Int32 → Sx → Option (Int32 × Sx)) (x1 : Int32) (x2 : Int32) (x3 : Int32) (x4 : Int32) (x5 : Int32) (τ : Sx) : Option (Int32 × Sx) :=
  m_X12_isHeard_J53 rec x1 x2 x3 x4 x5 0 τ
def m_X12_isHeard_L15  : Nat → Int32 → Int32 → Int32 → Int32 → Int32 → Sx → Option (Int32 × Sx)
  | 0, _, _, _, _, _, _ => none
  | n + 1, x1, x2, x3, x4, x5, τ =>
  if x3 < x5 then (some ((x4, τ))) else ((m_X12_missedBy τ x1 x5).bind (fun q4 => if x5 < x2 then (m_X12_isHeard_J52 (m_X12_isHeard_L15 n) x1 x2 x3 ((x4 + q4.1)) x5 q4.2) else ((m_X12_isDark q4.2 x5).bind (fun v15 => if v15 = 0 then (m_X12_isHeard_J53 (m_X12_isHeard_L15 n) x1 x2 x3 ((x4 + q4.1)) x5 1 q4.2) else (m_X12_isHeard_J52 (m_X12_isHeard_L15 n) x1 x2 x3 ((x4 + q4.1)) x5 q4.2)))))
def m_X12_isHeard (τ : Sx) (x1 : Int32) (x2 : Int32) (x3 : Int32) : Option (Int32 × Sx) :=
  (m_X12_asNow τ).bind (fun q1 => (ldA mLn q1 4 0).bind (fun v2 => (m_X12_isHeard_L15 FU x1 x2 x3 0 v2 q1).bind (fun y17 => if y17.1 = 0 then (some ((1, y17.2))) else (some ((0, y17.2))))))
set_option maxHeartbeats 4000000 in
set_option maxRecDepth 100000 in
theorem w_X12_isHeard_L15 {l : Launch} {D : va_G} {cy : Nat → ClassId} {ad : Nat → Nat} {σ : Sx} {p : Program} {e : Env} {R : Room} {s : State} {m : MethodId} {args : Array Value} {below : List Frame} {meth : Method} {c : Code} (Z : Zc p s m c cX12_isHeard 7 RX12 D cy ad) (hr : meth.sig.returnType = (some .boolean)) (hlk : meth.locks = false) (hRf : 2 ≤ R.frames) (hRl : 45 ≤ R.locals) (out : Int32 × Sx) : ∀ (n : Nat) (x1 : Int32) (x2 : Int32) (x3 : Int32) (x4 : Int32) (x5 : Int32) (τ : Sx) (res : Int32 × Sx), m_X12_isHeard_L15 n x1 x2 x3 x4 x5 τ = some res → ∀ (H : Heap) (locs : List Loc), va_P D vwCl (gW cy ad σ τ) H → va_S (gA ad) s.heap H locs → ∀ ls : Array Slot, lv_has ls 7 [(0, .ref (ad 66)), (1, .int x1), (2, .int x2), (3, .int x3), (4, .int x4), (5, .int x5)] → (∀ (H : Heap) (locs : List Loc), va_P D vwCl (gW cy ad σ res.2) H → va_S (gA ad) s.heap H locs → ∀ ls : Array Slot, lv_has ls 7 [(4, .int res.1)] → W p l e R s m args below meth c H locs 0 0 (MQ below (mQi D cy ad σ out) args s 0 0 (gA ad)) (F0 m 119 ls [])) → W p l e R s m args below meth c H locs 0 0 (MQ below (mQi D cy ad σ out) args s 0 0 (gA ad)) (F0 m 15 ls []) := by
  have hx := Z.x
  have hb := Z.b
  intro n
  induction n with
  | zero => intro x1 x2 x3 x4 x5 τ res h; cases h
  | succ n ih =>
    intro x1 x2 x3 x4 x5 τ res h H locs hP hS ls hl kx
    have J53 : ∀ (x1 : Int32) (x2 : Int32) (x3 : Int32) (x4 : Int32) (x5 : Int32) (s0 : Int32) (τ : Sx), m_X12_isHeard_J53 (m_X12_isHeard_L15 n) x1 x2 x3 x4 x5 s0 τ = some res → ∀ (H : Heap) (locs : List Loc), va_P D vwCl (gW cy ad σ τ) H → va_S (gA ad) s.heap H locs → ∀ ls : Array Slot, lv_has ls 7 [(0, .ref (ad 66)), (1, .int x1), (2, .int x2), (3, .int x3), (4, .int x4), (5, .int x5)] → W p l e R s m args below meth c H locs 0 0 (MQ below (mQi D cy ad σ out) args s 0 0 (gA ad)) (F0 m 53 ls [.int s0]) := by
      intro x1 x2 x3 x4 x5 s0 τ h H locs hP hS ls hl
      unfold m_X12_isHeard_J53 at h
      refine lv_istore (lv' := [(6, .int s0), (0, .ref (ad 66)), (1, .int x1), (2, .int x2), (3, .int x3), (4, .int x4), (5, .int x5)]) hx hb dX12_isHeard_53 hl (by decide) rfl (fun ls hl => ?_)
      refine lv_aload_n hx hb dX12_isHeard_55 rfl (lv_at hl 1 rfl) ?_
      refine fg_66_21 Z hP wF_X12_25 dX12_isHeard_56 ?_
      refine lv_iconst (v := 4) hx hb dX12_isHeard_59 (by decide) ?_
      refine lv_iload_n hx hb dX12_isHeard_60 rfl (lv_at hl 2 rfl) ?_
      refine lv_iadd hx hb dX12_isHeard_61 ?_
      refine lv_iload hx hb dX12_isHeard_62 (lv_at hl 0 rfl) ?_
      refine lv_if_eq (tgt := 91) hx hb dX12_isHeard_64 (by decide) (fun c6 => ?_) (fun c6 => ?_)
      · rw [if_pos c6] at h
        refine lv_aload_n hx hb dX12_isHeard_91 rfl (lv_at hl 1 rfl) ?_
        refine fg_66_21 Z hP wF_X12_25 dX12_isHeard_92 ?_
        refine lv_iconst (v := 4) hx hb dX12_isHeard_95 (by decide) ?_
        refine lv_iload_n hx hb dX12_isHeard_96 rfl (lv_at hl 2 rfl) ?_
        refine lv_iadd hx hb dX12_isHeard_97 ?_
        obtain ⟨v7, hv7, h⟩ := bd h
        refine zm_ld (j := 5) Z hP hv7 dX12_isHeard_98 ?_
        refine lv_aload_n hx hb dX12_isHeard_99 rfl (lv_at hl 1 rfl) ?_
        refine fg_66_9 Z hP wF_X12_13 dX12_isHeard_100 ?_
        refine lv_iconst (v := 3) hx hb dX12_isHeard_103 (by decide) ?_
        refine lv_iload_n hx hb dX12_isHeard_104 rfl (lv_at hl 2 rfl) ?_
        refine lv_imul hx hb dX12_isHeard_105 ?_
        refine lv_iconst (v := 2) hx hb dX12_isHeard_106 (by decide) ?_
        refine lv_iadd hx hb dX12_isHeard_107 ?_
        obtain ⟨v8, hv8, h⟩ := bd h
        refine zm_ld (j := 1) Z hP hv8 dX12_isHeard_108 ?_
        obtain ⟨v9, hv9, h⟩ := bd h
        refine zqi (zrunS Z hP (As := [.int v7, .int v8]) (rest := [.int (4 + x1), .ref (ad (67 + 5))]) (c_X12_lower (R := { frames := 0, cells := 0, slots := 0, locals := 0 }) Z.i (Nat.le_refl _) (Nat.le_refl _) hv9) cV_X12_152 rfl rfl ⟨(Nat.le_trans (Nat.le_of_ble_eq_true rfl) hRf), (Nat.le_trans (Nat.le_of_ble_eq_true rfl) hRl)⟩ rfl hl.1 rfl (Nat.le_of_ble_eq_true rfl) dX12_isHeard_109 ⟨Nat.zero_le _, Nat.zero_le _⟩) ?_
        obtain ⟨q10, hq10, h⟩ := bd h
        refine zm_st (j := 5) Z hP hS hq10 dX12_isHeard_112 (fun H locs hP hS => ?_)
        refine lv_iinc (v := (x5 + 1)) (lv' := [(5, .int (x5 + 1)), (6, .int s0), (0, .ref (ad 66)), (1, .int x1), (2, .int x2), (3, .int x3), (4, .int x4)]) hx hb dX12_isHeard_113 hl (k := 6) rfl rfl (by decide) rfl (fun ls hl => ?_)
        refine lv_goto (tgt := 15) hx hb dX12_isHeard_116 (by decide) ?_
        exact ih x1 x2 x3 x4 ((x5 + 1)) q10 _ h _ _ hP hS _ (lv_sub hl [2, 3, 4, 5, 6, 0] rfl) kx
      · rw [if_neg c6] at h
        refine lv_aload_n hx hb dX12_isHeard_67 rfl (lv_at hl 1 rfl) ?_
        refine fg_66_21 Z hP wF_X12_25 dX12_isHeard_68 ?_
        refine lv_iconst (v := 4) hx hb dX12_isHeard_71 (by decide) ?_
        refine lv_iload_n hx hb dX12_isHeard_72 rfl (lv_at hl 2 rfl) ?_
        refine lv_iadd hx hb dX12_isHeard_73 ?_
        obtain ⟨v11, hv11, h⟩ := bd h
        refine zm_ld (j := 5) Z hP hv11 dX12_isHeard_74 ?_
        refine lv_aload_n hx hb dX12_isHeard_75 rfl (lv_at hl 1 rfl) ?_
        refine fg_66_9 Z hP wF_X12_13 dX12_isHeard_76 ?_
        refine lv_iconst (v := 3) hx hb dX12_isHeard_79 (by decide) ?_
        refine lv_iload_n hx hb dX12_isHeard_80 rfl (lv_at hl 2 rfl) ?_
        refine lv_imul hx hb dX12_isHeard_81 ?_
        refine lv_iconst (v := 1) hx hb dX12_isHeard_82 (by decide) ?_
        refine lv_iadd hx hb dX12_isHeard_83 ?_
        obtain ⟨v12, hv12, h⟩ := bd h
        refine zm_ld (j := 1) Z hP hv12 dX12_isHeard_84 ?_
        obtain ⟨v13, hv13, h⟩ := bd h
        refine zqi (zrunS Z hP (As := [.int v11, .int v12]) (rest := [.int (4 + x1), .ref (ad (67 + 5))]) (c_X12_filled (R := { frames := 0, cells := 0, slots := 0, locals := 0 }) Z.i (Nat.le_refl _) (Nat.le_refl _) hv13) cV_X12_149 rfl rfl ⟨(Nat.le_trans (Nat.le_of_ble_eq_true rfl) hRf), (Nat.le_trans (Nat.le_of_ble_eq_true rfl) hRl)⟩ rfl hl.1 rfl (Nat.le_of_ble_eq_true rfl) dX12_isHeard_85 ⟨Nat.zero_le _, Nat.zero_le _⟩) ?_
        refine lv_goto (tgt := 112) hx hb dX12_isHeard_88 (by decide) ?_
        obtain ⟨q14, hq14, h⟩ := bd h
        refine zm_st (j := 5) Z hP hS hq14 dX12_isHeard_112 (fun H locs hP hS => ?_)
        refine lv_iinc (v := (x5 + 1)) (lv' := [(5, .int (x5 + 1)), (6, .int s0), (0, .ref (ad 66)), (1, .int x1), (2, .int x2), (3, .int x3), (4, .int x4)]) hx hb dX12_isHeard_113 hl (k := 6) rfl rfl (by decide) rfl (fun ls hl => ?_)
        refine lv_goto (tgt := 15) hx hb dX12_isHeard_116 (by decide) ?_
        exact ih x1 x2 x3 x4 ((x5 + 1)) q14 _ h _ _ hP hS _ (lv_sub hl [2, 3, 4, 5, 6, 0] rfl) kx
    have J52 : ∀ (x1 : Int32) (x2 : Int32) (x3 : Int32) (x4 : Int32) (x5 : Int32) (τ : Sx), m_X12_isHeard_J52 (m_X12_isHeard_L15 n) x1 x2 x3 x4 x5 τ = some res → ∀ (H : Heap) (locs : List Loc), va_P D vwCl (gW cy ad σ τ) H → va_S (gA ad) s.heap H locs → ∀ ls : Array Slot, lv_has ls 7 [(0, .ref (ad 66)), (1, .int x1), (2, .int x2), (3, .int x3), (4, .int x4), (5, .int x5)] → W p l e R s m args below meth c H locs 0 0 (MQ below (mQi D cy ad σ out) args s 0 0 (gA ad)) (F0 m 52 ls []) := by
      intro x1 x2 x3 x4 x5 τ h H locs hP hS ls hl
      unfold m_X12_isHeard_J52 at h
      refine lv_iconst (v := 0) hx hb dX12_isHeard_52 (by decide) ?_
      exact J53 x1 x2 x3 x4 x5 0 τ h _ _ hP hS _ (lv_sub hl [0, 1, 2, 3, 4, 5] rfl)
    rw [m_X12_isHeard_L15] at h
    refine lv_iload hx hb dX12_isHeard_15 (lv_at hl 5 rfl) ?_
    refine lv_iload_n hx hb dX12_isHeard_17 rfl (lv_at hl 3 rfl) ?_
    refine lv_icmp_gt (tgt := 119) hx hb dX12_isHeard_18 (by decide) (fun c3 => ?_) (fun c3 => ?_)
    · rw [if_pos c3] at h
      obtain rfl := Option.some.inj h
      exact kx _ _ hP hS _ (lv_sub hl [4] rfl)
    · rw [if_neg c3] at h
      refine lv_iload hx hb dX12_isHeard_21 (lv_at hl 4 rfl) ?_
      refine lv_aload_n hx hb dX12_isHeard_23 rfl (lv_at hl 0 rfl) ?_
      refine lv_iload_n hx hb dX12_isHeard_24 rfl (lv_at hl 1 rfl) ?_
      refine lv_iload hx hb dX12_isHeard_25 (lv_at hl 5 rfl) ?_
      obtain ⟨q4, hq4, h⟩ := bd h
      refine zwmi (zrunV Z hP (As := [.int x1, .int x5]) (rest := [.int x4]) (c_X12_missedBy (R := { frames := 0, cells := 0, slots := 0, locals := 0 }) Z.i (Nat.le_refl _) (Nat.le_refl _) hq4) cV_X12_211 rfl rfl ⟨(Nat.le_trans (Nat.le_of_ble_eq_true rfl) hRf), (Nat.le_trans (Nat.le_of_ble_eq_true rfl) hRl)⟩ 66 (gW_mo.trans rfl) rfl rfl rfl hl.1 rfl (Nat.le_of_ble_eq_true rfl) dX12_isHeard_27 ⟨Nat.zero_le _, Nat.zero_le _⟩) hS (fun H locs hP hS => ?_)
      refine lv_iadd hx hb dX12_isHeard_30 ?_
      refine lv_istore (lv' := [(4, .int (x4 + q4.1)), (0, .ref (ad 66)), (1, .int x1), (2, .int x2), (3, .int x3), (5, .int x5)]) hx hb dX12_isHeard_31 hl (by decide) rfl (fun ls hl => ?_)
      refine lv_iload hx hb dX12_isHeard_33 (lv_at hl 5 rfl) ?_
      refine lv_iload_n hx hb dX12_isHeard_35 rfl (lv_at hl 3 rfl) ?_
      refine lv_icmp_lt (tgt := 52) hx hb dX12_isHeard_36 (by decide) (fun c5 => ?_) (fun c5 => ?_)
      · rw [if_pos c5] at h
        exact J52 x1 x2 x3 ((x4 + q4.1)) x5 q4.2 h _ _ hP hS _ (lv_sub hl [1, 2, 3, 4, 0, 5] rfl)
      · rw [if_neg c5] at h
        refine lv_aload_n hx hb dX12_isHeard_39 rfl (lv_at hl 1 rfl) ?_
        refine lv_iload hx hb dX12_isHeard_40 (lv_at hl 5 rfl) ?_
        obtain ⟨v15, hv15, h⟩ := bd h
        refine zqi (zrunV Z hP (As := [.int x5]) (rest := []) (c_X12_isDark (R := { frames := 1, cells := 0, slots := 0, locals := 22 }) Z.i (Nat.le_refl _) (Nat.le_refl _) hv15) cV_X12_146 rfl rfl ⟨(Nat.le_trans (Nat.le_of_ble_eq_true rfl) hRf), (Nat.le_trans (Nat.le_of_ble_eq_true rfl) hRl)⟩ 66 (gW_mo.trans rfl) rfl rfl rfl hl.1 rfl (Nat.le_of_ble_eq_true rfl) dX12_isHeard_42 ⟨Nat.zero_le _, Nat.zero_le _⟩) ?_
        refine lv_if_ne (tgt := 52) hx hb dX12_isHeard_45 (by decide) (fun c16 => ?_) (fun c16 => ?_)
        · rw [if_neg c16] at h
          exact J52 x1 x2 x3 ((x4 + q4.1)) x5 q4.2 h _ _ hP hS _ (lv_sub hl [1, 2, 3, 4, 0, 5] rfl)
        · rw [if_pos c16] at h
          refine lv_iconst (v := 1) hx hb dX12_isHeard_48 (by decide) ?_
          refine lv_goto (tgt := 53) hx hb dX12_isHeard_49 (by decide) ?_
          exact J53 x1 x2 x3 ((x4 + q4.1)) x5 1 q4.2 h _ _ hP hS _ (lv_sub hl [1, 2, 3, 4, 0, 5] rfl)
set_option maxHeartbeats 4000000 in
set_option maxRecDepth 100000 in
theorem c_X12_isHeard {l : Launch} {D : va_G} {cy : Nat → ClassId} {ad : Nat → Nat} {σ τ : Sx} {R : Room} (hI : gInj ad) (hRf : 2 ≤ R.frames) (hRl : 45 ≤ R.locals) {x1 : Int32} {x2 : Int32} {x3 : Int32} {out : Int32 × Sx} (h : m_X12_isHeard τ x1 x2 x3 = some out) : Met l yX12_isHeard [Cond.code yX12_isHeard cX12_isHeard 7 (some .boolean)] R (va_Pc [.ref (ad 66), .int x1, .int x2, .int x3] (gB D cy ad σ τ)) (mQi D cy ad σ out) 0 0 (gA ad) := by
  refine zstart [.ref (ad 66), .int x1, .int x2, .int x3] (by decide) rfl hI (Nat.le_of_ble_eq_true rfl) ?_
  intro p e s m below meth c Z hr hlk hP ls hl
  have hx := Z.x
  have hb := Z.b
  generalize hargs : ([.ref (ad 66), .int x1, .int x2, .int x3] : List Value).toArray = args
  have hl : lv_has ls 7 [(0, .ref (ad 66)), (1, .int x1), (2, .int x2), (3, .int x3)] := hl
  have hS : va_S (gA ad) s.heap s.heap [] := va_S.rf
  unfold m_X12_isHeard at h
  refine lv_aload_n hx hb dX12_isHeard_0 rfl (lv_at hl 0 rfl) ?_
  obtain ⟨q1, hq1, h⟩ := bd h
  refine zwmv (zrunV Z hP (As := []) (rest := []) (c_X12_asNow (R := { frames := 0, cells := 0, slots := 0, locals := 0 }) Z.i (Nat.le_refl _) (Nat.le_refl _) hq1) cV_X12_189 rfl rfl ⟨(Nat.le_trans (Nat.le_of_ble_eq_true rfl) hRf), (Nat.le_trans (Nat.le_of_ble_eq_true rfl) hRl)⟩ 66 (gW_mo.trans rfl) rfl rfl rfl hl.1 rfl (Nat.le_of_ble_eq_true rfl) dX12_isHeard_1 ⟨Nat.zero_le _, Nat.zero_le _⟩) hS (fun H locs hP hS => ?_)
  refine lv_iconst (v := 0) hx hb dX12_isHeard_4 (by decide) ?_
  refine lv_istore (lv' := [(4, .int 0), (0, .ref (ad 66)), (1, .int x1), (2, .int x2), (3, .int x3)]) hx hb dX12_isHeard_5 hl (by decide) rfl (fun ls hl => ?_)
  refine lv_aload_n hx hb dX12_isHeard_7 rfl (lv_at hl 1 rfl) ?_
  refine fg_66_20 Z hP wF_X12_22 dX12_isHeard_8 ?_
  refine lv_iconst (v := 0) hx hb dX12_isHeard_11 (by decide) ?_
  obtain ⟨v2, hv2, h⟩ := bd h
  refine zm_ld (j := 4) Z hP hv2 dX12_isHeard_12 ?_
  refine lv_istore (lv' := [(5, .int v2), (4, .int 0), (0, .ref (ad 66)), (1, .int x1), (2, .int x2), (3, .int x3)]) hx hb dX12_isHeard_13 hl (by decide) rfl (fun ls hl => ?_)
  obtain ⟨y17, hy17, h⟩ := bd h
  refine w_X12_isHeard_L15 Z hr hlk hRf hRl out FU x1 x2 x3 0 v2 q1 y17 hy17 _ _ hP hS _ (lv_sub hl [2, 3, 4, 5, 1, 0] rfl) (fun H locs hP hS ls hl => ?_)
  refine lv_iload hx hb dX12_isHeard_119 (lv_at hl 0 rfl) ?_
  refine lv_if_ne (tgt := 128) hx hb dX12_isHeard_121 (by decide) (fun c18 => ?_) (fun c18 => ?_)
  · rw [if_neg c18] at h
    refine lv_iconst (v := 0) hx hb dX12_isHeard_128 (by decide) ?_
    exact zmzc Z hP hS hr hlk (Or.inl rfl) h dX12_isHeard_129
  · rw [if_pos c18] at h
    refine lv_iconst (v := 1) hx hb dX12_isHeard_124 (by decide) ?_
    refine lv_goto (tgt := 129) hx hb dX12_isHeard_125 (by decide) ?_
    exact zmzc Z hP hS hr hlk (Or.inr rfl) h dX12_isHeard_129
def m_X12_latest_L34  : Nat → Int32 → Int32 → Int32 → Sx → Option (Sum (Int32 × Sx) (Sx))
  | 0, _, _, _, _ => none
  | n + 1, x1, x2, x3, τ =>
  (ldA mLn τ 4 0).bind (fun v6 => if x3 < v6 then (some (.inr τ)) else ((m_X12_isHeard τ x1 x3 x2).bind (fun q8 => if q8.1 = 0 then (m_X12_latest_L34 n x1 x2 ((x3 + (-1))) q8.2) else (some (.inl ((x3, q8.2)))))))
def m_X12_latest (τ : Sx) (x1 : Int32) (x2 : Int32) : Option (Int32 × Sx) :=
  (m_X12_isPhone ((sg τ 0 0)) x1).bind (fun v1 => if v1 = 0 then (some (((-1), (sg τ 0 0)))) else ((ldA mLn ((sg τ 0 0)) 4 0).bind (fun v3 => (m_X12_in x2 v3 60).bind (fun v4 => if v4 = 0 then (some (((-1), (sg τ 0 0)))) else ((m_X12_latest_L34 FU x1 x2 ((x2 + 1)) ((sg τ 0 0))).bind (fun rs12 => Sum.elim (fun r11 => some r11) (fun y10 => some (((-9), y10))) rs12))))))
set_option maxHeartbeats 4000000 in
set_option maxRecDepth 100000 in
theorem w_X12_latest_L34 {l : Launch} {D : va_G} {cy : Nat → ClassId} {ad : Nat → Nat} {σ : Sx} {p : Program} {e : Env} {R : Room} {s : State} {m : MethodId} {args : Array Value} {below : List Frame} {meth : Method} {c : Code} (Z : Zc p s m c cX12_latest 4 RX12 D cy ad) (hr : meth.sig.returnType = (some .int)) (hlk : meth.locks = false) (hRf : 3 ≤ R.frames) (hRl : 71 ≤ R.locals) (out : Int32 × Sx) : ∀ (n : Nat) (x1 : Int32) (x2 : Int32) (x3 : Int32) (τ : Sx) (res : Sum (Int32 × Sx) (Sx)), m_X12_latest_L34 n x1 x2 x3 τ = some res → ∀ (H : Heap) (locs : List Loc), va_P D vwCl (gW cy ad σ τ) H → va_S (gA ad) s.heap H locs → ∀ ls : Array Slot, lv_has ls 4 [(0, .ref (ad 66)), (1, .int x1), (2, .int x2), (3, .int x3)] → (∀ r : Int32 × Sx, res = .inl r → r = out) → (∀ y : Sx, res = .inr y → ∀ (H : Heap) (locs : List Loc), va_P D vwCl (gW cy ad σ y) H → va_S (gA ad) s.heap H locs → ∀ ls : Array Slot, lv_has ls 4 [] → W p l e R s m args below meth c H locs 0 0 (MQ below (mQi D cy ad σ out) args s 0 0 (gA ad)) (F0 m 62 ls [])) → W p l e R s m args below meth c H locs 0 0 (MQ below (mQi D cy ad σ out) args s 0 0 (gA ad)) (F0 m 34 ls []) := by
  have hx := Z.x
  have hb := Z.b
  intro n
  induction n with
  | zero => intro x1 x2 x3 τ res h; cases h
  | succ n ih =>
    intro x1 x2 x3 τ res h H locs hP hS ls hl hri kx
    rw [m_X12_latest_L34] at h
    refine lv_iload_n hx hb dX12_latest_34 rfl (lv_at hl 3 rfl) ?_
    refine lv_aload_n hx hb dX12_latest_35 rfl (lv_at hl 0 rfl) ?_
    refine fg_66_20 Z hP wF_X12_22 dX12_latest_36 ?_
    refine lv_iconst (v := 0) hx hb dX12_latest_39 (by decide) ?_
    obtain ⟨v6, hv6, h⟩ := bd h
    refine zm_ld (j := 4) Z hP hv6 dX12_latest_40 ?_
    refine lv_icmp_lt (tgt := 62) hx hb dX12_latest_41 (by decide) (fun c7 => ?_) (fun c7 => ?_)
    · rw [if_pos c7] at h
      exact kx _ (Option.some.inj h).symm _ _ hP hS _ (lv_sub hl [] rfl)
    · rw [if_neg c7] at h
      refine lv_aload_n hx hb dX12_latest_44 rfl (lv_at hl 0 rfl) ?_
      refine lv_iload_n hx hb dX12_latest_45 rfl (lv_at hl 1 rfl) ?_
      refine lv_iload_n hx hb dX12_latest_46 rfl (lv_at hl 3 rfl) ?_
      refine lv_iload_n hx hb dX12_latest_47 rfl (lv_at hl 2 rfl) ?_
      obtain ⟨q8, hq8, h⟩ := bd h
      refine zwmi (zrunV Z hP (As := [.int x1, .int x3, .int x2]) (rest := []) (c_X12_isHeard (R := { frames := 2, cells := 0, slots := 0, locals := 45 }) Z.i (Nat.le_refl _) (Nat.le_refl _) hq8) cV_X12_214 rfl rfl ⟨(Nat.le_trans (Nat.le_of_ble_eq_true rfl) hRf), (Nat.le_trans (Nat.le_of_ble_eq_true rfl) hRl)⟩ 66 (gW_mo.trans rfl) rfl rfl rfl hl.1 rfl (Nat.le_of_ble_eq_true rfl) dX12_latest_48 ⟨Nat.zero_le _, Nat.zero_le _⟩) hS (fun H locs hP hS => ?_)
      refine lv_if_eq (tgt := 56) hx hb dX12_latest_51 (by decide) (fun c9 => ?_) (fun c9 => ?_)
      · rw [if_pos c9] at h
        refine lv_iinc (v := (x3 + (-1))) (lv' := [(3, .int (x3 + (-1))), (0, .ref (ad 66)), (1, .int x1), (2, .int x2)]) hx hb dX12_latest_56 hl (k := 3) rfl rfl (by decide) rfl (fun ls hl => ?_)
        refine lv_goto (tgt := 34) hx hb dX12_latest_59 (by decide) ?_
        exact ih x1 x2 ((x3 + (-1))) q8.2 _ h _ _ hP hS _ (lv_sub hl [1, 2, 3, 0] rfl) hri kx
      · rw [if_neg c9] at h
        refine lv_iload_n hx hb dX12_latest_54 rfl (lv_at hl 3 rfl) ?_
        exact zmi Z hP hS hr hlk (congrArg some (hri _ (Option.some.inj h).symm)) dX12_latest_55
set_option maxHeartbeats 4000000 in
set_option maxRecDepth 100000 in
theorem c_X12_latest {l : Launch} {D : va_G} {cy : Nat → ClassId} {ad : Nat → Nat} {σ τ : Sx} {R : Room} (hI : gInj ad) (hRf : 3 ≤ R.frames) (hRl : 71 ≤ R.locals) {x1 : Int32} {x2 : Int32} {out : Int32 × Sx} (h : m_X12_latest τ x1 x2 = some out) : Met l yX12_latest [Cond.code yX12_latest cX12_latest 4 (some .int)] R (va_Pc [.ref (ad 66), .int x1, .int x2] (gB D cy ad σ τ)) (mQi D cy ad σ out) 0 0 (gA ad) := by
  refine zstart [.ref (ad 66), .int x1, .int x2] (by decide) rfl hI (Nat.le_of_ble_eq_true rfl) ?_
  intro p e s m below meth c Z hr hlk hP ls hl
  have hx := Z.x
  have hb := Z.b
  generalize hargs : ([.ref (ad 66), .int x1, .int x2] : List Value).toArray = args
  have hl : lv_has ls 4 [(0, .ref (ad 66)), (1, .int x1), (2, .int x2)] := hl
  have hS : va_S (gA ad) s.heap s.heap [] := va_S.rf
  unfold m_X12_latest at h
  refine lv_aload_n hx hb dX12_latest_0 rfl (lv_at hl 0 rfl) ?_
  refine lv_iconst (v := 0) hx hb dX12_latest_1 (by decide) ?_
  refine fp_66_0 Z hP hS wF_X12_61 dX12_latest_2 (fun H locs hP hS => ?_)
  refine lv_aload_n hx hb dX12_latest_5 rfl (lv_at hl 0 rfl) ?_
  refine lv_iload_n hx hb dX12_latest_6 rfl (lv_at hl 1 rfl) ?_
  obtain ⟨v1, hv1, h⟩ := bd h
  refine zqi (zrunV Z hP (As := [.int x1]) (rest := []) (c_X12_isPhone (R := { frames := 1, cells := 0, slots := 0, locals := 22 }) Z.i (Nat.le_refl _) (Nat.le_refl _) hv1) cV_X12_142 rfl rfl ⟨(Nat.le_trans (Nat.le_of_ble_eq_true rfl) hRf), (Nat.le_trans (Nat.le_of_ble_eq_true rfl) hRl)⟩ 66 (gW_mo.trans rfl) rfl rfl rfl hl.1 rfl (Nat.le_of_ble_eq_true rfl) dX12_latest_7 ⟨Nat.zero_le _, Nat.zero_le _⟩) ?_
  refine lv_if_eq (tgt := 28) hx hb dX12_latest_10 (by decide) (fun c2 => ?_) (fun c2 => ?_)
  · rw [if_pos c2] at h
    refine lv_iconst (v := (-1)) hx hb dX12_latest_28 (by decide) ?_
    exact zmi Z hP hS hr hlk h dX12_latest_29
  · rw [if_neg c2] at h
    refine lv_iload_n hx hb dX12_latest_13 rfl (lv_at hl 2 rfl) ?_
    refine lv_aload_n hx hb dX12_latest_14 rfl (lv_at hl 0 rfl) ?_
    refine fg_66_20 Z hP wF_X12_22 dX12_latest_15 ?_
    refine lv_iconst (v := 0) hx hb dX12_latest_18 (by decide) ?_
    obtain ⟨v3, hv3, h⟩ := bd h
    refine zm_ld (j := 4) Z hP hv3 dX12_latest_19 ?_
    refine lv_bipush (v := 60) hx hb dX12_latest_20 (by decide) ?_
    obtain ⟨v4, hv4, h⟩ := bd h
    refine zqi (zrunS Z hP (As := [.int x2, .int v3, .int 60]) (rest := []) (c_X12_in (R := { frames := 0, cells := 0, slots := 0, locals := 0 }) Z.i (Nat.le_refl _) (Nat.le_refl _) hv4) cV_X12_64 rfl rfl ⟨(Nat.le_trans (Nat.le_of_ble_eq_true rfl) hRf), (Nat.le_trans (Nat.le_of_ble_eq_true rfl) hRl)⟩ rfl hl.1 rfl (Nat.le_of_ble_eq_true rfl) dX12_latest_22 ⟨Nat.zero_le _, Nat.zero_le _⟩) ?_
    refine lv_if_ne (tgt := 30) hx hb dX12_latest_25 (by decide) (fun c5 => ?_) (fun c5 => ?_)
    · rw [if_neg c5] at h
      refine lv_iload_n hx hb dX12_latest_30 rfl (lv_at hl 2 rfl) ?_
      refine lv_iconst (v := 1) hx hb dX12_latest_31 (by decide) ?_
      refine lv_iadd hx hb dX12_latest_32 ?_
      refine lv_istore_n (lv' := [(3, .int (x2 + 1)), (0, .ref (ad 66)), (1, .int x1), (2, .int x2)]) hx hb dX12_latest_33 rfl hl (by decide) rfl (fun ls hl => ?_)
      obtain ⟨rs12, hrs12, h⟩ := bd h
      refine w_X12_latest_L34 Z hr hlk hRf hRl out FU x1 x2 ((x2 + 1)) ((sg τ 0 0)) rs12 hrs12 _ _ hP hS _ (lv_sub hl [1, 2, 3, 0] rfl) (fun r11 e1 => ?_) (fun y10 e1 H locs hP hS ls hl => ?_)
      · subst e1
        rw [Sum.elim_inl] at h
        exact (Option.some.inj h)
      · subst e1
        rw [Sum.elim_inr] at h
        refine lv_bipush (v := (-9)) hx hb dX12_latest_62 (by decide) ?_
        exact zmi Z hP hS hr hlk h dX12_latest_64
    · rw [if_pos c5] at h
      refine lv_iconst (v := (-1)) hx hb dX12_latest_28 (by decide) ?_
      exact zmi Z hP hS hr hlk h dX12_latest_29
def m_X12_says (τ : Sx) (x1 : Int32) (x2 : Int32) (x3 : Int32) (x4 : Int32) : Option (Int32 × Sx) :=
  (m_X12_isPhone ((sg τ 0 0)) x1).bind (fun v1 => if v1 = 0 then (some (((-1), (sg τ 0 0)))) else ((m_X12_in x2 0 100).bind (fun v3 => if v3 = 0 then (some (((-1), (sg τ 0 0)))) else ((m_X12_in x3 1 20).bind (fun v5 => if v5 = 0 then (some (((-1), (sg τ 0 0)))) else ((m_X12_in x4 0 100).bind (fun v7 => if v7 = 0 then (some (((-1), (sg τ 0 0)))) else (if (((sg τ 0 0)).1 16) = 6 then (some (((-3), (sg τ 0 0)))) else ((stA mLn ((sg τ 0 0)) 8 ((4 * (((sg τ 0 0)).1 16))) x1).bind (fun q10 => (stA mLn q10 8 (((4 * (((sg τ 0 0)).1 16)) + 1)) x2).bind (fun q11 => (stA mLn q11 8 (((4 * (((sg τ 0 0)).1 16)) + 2)) x3).bind (fun q12 => (stA mLn q12 8 (((4 * (((sg τ 0 0)).1 16)) + 3)) x4).bind (fun q13 => some (((((sg q13 16 (((q13.1 16) + 1)))).1 16), (sg q13 16 (((q13.1 16) + 1))))))))))))))))))
set_option maxHeartbeats 4000000 in
set_option maxRecDepth 100000 in
theorem c_X12_says {l : Launch} {D : va_G} {cy : Nat → ClassId} {ad : Nat → Nat} {σ τ : Sx} {R : Room} (hI : gInj ad) (hRf : 2 ≤ R.frames) (hRl : 43 ≤ R.locals) {x1 : Int32} {x2 : Int32} {x3 : Int32} {x4 : Int32} {out : Int32 × Sx} (h : m_X12_says τ x1 x2 x3 x4 = some out) : Met l yX12_says [Cond.code yX12_says cX12_says 6 (some .int)] R (va_Pc [.ref (ad 66), .int x1, .int x2, .int x3, .int x4] (gB D cy ad σ τ)) (mQi D cy ad σ out) 0 0 (gA ad) := by
  refine zstart [.ref (ad 66), .int x1, .int x2, .int x3, .int x4] (by decide) rfl hI (Nat.le_of_ble_eq_true rfl) ?_
  intro p e s m below meth c Z hr hlk hP ls hl
  have hx := Z.x
  have hb := Z.b
  generalize hargs : ([.ref (ad 66), .int x1, .int x2, .int x3, .int x4] : List Value).toArray = args
  have hl : lv_has ls 6 [(0, .ref (ad 66)), (1, .int x1), (2, .int x2), (3, .int x3), (4, .int x4)] := hl
  have hS : va_S (gA ad) s.heap s.heap [] := va_S.rf
  unfold m_X12_says at h
  refine lv_aload_n hx hb dX12_says_0 rfl (lv_at hl 0 rfl) ?_
  refine lv_iconst (v := 0) hx hb dX12_says_1 (by decide) ?_
  refine fp_66_0 Z hP hS wF_X12_61 dX12_says_2 (fun H locs hP hS => ?_)
  refine lv_aload_n hx hb dX12_says_5 rfl (lv_at hl 0 rfl) ?_
  refine lv_iload_n hx hb dX12_says_6 rfl (lv_at hl 1 rfl) ?_
  obtain ⟨v1, hv1, h⟩ := bd h
  refine zqi (zrunV Z hP (As := [.int x1]) (rest := []) (c_X12_isPhone (R := { frames := 1, cells := 0, slots := 0, locals := 22 }) Z.i (Nat.le_refl _) (Nat.le_refl _) hv1) cV_X12_142 rfl rfl ⟨(Nat.le_trans (Nat.le_of_ble_eq_true rfl) hRf), (Nat.le_trans (Nat.le_of_ble_eq_true rfl) hRl)⟩ 66 (gW_mo.trans rfl) rfl rfl rfl hl.1 rfl (Nat.le_of_ble_eq_true rfl) dX12_says_7 ⟨Nat.zero_le _, Nat.zero_le _⟩) ?_
  refine lv_if_eq (tgt := 44) hx hb dX12_says_10 (by decide) (fun c2 => ?_) (fun c2 => ?_)
  · rw [if_pos c2] at h
    refine lv_iconst (v := (-1)) hx hb dX12_says_44 (by decide) ?_
    exact zmi Z hP hS hr hlk h dX12_says_45
  · rw [if_neg c2] at h
    refine lv_iload_n hx hb dX12_says_13 rfl (lv_at hl 2 rfl) ?_
    refine lv_iconst (v := 0) hx hb dX12_says_14 (by decide) ?_
    refine lv_bipush (v := 100) hx hb dX12_says_15 (by decide) ?_
    obtain ⟨v3, hv3, h⟩ := bd h
    refine zqi (zrunS Z hP (As := [.int x2, .int 0, .int 100]) (rest := []) (c_X12_in (R := { frames := 0, cells := 0, slots := 0, locals := 0 }) Z.i (Nat.le_refl _) (Nat.le_refl _) hv3) cV_X12_64 rfl rfl ⟨(Nat.le_trans (Nat.le_of_ble_eq_true rfl) hRf), (Nat.le_trans (Nat.le_of_ble_eq_true rfl) hRl)⟩ rfl hl.1 rfl (Nat.le_of_ble_eq_true rfl) dX12_says_17 ⟨Nat.zero_le _, Nat.zero_le _⟩) ?_
    refine lv_if_eq (tgt := 44) hx hb dX12_says_20 (by decide) (fun c4 => ?_) (fun c4 => ?_)
    · rw [if_pos c4] at h
      refine lv_iconst (v := (-1)) hx hb dX12_says_44 (by decide) ?_
      exact zmi Z hP hS hr hlk h dX12_says_45
    · rw [if_neg c4] at h
      refine lv_iload_n hx hb dX12_says_23 rfl (lv_at hl 3 rfl) ?_
      refine lv_iconst (v := 1) hx hb dX12_says_24 (by decide) ?_
      refine lv_bipush (v := 20) hx hb dX12_says_25 (by decide) ?_
      obtain ⟨v5, hv5, h⟩ := bd h
      refine zqi (zrunS Z hP (As := [.int x3, .int 1, .int 20]) (rest := []) (c_X12_in (R := { frames := 0, cells := 0, slots := 0, locals := 0 }) Z.i (Nat.le_refl _) (Nat.le_refl _) hv5) cV_X12_64 rfl rfl ⟨(Nat.le_trans (Nat.le_of_ble_eq_true rfl) hRf), (Nat.le_trans (Nat.le_of_ble_eq_true rfl) hRl)⟩ rfl hl.1 rfl (Nat.le_of_ble_eq_true rfl) dX12_says_27 ⟨Nat.zero_le _, Nat.zero_le _⟩) ?_
      refine lv_if_eq (tgt := 44) hx hb dX12_says_30 (by decide) (fun c6 => ?_) (fun c6 => ?_)
      · rw [if_pos c6] at h
        refine lv_iconst (v := (-1)) hx hb dX12_says_44 (by decide) ?_
        exact zmi Z hP hS hr hlk h dX12_says_45
      · rw [if_neg c6] at h
        refine lv_iload hx hb dX12_says_33 (lv_at hl 4 rfl) ?_
        refine lv_iconst (v := 0) hx hb dX12_says_35 (by decide) ?_
        refine lv_bipush (v := 100) hx hb dX12_says_36 (by decide) ?_
        obtain ⟨v7, hv7, h⟩ := bd h
        refine zqi (zrunS Z hP (As := [.int x4, .int 0, .int 100]) (rest := []) (c_X12_in (R := { frames := 0, cells := 0, slots := 0, locals := 0 }) Z.i (Nat.le_refl _) (Nat.le_refl _) hv7) cV_X12_64 rfl rfl ⟨(Nat.le_trans (Nat.le_of_ble_eq_true rfl) hRf), (Nat.le_trans (Nat.le_of_ble_eq_true rfl) hRl)⟩ rfl hl.1 rfl (Nat.le_of_ble_eq_true rfl) dX12_says_38 ⟨Nat.zero_le _, Nat.zero_le _⟩) ?_
        refine lv_if_ne (tgt := 46) hx hb dX12_says_41 (by decide) (fun c8 => ?_) (fun c8 => ?_)
        · rw [if_neg c8] at h
          refine lv_aload_n hx hb dX12_says_46 rfl (lv_at hl 0 rfl) ?_
          refine fg_66_27 Z hP wF_X12_139 dX12_says_47 ?_
          refine lv_bipush (v := 6) hx hb dX12_says_50 (by decide) ?_
          refine lv_icmp_ne (tgt := 58) hx hb dX12_says_52 (by decide) (fun c9 => ?_) (fun c9 => ?_)
          · rw [if_neg c9] at h
            refine lv_iconst (v := 4) hx hb dX12_says_58 (by decide) ?_
            refine lv_aload_n hx hb dX12_says_59 rfl (lv_at hl 0 rfl) ?_
            refine fg_66_27 Z hP wF_X12_139 dX12_says_60 ?_
            refine lv_imul hx hb dX12_says_63 ?_
            refine lv_istore (lv' := [(5, .int (4 * (((sg τ 0 0)).1 16))), (0, .ref (ad 66)), (1, .int x1), (2, .int x2), (3, .int x3), (4, .int x4)]) hx hb dX12_says_64 hl (by decide) rfl (fun ls hl => ?_)
            refine lv_aload_n hx hb dX12_says_66 rfl (lv_at hl 1 rfl) ?_
            refine fg_66_26 Z hP wF_X12_38 dX12_says_67 ?_
            refine lv_iload hx hb dX12_says_70 (lv_at hl 0 rfl) ?_
            refine lv_iload_n hx hb dX12_says_72 rfl (lv_at hl 2 rfl) ?_
            obtain ⟨q10, hq10, h⟩ := bd h
            refine zm_st (j := 8) Z hP hS hq10 dX12_says_73 (fun H locs hP hS => ?_)
            refine lv_aload_n hx hb dX12_says_74 rfl (lv_at hl 1 rfl) ?_
            refine fg_66_26 Z hP wF_X12_38 dX12_says_75 ?_
            refine lv_iload hx hb dX12_says_78 (lv_at hl 0 rfl) ?_
            refine lv_iconst (v := 1) hx hb dX12_says_80 (by decide) ?_
            refine lv_iadd hx hb dX12_says_81 ?_
            refine lv_iload_n hx hb dX12_says_82 rfl (lv_at hl 3 rfl) ?_
            obtain ⟨q11, hq11, h⟩ := bd h
            refine zm_st (j := 8) Z hP hS hq11 dX12_says_83 (fun H locs hP hS => ?_)
            refine lv_aload_n hx hb dX12_says_84 rfl (lv_at hl 1 rfl) ?_
            refine fg_66_26 Z hP wF_X12_38 dX12_says_85 ?_
            refine lv_iload hx hb dX12_says_88 (lv_at hl 0 rfl) ?_
            refine lv_iconst (v := 2) hx hb dX12_says_90 (by decide) ?_
            refine lv_iadd hx hb dX12_says_91 ?_
            refine lv_iload_n hx hb dX12_says_92 rfl (lv_at hl 4 rfl) ?_
            obtain ⟨q12, hq12, h⟩ := bd h
            refine zm_st (j := 8) Z hP hS hq12 dX12_says_93 (fun H locs hP hS => ?_)
            refine lv_aload_n hx hb dX12_says_94 rfl (lv_at hl 1 rfl) ?_
            refine fg_66_26 Z hP wF_X12_38 dX12_says_95 ?_
            refine lv_iload hx hb dX12_says_98 (lv_at hl 0 rfl) ?_
            refine lv_iconst (v := 3) hx hb dX12_says_100 (by decide) ?_
            refine lv_iadd hx hb dX12_says_101 ?_
            refine lv_iload hx hb dX12_says_102 (lv_at hl 5 rfl) ?_
            obtain ⟨q13, hq13, h⟩ := bd h
            refine zm_st (j := 8) Z hP hS hq13 dX12_says_104 (fun H locs hP hS => ?_)
            refine lv_aload_n hx hb dX12_says_105 rfl (lv_at hl 1 rfl) ?_
            refine lv_dup hx hb dX12_says_106 rfl ?_
            refine fg_66_27 Z hP wF_X12_139 dX12_says_107 ?_
            refine lv_iconst (v := 1) hx hb dX12_says_110 (by decide) ?_
            refine lv_iadd hx hb dX12_says_111 ?_
            refine fp_66_27 Z hP hS wF_X12_139 dX12_says_112 (fun H locs hP hS => ?_)
            refine lv_aload_n hx hb dX12_says_115 rfl (lv_at hl 1 rfl) ?_
            refine fg_66_27 Z hP wF_X12_139 dX12_says_116 ?_
            exact zmi Z hP hS hr hlk h dX12_says_119
          · rw [if_pos c9] at h
            refine lv_bipush (v := (-3)) hx hb dX12_says_55 (by decide) ?_
            exact zmi Z hP hS hr hlk h dX12_says_57
        · rw [if_pos c8] at h
          refine lv_iconst (v := (-1)) hx hb dX12_says_44 (by decide) ?_
          exact zmi Z hP hS hr hlk h dX12_says_45
def m_X12_forget (τ : Sx) : Option (Int32 × Sx) :=
  some (((((sg τ 0 0)).1 16), (sg (sg τ 0 0) 16 0)))
set_option maxHeartbeats 4000000 in
set_option maxRecDepth 100000 in
theorem c_X12_forget {l : Launch} {D : va_G} {cy : Nat → ClassId} {ad : Nat → Nat} {σ τ : Sx} {R : Room} (hI : gInj ad) (hRf : 0 ≤ R.frames) (hRl : 0 ≤ R.locals) {out : Int32 × Sx} (h : m_X12_forget τ = some out) : Met l yX12_forget [Cond.code yX12_forget cX12_forget 2 (some .int)] R (va_Pc [.ref (ad 66)] (gB D cy ad σ τ)) (mQi D cy ad σ out) 0 0 (gA ad) := by
  refine zstart [.ref (ad 66)] (by decide) rfl hI (Nat.le_of_ble_eq_true rfl) ?_
  intro p e s m below meth c Z hr hlk hP ls hl
  have hx := Z.x
  have hb := Z.b
  generalize hargs : ([.ref (ad 66)] : List Value).toArray = args
  have hl : lv_has ls 2 [(0, .ref (ad 66))] := hl
  have hS : va_S (gA ad) s.heap s.heap [] := va_S.rf
  unfold m_X12_forget at h
  refine lv_aload_n hx hb dX12_forget_0 rfl (lv_at hl 0 rfl) ?_
  refine lv_iconst (v := 0) hx hb dX12_forget_1 (by decide) ?_
  refine fp_66_0 Z hP hS wF_X12_61 dX12_forget_2 (fun H locs hP hS => ?_)
  refine lv_aload_n hx hb dX12_forget_5 rfl (lv_at hl 0 rfl) ?_
  refine fg_66_27 Z hP wF_X12_139 dX12_forget_6 ?_
  refine lv_istore_n (lv' := [(1, .int (((sg τ 0 0)).1 16)), (0, .ref (ad 66))]) hx hb dX12_forget_9 rfl hl (by decide) rfl (fun ls hl => ?_)
  refine lv_aload_n hx hb dX12_forget_10 rfl (lv_at hl 1 rfl) ?_
  refine lv_iconst (v := 0) hx hb dX12_forget_11 (by decide) ?_
  refine fp_66_27 Z hP hS wF_X12_139 dX12_forget_12 (fun H locs hP hS => ?_)
  refine lv_iload_n hx hb dX12_forget_15 rfl (lv_at hl 0 rfl) ?_
  exact zmi Z hP hS hr hlk h dX12_forget_16
def m_X12_risen_L6 (τ : Sx) : Nat → Int32 → Int32 → Int32 → Int32 → Option (Int32)
  | 0, _, _, _, _ => none
  | n + 1, x1, x3, x4, x5 =>
  if x3 ≤ x5 then (some x4) else ((ldA mLn τ 1 (((3 * x1) + 1))).bind (fun v2 => (m_X12_filled x4 v2).bind (fun v3 => m_X12_risen_L6 τ n x1 x3 v3 ((x5 + 1)))))
def m_X12_risen (τ : Sx) (x1 : Int32) (x2 : Int32) (x3 : Int32) : Option (Int32) :=
  (m_X12_risen_L6 τ FU x1 x3 x2 0).bind (fun y4 => some y4)
set_option maxHeartbeats 4000000 in
set_option maxRecDepth 100000 in
theorem w_X12_risen_L6 {l : Launch} {D : va_G} {cy : Nat → ClassId} {ad : Nat → Nat} {σ τ : Sx} {p : Program} {e : Env} {R : Room} {s : State} {m : MethodId} {args : Array Value} {below : List Frame} {meth : Method} {c : Code} (Z : Zc p s m c cX12_risen 6 RX12 D cy ad) (hP : va_P D vwCl (gW cy ad σ τ) s.heap) (hr : meth.sig.returnType = (some .int)) (hlk : meth.locks = false) (hRf : 1 ≤ R.frames) (hRl : 23 ≤ R.locals) (out : Int32) : ∀ (n : Nat) (x1 : Int32) (x3 : Int32) (x4 : Int32) (x5 : Int32) (res : Int32), m_X12_risen_L6 τ n x1 x3 x4 x5 = some res → ∀ ls : Array Slot, lv_has ls 6 [(0, .ref (ad 66)), (1, .int x1), (3, .int x3), (4, .int x4), (5, .int x5)] → (∀ ls : Array Slot, lv_has ls 6 [(4, .int res)] → W p l e R s m args below meth c s.heap [] 0 0 (MQ below (rQi out) args s 0 0 noA) (F0 m 35 ls [])) → W p l e R s m args below meth c s.heap [] 0 0 (MQ below (rQi out) args s 0 0 noA) (F0 m 6 ls []) := by
  have hx := Z.x
  have hb := Z.b
  intro n
  induction n with
  | zero => intro x1 x3 x4 x5 res h; cases h
  | succ n ih =>
    intro x1 x3 x4 x5 res h ls hl kx
    rw [m_X12_risen_L6] at h
    refine lv_iload hx hb dX12_risen_6 (lv_at hl 4 rfl) ?_
    refine lv_iload_n hx hb dX12_risen_8 rfl (lv_at hl 2 rfl) ?_
    refine lv_icmp_ge (tgt := 35) hx hb dX12_risen_9 (by decide) (fun c1 => ?_) (fun c1 => ?_)
    · rw [if_pos c1] at h
      obtain rfl := Option.some.inj h
      exact kx _ (lv_sub hl [3] rfl)
    · rw [if_neg c1] at h
      refine lv_iload hx hb dX12_risen_12 (lv_at hl 3 rfl) ?_
      refine lv_aload_n hx hb dX12_risen_14 rfl (lv_at hl 0 rfl) ?_
      refine fg_66_9 Z hP wF_X12_13 dX12_risen_15 ?_
      refine lv_iconst (v := 3) hx hb dX12_risen_18 (by decide) ?_
      refine lv_iload_n hx hb dX12_risen_19 rfl (lv_at hl 1 rfl) ?_
      refine lv_imul hx hb dX12_risen_20 ?_
      refine lv_iconst (v := 1) hx hb dX12_risen_21 (by decide) ?_
      refine lv_iadd hx hb dX12_risen_22 ?_
      obtain ⟨v2, hv2, h⟩ := bd h
      refine zm_ld (j := 1) Z hP hv2 dX12_risen_23 ?_
      obtain ⟨v3, hv3, h⟩ := bd h
      refine zqi (zrunS Z hP (As := [.int x4, .int v2]) (rest := []) (c_X12_filled (R := { frames := 0, cells := 0, slots := 0, locals := 0 }) Z.i (Nat.le_refl _) (Nat.le_refl _) hv3) cV_X12_149 rfl rfl ⟨(Nat.le_trans (Nat.le_of_ble_eq_true rfl) hRf), (Nat.le_trans (Nat.le_of_ble_eq_true rfl) hRl)⟩ rfl hl.1 rfl (Nat.le_of_ble_eq_true rfl) dX12_risen_24 ⟨Nat.zero_le _, Nat.zero_le _⟩) ?_
      refine lv_istore (lv' := [(4, .int v3), (0, .ref (ad 66)), (1, .int x1), (3, .int x3), (5, .int x5)]) hx hb dX12_risen_27 hl (by decide) rfl (fun ls hl => ?_)
      refine lv_iinc (v := (x5 + 1)) (lv' := [(5, .int (x5 + 1)), (4, .int v3), (0, .ref (ad 66)), (1, .int x1), (3, .int x3)]) hx hb dX12_risen_29 hl (k := 4) rfl rfl (by decide) rfl (fun ls hl => ?_)
      refine lv_goto (tgt := 6) hx hb dX12_risen_32 (by decide) ?_
      exact ih x1 x3 v3 ((x5 + 1)) _ h _ (lv_sub hl [2, 3, 4, 1, 0] rfl) kx
set_option maxHeartbeats 4000000 in
set_option maxRecDepth 100000 in
theorem c_X12_risen {l : Launch} {D : va_G} {cy : Nat → ClassId} {ad : Nat → Nat} {σ τ : Sx} {R : Room} (hI : gInj ad) (hRf : 1 ≤ R.frames) (hRl : 23 ≤ R.locals) {x1 : Int32} {x2 : Int32} {x3 : Int32} {out : Int32} (h : m_X12_risen τ x1 x2 x3 = some out) : Met l yX12_risen [Cond.code yX12_risen cX12_risen 6 (some .int)] R (va_Pc [.ref (ad 66), .int x1, .int x2, .int x3] (gB D cy ad σ τ)) (rQi out) 0 0 noA := by
  refine zstart [.ref (ad 66), .int x1, .int x2, .int x3] (by decide) rfl hI (Nat.le_of_ble_eq_true rfl) ?_
  intro p e s m below meth c Z hr hlk hP ls hl
  have hx := Z.x
  have hb := Z.b
  generalize hargs : ([.ref (ad 66), .int x1, .int x2, .int x3] : List Value).toArray = args
  have hl : lv_has ls 6 [(0, .ref (ad 66)), (1, .int x1), (2, .int x2), (3, .int x3)] := hl
  unfold m_X12_risen at h
  refine lv_iload_n hx hb dX12_risen_0 rfl (lv_at hl 2 rfl) ?_
  refine lv_istore (lv' := [(4, .int x2), (0, .ref (ad 66)), (1, .int x1), (2, .int x2), (3, .int x3)]) hx hb dX12_risen_1 hl (by decide) rfl (fun ls hl => ?_)
  refine lv_iconst (v := 0) hx hb dX12_risen_3 (by decide) ?_
  refine lv_istore (lv' := [(5, .int 0), (4, .int x2), (0, .ref (ad 66)), (1, .int x1), (2, .int x2), (3, .int x3)]) hx hb dX12_risen_4 hl (by decide) rfl (fun ls hl => ?_)
  obtain ⟨y4, hy4, h⟩ := bd h
  refine w_X12_risen_L6 Z hP hr hlk hRf hRl out FU x1 x3 x2 0 y4 hy4 _ (lv_sub hl [2, 3, 5, 1, 0] rfl) (fun ls hl => ?_)
  refine lv_iload hx hb dX12_risen_35 (lv_at hl 0 rfl) ?_
  exact zri Z hr hlk h dX12_risen_37
def m_X12_could_L43  : Nat → Int32 → Int32 → Int32 → Int32 → Int32 → Int32 → Sx → Option (Int32 × Int32 × Int32 × Int32 × Sx)
  | 0, _, _, _, _, _, _, _ => none
  | n + 1, x1, x2, x3, x4, x5, x6, τ =>
  if 101 ≤ x6 then (some ((x2, x3, x4, x5, τ))) else ((ldA mLn τ 8 ((4 * x1))).bind (fun v6 => (ldA mLn τ 8 (((4 * x1) + 2))).bind (fun v7 => (m_X12_risen τ v6 x6 v7).bind (fun v8 => (ldA mLn τ 8 (((4 * x1) + 3))).bind (fun v9 => if v8 = v9 then (if x4 = (-9) then (m_X12_could_L43 n x1 x2 ((x3 + 1)) x6 x6 ((x6 + 1)) τ) else (m_X12_could_L43 n x1 x2 ((x3 + 1)) x4 x6 ((x6 + 1)) τ)) else (m_X12_could_L43 n x1 x2 x3 x4 x5 ((x6 + 1)) τ))))))
def m_X12_could (τ : Sx) (x1 : Int32) (x2 : Int32) : Option (Int32 × Sx) :=
  (m_X12_in x1 0 (((((sg τ 0 0)).1 16) - 1))).bind (fun v1 => if v1 = 0 then (some (((-1), (sg τ 0 0)))) else ((m_X12_in x2 0 2).bind (fun v3 => if v3 = 0 then (some (((-1), (sg τ 0 0)))) else ((m_X12_could_L43 FU x1 x2 0 ((-9)) ((-9)) 0 ((sg τ 0 0))).bind (fun y12 => if y12.1 = 0 then (some ((y12.2.1, y12.2.2.2.2))) else (if y12.1 = 1 then (some ((y12.2.2.1, y12.2.2.2.2))) else (some ((y12.2.2.2.1, y12.2.2.2.2)))))))))
set_option maxHeartbeats 4000000 in
set_option maxRecDepth 100000 in
theorem w_X12_could_L43 {l : Launch} {D : va_G} {cy : Nat → ClassId} {ad : Nat → Nat} {σ : Sx} {p : Program} {e : Env} {R : Room} {s : State} {m : MethodId} {args : Array Value} {below : List Frame} {meth : Method} {c : Code} (Z : Zc p s m c cX12_could 7 RX12 D cy ad) (hr : meth.sig.returnType = (some .int)) (hlk : meth.locks = false) (hRf : 2 ≤ R.frames) (hRl : 48 ≤ R.locals) (out : Int32 × Sx) : ∀ (n : Nat) (x1 : Int32) (x2 : Int32) (x3 : Int32) (x4 : Int32) (x5 : Int32) (x6 : Int32) (τ : Sx) (res : Int32 × Int32 × Int32 × Int32 × Sx), m_X12_could_L43 n x1 x2 x3 x4 x5 x6 τ = some res → ∀ (H : Heap) (locs : List Loc), va_P D vwCl (gW cy ad σ τ) H → va_S (gA ad) s.heap H locs → ∀ ls : Array Slot, lv_has ls 7 [(0, .ref (ad 66)), (1, .int x1), (2, .int x2), (3, .int x3), (4, .int x4), (5, .int x5), (6, .int x6)] → (∀ (H : Heap) (locs : List Loc), va_P D vwCl (gW cy ad σ res.2.2.2.2) H → va_S (gA ad) s.heap H locs → ∀ ls : Array Slot, lv_has ls 7 [(2, .int res.1), (3, .int res.2.1), (4, .int res.2.2.1), (5, .int res.2.2.2.1)] → W p l e R s m args below meth c H locs 0 0 (MQ below (mQi D cy ad σ out) args s 0 0 (gA ad)) (F0 m 116 ls [])) → W p l e R s m args below meth c H locs 0 0 (MQ below (mQi D cy ad σ out) args s 0 0 (gA ad)) (F0 m 43 ls []) := by
  have hx := Z.x
  have hb := Z.b
  intro n
  induction n with
  | zero => intro x1 x2 x3 x4 x5 x6 τ res h; cases h
  | succ n ih =>
    intro x1 x2 x3 x4 x5 x6 τ res h H locs hP hS ls hl kx
    rw [m_X12_could_L43] at h
    refine lv_iload hx hb dX12_could_43 (lv_at hl 6 rfl) ?_
    refine lv_bipush (v := 101) hx hb dX12_could_45 (by decide) ?_
    refine lv_icmp_ge (tgt := 116) hx hb dX12_could_47 (by decide) (fun c5 => ?_) (fun c5 => ?_)
    · rw [if_pos c5] at h
      obtain rfl := Option.some.inj h
      exact kx _ _ hP hS _ (lv_sub hl [2, 3, 4, 5] rfl)
    · rw [if_neg c5] at h
      refine lv_aload_n hx hb dX12_could_50 rfl (lv_at hl 0 rfl) ?_
      refine lv_aload_n hx hb dX12_could_51 rfl (lv_at hl 0 rfl) ?_
      refine fg_66_26 Z hP wF_X12_38 dX12_could_52 ?_
      refine lv_iconst (v := 4) hx hb dX12_could_55 (by decide) ?_
      refine lv_iload_n hx hb dX12_could_56 rfl (lv_at hl 1 rfl) ?_
      refine lv_imul hx hb dX12_could_57 ?_
      obtain ⟨v6, hv6, h⟩ := bd h
      refine zm_ld (j := 8) Z hP hv6 dX12_could_58 ?_
      refine lv_iload hx hb dX12_could_59 (lv_at hl 6 rfl) ?_
      refine lv_aload_n hx hb dX12_could_61 rfl (lv_at hl 0 rfl) ?_
      refine fg_66_26 Z hP wF_X12_38 dX12_could_62 ?_
      refine lv_iconst (v := 4) hx hb dX12_could_65 (by decide) ?_
      refine lv_iload_n hx hb dX12_could_66 rfl (lv_at hl 1 rfl) ?_
      refine lv_imul hx hb dX12_could_67 ?_
      refine lv_iconst (v := 2) hx hb dX12_could_68 (by decide) ?_
      refine lv_iadd hx hb dX12_could_69 ?_
      obtain ⟨v7, hv7, h⟩ := bd h
      refine zm_ld (j := 8) Z hP hv7 dX12_could_70 ?_
      obtain ⟨v8, hv8, h⟩ := bd h
      refine zqi (zrunV Z hP (As := [.int v6, .int x6, .int v7]) (rest := []) (c_X12_risen (R := { frames := 1, cells := 0, slots := 0, locals := 23 }) Z.i (Nat.le_refl _) (Nat.le_refl _) hv8) cV_X12_217 rfl rfl ⟨(Nat.le_trans (Nat.le_of_ble_eq_true rfl) hRf), (Nat.le_trans (Nat.le_of_ble_eq_true rfl) hRl)⟩ 66 (gW_mo.trans rfl) rfl rfl rfl hl.1 rfl (Nat.le_of_ble_eq_true rfl) dX12_could_71 ⟨Nat.zero_le _, Nat.zero_le _⟩) ?_
      refine lv_aload_n hx hb dX12_could_74 rfl (lv_at hl 0 rfl) ?_
      refine fg_66_26 Z hP wF_X12_38 dX12_could_75 ?_
      refine lv_iconst (v := 4) hx hb dX12_could_78 (by decide) ?_
      refine lv_iload_n hx hb dX12_could_79 rfl (lv_at hl 1 rfl) ?_
      refine lv_imul hx hb dX12_could_80 ?_
      refine lv_iconst (v := 3) hx hb dX12_could_81 (by decide) ?_
      refine lv_iadd hx hb dX12_could_82 ?_
      obtain ⟨v9, hv9, h⟩ := bd h
      refine zm_ld (j := 8) Z hP hv9 dX12_could_83 ?_
      refine lv_icmp_ne (tgt := 110) hx hb dX12_could_84 (by decide) (fun c10 => ?_) (fun c10 => ?_)
      · rw [if_neg c10] at h
        refine lv_iinc (v := (x6 + 1)) (lv' := [(6, .int (x6 + 1)), (0, .ref (ad 66)), (1, .int x1), (2, .int x2), (3, .int x3), (4, .int x4), (5, .int x5)]) hx hb dX12_could_110 hl (k := 6) rfl rfl (by decide) rfl (fun ls hl => ?_)
        refine lv_goto (tgt := 43) hx hb dX12_could_113 (by decide) ?_
        exact ih x1 x2 x3 x4 x5 ((x6 + 1)) τ _ h _ _ hP hS _ (lv_sub hl [1, 2, 3, 4, 5, 6, 0] rfl) kx
      · rw [if_pos c10] at h
        refine lv_iinc (v := (x3 + 1)) (lv' := [(3, .int (x3 + 1)), (0, .ref (ad 66)), (1, .int x1), (2, .int x2), (4, .int x4), (5, .int x5), (6, .int x6)]) hx hb dX12_could_87 hl (k := 3) rfl rfl (by decide) rfl (fun ls hl => ?_)
        refine lv_iload hx hb dX12_could_90 (lv_at hl 4 rfl) ?_
        refine lv_bipush (v := (-9)) hx hb dX12_could_92 (by decide) ?_
        refine lv_icmp_ne (tgt := 102) hx hb dX12_could_94 (by decide) (fun c11 => ?_) (fun c11 => ?_)
        · rw [if_neg c11] at h
          refine lv_iload hx hb dX12_could_102 (lv_at hl 4 rfl) ?_
          refine lv_istore (lv' := [(4, .int x4), (3, .int (x3 + 1)), (0, .ref (ad 66)), (1, .int x1), (2, .int x2), (5, .int x5), (6, .int x6)]) hx hb dX12_could_104 hl (by decide) rfl (fun ls hl => ?_)
          refine lv_iload hx hb dX12_could_106 (lv_at hl 6 rfl) ?_
          refine lv_istore (lv' := [(5, .int x6), (4, .int x4), (3, .int (x3 + 1)), (0, .ref (ad 66)), (1, .int x1), (2, .int x2), (6, .int x6)]) hx hb dX12_could_108 hl (by decide) rfl (fun ls hl => ?_)
          refine lv_iinc (v := (x6 + 1)) (lv' := [(6, .int (x6 + 1)), (5, .int x6), (4, .int x4), (3, .int (x3 + 1)), (0, .ref (ad 66)), (1, .int x1), (2, .int x2)]) hx hb dX12_could_110 hl (k := 6) rfl rfl (by decide) rfl (fun ls hl => ?_)
          refine lv_goto (tgt := 43) hx hb dX12_could_113 (by decide) ?_
          exact ih x1 x2 ((x3 + 1)) x4 x6 ((x6 + 1)) τ _ h _ _ hP hS _ (lv_sub hl [4, 5, 6, 3, 2, 1, 0] rfl) kx
        · rw [if_pos c11] at h
          refine lv_iload hx hb dX12_could_97 (lv_at hl 6 rfl) ?_
          refine lv_goto (tgt := 104) hx hb dX12_could_99 (by decide) ?_
          refine lv_istore (lv' := [(4, .int x6), (3, .int (x3 + 1)), (0, .ref (ad 66)), (1, .int x1), (2, .int x2), (5, .int x5), (6, .int x6)]) hx hb dX12_could_104 hl (by decide) rfl (fun ls hl => ?_)
          refine lv_iload hx hb dX12_could_106 (lv_at hl 6 rfl) ?_
          refine lv_istore (lv' := [(5, .int x6), (4, .int x6), (3, .int (x3 + 1)), (0, .ref (ad 66)), (1, .int x1), (2, .int x2), (6, .int x6)]) hx hb dX12_could_108 hl (by decide) rfl (fun ls hl => ?_)
          refine lv_iinc (v := (x6 + 1)) (lv' := [(6, .int (x6 + 1)), (5, .int x6), (4, .int x6), (3, .int (x3 + 1)), (0, .ref (ad 66)), (1, .int x1), (2, .int x2)]) hx hb dX12_could_110 hl (k := 6) rfl rfl (by decide) rfl (fun ls hl => ?_)
          refine lv_goto (tgt := 43) hx hb dX12_could_113 (by decide) ?_
          exact ih x1 x2 ((x3 + 1)) x6 x6 ((x6 + 1)) τ _ h _ _ hP hS _ (lv_sub hl [4, 5, 6, 3, 2, 1, 0] rfl) kx
set_option maxHeartbeats 4000000 in
set_option maxRecDepth 100000 in
theorem c_X12_could {l : Launch} {D : va_G} {cy : Nat → ClassId} {ad : Nat → Nat} {σ τ : Sx} {R : Room} (hI : gInj ad) (hRf : 2 ≤ R.frames) (hRl : 48 ≤ R.locals) {x1 : Int32} {x2 : Int32} {out : Int32 × Sx} (h : m_X12_could τ x1 x2 = some out) : Met l yX12_could [Cond.code yX12_could cX12_could 7 (some .int)] R (va_Pc [.ref (ad 66), .int x1, .int x2] (gB D cy ad σ τ)) (mQi D cy ad σ out) 0 0 (gA ad) := by
  refine zstart [.ref (ad 66), .int x1, .int x2] (by decide) rfl hI (Nat.le_of_ble_eq_true rfl) ?_
  intro p e s m below meth c Z hr hlk hP ls hl
  have hx := Z.x
  have hb := Z.b
  generalize hargs : ([.ref (ad 66), .int x1, .int x2] : List Value).toArray = args
  have hl : lv_has ls 7 [(0, .ref (ad 66)), (1, .int x1), (2, .int x2)] := hl
  have hS : va_S (gA ad) s.heap s.heap [] := va_S.rf
  unfold m_X12_could at h
  refine lv_aload_n hx hb dX12_could_0 rfl (lv_at hl 0 rfl) ?_
  refine lv_iconst (v := 0) hx hb dX12_could_1 (by decide) ?_
  refine fp_66_0 Z hP hS wF_X12_61 dX12_could_2 (fun H locs hP hS => ?_)
  refine lv_iload_n hx hb dX12_could_5 rfl (lv_at hl 1 rfl) ?_
  refine lv_iconst (v := 0) hx hb dX12_could_6 (by decide) ?_
  refine lv_aload_n hx hb dX12_could_7 rfl (lv_at hl 0 rfl) ?_
  refine fg_66_27 Z hP wF_X12_139 dX12_could_8 ?_
  refine lv_iconst (v := 1) hx hb dX12_could_11 (by decide) ?_
  refine lv_isub hx hb dX12_could_12 ?_
  obtain ⟨v1, hv1, h⟩ := bd h
  refine zqi (zrunS Z hP (As := [.int x1, .int 0, .int ((((sg τ 0 0)).1 16) - 1)]) (rest := []) (c_X12_in (R := { frames := 0, cells := 0, slots := 0, locals := 0 }) Z.i (Nat.le_refl _) (Nat.le_refl _) hv1) cV_X12_64 rfl rfl ⟨(Nat.le_trans (Nat.le_of_ble_eq_true rfl) hRf), (Nat.le_trans (Nat.le_of_ble_eq_true rfl) hRl)⟩ rfl hl.1 rfl (Nat.le_of_ble_eq_true rfl) dX12_could_13 ⟨Nat.zero_le _, Nat.zero_le _⟩) ?_
  refine lv_if_eq (tgt := 28) hx hb dX12_could_16 (by decide) (fun c2 => ?_) (fun c2 => ?_)
  · rw [if_pos c2] at h
    refine lv_iconst (v := (-1)) hx hb dX12_could_28 (by decide) ?_
    exact zmi Z hP hS hr hlk h dX12_could_29
  · rw [if_neg c2] at h
    refine lv_iload_n hx hb dX12_could_19 rfl (lv_at hl 2 rfl) ?_
    refine lv_iconst (v := 0) hx hb dX12_could_20 (by decide) ?_
    refine lv_iconst (v := 2) hx hb dX12_could_21 (by decide) ?_
    obtain ⟨v3, hv3, h⟩ := bd h
    refine zqi (zrunS Z hP (As := [.int x2, .int 0, .int 2]) (rest := []) (c_X12_in (R := { frames := 0, cells := 0, slots := 0, locals := 0 }) Z.i (Nat.le_refl _) (Nat.le_refl _) hv3) cV_X12_64 rfl rfl ⟨(Nat.le_trans (Nat.le_of_ble_eq_true rfl) hRf), (Nat.le_trans (Nat.le_of_ble_eq_true rfl) hRl)⟩ rfl hl.1 rfl (Nat.le_of_ble_eq_true rfl) dX12_could_22 ⟨Nat.zero_le _, Nat.zero_le _⟩) ?_
    refine lv_if_ne (tgt := 30) hx hb dX12_could_25 (by decide) (fun c4 => ?_) (fun c4 => ?_)
    · rw [if_neg c4] at h
      refine lv_iconst (v := 0) hx hb dX12_could_30 (by decide) ?_
      refine lv_istore_n (lv' := [(3, .int 0), (0, .ref (ad 66)), (1, .int x1), (2, .int x2)]) hx hb dX12_could_31 rfl hl (by decide) rfl (fun ls hl => ?_)
      refine lv_bipush (v := (-9)) hx hb dX12_could_32 (by decide) ?_
      refine lv_istore (lv' := [(4, .int (-9)), (3, .int 0), (0, .ref (ad 66)), (1, .int x1), (2, .int x2)]) hx hb dX12_could_34 hl (by decide) rfl (fun ls hl => ?_)
      refine lv_bipush (v := (-9)) hx hb dX12_could_36 (by decide) ?_
      refine lv_istore (lv' := [(5, .int (-9)), (4, .int (-9)), (3, .int 0), (0, .ref (ad 66)), (1, .int x1), (2, .int x2)]) hx hb dX12_could_38 hl (by decide) rfl (fun ls hl => ?_)
      refine lv_iconst (v := 0) hx hb dX12_could_40 (by decide) ?_
      refine lv_istore (lv' := [(6, .int 0), (5, .int (-9)), (4, .int (-9)), (3, .int 0), (0, .ref (ad 66)), (1, .int x1), (2, .int x2)]) hx hb dX12_could_41 hl (by decide) rfl (fun ls hl => ?_)
      obtain ⟨y12, hy12, h⟩ := bd h
      refine w_X12_could_L43 Z hr hlk hRf hRl out FU x1 x2 0 ((-9)) ((-9)) 0 ((sg τ 0 0)) y12 hy12 _ _ hP hS _ (lv_sub hl [4, 5, 6, 3, 2, 1, 0] rfl) (fun H locs hP hS ls hl => ?_)
      refine lv_iload_n hx hb dX12_could_116 rfl (lv_at hl 0 rfl) ?_
      refine lv_if_ne (tgt := 124) hx hb dX12_could_117 (by decide) (fun c13 => ?_) (fun c13 => ?_)
      · rw [if_neg c13] at h
        refine lv_iload_n hx hb dX12_could_124 rfl (lv_at hl 0 rfl) ?_
        refine lv_iconst (v := 1) hx hb dX12_could_125 (by decide) ?_
        refine lv_icmp_ne (tgt := 134) hx hb dX12_could_126 (by decide) (fun c14 => ?_) (fun c14 => ?_)
        · rw [if_neg c14] at h
          refine lv_iload hx hb dX12_could_134 (lv_at hl 3 rfl) ?_
          exact zmi Z hP hS hr hlk h dX12_could_136
        · rw [if_pos c14] at h
          refine lv_iload hx hb dX12_could_129 (lv_at hl 2 rfl) ?_
          refine lv_goto (tgt := 136) hx hb dX12_could_131 (by decide) ?_
          exact zmi Z hP hS hr hlk h dX12_could_136
      · rw [if_pos c13] at h
        refine lv_iload_n hx hb dX12_could_120 rfl (lv_at hl 1 rfl) ?_
        refine lv_goto (tgt := 136) hx hb dX12_could_121 (by decide) ?_
        exact zmi Z hP hS hr hlk h dX12_could_136
    · rw [if_pos c4] at h
      refine lv_iconst (v := (-1)) hx hb dX12_could_28 (by decide) ?_
      exact zmi Z hP hS hr hlk h dX12_could_29
def m_X12_liars_L9  : Nat → Int32 → Int32 → Sx → Option (Int32 × Sx)
  | 0, _, _, _ => none
  | n + 1, x1, x2, τ =>
  if (τ.1 16) ≤ x2 then (some ((x1, τ))) else ((ldA mLn τ 8 ((4 * x2))).bind (fun v2 => (ldA mLn τ 8 (((4 * x2) + 1))).bind (fun v3 => (ldA mLn τ 8 (((4 * x2) + 2))).bind (fun v4 => (m_X12_risen τ v2 v3 v4).bind (fun v5 => (ldA mLn τ 8 (((4 * x2) + 3))).bind (fun v6 => if v5 = v6 then (m_X12_liars_L9 n ((x1 ||| 0)) ((x2 + 1)) τ) else (m_X12_liars_L9 n ((x1 ||| ((1 : Int32) <<< (x2 &&& 31)))) ((x2 + 1)) τ)))))))
def m_X12_liars (τ : Sx) : Option (Int32 × Sx) :=
  (m_X12_liars_L9 FU 0 0 ((sg τ 0 0))).bind (fun y8 => some ((y8.1, y8.2)))
set_option maxHeartbeats 4000000 in
set_option maxRecDepth 100000 in
theorem w_X12_liars_L9 {l : Launch} {D : va_G} {cy : Nat → ClassId} {ad : Nat → Nat} {σ : Sx} {p : Program} {e : Env} {R : Room} {s : State} {m : MethodId} {args : Array Value} {below : List Frame} {meth : Method} {c : Code} (Z : Zc p s m c cX12_liars 4 RX12 D cy ad) (hr : meth.sig.returnType = (some .int)) (hlk : meth.locks = false) (hRf : 2 ≤ R.frames) (hRl : 48 ≤ R.locals) (out : Int32 × Sx) : ∀ (n : Nat) (x1 : Int32) (x2 : Int32) (τ : Sx) (res : Int32 × Sx), m_X12_liars_L9 n x1 x2 τ = some res → ∀ (H : Heap) (locs : List Loc), va_P D vwCl (gW cy ad σ τ) H → va_S (gA ad) s.heap H locs → ∀ ls : Array Slot, lv_has ls 4 [(0, .ref (ad 66)), (1, .int x1), (2, .int x2)] → (∀ (H : Heap) (locs : List Loc), va_P D vwCl (gW cy ad σ res.2) H → va_S (gA ad) s.heap H locs → ∀ ls : Array Slot, lv_has ls 4 [(1, .int res.1)] → W p l e R s m args below meth c H locs 0 0 (MQ below (mQi D cy ad σ out) args s 0 0 (gA ad)) (F0 m 74 ls [])) → W p l e R s m args below meth c H locs 0 0 (MQ below (mQi D cy ad σ out) args s 0 0 (gA ad)) (F0 m 9 ls []) := by
  have hx := Z.x
  have hb := Z.b
  intro n
  induction n with
  | zero => intro x1 x2 τ res h; cases h
  | succ n ih =>
    intro x1 x2 τ res h H locs hP hS ls hl kx
    rw [m_X12_liars_L9] at h
    refine lv_iload_n hx hb dX12_liars_9 rfl (lv_at hl 2 rfl) ?_
    refine lv_aload_n hx hb dX12_liars_10 rfl (lv_at hl 0 rfl) ?_
    refine fg_66_27 Z hP wF_X12_139 dX12_liars_11 ?_
    refine lv_icmp_ge (tgt := 74) hx hb dX12_liars_14 (by decide) (fun c1 => ?_) (fun c1 => ?_)
    · rw [if_pos c1] at h
      obtain rfl := Option.some.inj h
      exact kx _ _ hP hS _ (lv_sub hl [1] rfl)
    · rw [if_neg c1] at h
      refine lv_iconst (v := 4) hx hb dX12_liars_17 (by decide) ?_
      refine lv_iload_n hx hb dX12_liars_18 rfl (lv_at hl 2 rfl) ?_
      refine lv_imul hx hb dX12_liars_19 ?_
      refine lv_istore_n (lv' := [(3, .int (4 * x2)), (0, .ref (ad 66)), (1, .int x1), (2, .int x2)]) hx hb dX12_liars_20 rfl hl (by decide) rfl (fun ls hl => ?_)
      refine lv_iload_n hx hb dX12_liars_21 rfl (lv_at hl 2 rfl) ?_
      refine lv_aload_n hx hb dX12_liars_22 rfl (lv_at hl 1 rfl) ?_
      refine lv_aload_n hx hb dX12_liars_23 rfl (lv_at hl 1 rfl) ?_
      refine fg_66_26 Z hP wF_X12_38 dX12_liars_24 ?_
      refine lv_iload_n hx hb dX12_liars_27 rfl (lv_at hl 0 rfl) ?_
      obtain ⟨v2, hv2, h⟩ := bd h
      refine zm_ld (j := 8) Z hP hv2 dX12_liars_28 ?_
      refine lv_aload_n hx hb dX12_liars_29 rfl (lv_at hl 1 rfl) ?_
      refine fg_66_26 Z hP wF_X12_38 dX12_liars_30 ?_
      refine lv_iload_n hx hb dX12_liars_33 rfl (lv_at hl 0 rfl) ?_
      refine lv_iconst (v := 1) hx hb dX12_liars_34 (by decide) ?_
      refine lv_iadd hx hb dX12_liars_35 ?_
      obtain ⟨v3, hv3, h⟩ := bd h
      refine zm_ld (j := 8) Z hP hv3 dX12_liars_36 ?_
      refine lv_aload_n hx hb dX12_liars_37 rfl (lv_at hl 1 rfl) ?_
      refine fg_66_26 Z hP wF_X12_38 dX12_liars_38 ?_
      refine lv_iload_n hx hb dX12_liars_41 rfl (lv_at hl 0 rfl) ?_
      refine lv_iconst (v := 2) hx hb dX12_liars_42 (by decide) ?_
      refine lv_iadd hx hb dX12_liars_43 ?_
      obtain ⟨v4, hv4, h⟩ := bd h
      refine zm_ld (j := 8) Z hP hv4 dX12_liars_44 ?_
      obtain ⟨v5, hv5, h⟩ := bd h
      refine zqi (zrunV Z hP (As := [.int v2, .int v3, .int v4]) (rest := [.int x1]) (c_X12_risen (R := { frames := 1, cells := 0, slots := 0, locals := 23 }) Z.i (Nat.le_refl _) (Nat.le_refl _) hv5) cV_X12_217 rfl rfl ⟨(Nat.le_trans (Nat.le_of_ble_eq_true rfl) hRf), (Nat.le_trans (Nat.le_of_ble_eq_true rfl) hRl)⟩ 66 (gW_mo.trans rfl) rfl rfl rfl hl.1 rfl (Nat.le_of_ble_eq_true rfl) dX12_liars_45 ⟨Nat.zero_le _, Nat.zero_le _⟩) ?_
      refine lv_aload_n hx hb dX12_liars_48 rfl (lv_at hl 1 rfl) ?_
      refine fg_66_26 Z hP wF_X12_38 dX12_liars_49 ?_
      refine lv_iload_n hx hb dX12_liars_52 rfl (lv_at hl 0 rfl) ?_
      refine lv_iconst (v := 3) hx hb dX12_liars_53 (by decide) ?_
      refine lv_iadd hx hb dX12_liars_54 ?_
      obtain ⟨v6, hv6, h⟩ := bd h
      refine zm_ld (j := 8) Z hP hv6 dX12_liars_55 ?_
      refine lv_icmp_eq (tgt := 65) hx hb dX12_liars_56 (by decide) (fun c7 => ?_) (fun c7 => ?_)
      · rw [if_pos c7] at h
        refine lv_iconst (v := 0) hx hb dX12_liars_65 (by decide) ?_
        refine lv_ior hx hb dX12_liars_66 ?_
        refine lv_istore_n (lv' := [(1, .int (x1 ||| 0)), (3, .int (4 * x2)), (0, .ref (ad 66)), (2, .int x2)]) hx hb dX12_liars_67 rfl hl (by decide) rfl (fun ls hl => ?_)
        refine lv_iinc (v := (x2 + 1)) (lv' := [(2, .int (x2 + 1)), (1, .int (x1 ||| 0)), (3, .int (4 * x2)), (0, .ref (ad 66))]) hx hb dX12_liars_68 hl (k := 3) rfl rfl (by decide) rfl (fun ls hl => ?_)
        refine lv_goto (tgt := 9) hx hb dX12_liars_71 (by decide) ?_
        exact ih ((x1 ||| 0)) ((x2 + 1)) τ _ h _ _ hP hS _ (lv_sub hl [3, 1, 0] rfl) kx
      · rw [if_neg c7] at h
        refine lv_iconst (v := 1) hx hb dX12_liars_59 (by decide) ?_
        refine lv_iload_n hx hb dX12_liars_60 rfl (lv_at hl 3 rfl) ?_
        refine lv_ishl hx hb dX12_liars_61 ?_
        refine lv_goto (tgt := 66) hx hb dX12_liars_62 (by decide) ?_
        refine lv_ior hx hb dX12_liars_66 ?_
        refine lv_istore_n (lv' := [(1, .int (x1 ||| ((1 : Int32) <<< (x2 &&& 31)))), (3, .int (4 * x2)), (0, .ref (ad 66)), (2, .int x2)]) hx hb dX12_liars_67 rfl hl (by decide) rfl (fun ls hl => ?_)
        refine lv_iinc (v := (x2 + 1)) (lv' := [(2, .int (x2 + 1)), (1, .int (x1 ||| ((1 : Int32) <<< (x2 &&& 31)))), (3, .int (4 * x2)), (0, .ref (ad 66))]) hx hb dX12_liars_68 hl (k := 3) rfl rfl (by decide) rfl (fun ls hl => ?_)
        refine lv_goto (tgt := 9) hx hb dX12_liars_71 (by decide) ?_
        exact ih ((x1 ||| ((1 : Int32) <<< (x2 &&& 31)))) ((x2 + 1)) τ _ h _ _ hP hS _ (lv_sub hl [3, 1, 0] rfl) kx
set_option maxHeartbeats 4000000 in
set_option maxRecDepth 100000 in
theorem c_X12_liars {l : Launch} {D : va_G} {cy : Nat → ClassId} {ad : Nat → Nat} {σ τ : Sx} {R : Room} (hI : gInj ad) (hRf : 2 ≤ R.frames) (hRl : 48 ≤ R.locals) {out : Int32 × Sx} (h : m_X12_liars τ = some out) : Met l yX12_liars [Cond.code yX12_liars cX12_liars 4 (some .int)] R (va_Pc [.ref (ad 66)] (gB D cy ad σ τ)) (mQi D cy ad σ out) 0 0 (gA ad) := by
  refine zstart [.ref (ad 66)] (by decide) rfl hI (Nat.le_of_ble_eq_true rfl) ?_
  intro p e s m below meth c Z hr hlk hP ls hl
  have hx := Z.x
  have hb := Z.b
  generalize hargs : ([.ref (ad 66)] : List Value).toArray = args
  have hl : lv_has ls 4 [(0, .ref (ad 66))] := hl
  have hS : va_S (gA ad) s.heap s.heap [] := va_S.rf
  unfold m_X12_liars at h
  refine lv_aload_n hx hb dX12_liars_0 rfl (lv_at hl 0 rfl) ?_
  refine lv_iconst (v := 0) hx hb dX12_liars_1 (by decide) ?_
  refine fp_66_0 Z hP hS wF_X12_61 dX12_liars_2 (fun H locs hP hS => ?_)
  refine lv_iconst (v := 0) hx hb dX12_liars_5 (by decide) ?_
  refine lv_istore_n (lv' := [(1, .int 0), (0, .ref (ad 66))]) hx hb dX12_liars_6 rfl hl (by decide) rfl (fun ls hl => ?_)
  refine lv_iconst (v := 0) hx hb dX12_liars_7 (by decide) ?_
  refine lv_istore_n (lv' := [(2, .int 0), (1, .int 0), (0, .ref (ad 66))]) hx hb dX12_liars_8 rfl hl (by decide) rfl (fun ls hl => ?_)
  obtain ⟨y8, hy8, h⟩ := bd h
  refine w_X12_liars_L9 Z hr hlk hRf hRl out FU 0 0 ((sg τ 0 0)) y8 hy8 _ _ hP hS _ (lv_sub hl [2, 1, 0] rfl) (fun H locs hP hS ls hl => ?_)
  refine lv_iload_n hx hb dX12_liars_74 rfl (lv_at hl 0 rfl) ?_
  exact zmi Z hP hS hr hlk h dX12_liars_75
def m_X12_spreads_L2  : Nat → Int32 → Int32 → Int32 → Sx → Option (Int32 × Int32 × Sx)
  | 0, _, _, _, _ => none
  | n + 1, x1, x2, x3, τ =>
  if 101 ≤ x3 then (some ((x1, x2, τ))) else ((stB mLb τ 1 x3 0).bind (fun q2 => m_X12_spreads_L2 n x1 x2 ((x3 + 1)) q2))
def m_X12_spreads_L23  : Nat → Int32 → Int32 → Int32 → Sx → Option (Sx)
  | 0, _, _, _, _ => none
  | n + 1, x1, x2, x3, τ =>
  if 101 ≤ x3 then (some τ) else ((ldA mLn τ 1 (((3 * x1) + 1))).bind (fun v5 => (m_X12_filled x3 v5).bind (fun v6 => (ldB mLb τ 1 v6).bind (fun v7 => (ldB mLb τ 0 x3).bind (fun v8 => (stB mLb τ 1 v6 ((v7 + (v8 * (Int32.toInt64 ((10 - x2))))))).bind (fun q9 => (ldA mLn q9 1 (((3 * x1) + 2))).bind (fun v10 => (m_X12_lower x3 v10).bind (fun v11 => (ldB mLb q9 1 v11).bind (fun v12 => (ldB mLb q9 0 x3).bind (fun v13 => (stB mLb q9 1 v11 ((v12 + (v13 * (Int32.toInt64 x2))))).bind (fun q14 => m_X12_spreads_L23 n x1 x2 ((x3 + 1)) q14)))))))))))
def m_X12_spreads_L102  : Nat → Int32 → Sx → Option (Sx)
  | 0, _, _ => none
  | n + 1, x3, τ =>
  if 101 ≤ x3 then (some τ) else ((ldB mLb τ 1 x3).bind (fun v17 => (stB mLb τ 0 x3 v17).bind (fun q18 => m_X12_spreads_L102 n ((x3 + 1)) q18)))
def m_X12_spreads (τ : Sx) (x1 : Int32) (x2 : Int32) : Option (Sx) :=
  (m_X12_spreads_L2 FU x1 x2 0 τ).bind (fun y3 => (m_X12_spreads_L23 FU y3.1 y3.2.1 0 y3.2.2).bind (fun y15 => (m_X12_spreads_L102 FU 0 y15).bind (fun y19 => some y19)))
set_option maxHeartbeats 4000000 in
set_option maxRecDepth 100000 in
theorem w_X12_spreads_L2 {l : Launch} {D : va_G} {cy : Nat → ClassId} {ad : Nat → Nat} {σ : Sx} {p : Program} {e : Env} {R : Room} {s : State} {m : MethodId} {args : Array Value} {below : List Frame} {meth : Method} {c : Code} (Z : Zc p s m c cX12_spreads 4 RX12 D cy ad) (hr : meth.sig.returnType = none) (hlk : meth.locks = false) (hRf : 1 ≤ R.frames) (hRl : 23 ≤ R.locals) (out : Sx) : ∀ (n : Nat) (x1 : Int32) (x2 : Int32) (x3 : Int32) (τ : Sx) (res : Int32 × Int32 × Sx), m_X12_spreads_L2 n x1 x2 x3 τ = some res → ∀ (H : Heap) (locs : List Loc), va_P D vwCl (gW cy ad σ τ) H → va_S (gA ad) s.heap H locs → ∀ ls : Array Slot, lv_has ls 4 [(0, .ref (ad 66)), (1, .int x1), (2, .int x2), (3, .int x3)] → (∀ (H : Heap) (locs : List Loc), va_P D vwCl (gW cy ad σ res.2.2) H → va_S (gA ad) s.heap H locs → ∀ ls : Array Slot, lv_has ls 4 [(0, .ref (ad 66)), (1, .int res.1), (2, .int res.2.1)] → W p l e R s m args below meth c H locs 0 0 (MQ below (mQv D cy ad σ out) args s 0 0 (gA ad)) (F0 m 21 ls [])) → W p l e R s m args below meth c H locs 0 0 (MQ below (mQv D cy ad σ out) args s 0 0 (gA ad)) (F0 m 2 ls []) := by
  have hx := Z.x
  have hb := Z.b
  intro n
  induction n with
  | zero => intro x1 x2 x3 τ res h; cases h
  | succ n ih =>
    intro x1 x2 x3 τ res h H locs hP hS ls hl kx
    rw [m_X12_spreads_L2] at h
    refine lv_iload_n hx hb dX12_spreads_2 rfl (lv_at hl 3 rfl) ?_
    refine lv_bipush (v := 101) hx hb dX12_spreads_3 (by decide) ?_
    refine lv_icmp_ge (tgt := 21) hx hb dX12_spreads_5 (by decide) (fun c1 => ?_) (fun c1 => ?_)
    · rw [if_pos c1] at h
      obtain rfl := Option.some.inj h
      exact kx _ _ hP hS _ (lv_sub hl [0, 1, 2] rfl)
    · rw [if_neg c1] at h
      refine lv_aload_n hx hb dX12_spreads_8 rfl (lv_at hl 0 rfl) ?_
      refine fg_66_31 Z hP wF_X12_51 dX12_spreads_9 ?_
      refine lv_iload_n hx hb dX12_spreads_12 rfl (lv_at hl 3 rfl) ?_
      refine lv_lconst (v := 0) hx hb dX12_spreads_13 (by decide) ?_
      obtain ⟨q2, hq2, h⟩ := bd h
      refine zm_stl (j := 1) Z hP hS hq2 dX12_spreads_14 (fun H locs hP hS => ?_)
      refine lv_iinc (v := (x3 + 1)) (lv' := [(3, .int (x3 + 1)), (0, .ref (ad 66)), (1, .int x1), (2, .int x2)]) hx hb dX12_spreads_15 hl (k := 3) rfl rfl (by decide) rfl (fun ls hl => ?_)
      refine lv_goto (tgt := 2) hx hb dX12_spreads_18 (by decide) ?_
      exact ih x1 x2 ((x3 + 1)) q2 _ h _ _ hP hS _ (lv_sub hl [1, 2, 3, 0] rfl) kx
set_option maxHeartbeats 4000000 in
set_option maxRecDepth 100000 in
theorem w_X12_spreads_L23 {l : Launch} {D : va_G} {cy : Nat → ClassId} {ad : Nat → Nat} {σ : Sx} {p : Program} {e : Env} {R : Room} {s : State} {m : MethodId} {args : Array Value} {below : List Frame} {meth : Method} {c : Code} (Z : Zc p s m c cX12_spreads 4 RX12 D cy ad) (hr : meth.sig.returnType = none) (hlk : meth.locks = false) (hRf : 1 ≤ R.frames) (hRl : 23 ≤ R.locals) (out : Sx) : ∀ (n : Nat) (x1 : Int32) (x2 : Int32) (x3 : Int32) (τ : Sx) (res : Sx), m_X12_spreads_L23 n x1 x2 x3 τ = some res → ∀ (H : Heap) (locs : List Loc), va_P D vwCl (gW cy ad σ τ) H → va_S (gA ad) s.heap H locs → ∀ ls : Array Slot, lv_has ls 4 [(0, .ref (ad 66)), (1, .int x1), (2, .int x2), (3, .int x3)] → (∀ (H : Heap) (locs : List Loc), va_P D vwCl (gW cy ad σ res) H → va_S (gA ad) s.heap H locs → ∀ ls : Array Slot, lv_has ls 4 [(0, .ref (ad 66))] → W p l e R s m args below meth c H locs 0 0 (MQ below (mQv D cy ad σ out) args s 0 0 (gA ad)) (F0 m 100 ls [])) → W p l e R s m args below meth c H locs 0 0 (MQ below (mQv D cy ad σ out) args s 0 0 (gA ad)) (F0 m 23 ls []) := by
  have hx := Z.x
  have hb := Z.b
  intro n
  induction n with
  | zero => intro x1 x2 x3 τ res h; cases h
  | succ n ih =>
    intro x1 x2 x3 τ res h H locs hP hS ls hl kx
    rw [m_X12_spreads_L23] at h
    refine lv_iload_n hx hb dX12_spreads_23 rfl (lv_at hl 3 rfl) ?_
    refine lv_bipush (v := 101) hx hb dX12_spreads_24 (by decide) ?_
    refine lv_icmp_ge (tgt := 100) hx hb dX12_spreads_26 (by decide) (fun c4 => ?_) (fun c4 => ?_)
    · rw [if_pos c4] at h
      obtain rfl := Option.some.inj h
      exact kx _ _ hP hS _ (lv_sub hl [0] rfl)
    · rw [if_neg c4] at h
      refine lv_aload_n hx hb dX12_spreads_29 rfl (lv_at hl 0 rfl) ?_
      refine fg_66_31 Z hP wF_X12_51 dX12_spreads_30 ?_
      refine lv_iload_n hx hb dX12_spreads_33 rfl (lv_at hl 3 rfl) ?_
      refine lv_aload_n hx hb dX12_spreads_34 rfl (lv_at hl 0 rfl) ?_
      refine fg_66_9 Z hP wF_X12_13 dX12_spreads_35 ?_
      refine lv_iconst (v := 3) hx hb dX12_spreads_38 (by decide) ?_
      refine lv_iload_n hx hb dX12_spreads_39 rfl (lv_at hl 1 rfl) ?_
      refine lv_imul hx hb dX12_spreads_40 ?_
      refine lv_iconst (v := 1) hx hb dX12_spreads_41 (by decide) ?_
      refine lv_iadd hx hb dX12_spreads_42 ?_
      obtain ⟨v5, hv5, h⟩ := bd h
      refine zm_ld (j := 1) Z hP hv5 dX12_spreads_43 ?_
      obtain ⟨v6, hv6, h⟩ := bd h
      refine zqi (zrunS Z hP (As := [.int x3, .int v5]) (rest := [.ref (ad (80 + 1))]) (c_X12_filled (R := { frames := 0, cells := 0, slots := 0, locals := 0 }) Z.i (Nat.le_refl _) (Nat.le_refl _) hv6) cV_X12_149 rfl rfl ⟨(Nat.le_trans (Nat.le_of_ble_eq_true rfl) hRf), (Nat.le_trans (Nat.le_of_ble_eq_true rfl) hRl)⟩ rfl hl.1 rfl (Nat.le_of_ble_eq_true rfl) dX12_spreads_44 ⟨Nat.zero_le _, Nat.zero_le _⟩) ?_
      refine lv_dup2_11 hx hb dX12_spreads_47 rfl rfl ?_
      obtain ⟨v7, hv7, h⟩ := bd h
      refine zm_ldl (j := 1) Z hP hv7 dX12_spreads_48 ?_
      refine lv_aload_n hx hb dX12_spreads_49 rfl (lv_at hl 0 rfl) ?_
      refine fg_66_30 Z hP wF_X12_47 dX12_spreads_50 ?_
      refine lv_iload_n hx hb dX12_spreads_53 rfl (lv_at hl 3 rfl) ?_
      obtain ⟨v8, hv8, h⟩ := bd h
      refine zm_ldl (j := 0) Z hP hv8 dX12_spreads_54 ?_
      refine lv_bipush (v := 10) hx hb dX12_spreads_55 (by decide) ?_
      refine lv_iload_n hx hb dX12_spreads_57 rfl (lv_at hl 2 rfl) ?_
      refine lv_isub hx hb dX12_spreads_58 ?_
      refine lv_i2l (v := (Int32.toInt64 ((10 - x2)))) hx hb dX12_spreads_59 rfl ?_
      refine lv_lmul hx hb dX12_spreads_60 ?_
      refine lv_ladd hx hb dX12_spreads_61 ?_
      obtain ⟨q9, hq9, h⟩ := bd h
      refine zm_stl (j := 1) Z hP hS hq9 dX12_spreads_62 (fun H locs hP hS => ?_)
      refine lv_aload_n hx hb dX12_spreads_63 rfl (lv_at hl 0 rfl) ?_
      refine fg_66_31 Z hP wF_X12_51 dX12_spreads_64 ?_
      refine lv_iload_n hx hb dX12_spreads_67 rfl (lv_at hl 3 rfl) ?_
      refine lv_aload_n hx hb dX12_spreads_68 rfl (lv_at hl 0 rfl) ?_
      refine fg_66_9 Z hP wF_X12_13 dX12_spreads_69 ?_
      refine lv_iconst (v := 3) hx hb dX12_spreads_72 (by decide) ?_
      refine lv_iload_n hx hb dX12_spreads_73 rfl (lv_at hl 1 rfl) ?_
      refine lv_imul hx hb dX12_spreads_74 ?_
      refine lv_iconst (v := 2) hx hb dX12_spreads_75 (by decide) ?_
      refine lv_iadd hx hb dX12_spreads_76 ?_
      obtain ⟨v10, hv10, h⟩ := bd h
      refine zm_ld (j := 1) Z hP hv10 dX12_spreads_77 ?_
      obtain ⟨v11, hv11, h⟩ := bd h
      refine zqi (zrunS Z hP (As := [.int x3, .int v10]) (rest := [.ref (ad (80 + 1))]) (c_X12_lower (R := { frames := 0, cells := 0, slots := 0, locals := 0 }) Z.i (Nat.le_refl _) (Nat.le_refl _) hv11) cV_X12_152 rfl rfl ⟨(Nat.le_trans (Nat.le_of_ble_eq_true rfl) hRf), (Nat.le_trans (Nat.le_of_ble_eq_true rfl) hRl)⟩ rfl hl.1 rfl (Nat.le_of_ble_eq_true rfl) dX12_spreads_78 ⟨Nat.zero_le _, Nat.zero_le _⟩) ?_
      refine lv_dup2_11 hx hb dX12_spreads_81 rfl rfl ?_
      obtain ⟨v12, hv12, h⟩ := bd h
      refine zm_ldl (j := 1) Z hP hv12 dX12_spreads_82 ?_
      refine lv_aload_n hx hb dX12_spreads_83 rfl (lv_at hl 0 rfl) ?_
      refine fg_66_30 Z hP wF_X12_47 dX12_spreads_84 ?_
      refine lv_iload_n hx hb dX12_spreads_87 rfl (lv_at hl 3 rfl) ?_
      obtain ⟨v13, hv13, h⟩ := bd h
      refine zm_ldl (j := 0) Z hP hv13 dX12_spreads_88 ?_
      refine lv_iload_n hx hb dX12_spreads_89 rfl (lv_at hl 2 rfl) ?_
      refine lv_i2l (v := (Int32.toInt64 x2)) hx hb dX12_spreads_90 rfl ?_
      refine lv_lmul hx hb dX12_spreads_91 ?_
      refine lv_ladd hx hb dX12_spreads_92 ?_
      obtain ⟨q14, hq14, h⟩ := bd h
      refine zm_stl (j := 1) Z hP hS hq14 dX12_spreads_93 (fun H locs hP hS => ?_)
      refine lv_iinc (v := (x3 + 1)) (lv' := [(3, .int (x3 + 1)), (0, .ref (ad 66)), (1, .int x1), (2, .int x2)]) hx hb dX12_spreads_94 hl (k := 3) rfl rfl (by decide) rfl (fun ls hl => ?_)
      refine lv_goto (tgt := 23) hx hb dX12_spreads_97 (by decide) ?_
      exact ih x1 x2 ((x3 + 1)) q14 _ h _ _ hP hS _ (lv_sub hl [1, 2, 3, 0] rfl) kx
set_option maxHeartbeats 4000000 in
set_option maxRecDepth 100000 in
theorem w_X12_spreads_L102 {l : Launch} {D : va_G} {cy : Nat → ClassId} {ad : Nat → Nat} {σ : Sx} {p : Program} {e : Env} {R : Room} {s : State} {m : MethodId} {args : Array Value} {below : List Frame} {meth : Method} {c : Code} (Z : Zc p s m c cX12_spreads 4 RX12 D cy ad) (hr : meth.sig.returnType = none) (hlk : meth.locks = false) (hRf : 1 ≤ R.frames) (hRl : 23 ≤ R.locals) (out : Sx) : ∀ (n : Nat) (x3 : Int32) (τ : Sx) (res : Sx), m_X12_spreads_L102 n x3 τ = some res → ∀ (H : Heap) (locs : List Loc), va_P D vwCl (gW cy ad σ τ) H → va_S (gA ad) s.heap H locs → ∀ ls : Array Slot, lv_has ls 4 [(0, .ref (ad 66)), (3, .int x3)] → (∀ (H : Heap) (locs : List Loc), va_P D vwCl (gW cy ad σ res) H → va_S (gA ad) s.heap H locs → ∀ ls : Array Slot, lv_has ls 4 [] → W p l e R s m args below meth c H locs 0 0 (MQ below (mQv D cy ad σ out) args s 0 0 (gA ad)) (F0 m 126 ls [])) → W p l e R s m args below meth c H locs 0 0 (MQ below (mQv D cy ad σ out) args s 0 0 (gA ad)) (F0 m 102 ls []) := by
  have hx := Z.x
  have hb := Z.b
  intro n
  induction n with
  | zero => intro x3 τ res h; cases h
  | succ n ih =>
    intro x3 τ res h H locs hP hS ls hl kx
    rw [m_X12_spreads_L102] at h
    refine lv_iload_n hx hb dX12_spreads_102 rfl (lv_at hl 1 rfl) ?_
    refine lv_bipush (v := 101) hx hb dX12_spreads_103 (by decide) ?_
    refine lv_icmp_ge (tgt := 126) hx hb dX12_spreads_105 (by decide) (fun c16 => ?_) (fun c16 => ?_)
    · rw [if_pos c16] at h
      obtain rfl := Option.some.inj h
      exact kx _ _ hP hS _ (lv_sub hl [] rfl)
    · rw [if_neg c16] at h
      refine lv_aload_n hx hb dX12_spreads_108 rfl (lv_at hl 0 rfl) ?_
      refine fg_66_30 Z hP wF_X12_47 dX12_spreads_109 ?_
      refine lv_iload_n hx hb dX12_spreads_112 rfl (lv_at hl 1 rfl) ?_
      refine lv_aload_n hx hb dX12_spreads_113 rfl (lv_at hl 0 rfl) ?_
      refine fg_66_31 Z hP wF_X12_51 dX12_spreads_114 ?_
      refine lv_iload_n hx hb dX12_spreads_117 rfl (lv_at hl 1 rfl) ?_
      obtain ⟨v17, hv17, h⟩ := bd h
      refine zm_ldl (j := 1) Z hP hv17 dX12_spreads_118 ?_
      obtain ⟨q18, hq18, h⟩ := bd h
      refine zm_stl (j := 0) Z hP hS hq18 dX12_spreads_119 (fun H locs hP hS => ?_)
      refine lv_iinc (v := (x3 + 1)) (lv' := [(3, .int (x3 + 1)), (0, .ref (ad 66))]) hx hb dX12_spreads_120 hl (k := 1) rfl rfl (by decide) rfl (fun ls hl => ?_)
      refine lv_goto (tgt := 102) hx hb dX12_spreads_123 (by decide) ?_
      exact ih ((x3 + 1)) q18 _ h _ _ hP hS _ (lv_sub hl [1, 0] rfl) kx
set_option maxHeartbeats 4000000 in
set_option maxRecDepth 100000 in
theorem c_X12_spreads {l : Launch} {D : va_G} {cy : Nat → ClassId} {ad : Nat → Nat} {σ τ : Sx} {R : Room} (hI : gInj ad) (hRf : 1 ≤ R.frames) (hRl : 23 ≤ R.locals) {x1 : Int32} {x2 : Int32} {out : Sx} (h : m_X12_spreads τ x1 x2 = some out) : Met l yX12_spreads [Cond.code yX12_spreads cX12_spreads 4 none] R (va_Pc [.ref (ad 66), .int x1, .int x2] (gB D cy ad σ τ)) (mQv D cy ad σ out) 0 0 (gA ad) := by
  refine zstart [.ref (ad 66), .int x1, .int x2] (by decide) rfl hI (Nat.le_of_ble_eq_true rfl) ?_
  intro p e s m below meth c Z hr hlk hP ls hl
  have hx := Z.x
  have hb := Z.b
  generalize hargs : ([.ref (ad 66), .int x1, .int x2] : List Value).toArray = args
  have hl : lv_has ls 4 [(0, .ref (ad 66)), (1, .int x1), (2, .int x2)] := hl
  have hS : va_S (gA ad) s.heap s.heap [] := va_S.rf
  unfold m_X12_spreads at h
  refine lv_iconst (v := 0) hx hb dX12_spreads_0 (by decide) ?_
  refine lv_istore_n (lv' := [(3, .int 0), (0, .ref (ad 66)), (1, .int x1), (2, .int x2)]) hx hb dX12_spreads_1 rfl hl (by decide) rfl (fun ls hl => ?_)
  obtain ⟨y3, hy3, h⟩ := bd h
  refine w_X12_spreads_L2 Z hr hlk hRf hRl out FU x1 x2 0 τ y3 hy3 _ _ hP hS _ (lv_sub hl [1, 2, 3, 0] rfl) (fun H locs hP hS ls hl => ?_)
  refine lv_iconst (v := 0) hx hb dX12_spreads_21 (by decide) ?_
  refine lv_istore_n (lv' := [(3, .int 0), (0, .ref (ad 66)), (1, .int y3.1), (2, .int y3.2.1)]) hx hb dX12_spreads_22 rfl hl (by decide) rfl (fun ls hl => ?_)
  obtain ⟨y15, hy15, h⟩ := bd h
  refine w_X12_spreads_L23 Z hr hlk hRf hRl out FU y3.1 y3.2.1 0 y3.2.2 y15 hy15 _ _ hP hS _ (lv_sub hl [1, 2, 3, 0] rfl) (fun H locs hP hS ls hl => ?_)
  refine lv_iconst (v := 0) hx hb dX12_spreads_100 (by decide) ?_
  refine lv_istore_n (lv' := [(3, .int 0), (0, .ref (ad 66))]) hx hb dX12_spreads_101 rfl hl (by decide) rfl (fun ls hl => ?_)
  obtain ⟨y19, hy19, h⟩ := bd h
  refine w_X12_spreads_L102 Z hr hlk hRf hRl out FU 0 y15 y19 hy19 _ _ hP hS _ (lv_sub hl [1, 0] rfl) (fun H locs hP hS ls hl => ?_)
  exact zmv Z hP hS hr hlk h dX12_spreads_126
def m_X12_odds_L61  : Nat → Int32 → Int32 → Int32 → Int32 → Int32 → Int32 → Sx → Option (Int32 × Int32 × Int32 × Int32 × Int32 × Sx)
  | 0, _, _, _, _, _, _, _ => none
  | n + 1, x1, x2, x3, x4, x5, x6, τ =>
  if 101 ≤ x6 then (some ((x1, x2, x3, x4, x5, τ))) else ((ldA mLn τ 4 ((4 + x1))).bind (fun v12 => if x6 = v12 then ((stB mLb τ 0 x6 1).bind (fun q15 => m_X12_odds_L61 n x1 x2 x3 x4 x5 ((x6 + 1)) q15)) else ((stB mLb τ 0 x6 0).bind (fun q14 => m_X12_odds_L61 n x1 x2 x3 x4 x5 ((x6 + 1)) q14))))
def m_X12_odds_L105  : Nat → Int32 → Int32 → Int32 → Int32 → Int32 → Int64 → Int32 → Sx → Option (Int32 × Int32 × Int64 × Sx)
  | 0, _, _, _, _, _, _, _, _ => none
  | n + 1, x1, x2, x3, x4, x5, x6, x8, τ =>
  if x4 ≤ x8 then (some ((x2, x5, x6, τ))) else ((m_X12_spreads τ x1 x3).bind (fun q18 => m_X12_odds_L105 n x1 x2 x3 x4 x5 ((x6 * 10)) ((x8 + 1)) q18))
def m_X12_odds_L138  : Nat → Int32 → Int64 → Int64 → Int32 → Sx → Option (Int32 × Int64 × Int64 × Sx)
  | 0, _, _, _, _, _ => none
  | n + 1, x5, x6, x8, x10, τ =>
  if 101 ≤ x10 then (some ((x5, x6, x8, τ))) else ((ldB mLb τ 0 x10).bind (fun v21 => m_X12_odds_L138 n x5 x6 ((x8 + v21)) ((x10 + 1)) τ))
def m_X12_odds (τ : Sx) (x1 : Int32) (x2 : Int32) (x3 : Int32) (x4 : Int32) (x5 : Int32) : Option (Int64 × Sx) :=
  (m_X12_isPhone ((sg τ 0 0)) x1).bind (fun v1 => if v1 = 0 then (some (((-1), (sg τ 0 0)))) else ((m_X12_in x2 0 100).bind (fun v3 => if v3 = 0 then (some (((-1), (sg τ 0 0)))) else ((m_X12_in x3 0 10).bind (fun v5 => if v5 = 0 then (some (((-1), (sg τ 0 0)))) else ((m_X12_in x4 0 9).bind (fun v7 => if v7 = 0 then (some (((-1), (sg τ 0 0)))) else ((m_X12_in x5 0 1).bind (fun v9 => if v9 = 0 then (some (((-1), (sg τ 0 0)))) else ((m_X12_odds_L61 FU x1 x2 x3 x4 x5 0 ((sg τ 0 0))).bind (fun y16 => (m_X12_odds_L105 FU y16.1 y16.2.1 y16.2.2.1 y16.2.2.2.1 y16.2.2.2.2.1 1 0 y16.2.2.2.2.2).bind (fun y19 => (m_X12_odds_L138 FU y19.2.1 y19.2.2.1 0 y19.1 y19.2.2.2).bind (fun y22 => (m_X12_gcd y22.2.2.1 y22.2.1).bind (fun v23 => if y22.1 = 0 then ((dvL y22.2.2.1 v23).bind (fun v26 => some ((v26, y22.2.2.2)))) else ((dvL y22.2.1 v23).bind (fun v25 => some ((v25, y22.2.2.2))))))))))))))))))
set_option maxHeartbeats 4000000 in
set_option maxRecDepth 100000 in
theorem w_X12_odds_L61 {l : Launch} {D : va_G} {cy : Nat → ClassId} {ad : Nat → Nat} {σ : Sx} {p : Program} {e : Env} {R : Room} {s : State} {m : MethodId} {args : Array Value} {below : List Frame} {meth : Method} {c : Code} (Z : Zc p s m c cX12_odds 12 RX12 D cy ad) (hr : meth.sig.returnType = (some .long)) (hlk : meth.locks = false) (hRf : 2 ≤ R.frames) (hRl : 46 ≤ R.locals) (out : Int64 × Sx) : ∀ (n : Nat) (x1 : Int32) (x2 : Int32) (x3 : Int32) (x4 : Int32) (x5 : Int32) (x6 : Int32) (τ : Sx) (res : Int32 × Int32 × Int32 × Int32 × Int32 × Sx), m_X12_odds_L61 n x1 x2 x3 x4 x5 x6 τ = some res → ∀ (H : Heap) (locs : List Loc), va_P D vwCl (gW cy ad σ τ) H → va_S (gA ad) s.heap H locs → ∀ ls : Array Slot, lv_has ls 12 [(0, .ref (ad 66)), (1, .int x1), (2, .int x2), (3, .int x3), (4, .int x4), (5, .int x5), (6, .int x6)] → (∀ (H : Heap) (locs : List Loc), va_P D vwCl (gW cy ad σ res.2.2.2.2.2) H → va_S (gA ad) s.heap H locs → ∀ ls : Array Slot, lv_has ls 12 [(0, .ref (ad 66)), (1, .int res.1), (2, .int res.2.1), (3, .int res.2.2.1), (4, .int res.2.2.2.1), (5, .int res.2.2.2.2.1)] → W p l e R s m args below meth c H locs 0 0 (MQ below (mQl D cy ad σ out) args s 0 0 (gA ad)) (F0 m 99 ls [])) → W p l e R s m args below meth c H locs 0 0 (MQ below (mQl D cy ad σ out) args s 0 0 (gA ad)) (F0 m 61 ls []) := by
  have hx := Z.x
  have hb := Z.b
  intro n
  induction n with
  | zero => intro x1 x2 x3 x4 x5 x6 τ res h; cases h
  | succ n ih =>
    intro x1 x2 x3 x4 x5 x6 τ res h H locs hP hS ls hl kx
    rw [m_X12_odds_L61] at h
    refine lv_iload hx hb dX12_odds_61 (lv_at hl 6 rfl) ?_
    refine lv_bipush (v := 101) hx hb dX12_odds_63 (by decide) ?_
    refine lv_icmp_ge (tgt := 99) hx hb dX12_odds_65 (by decide) (fun c11 => ?_) (fun c11 => ?_)
    · rw [if_pos c11] at h
      obtain rfl := Option.some.inj h
      exact kx _ _ hP hS _ (lv_sub hl [0, 1, 2, 3, 4, 5] rfl)
    · rw [if_neg c11] at h
      refine lv_aload_n hx hb dX12_odds_68 rfl (lv_at hl 0 rfl) ?_
      refine fg_66_30 Z hP wF_X12_47 dX12_odds_69 ?_
      refine lv_iload hx hb dX12_odds_72 (lv_at hl 6 rfl) ?_
      refine lv_iload hx hb dX12_odds_74 (lv_at hl 6 rfl) ?_
      refine lv_aload_n hx hb dX12_odds_76 rfl (lv_at hl 0 rfl) ?_
      refine fg_66_20 Z hP wF_X12_22 dX12_odds_77 ?_
      refine lv_iconst (v := 4) hx hb dX12_odds_80 (by decide) ?_
      refine lv_iload_n hx hb dX12_odds_81 rfl (lv_at hl 1 rfl) ?_
      refine lv_iadd hx hb dX12_odds_82 ?_
      obtain ⟨v12, hv12, h⟩ := bd h
      refine zm_ld (j := 4) Z hP hv12 dX12_odds_83 ?_
      refine lv_icmp_ne (tgt := 91) hx hb dX12_odds_84 (by decide) (fun c13 => ?_) (fun c13 => ?_)
      · rw [if_neg c13] at h
        refine lv_lconst (v := 0) hx hb dX12_odds_91 (by decide) ?_
        obtain ⟨q14, hq14, h⟩ := bd h
        refine zm_stl (j := 0) Z hP hS hq14 dX12_odds_92 (fun H locs hP hS => ?_)
        refine lv_iinc (v := (x6 + 1)) (lv' := [(6, .int (x6 + 1)), (0, .ref (ad 66)), (1, .int x1), (2, .int x2), (3, .int x3), (4, .int x4), (5, .int x5)]) hx hb dX12_odds_93 hl (k := 6) rfl rfl (by decide) rfl (fun ls hl => ?_)
        refine lv_goto (tgt := 61) hx hb dX12_odds_96 (by decide) ?_
        exact ih x1 x2 x3 x4 x5 ((x6 + 1)) q14 _ h _ _ hP hS _ (lv_sub hl [1, 2, 3, 4, 5, 6, 0] rfl) kx
      · rw [if_pos c13] at h
        refine lv_lconst (v := 1) hx hb dX12_odds_87 (by decide) ?_
        refine lv_goto (tgt := 92) hx hb dX12_odds_88 (by decide) ?_
        obtain ⟨q15, hq15, h⟩ := bd h
        refine zm_stl (j := 0) Z hP hS hq15 dX12_odds_92 (fun H locs hP hS => ?_)
        refine lv_iinc (v := (x6 + 1)) (lv' := [(6, .int (x6 + 1)), (0, .ref (ad 66)), (1, .int x1), (2, .int x2), (3, .int x3), (4, .int x4), (5, .int x5)]) hx hb dX12_odds_93 hl (k := 6) rfl rfl (by decide) rfl (fun ls hl => ?_)
        refine lv_goto (tgt := 61) hx hb dX12_odds_96 (by decide) ?_
        exact ih x1 x2 x3 x4 x5 ((x6 + 1)) q15 _ h _ _ hP hS _ (lv_sub hl [1, 2, 3, 4, 5, 6, 0] rfl) kx
set_option maxHeartbeats 4000000 in
set_option maxRecDepth 100000 in
theorem w_X12_odds_L105 {l : Launch} {D : va_G} {cy : Nat → ClassId} {ad : Nat → Nat} {σ : Sx} {p : Program} {e : Env} {R : Room} {s : State} {m : MethodId} {args : Array Value} {below : List Frame} {meth : Method} {c : Code} (Z : Zc p s m c cX12_odds 12 RX12 D cy ad) (hr : meth.sig.returnType = (some .long)) (hlk : meth.locks = false) (hRf : 2 ≤ R.frames) (hRl : 46 ≤ R.locals) (out : Int64 × Sx) : ∀ (n : Nat) (x1 : Int32) (x2 : Int32) (x3 : Int32) (x4 : Int32) (x5 : Int32) (x6 : Int64) (x8 : Int32) (τ : Sx) (res : Int32 × Int32 × Int64 × Sx), m_X12_odds_L105 n x1 x2 x3 x4 x5 x6 x8 τ = some res → ∀ (H : Heap) (locs : List Loc), va_P D vwCl (gW cy ad σ τ) H → va_S (gA ad) s.heap H locs → ∀ ls : Array Slot, lv_has ls 12 [(0, .ref (ad 66)), (1, .int x1), (2, .int x2), (3, .int x3), (4, .int x4), (5, .int x5), (6, .long x6), (8, .int x8)] → (∀ (H : Heap) (locs : List Loc), va_P D vwCl (gW cy ad σ res.2.2.2) H → va_S (gA ad) s.heap H locs → ∀ ls : Array Slot, lv_has ls 12 [(0, .ref (ad 66)), (2, .int res.1), (5, .int res.2.1), (6, .long res.2.2.1)] → W p l e R s m args below meth c H locs 0 0 (MQ below (mQl D cy ad σ out) args s 0 0 (gA ad)) (F0 m 132 ls [])) → W p l e R s m args below meth c H locs 0 0 (MQ below (mQl D cy ad σ out) args s 0 0 (gA ad)) (F0 m 105 ls []) := by
  have hx := Z.x
  have hb := Z.b
  intro n
  induction n with
  | zero => intro x1 x2 x3 x4 x5 x6 x8 τ res h; cases h
  | succ n ih =>
    intro x1 x2 x3 x4 x5 x6 x8 τ res h H locs hP hS ls hl kx
    rw [m_X12_odds_L105] at h
    refine lv_iload hx hb dX12_odds_105 (lv_at hl 7 rfl) ?_
    refine lv_iload hx hb dX12_odds_107 (lv_at hl 4 rfl) ?_
    refine lv_icmp_ge (tgt := 132) hx hb dX12_odds_109 (by decide) (fun c17 => ?_) (fun c17 => ?_)
    · rw [if_pos c17] at h
      obtain rfl := Option.some.inj h
      exact kx _ _ hP hS _ (lv_sub hl [0, 2, 5, 6] rfl)
    · rw [if_neg c17] at h
      refine lv_aload_n hx hb dX12_odds_112 rfl (lv_at hl 0 rfl) ?_
      refine lv_iload_n hx hb dX12_odds_113 rfl (lv_at hl 1 rfl) ?_
      refine lv_iload_n hx hb dX12_odds_114 rfl (lv_at hl 3 rfl) ?_
      obtain ⟨q18, hq18, h⟩ := bd h
      refine zwmv (zrunV Z hP (As := [.int x1, .int x3]) (rest := []) (c_X12_spreads (R := { frames := 1, cells := 0, slots := 0, locals := 23 }) Z.i (Nat.le_refl _) (Nat.le_refl _) hq18) cV_X12_223 rfl rfl ⟨(Nat.le_trans (Nat.le_of_ble_eq_true rfl) hRf), (Nat.le_trans (Nat.le_of_ble_eq_true rfl) hRl)⟩ 66 (gW_mo.trans rfl) rfl rfl rfl hl.1 rfl (Nat.le_of_ble_eq_true rfl) dX12_odds_115 ⟨Nat.zero_le _, Nat.zero_le _⟩) hS (fun H locs hP hS => ?_)
      refine lv_lload hx hb dX12_odds_118 (lv_at hl 6 rfl) ?_
      refine lv_ldc2 hx hb Z.o (Z.t _ wK_X12_226 rfl _) dX12_odds_120 ?_
      refine lv_lmul hx hb dX12_odds_123 ?_
      refine lv_lstore (lv' := [(6, .long (x6 * 10)), (0, .ref (ad 66)), (1, .int x1), (2, .int x2), (3, .int x3), (4, .int x4), (5, .int x5), (8, .int x8)]) hx hb dX12_odds_124 hl (by decide) rfl (fun ls hl => ?_)
      refine lv_iinc (v := (x8 + 1)) (lv' := [(8, .int (x8 + 1)), (6, .long (x6 * 10)), (0, .ref (ad 66)), (1, .int x1), (2, .int x2), (3, .int x3), (4, .int x4), (5, .int x5)]) hx hb dX12_odds_126 hl (k := 7) rfl rfl (by decide) rfl (fun ls hl => ?_)
      refine lv_goto (tgt := 105) hx hb dX12_odds_129 (by decide) ?_
      exact ih x1 x2 x3 x4 x5 ((x6 * 10)) ((x8 + 1)) q18 _ h _ _ hP hS _ (lv_sub hl [2, 3, 4, 5, 6, 7, 1, 0] rfl) kx
set_option maxHeartbeats 4000000 in
set_option maxRecDepth 100000 in
theorem w_X12_odds_L138 {l : Launch} {D : va_G} {cy : Nat → ClassId} {ad : Nat → Nat} {σ : Sx} {p : Program} {e : Env} {R : Room} {s : State} {m : MethodId} {args : Array Value} {below : List Frame} {meth : Method} {c : Code} (Z : Zc p s m c cX12_odds 12 RX12 D cy ad) (hr : meth.sig.returnType = (some .long)) (hlk : meth.locks = false) (hRf : 2 ≤ R.frames) (hRl : 46 ≤ R.locals) (out : Int64 × Sx) : ∀ (n : Nat) (x5 : Int32) (x6 : Int64) (x8 : Int64) (x10 : Int32) (τ : Sx) (res : Int32 × Int64 × Int64 × Sx), m_X12_odds_L138 n x5 x6 x8 x10 τ = some res → ∀ (H : Heap) (locs : List Loc), va_P D vwCl (gW cy ad σ τ) H → va_S (gA ad) s.heap H locs → ∀ ls : Array Slot, lv_has ls 12 [(0, .ref (ad 66)), (5, .int x5), (6, .long x6), (8, .long x8), (10, .int x10)] → (∀ (H : Heap) (locs : List Loc), va_P D vwCl (gW cy ad σ res.2.2.2) H → va_S (gA ad) s.heap H locs → ∀ ls : Array Slot, lv_has ls 12 [(5, .int res.1), (6, .long res.2.1), (8, .long res.2.2.1)] → W p l e R s m args below meth c H locs 0 0 (MQ below (mQl D cy ad σ out) args s 0 0 (gA ad)) (F0 m 163 ls [])) → W p l e R s m args below meth c H locs 0 0 (MQ below (mQl D cy ad σ out) args s 0 0 (gA ad)) (F0 m 138 ls []) := by
  have hx := Z.x
  have hb := Z.b
  intro n
  induction n with
  | zero => intro x5 x6 x8 x10 τ res h; cases h
  | succ n ih =>
    intro x5 x6 x8 x10 τ res h H locs hP hS ls hl kx
    rw [m_X12_odds_L138] at h
    refine lv_iload hx hb dX12_odds_138 (lv_at hl 4 rfl) ?_
    refine lv_bipush (v := 101) hx hb dX12_odds_140 (by decide) ?_
    refine lv_icmp_ge (tgt := 163) hx hb dX12_odds_142 (by decide) (fun c20 => ?_) (fun c20 => ?_)
    · rw [if_pos c20] at h
      obtain rfl := Option.some.inj h
      exact kx _ _ hP hS _ (lv_sub hl [1, 2, 3] rfl)
    · rw [if_neg c20] at h
      refine lv_lload hx hb dX12_odds_145 (lv_at hl 3 rfl) ?_
      refine lv_aload_n hx hb dX12_odds_147 rfl (lv_at hl 0 rfl) ?_
      refine fg_66_30 Z hP wF_X12_47 dX12_odds_148 ?_
      refine lv_iload hx hb dX12_odds_151 (lv_at hl 4 rfl) ?_
      obtain ⟨v21, hv21, h⟩ := bd h
      refine zm_ldl (j := 0) Z hP hv21 dX12_odds_153 ?_
      refine lv_ladd hx hb dX12_odds_154 ?_
      refine lv_lstore (lv' := [(8, .long (x8 + v21)), (0, .ref (ad 66)), (5, .int x5), (6, .long x6), (10, .int x10)]) hx hb dX12_odds_155 hl (by decide) rfl (fun ls hl => ?_)
      refine lv_iinc (v := (x10 + 1)) (lv' := [(10, .int (x10 + 1)), (8, .long (x8 + v21)), (0, .ref (ad 66)), (5, .int x5), (6, .long x6)]) hx hb dX12_odds_157 hl (k := 4) rfl rfl (by decide) rfl (fun ls hl => ?_)
      refine lv_goto (tgt := 138) hx hb dX12_odds_160 (by decide) ?_
      exact ih x5 x6 ((x8 + v21)) ((x10 + 1)) τ _ h _ _ hP hS _ (lv_sub hl [2, 3, 4, 1, 0] rfl) kx
set_option maxHeartbeats 4000000 in
set_option maxRecDepth 100000 in
theorem c_X12_odds {l : Launch} {D : va_G} {cy : Nat → ClassId} {ad : Nat → Nat} {σ τ : Sx} {R : Room} (hI : gInj ad) (hRf : 2 ≤ R.frames) (hRl : 46 ≤ R.locals) {x1 : Int32} {x2 : Int32} {x3 : Int32} {x4 : Int32} {x5 : Int32} {out : Int64 × Sx} (h : m_X12_odds τ x1 x2 x3 x4 x5 = some out) : Met l yX12_odds [Cond.code yX12_odds cX12_odds 12 (some .long)] R (va_Pc [.ref (ad 66), .int x1, .int x2, .int x3, .int x4, .int x5] (gB D cy ad σ τ)) (mQl D cy ad σ out) 0 0 (gA ad) := by
  refine zstart [.ref (ad 66), .int x1, .int x2, .int x3, .int x4, .int x5] (by decide) rfl hI (Nat.le_of_ble_eq_true rfl) ?_
  intro p e s m below meth c Z hr hlk hP ls hl
  have hx := Z.x
  have hb := Z.b
  generalize hargs : ([.ref (ad 66), .int x1, .int x2, .int x3, .int x4, .int x5] : List Value).toArray = args
  have hl : lv_has ls 12 [(0, .ref (ad 66)), (1, .int x1), (2, .int x2), (3, .int x3), (4, .int x4), (5, .int x5)] := hl
  have hS : va_S (gA ad) s.heap s.heap [] := va_S.rf
  unfold m_X12_odds at h
  refine lv_aload_n hx hb dX12_odds_0 rfl (lv_at hl 0 rfl) ?_
  refine lv_iconst (v := 0) hx hb dX12_odds_1 (by decide) ?_
  refine fp_66_0 Z hP hS wF_X12_61 dX12_odds_2 (fun H locs hP hS => ?_)
  refine lv_aload_n hx hb dX12_odds_5 rfl (lv_at hl 0 rfl) ?_
  refine lv_iload_n hx hb dX12_odds_6 rfl (lv_at hl 1 rfl) ?_
  obtain ⟨v1, hv1, h⟩ := bd h
  refine zqi (zrunV Z hP (As := [.int x1]) (rest := []) (c_X12_isPhone (R := { frames := 1, cells := 0, slots := 0, locals := 22 }) Z.i (Nat.le_refl _) (Nat.le_refl _) hv1) cV_X12_142 rfl rfl ⟨(Nat.le_trans (Nat.le_of_ble_eq_true rfl) hRf), (Nat.le_trans (Nat.le_of_ble_eq_true rfl) hRl)⟩ 66 (gW_mo.trans rfl) rfl rfl rfl hl.1 rfl (Nat.le_of_ble_eq_true rfl) dX12_odds_7 ⟨Nat.zero_le _, Nat.zero_le _⟩) ?_
  refine lv_if_eq (tgt := 54) hx hb dX12_odds_10 (by decide) (fun c2 => ?_) (fun c2 => ?_)
  · rw [if_pos c2] at h
    refine lv_ldc2 hx hb Z.o (Z.t _ wK_X12_221 rfl _) dX12_odds_54 ?_
    exact zml Z hP hS hr hlk h dX12_odds_57
  · rw [if_neg c2] at h
    refine lv_iload_n hx hb dX12_odds_13 rfl (lv_at hl 2 rfl) ?_
    refine lv_iconst (v := 0) hx hb dX12_odds_14 (by decide) ?_
    refine lv_bipush (v := 100) hx hb dX12_odds_15 (by decide) ?_
    obtain ⟨v3, hv3, h⟩ := bd h
    refine zqi (zrunS Z hP (As := [.int x2, .int 0, .int 100]) (rest := []) (c_X12_in (R := { frames := 0, cells := 0, slots := 0, locals := 0 }) Z.i (Nat.le_refl _) (Nat.le_refl _) hv3) cV_X12_64 rfl rfl ⟨(Nat.le_trans (Nat.le_of_ble_eq_true rfl) hRf), (Nat.le_trans (Nat.le_of_ble_eq_true rfl) hRl)⟩ rfl hl.1 rfl (Nat.le_of_ble_eq_true rfl) dX12_odds_17 ⟨Nat.zero_le _, Nat.zero_le _⟩) ?_
    refine lv_if_eq (tgt := 54) hx hb dX12_odds_20 (by decide) (fun c4 => ?_) (fun c4 => ?_)
    · rw [if_pos c4] at h
      refine lv_ldc2 hx hb Z.o (Z.t _ wK_X12_221 rfl _) dX12_odds_54 ?_
      exact zml Z hP hS hr hlk h dX12_odds_57
    · rw [if_neg c4] at h
      refine lv_iload_n hx hb dX12_odds_23 rfl (lv_at hl 3 rfl) ?_
      refine lv_iconst (v := 0) hx hb dX12_odds_24 (by decide) ?_
      refine lv_bipush (v := 10) hx hb dX12_odds_25 (by decide) ?_
      obtain ⟨v5, hv5, h⟩ := bd h
      refine zqi (zrunS Z hP (As := [.int x3, .int 0, .int 10]) (rest := []) (c_X12_in (R := { frames := 0, cells := 0, slots := 0, locals := 0 }) Z.i (Nat.le_refl _) (Nat.le_refl _) hv5) cV_X12_64 rfl rfl ⟨(Nat.le_trans (Nat.le_of_ble_eq_true rfl) hRf), (Nat.le_trans (Nat.le_of_ble_eq_true rfl) hRl)⟩ rfl hl.1 rfl (Nat.le_of_ble_eq_true rfl) dX12_odds_27 ⟨Nat.zero_le _, Nat.zero_le _⟩) ?_
      refine lv_if_eq (tgt := 54) hx hb dX12_odds_30 (by decide) (fun c6 => ?_) (fun c6 => ?_)
      · rw [if_pos c6] at h
        refine lv_ldc2 hx hb Z.o (Z.t _ wK_X12_221 rfl _) dX12_odds_54 ?_
        exact zml Z hP hS hr hlk h dX12_odds_57
      · rw [if_neg c6] at h
        refine lv_iload hx hb dX12_odds_33 (lv_at hl 4 rfl) ?_
        refine lv_iconst (v := 0) hx hb dX12_odds_35 (by decide) ?_
        refine lv_bipush (v := 9) hx hb dX12_odds_36 (by decide) ?_
        obtain ⟨v7, hv7, h⟩ := bd h
        refine zqi (zrunS Z hP (As := [.int x4, .int 0, .int 9]) (rest := []) (c_X12_in (R := { frames := 0, cells := 0, slots := 0, locals := 0 }) Z.i (Nat.le_refl _) (Nat.le_refl _) hv7) cV_X12_64 rfl rfl ⟨(Nat.le_trans (Nat.le_of_ble_eq_true rfl) hRf), (Nat.le_trans (Nat.le_of_ble_eq_true rfl) hRl)⟩ rfl hl.1 rfl (Nat.le_of_ble_eq_true rfl) dX12_odds_38 ⟨Nat.zero_le _, Nat.zero_le _⟩) ?_
        refine lv_if_eq (tgt := 54) hx hb dX12_odds_41 (by decide) (fun c8 => ?_) (fun c8 => ?_)
        · rw [if_pos c8] at h
          refine lv_ldc2 hx hb Z.o (Z.t _ wK_X12_221 rfl _) dX12_odds_54 ?_
          exact zml Z hP hS hr hlk h dX12_odds_57
        · rw [if_neg c8] at h
          refine lv_iload hx hb dX12_odds_44 (lv_at hl 5 rfl) ?_
          refine lv_iconst (v := 0) hx hb dX12_odds_46 (by decide) ?_
          refine lv_iconst (v := 1) hx hb dX12_odds_47 (by decide) ?_
          obtain ⟨v9, hv9, h⟩ := bd h
          refine zqi (zrunS Z hP (As := [.int x5, .int 0, .int 1]) (rest := []) (c_X12_in (R := { frames := 0, cells := 0, slots := 0, locals := 0 }) Z.i (Nat.le_refl _) (Nat.le_refl _) hv9) cV_X12_64 rfl rfl ⟨(Nat.le_trans (Nat.le_of_ble_eq_true rfl) hRf), (Nat.le_trans (Nat.le_of_ble_eq_true rfl) hRl)⟩ rfl hl.1 rfl (Nat.le_of_ble_eq_true rfl) dX12_odds_48 ⟨Nat.zero_le _, Nat.zero_le _⟩) ?_
          refine lv_if_ne (tgt := 58) hx hb dX12_odds_51 (by decide) (fun c10 => ?_) (fun c10 => ?_)
          · rw [if_neg c10] at h
            refine lv_iconst (v := 0) hx hb dX12_odds_58 (by decide) ?_
            refine lv_istore (lv' := [(6, .int 0), (0, .ref (ad 66)), (1, .int x1), (2, .int x2), (3, .int x3), (4, .int x4), (5, .int x5)]) hx hb dX12_odds_59 hl (by decide) rfl (fun ls hl => ?_)
            obtain ⟨y16, hy16, h⟩ := bd h
            refine w_X12_odds_L61 Z hr hlk hRf hRl out FU x1 x2 x3 x4 x5 0 ((sg τ 0 0)) y16 hy16 _ _ hP hS _ (lv_sub hl [1, 2, 3, 4, 5, 6, 0] rfl) (fun H locs hP hS ls hl => ?_)
            refine lv_lconst (v := 1) hx hb dX12_odds_99 (by decide) ?_
            refine lv_lstore (lv' := [(6, .long 1), (0, .ref (ad 66)), (1, .int y16.1), (2, .int y16.2.1), (3, .int y16.2.2.1), (4, .int y16.2.2.2.1), (5, .int y16.2.2.2.2.1)]) hx hb dX12_odds_100 hl (by decide) rfl (fun ls hl => ?_)
            refine lv_iconst (v := 0) hx hb dX12_odds_102 (by decide) ?_
            refine lv_istore (lv' := [(8, .int 0), (6, .long 1), (0, .ref (ad 66)), (1, .int y16.1), (2, .int y16.2.1), (3, .int y16.2.2.1), (4, .int y16.2.2.2.1), (5, .int y16.2.2.2.2.1)]) hx hb dX12_odds_103 hl (by decide) rfl (fun ls hl => ?_)
            obtain ⟨y19, hy19, h⟩ := bd h
            refine w_X12_odds_L105 Z hr hlk hRf hRl out FU y16.1 y16.2.1 y16.2.2.1 y16.2.2.2.1 y16.2.2.2.2.1 1 0 y16.2.2.2.2.2 y19 hy19 _ _ hP hS _ (lv_sub hl [2, 3, 4, 5, 6, 7, 1, 0] rfl) (fun H locs hP hS ls hl => ?_)
            refine lv_lconst (v := 0) hx hb dX12_odds_132 (by decide) ?_
            refine lv_lstore (lv' := [(8, .long 0), (0, .ref (ad 66)), (2, .int y19.1), (5, .int y19.2.1), (6, .long y19.2.2.1)]) hx hb dX12_odds_133 hl (by decide) rfl (fun ls hl => ?_)
            refine lv_iload_n hx hb dX12_odds_135 rfl (lv_at hl 2 rfl) ?_
            refine lv_istore (lv' := [(10, .int y19.1), (8, .long 0), (0, .ref (ad 66)), (2, .int y19.1), (5, .int y19.2.1), (6, .long y19.2.2.1)]) hx hb dX12_odds_136 hl (by decide) rfl (fun ls hl => ?_)
            obtain ⟨y22, hy22, h⟩ := bd h
            refine w_X12_odds_L138 Z hr hlk hRf hRl out FU y19.2.1 y19.2.2.1 0 y19.1 y19.2.2.2 y22 hy22 _ _ hP hS _ (lv_sub hl [2, 4, 5, 1, 0] rfl) (fun H locs hP hS ls hl => ?_)
            refine lv_lload hx hb dX12_odds_163 (lv_at hl 2 rfl) ?_
            refine lv_lload hx hb dX12_odds_165 (lv_at hl 1 rfl) ?_
            obtain ⟨v23, hv23, h⟩ := bd h
            refine zql (zrunS Z hP (As := [.long y22.2.2.1, .long y22.2.1]) (rest := []) (c_X12_gcd (R := { frames := 0, cells := 0, slots := 0, locals := 0 }) Z.i (Nat.le_refl _) (Nat.le_refl _) hv23) cV_X12_228 rfl rfl ⟨(Nat.le_trans (Nat.le_of_ble_eq_true rfl) hRf), (Nat.le_trans (Nat.le_of_ble_eq_true rfl) hRl)⟩ rfl hl.1 rfl (Nat.le_of_ble_eq_true rfl) dX12_odds_167 ⟨Nat.zero_le _, Nat.zero_le _⟩) ?_
            refine lv_lstore (lv' := [(10, .long v23), (5, .int y22.1), (6, .long y22.2.1), (8, .long y22.2.2.1)]) hx hb dX12_odds_170 hl (by decide) rfl (fun ls hl => ?_)
            refine lv_iload hx hb dX12_odds_172 (lv_at hl 1 rfl) ?_
            refine lv_if_ne (tgt := 185) hx hb dX12_odds_174 (by decide) (fun c24 => ?_) (fun c24 => ?_)
            · rw [if_neg c24] at h
              refine lv_lload hx hb dX12_odds_185 (lv_at hl 2 rfl) ?_
              refine lv_lload hx hb dX12_odds_187 (lv_at hl 0 rfl) ?_
              obtain ⟨v25, hv25, h⟩ := bd h
              refine zldiv Z hv25 dX12_odds_189 ?_
              exact zml Z hP hS hr hlk h dX12_odds_190
            · rw [if_pos c24] at h
              refine lv_lload hx hb dX12_odds_177 (lv_at hl 3 rfl) ?_
              refine lv_lload hx hb dX12_odds_179 (lv_at hl 0 rfl) ?_
              obtain ⟨v26, hv26, h⟩ := bd h
              refine zldiv Z hv26 dX12_odds_181 ?_
              refine lv_goto (tgt := 190) hx hb dX12_odds_182 (by decide) ?_
              exact zml Z hP hS hr hlk h dX12_odds_190
          · rw [if_pos c10] at h
            refine lv_ldc2 hx hb Z.o (Z.t _ wK_X12_221 rfl _) dX12_odds_54 ?_
            exact zml Z hP hS hr hlk h dX12_odds_57
def m_X12_rate_L40  : Nat → Int32 → Int32 → Int32 → Int32 → Int32 → Sx → Option (Int32 × Int32 × Int32 × Int32 × Sx)
  | 0, _, _, _, _, _, _ => none
  | n + 1, x1, x2, x3, x4, x5, τ =>
  if (τ.1 8) ≤ x5 then (some ((x1, x2, x3, x4, τ))) else ((ldA mLn τ 2 ((3 * x5))).bind (fun v7 => if v7 = x2 then (m_X12_rate_L40 n x1 x2 x3 ((x4 + 1)) ((x5 + 1)) τ) else (m_X12_rate_L40 n x1 x2 x3 ((x4 + 0)) ((x5 + 1)) τ)))
def m_X12_rate_J152 (x1 : Int32) (x2 : Int32) (x3 : Int32) (x4 : Int32) (x5 : Int32) (s0 : Int64) (s1 : Int64) (τ : Sx) : Option (Int32 × Sx) :=
  if x1 = 0 then (some ((x3, (sl τ ((s1 + s0)))))) else (if x1 = 1 then (some ((x4, (sl τ ((s1 + s0)))))) else (if x1 = 2 then (some ((x5, (sl τ ((s1 + s0)))))) else (if x1 = 3 then (some (((2 * x4), (sl τ ((s1 + s0)))))) else (if x1 = 4 then (some (((x5 + x2), (sl τ ((s1 + s0)))))) else ((ldA mLn ((sl τ ((s1 + s0)))) 4 ((9 + x2))).bind (fun v21 => some (((x3 + v21), (sl τ ((s1 + s0)))))))))))
def m_X12_rate (τ : Sx) (x1 : Int32) (x2 : Int32) : Option (Int32 × Sx) :=
  (m_X12_in x1 0 5).bind (fun v1 => if v1 = 0 then (some (((-1000000), (sg τ 0 0)))) else ((m_X12_isPhone ((sg τ 0 0)) x2).bind (fun v3 => if v3 = 0 then (some (((-1000000), (sg τ 0 0)))) else ((ldA mLn ((sg τ 0 0)) 4 ((4 + x2))).bind (fun v5 => (m_X12_rate_L40 FU x1 x2 v5 v5 0 ((sg τ 0 0))).bind (fun y9 => (ldA mLn y9.2.2.2.2 1 (((3 * y9.2.1) + 2))).bind (fun v10 => if y9.1 = 0 then (m_X12_rate_J152 y9.1 y9.2.1 y9.2.2.1 y9.2.2.2.1 ((y9.2.2.1 - v10)) 1 y9.2.2.2.2.2.1 y9.2.2.2.2) else (if y9.1 = 1 then (m_X12_rate_J152 y9.1 y9.2.1 y9.2.2.1 y9.2.2.2.1 ((y9.2.2.1 - v10)) 11 y9.2.2.2.2.2.1 y9.2.2.2.2) else (if y9.1 = 2 then (m_X12_rate_J152 y9.1 y9.2.1 y9.2.2.1 y9.2.2.2.1 ((y9.2.2.1 - v10)) 101 y9.2.2.2.2.2.1 y9.2.2.2.2) else (if y9.1 = 3 then (m_X12_rate_J152 y9.1 y9.2.1 y9.2.2.1 y9.2.2.2.1 ((y9.2.2.1 - v10)) 1011 y9.2.2.2.2.2.1 y9.2.2.2.2) else (if y9.1 = 4 then (m_X12_rate_J152 y9.1 y9.2.1 y9.2.2.1 y9.2.2.2.1 ((y9.2.2.1 - v10)) 10101 y9.2.2.2.2.2.1 y9.2.2.2.2) else (m_X12_rate_J152 y9.1 y9.2.1 y9.2.2.1 y9.2.2.2.1 ((y9.2.2.1 - v10)) 100001 y9.2.2.2.2.2.1 y9.2.2.2.2))))))))))))
set_option maxHeartbeats 4000000 in
set_option maxRecDepth 100000 in
theorem w_X12_rate_L40 {l : Launch} {D : va_G} {cy : Nat → ClassId} {ad : Nat → Nat} {σ : Sx} {p : Program} {e : Env} {R : Room} {s : State} {m : MethodId} {args : Array Value} {below : List Frame} {meth : Method} {c : Code} (Z : Zc p s m c cX12_rate 6 RX12 D cy ad) (hr : meth.sig.returnType = (some .int)) (hlk : meth.locks = false) (hRf : 2 ≤ R.frames) (hRl : 43 ≤ R.locals) (out : Int32 × Sx) : ∀ (n : Nat) (x1 : Int32) (x2 : Int32) (x3 : Int32) (x4 : Int32) (x5 : Int32) (τ : Sx) (res : Int32 × Int32 × Int32 × Int32 × Sx), m_X12_rate_L40 n x1 x2 x3 x4 x5 τ = some res → ∀ (H : Heap) (locs : List Loc), va_P D vwCl (gW cy ad σ τ) H → va_S (gA ad) s.heap H locs → ∀ ls : Array Slot, lv_has ls 6 [(0, .ref (ad 66)), (1, .int x1), (2, .int x2), (3, .int x3), (4, .int x4), (5, .int x5)] → (∀ (H : Heap) (locs : List Loc), va_P D vwCl (gW cy ad σ res.2.2.2.2) H → va_S (gA ad) s.heap H locs → ∀ ls : Array Slot, lv_has ls 6 [(0, .ref (ad 66)), (1, .int res.1), (2, .int res.2.1), (3, .int res.2.2.1), (4, .int res.2.2.2.1)] → W p l e R s m args below meth c H locs 0 0 (MQ below (mQi D cy ad σ out) args s 0 0 (gA ad)) (F0 m 78 ls [])) → W p l e R s m args below meth c H locs 0 0 (MQ below (mQi D cy ad σ out) args s 0 0 (gA ad)) (F0 m 40 ls []) := by
  have hx := Z.x
  have hb := Z.b
  intro n
  induction n with
  | zero => intro x1 x2 x3 x4 x5 τ res h; cases h
  | succ n ih =>
    intro x1 x2 x3 x4 x5 τ res h H locs hP hS ls hl kx
    rw [m_X12_rate_L40] at h
    refine lv_iload hx hb dX12_rate_40 (lv_at hl 5 rfl) ?_
    refine lv_aload_n hx hb dX12_rate_42 rfl (lv_at hl 0 rfl) ?_
    refine fg_66_13 Z hP wF_X12_130 dX12_rate_43 ?_
    refine lv_icmp_ge (tgt := 78) hx hb dX12_rate_46 (by decide) (fun c6 => ?_) (fun c6 => ?_)
    · rw [if_pos c6] at h
      obtain rfl := Option.some.inj h
      exact kx _ _ hP hS _ (lv_sub hl [0, 1, 2, 3, 4] rfl)
    · rw [if_neg c6] at h
      refine lv_iload hx hb dX12_rate_49 (lv_at hl 4 rfl) ?_
      refine lv_aload_n hx hb dX12_rate_51 rfl (lv_at hl 0 rfl) ?_
      refine fg_66_10 Z hP wF_X12_16 dX12_rate_52 ?_
      refine lv_iconst (v := 3) hx hb dX12_rate_55 (by decide) ?_
      refine lv_iload hx hb dX12_rate_56 (lv_at hl 5 rfl) ?_
      refine lv_imul hx hb dX12_rate_58 ?_
      obtain ⟨v7, hv7, h⟩ := bd h
      refine zm_ld (j := 2) Z hP hv7 dX12_rate_59 ?_
      refine lv_iload_n hx hb dX12_rate_60 rfl (lv_at hl 2 rfl) ?_
      refine lv_icmp_ne (tgt := 68) hx hb dX12_rate_61 (by decide) (fun c8 => ?_) (fun c8 => ?_)
      · rw [if_neg c8] at h
        refine lv_iconst (v := 0) hx hb dX12_rate_68 (by decide) ?_
        refine lv_iadd hx hb dX12_rate_69 ?_
        refine lv_istore (lv' := [(4, .int (x4 + 0)), (0, .ref (ad 66)), (1, .int x1), (2, .int x2), (3, .int x3), (5, .int x5)]) hx hb dX12_rate_70 hl (by decide) rfl (fun ls hl => ?_)
        refine lv_iinc (v := (x5 + 1)) (lv' := [(5, .int (x5 + 1)), (4, .int (x4 + 0)), (0, .ref (ad 66)), (1, .int x1), (2, .int x2), (3, .int x3)]) hx hb dX12_rate_72 hl (k := 5) rfl rfl (by decide) rfl (fun ls hl => ?_)
        refine lv_goto (tgt := 40) hx hb dX12_rate_75 (by decide) ?_
        exact ih x1 x2 x3 ((x4 + 0)) ((x5 + 1)) τ _ h _ _ hP hS _ (lv_sub hl [2, 3, 4, 5, 1, 0] rfl) kx
      · rw [if_pos c8] at h
        refine lv_iconst (v := 1) hx hb dX12_rate_64 (by decide) ?_
        refine lv_goto (tgt := 69) hx hb dX12_rate_65 (by decide) ?_
        refine lv_iadd hx hb dX12_rate_69 ?_
        refine lv_istore (lv' := [(4, .int (x4 + 1)), (0, .ref (ad 66)), (1, .int x1), (2, .int x2), (3, .int x3), (5, .int x5)]) hx hb dX12_rate_70 hl (by decide) rfl (fun ls hl => ?_)
        refine lv_iinc (v := (x5 + 1)) (lv' := [(5, .int (x5 + 1)), (4, .int (x4 + 1)), (0, .ref (ad 66)), (1, .int x1), (2, .int x2), (3, .int x3)]) hx hb dX12_rate_72 hl (k := 5) rfl rfl (by decide) rfl (fun ls hl => ?_)
        refine lv_goto (tgt := 40) hx hb dX12_rate_75 (by decide) ?_
        exact ih x1 x2 x3 ((x4 + 1)) ((x5 + 1)) τ _ h _ _ hP hS _ (lv_sub hl [2, 3, 4, 5, 1, 0] rfl) kx
set_option maxHeartbeats 4000000 in
set_option maxRecDepth 100000 in
theorem c_X12_rate {l : Launch} {D : va_G} {cy : Nat → ClassId} {ad : Nat → Nat} {σ τ : Sx} {R : Room} (hI : gInj ad) (hRf : 2 ≤ R.frames) (hRl : 43 ≤ R.locals) {x1 : Int32} {x2 : Int32} {out : Int32 × Sx} (h : m_X12_rate τ x1 x2 = some out) : Met l yX12_rate [Cond.code yX12_rate cX12_rate 6 (some .int)] R (va_Pc [.ref (ad 66), .int x1, .int x2] (gB D cy ad σ τ)) (mQi D cy ad σ out) 0 0 (gA ad) := by
  refine zstart [.ref (ad 66), .int x1, .int x2] (by decide) rfl hI (Nat.le_of_ble_eq_true rfl) ?_
  intro p e s m below meth c Z hr hlk hP ls hl
  have hx := Z.x
  have hb := Z.b
  generalize hargs : ([.ref (ad 66), .int x1, .int x2] : List Value).toArray = args
  have hl : lv_has ls 6 [(0, .ref (ad 66)), (1, .int x1), (2, .int x2)] := hl
  have hS : va_S (gA ad) s.heap s.heap [] := va_S.rf
  have J152 : ∀ (x1 : Int32) (x2 : Int32) (x3 : Int32) (x4 : Int32) (x5 : Int32) (s0 : Int64) (s1 : Int64) (τ : Sx), m_X12_rate_J152 x1 x2 x3 x4 x5 s0 s1 τ = some out → ∀ (H : Heap) (locs : List Loc), va_P D vwCl (gW cy ad σ τ) H → va_S (gA ad) s.heap H locs → ∀ ls : Array Slot, lv_has ls 6 [(0, .ref (ad 66)), (1, .int x1), (2, .int x2), (3, .int x3), (4, .int x4), (5, .int x5)] → W p l e R s m args below meth c H locs 0 0 (MQ below (mQi D cy ad σ out) args s 0 0 (gA ad)) (F0 m 152 ls [.long s0, .long s1, .ref (ad 66)]) := by
    intro x1 x2 x3 x4 x5 s0 s1 τ h H locs hP hS ls hl
    unfold m_X12_rate_J152 at h
    refine lv_ladd hx hb dX12_rate_152 ?_
    refine fp_66_1 Z hP hS wF_X12_233 dX12_rate_153 (fun H locs hP hS => ?_)
    refine lv_iload_n hx hb dX12_rate_156 rfl (lv_at hl 1 rfl) ?_
    refine lv_if_ne (tgt := 164) hx hb dX12_rate_157 (by decide) (fun c16 => ?_) (fun c16 => ?_)
    · rw [if_neg c16] at h
      refine lv_iload_n hx hb dX12_rate_164 rfl (lv_at hl 1 rfl) ?_
      refine lv_iconst (v := 1) hx hb dX12_rate_165 (by decide) ?_
      refine lv_icmp_ne (tgt := 174) hx hb dX12_rate_166 (by decide) (fun c17 => ?_) (fun c17 => ?_)
      · rw [if_neg c17] at h
        refine lv_iload_n hx hb dX12_rate_174 rfl (lv_at hl 1 rfl) ?_
        refine lv_iconst (v := 2) hx hb dX12_rate_175 (by decide) ?_
        refine lv_icmp_ne (tgt := 184) hx hb dX12_rate_176 (by decide) (fun c18 => ?_) (fun c18 => ?_)
        · rw [if_neg c18] at h
          refine lv_iload_n hx hb dX12_rate_184 rfl (lv_at hl 1 rfl) ?_
          refine lv_iconst (v := 3) hx hb dX12_rate_185 (by decide) ?_
          refine lv_icmp_ne (tgt := 196) hx hb dX12_rate_186 (by decide) (fun c19 => ?_) (fun c19 => ?_)
          · rw [if_neg c19] at h
            refine lv_iload_n hx hb dX12_rate_196 rfl (lv_at hl 1 rfl) ?_
            refine lv_iconst (v := 4) hx hb dX12_rate_197 (by decide) ?_
            refine lv_icmp_ne (tgt := 208) hx hb dX12_rate_198 (by decide) (fun c20 => ?_) (fun c20 => ?_)
            · rw [if_neg c20] at h
              refine lv_iload_n hx hb dX12_rate_208 rfl (lv_at hl 3 rfl) ?_
              refine lv_aload_n hx hb dX12_rate_209 rfl (lv_at hl 0 rfl) ?_
              refine fg_66_20 Z hP wF_X12_22 dX12_rate_210 ?_
              refine lv_bipush (v := 9) hx hb dX12_rate_213 (by decide) ?_
              refine lv_iload_n hx hb dX12_rate_215 rfl (lv_at hl 2 rfl) ?_
              refine lv_iadd hx hb dX12_rate_216 ?_
              obtain ⟨v21, hv21, h⟩ := bd h
              refine zm_ld (j := 4) Z hP hv21 dX12_rate_217 ?_
              refine lv_iadd hx hb dX12_rate_218 ?_
              exact zmi Z hP hS hr hlk h dX12_rate_219
            · rw [if_pos c20] at h
              refine lv_iload hx hb dX12_rate_201 (lv_at hl 5 rfl) ?_
              refine lv_iload_n hx hb dX12_rate_203 rfl (lv_at hl 2 rfl) ?_
              refine lv_iadd hx hb dX12_rate_204 ?_
              refine lv_goto (tgt := 219) hx hb dX12_rate_205 (by decide) ?_
              exact zmi Z hP hS hr hlk h dX12_rate_219
          · rw [if_pos c19] at h
            refine lv_iconst (v := 2) hx hb dX12_rate_189 (by decide) ?_
            refine lv_iload hx hb dX12_rate_190 (lv_at hl 4 rfl) ?_
            refine lv_imul hx hb dX12_rate_192 ?_
            refine lv_goto (tgt := 219) hx hb dX12_rate_193 (by decide) ?_
            exact zmi Z hP hS hr hlk h dX12_rate_219
        · rw [if_pos c18] at h
          refine lv_iload hx hb dX12_rate_179 (lv_at hl 5 rfl) ?_
          refine lv_goto (tgt := 219) hx hb dX12_rate_181 (by decide) ?_
          exact zmi Z hP hS hr hlk h dX12_rate_219
      · rw [if_pos c17] at h
        refine lv_iload hx hb dX12_rate_169 (lv_at hl 4 rfl) ?_
        refine lv_goto (tgt := 219) hx hb dX12_rate_171 (by decide) ?_
        exact zmi Z hP hS hr hlk h dX12_rate_219
    · rw [if_pos c16] at h
      refine lv_iload_n hx hb dX12_rate_160 rfl (lv_at hl 3 rfl) ?_
      refine lv_goto (tgt := 219) hx hb dX12_rate_161 (by decide) ?_
      exact zmi Z hP hS hr hlk h dX12_rate_219
  unfold m_X12_rate at h
  refine lv_aload_n hx hb dX12_rate_0 rfl (lv_at hl 0 rfl) ?_
  refine lv_iconst (v := 0) hx hb dX12_rate_1 (by decide) ?_
  refine fp_66_0 Z hP hS wF_X12_61 dX12_rate_2 (fun H locs hP hS => ?_)
  refine lv_iload_n hx hb dX12_rate_5 rfl (lv_at hl 1 rfl) ?_
  refine lv_iconst (v := 0) hx hb dX12_rate_6 (by decide) ?_
  refine lv_iconst (v := 5) hx hb dX12_rate_7 (by decide) ?_
  obtain ⟨v1, hv1, h⟩ := bd h
  refine zqi (zrunS Z hP (As := [.int x1, .int 0, .int 5]) (rest := []) (c_X12_in (R := { frames := 0, cells := 0, slots := 0, locals := 0 }) Z.i (Nat.le_refl _) (Nat.le_refl _) hv1) cV_X12_64 rfl rfl ⟨(Nat.le_trans (Nat.le_of_ble_eq_true rfl) hRf), (Nat.le_trans (Nat.le_of_ble_eq_true rfl) hRl)⟩ rfl hl.1 rfl (Nat.le_of_ble_eq_true rfl) dX12_rate_8 ⟨Nat.zero_le _, Nat.zero_le _⟩) ?_
  refine lv_if_eq (tgt := 22) hx hb dX12_rate_11 (by decide) (fun c2 => ?_) (fun c2 => ?_)
  · rw [if_pos c2] at h
    refine lv_ldc hx hb Z.o (Z.t _ wK_X12_232 rfl _) dX12_rate_22 ?_
    exact zmi Z hP hS hr hlk h dX12_rate_24
  · rw [if_neg c2] at h
    refine lv_aload_n hx hb dX12_rate_14 rfl (lv_at hl 0 rfl) ?_
    refine lv_iload_n hx hb dX12_rate_15 rfl (lv_at hl 2 rfl) ?_
    obtain ⟨v3, hv3, h⟩ := bd h
    refine zqi (zrunV Z hP (As := [.int x2]) (rest := []) (c_X12_isPhone (R := { frames := 1, cells := 0, slots := 0, locals := 22 }) Z.i (Nat.le_refl _) (Nat.le_refl _) hv3) cV_X12_142 rfl rfl ⟨(Nat.le_trans (Nat.le_of_ble_eq_true rfl) hRf), (Nat.le_trans (Nat.le_of_ble_eq_true rfl) hRl)⟩ 66 (gW_mo.trans rfl) rfl rfl rfl hl.1 rfl (Nat.le_of_ble_eq_true rfl) dX12_rate_16 ⟨Nat.zero_le _, Nat.zero_le _⟩) ?_
    refine lv_if_ne (tgt := 25) hx hb dX12_rate_19 (by decide) (fun c4 => ?_) (fun c4 => ?_)
    · rw [if_neg c4] at h
      refine lv_aload_n hx hb dX12_rate_25 rfl (lv_at hl 0 rfl) ?_
      refine fg_66_20 Z hP wF_X12_22 dX12_rate_26 ?_
      refine lv_iconst (v := 4) hx hb dX12_rate_29 (by decide) ?_
      refine lv_iload_n hx hb dX12_rate_30 rfl (lv_at hl 2 rfl) ?_
      refine lv_iadd hx hb dX12_rate_31 ?_
      obtain ⟨v5, hv5, h⟩ := bd h
      refine zm_ld (j := 4) Z hP hv5 dX12_rate_32 ?_
      refine lv_istore_n (lv' := [(3, .int v5), (0, .ref (ad 66)), (1, .int x1), (2, .int x2)]) hx hb dX12_rate_33 rfl hl (by decide) rfl (fun ls hl => ?_)
      refine lv_iload_n hx hb dX12_rate_34 rfl (lv_at hl 0 rfl) ?_
      refine lv_istore (lv' := [(4, .int v5), (3, .int v5), (0, .ref (ad 66)), (1, .int x1), (2, .int x2)]) hx hb dX12_rate_35 hl (by decide) rfl (fun ls hl => ?_)
      refine lv_iconst (v := 0) hx hb dX12_rate_37 (by decide) ?_
      refine lv_istore (lv' := [(5, .int 0), (4, .int v5), (3, .int v5), (0, .ref (ad 66)), (1, .int x1), (2, .int x2)]) hx hb dX12_rate_38 hl (by decide) rfl (fun ls hl => ?_)
      obtain ⟨y9, hy9, h⟩ := bd h
      refine w_X12_rate_L40 Z hr hlk hRf hRl out FU x1 x2 v5 v5 0 ((sg τ 0 0)) y9 hy9 _ _ hP hS _ (lv_sub hl [3, 4, 5, 2, 1, 0] rfl) (fun H locs hP hS ls hl => ?_)
      refine lv_iload_n hx hb dX12_rate_78 rfl (lv_at hl 3 rfl) ?_
      refine lv_aload_n hx hb dX12_rate_79 rfl (lv_at hl 0 rfl) ?_
      refine fg_66_9 Z hP wF_X12_13 dX12_rate_80 ?_
      refine lv_iconst (v := 3) hx hb dX12_rate_83 (by decide) ?_
      refine lv_iload_n hx hb dX12_rate_84 rfl (lv_at hl 2 rfl) ?_
      refine lv_imul hx hb dX12_rate_85 ?_
      refine lv_iconst (v := 2) hx hb dX12_rate_86 (by decide) ?_
      refine lv_iadd hx hb dX12_rate_87 ?_
      obtain ⟨v10, hv10, h⟩ := bd h
      refine zm_ld (j := 1) Z hP hv10 dX12_rate_88 ?_
      refine lv_isub hx hb dX12_rate_89 ?_
      refine lv_istore (lv' := [(5, .int (y9.2.2.1 - v10)), (0, .ref (ad 66)), (1, .int y9.1), (2, .int y9.2.1), (3, .int y9.2.2.1), (4, .int y9.2.2.2.1)]) hx hb dX12_rate_90 hl (by decide) rfl (fun ls hl => ?_)
      refine lv_aload_n hx hb dX12_rate_92 rfl (lv_at hl 1 rfl) ?_
      refine lv_dup hx hb dX12_rate_93 rfl ?_
      refine fg_66_1 Z hP wF_X12_233 dX12_rate_94 ?_
      refine lv_iload_n hx hb dX12_rate_97 rfl (lv_at hl 2 rfl) ?_
      refine lv_if_ne (tgt := 105) hx hb dX12_rate_98 (by decide) (fun c11 => ?_) (fun c11 => ?_)
      · rw [if_neg c11] at h
        refine lv_iload_n hx hb dX12_rate_105 rfl (lv_at hl 2 rfl) ?_
        refine lv_iconst (v := 1) hx hb dX12_rate_106 (by decide) ?_
        refine lv_icmp_ne (tgt := 116) hx hb dX12_rate_107 (by decide) (fun c12 => ?_) (fun c12 => ?_)
        · rw [if_neg c12] at h
          refine lv_iload_n hx hb dX12_rate_116 rfl (lv_at hl 2 rfl) ?_
          refine lv_iconst (v := 2) hx hb dX12_rate_117 (by decide) ?_
          refine lv_icmp_ne (tgt := 127) hx hb dX12_rate_118 (by decide) (fun c13 => ?_) (fun c13 => ?_)
          · rw [if_neg c13] at h
            refine lv_iload_n hx hb dX12_rate_127 rfl (lv_at hl 2 rfl) ?_
            refine lv_iconst (v := 3) hx hb dX12_rate_128 (by decide) ?_
            refine lv_icmp_ne (tgt := 138) hx hb dX12_rate_129 (by decide) (fun c14 => ?_) (fun c14 => ?_)
            · rw [if_neg c14] at h
              refine lv_iload_n hx hb dX12_rate_138 rfl (lv_at hl 2 rfl) ?_
              refine lv_iconst (v := 4) hx hb dX12_rate_139 (by decide) ?_
              refine lv_icmp_ne (tgt := 149) hx hb dX12_rate_140 (by decide) (fun c15 => ?_) (fun c15 => ?_)
              · rw [if_neg c15] at h
                refine lv_ldc2 hx hb Z.o (Z.t _ wK_X12_245 rfl _) dX12_rate_149 ?_
                exact J152 y9.1 y9.2.1 y9.2.2.1 y9.2.2.2.1 ((y9.2.2.1 - v10)) 100001 y9.2.2.2.2.2.1 y9.2.2.2.2 h _ _ hP hS _ (lv_sub hl [1, 2, 3, 4, 5, 0] rfl)
              · rw [if_pos c15] at h
                refine lv_ldc2 hx hb Z.o (Z.t _ wK_X12_243 rfl _) dX12_rate_143 ?_
                refine lv_goto (tgt := 152) hx hb dX12_rate_146 (by decide) ?_
                exact J152 y9.1 y9.2.1 y9.2.2.1 y9.2.2.2.1 ((y9.2.2.1 - v10)) 10101 y9.2.2.2.2.2.1 y9.2.2.2.2 h _ _ hP hS _ (lv_sub hl [1, 2, 3, 4, 5, 0] rfl)
            · rw [if_pos c14] at h
              refine lv_ldc2 hx hb Z.o (Z.t _ wK_X12_241 rfl _) dX12_rate_132 ?_
              refine lv_goto (tgt := 152) hx hb dX12_rate_135 (by decide) ?_
              exact J152 y9.1 y9.2.1 y9.2.2.1 y9.2.2.2.1 ((y9.2.2.1 - v10)) 1011 y9.2.2.2.2.2.1 y9.2.2.2.2 h _ _ hP hS _ (lv_sub hl [1, 2, 3, 4, 5, 0] rfl)
          · rw [if_pos c13] at h
            refine lv_ldc2 hx hb Z.o (Z.t _ wK_X12_239 rfl _) dX12_rate_121 ?_
            refine lv_goto (tgt := 152) hx hb dX12_rate_124 (by decide) ?_
            exact J152 y9.1 y9.2.1 y9.2.2.1 y9.2.2.2.1 ((y9.2.2.1 - v10)) 101 y9.2.2.2.2.2.1 y9.2.2.2.2 h _ _ hP hS _ (lv_sub hl [1, 2, 3, 4, 5, 0] rfl)
        · rw [if_pos c12] at h
          refine lv_ldc2 hx hb Z.o (Z.t _ wK_X12_237 rfl _) dX12_rate_110 ?_
          refine lv_goto (tgt := 152) hx hb dX12_rate_113 (by decide) ?_
          exact J152 y9.1 y9.2.1 y9.2.2.1 y9.2.2.2.1 ((y9.2.2.1 - v10)) 11 y9.2.2.2.2.2.1 y9.2.2.2.2 h _ _ hP hS _ (lv_sub hl [1, 2, 3, 4, 5, 0] rfl)
      · rw [if_pos c11] at h
        refine lv_lconst (v := 1) hx hb dX12_rate_101 (by decide) ?_
        refine lv_goto (tgt := 152) hx hb dX12_rate_102 (by decide) ?_
        exact J152 y9.1 y9.2.1 y9.2.2.1 y9.2.2.2.1 ((y9.2.2.1 - v10)) 1 y9.2.2.2.2.2.1 y9.2.2.2.2 h _ _ hP hS _ (lv_sub hl [1, 2, 3, 4, 5, 0] rfl)
    · rw [if_pos c4] at h
      refine lv_ldc hx hb Z.o (Z.t _ wK_X12_232 rfl _) dX12_rate_22 ?_
      exact zmi Z hP hS hr hlk h dX12_rate_24
def m_X12_keep_L18  : Nat → Int32 → Int32 → Sx → Option (Int32 × Sx)
  | 0, _, _, _ => none
  | n + 1, x1, x2, τ =>
  if 14 ≤ x2 then (some ((x1, τ))) else ((ldA mLn τ 4 x2).bind (fun v4 => (stA mLn τ 6 (((14 * x1) + x2)) v4).bind (fun q5 => m_X12_keep_L18 n x1 ((x2 + 1)) q5)))
def m_X12_keep (τ : Sx) (x1 : Int32) : Option (Int32 × Sx) :=
  (m_X12_in x1 0 1).bind (fun v1 => if v1 = 0 then (some (((-1), (sg τ 0 0)))) else ((m_X12_keep_L18 FU x1 0 ((sg τ 0 0))).bind (fun y6 => (stZ y6.2 12 y6.1 1).bind (fun q7 => (ldA mLn q7 4 0).bind (fun v8 => some ((v8, q7)))))))
set_option maxHeartbeats 4000000 in
set_option maxRecDepth 100000 in
theorem w_X12_keep_L18 {l : Launch} {D : va_G} {cy : Nat → ClassId} {ad : Nat → Nat} {σ : Sx} {p : Program} {e : Env} {R : Room} {s : State} {m : MethodId} {args : Array Value} {below : List Frame} {meth : Method} {c : Code} (Z : Zc p s m c cX12_keep 3 RX12 D cy ad) (hr : meth.sig.returnType = (some .int)) (hlk : meth.locks = false) (hRf : 1 ≤ R.frames) (hRl : 22 ≤ R.locals) (out : Int32 × Sx) : ∀ (n : Nat) (x1 : Int32) (x2 : Int32) (τ : Sx) (res : Int32 × Sx), m_X12_keep_L18 n x1 x2 τ = some res → ∀ (H : Heap) (locs : List Loc), va_P D vwCl (gW cy ad σ τ) H → va_S (gA ad) s.heap H locs → ∀ ls : Array Slot, lv_has ls 3 [(0, .ref (ad 66)), (1, .int x1), (2, .int x2)] → (∀ (H : Heap) (locs : List Loc), va_P D vwCl (gW cy ad σ res.2) H → va_S (gA ad) s.heap H locs → ∀ ls : Array Slot, lv_has ls 3 [(0, .ref (ad 66)), (1, .int res.1)] → W p l e R s m args below meth c H locs 0 0 (MQ below (mQi D cy ad σ out) args s 0 0 (gA ad)) (F0 m 47 ls [])) → W p l e R s m args below meth c H locs 0 0 (MQ below (mQi D cy ad σ out) args s 0 0 (gA ad)) (F0 m 18 ls []) := by
  have hx := Z.x
  have hb := Z.b
  intro n
  induction n with
  | zero => intro x1 x2 τ res h; cases h
  | succ n ih =>
    intro x1 x2 τ res h H locs hP hS ls hl kx
    rw [m_X12_keep_L18] at h
    refine lv_iload_n hx hb dX12_keep_18 rfl (lv_at hl 2 rfl) ?_
    refine lv_bipush (v := 14) hx hb dX12_keep_19 (by decide) ?_
    refine lv_icmp_ge (tgt := 47) hx hb dX12_keep_21 (by decide) (fun c3 => ?_) (fun c3 => ?_)
    · rw [if_pos c3] at h
      obtain rfl := Option.some.inj h
      exact kx _ _ hP hS _ (lv_sub hl [0, 1] rfl)
    · rw [if_neg c3] at h
      refine lv_aload_n hx hb dX12_keep_24 rfl (lv_at hl 0 rfl) ?_
      refine fg_66_22 Z hP wF_X12_28 dX12_keep_25 ?_
      refine lv_bipush (v := 14) hx hb dX12_keep_28 (by decide) ?_
      refine lv_iload_n hx hb dX12_keep_30 rfl (lv_at hl 1 rfl) ?_
      refine lv_imul hx hb dX12_keep_31 ?_
      refine lv_iload_n hx hb dX12_keep_32 rfl (lv_at hl 2 rfl) ?_
      refine lv_iadd hx hb dX12_keep_33 ?_
      refine lv_aload_n hx hb dX12_keep_34 rfl (lv_at hl 0 rfl) ?_
      refine fg_66_20 Z hP wF_X12_22 dX12_keep_35 ?_
      refine lv_iload_n hx hb dX12_keep_38 rfl (lv_at hl 2 rfl) ?_
      obtain ⟨v4, hv4, h⟩ := bd h
      refine zm_ld (j := 4) Z hP hv4 dX12_keep_39 ?_
      obtain ⟨q5, hq5, h⟩ := bd h
      refine zm_st (j := 6) Z hP hS hq5 dX12_keep_40 (fun H locs hP hS => ?_)
      refine lv_iinc (v := (x2 + 1)) (lv' := [(2, .int (x2 + 1)), (0, .ref (ad 66)), (1, .int x1)]) hx hb dX12_keep_41 hl (k := 2) rfl rfl (by decide) rfl (fun ls hl => ?_)
      refine lv_goto (tgt := 18) hx hb dX12_keep_44 (by decide) ?_
      exact ih x1 ((x2 + 1)) q5 _ h _ _ hP hS _ (lv_sub hl [1, 2, 0] rfl) kx
set_option maxHeartbeats 4000000 in
set_option maxRecDepth 100000 in
theorem c_X12_keep {l : Launch} {D : va_G} {cy : Nat → ClassId} {ad : Nat → Nat} {σ τ : Sx} {R : Room} (hI : gInj ad) (hRf : 1 ≤ R.frames) (hRl : 22 ≤ R.locals) {x1 : Int32} {out : Int32 × Sx} (h : m_X12_keep τ x1 = some out) : Met l yX12_keep [Cond.code yX12_keep cX12_keep 3 (some .int)] R (va_Pc [.ref (ad 66), .int x1] (gB D cy ad σ τ)) (mQi D cy ad σ out) 0 0 (gA ad) := by
  refine zstart [.ref (ad 66), .int x1] (by decide) rfl hI (Nat.le_of_ble_eq_true rfl) ?_
  intro p e s m below meth c Z hr hlk hP ls hl
  have hx := Z.x
  have hb := Z.b
  generalize hargs : ([.ref (ad 66), .int x1] : List Value).toArray = args
  have hl : lv_has ls 3 [(0, .ref (ad 66)), (1, .int x1)] := hl
  have hS : va_S (gA ad) s.heap s.heap [] := va_S.rf
  unfold m_X12_keep at h
  refine lv_aload_n hx hb dX12_keep_0 rfl (lv_at hl 0 rfl) ?_
  refine lv_iconst (v := 0) hx hb dX12_keep_1 (by decide) ?_
  refine fp_66_0 Z hP hS wF_X12_61 dX12_keep_2 (fun H locs hP hS => ?_)
  refine lv_iload_n hx hb dX12_keep_5 rfl (lv_at hl 1 rfl) ?_
  refine lv_iconst (v := 0) hx hb dX12_keep_6 (by decide) ?_
  refine lv_iconst (v := 1) hx hb dX12_keep_7 (by decide) ?_
  obtain ⟨v1, hv1, h⟩ := bd h
  refine zqi (zrunS Z hP (As := [.int x1, .int 0, .int 1]) (rest := []) (c_X12_in (R := { frames := 0, cells := 0, slots := 0, locals := 0 }) Z.i (Nat.le_refl _) (Nat.le_refl _) hv1) cV_X12_64 rfl rfl ⟨(Nat.le_trans (Nat.le_of_ble_eq_true rfl) hRf), (Nat.le_trans (Nat.le_of_ble_eq_true rfl) hRl)⟩ rfl hl.1 rfl (Nat.le_of_ble_eq_true rfl) dX12_keep_8 ⟨Nat.zero_le _, Nat.zero_le _⟩) ?_
  refine lv_if_ne (tgt := 16) hx hb dX12_keep_11 (by decide) (fun c2 => ?_) (fun c2 => ?_)
  · rw [if_neg c2] at h
    refine lv_iconst (v := 0) hx hb dX12_keep_16 (by decide) ?_
    refine lv_istore_n (lv' := [(2, .int 0), (0, .ref (ad 66)), (1, .int x1)]) hx hb dX12_keep_17 rfl hl (by decide) rfl (fun ls hl => ?_)
    obtain ⟨y6, hy6, h⟩ := bd h
    refine w_X12_keep_L18 Z hr hlk hRf hRl out FU x1 0 ((sg τ 0 0)) y6 hy6 _ _ hP hS _ (lv_sub hl [1, 2, 0] rfl) (fun H locs hP hS ls hl => ?_)
    refine lv_aload_n hx hb dX12_keep_47 rfl (lv_at hl 0 rfl) ?_
    refine fg_66_23 Z hP wF_X12_31 dX12_keep_48 ?_
    refine lv_iload_n hx hb dX12_keep_51 rfl (lv_at hl 1 rfl) ?_
    refine lv_iconst (v := 1) hx hb dX12_keep_52 (by decide) ?_
    obtain ⟨q7, hq7, h⟩ := bd h
    refine zm_stz Z hP hS hq7 dX12_keep_53 (fun H locs hP hS => ?_)
    refine lv_aload_n hx hb dX12_keep_54 rfl (lv_at hl 0 rfl) ?_
    refine fg_66_20 Z hP wF_X12_22 dX12_keep_55 ?_
    refine lv_iconst (v := 0) hx hb dX12_keep_58 (by decide) ?_
    obtain ⟨v8, hv8, h⟩ := bd h
    refine zm_ld (j := 4) Z hP hv8 dX12_keep_59 ?_
    exact zmi Z hP hS hr hlk h dX12_keep_60
  · rw [if_pos c2] at h
    refine lv_iconst (v := (-1)) hx hb dX12_keep_14 (by decide) ?_
    exact zmi Z hP hS hr hlk h dX12_keep_15
def m_X12_back_L30  : Nat → Int32 → Int32 → Sx → Option (Sx)
  | 0, _, _, _ => none
  | n + 1, x1, x2, τ =>
  if 14 ≤ x2 then (some τ) else ((ldA mLn τ 6 (((14 * x1) + x2))).bind (fun v6 => (stA mLn τ 4 x2 v6).bind (fun q7 => m_X12_back_L30 n x1 ((x2 + 1)) q7)))
def m_X12_back (τ : Sx) (x1 : Int32) : Option (Int32 × Sx) :=
  (m_X12_in x1 0 1).bind (fun v1 => if v1 = 0 then (some (((-1), (sg τ 0 0)))) else ((ldZ ((sg τ 0 0)) 12 x1).bind (fun v3 => if v3 = 0 then (some (((-2), (sg τ 0 0)))) else ((m_X12_back_L30 FU x1 0 ((sg τ 0 0))).bind (fun y8 => (ldA mLn ((sg y8 15 0)) 4 0).bind (fun v9 => some ((v9, (sg y8 15 0)))))))))
set_option maxHeartbeats 4000000 in
set_option maxRecDepth 100000 in
theorem w_X12_back_L30 {l : Launch} {D : va_G} {cy : Nat → ClassId} {ad : Nat → Nat} {σ : Sx} {p : Program} {e : Env} {R : Room} {s : State} {m : MethodId} {args : Array Value} {below : List Frame} {meth : Method} {c : Code} (Z : Zc p s m c cX12_back 3 RX12 D cy ad) (hr : meth.sig.returnType = (some .int)) (hlk : meth.locks = false) (hRf : 1 ≤ R.frames) (hRl : 22 ≤ R.locals) (out : Int32 × Sx) : ∀ (n : Nat) (x1 : Int32) (x2 : Int32) (τ : Sx) (res : Sx), m_X12_back_L30 n x1 x2 τ = some res → ∀ (H : Heap) (locs : List Loc), va_P D vwCl (gW cy ad σ τ) H → va_S (gA ad) s.heap H locs → ∀ ls : Array Slot, lv_has ls 3 [(0, .ref (ad 66)), (1, .int x1), (2, .int x2)] → (∀ (H : Heap) (locs : List Loc), va_P D vwCl (gW cy ad σ res) H → va_S (gA ad) s.heap H locs → ∀ ls : Array Slot, lv_has ls 3 [(0, .ref (ad 66))] → W p l e R s m args below meth c H locs 0 0 (MQ below (mQi D cy ad σ out) args s 0 0 (gA ad)) (F0 m 59 ls [])) → W p l e R s m args below meth c H locs 0 0 (MQ below (mQi D cy ad σ out) args s 0 0 (gA ad)) (F0 m 30 ls []) := by
  have hx := Z.x
  have hb := Z.b
  intro n
  induction n with
  | zero => intro x1 x2 τ res h; cases h
  | succ n ih =>
    intro x1 x2 τ res h H locs hP hS ls hl kx
    rw [m_X12_back_L30] at h
    refine lv_iload_n hx hb dX12_back_30 rfl (lv_at hl 2 rfl) ?_
    refine lv_bipush (v := 14) hx hb dX12_back_31 (by decide) ?_
    refine lv_icmp_ge (tgt := 59) hx hb dX12_back_33 (by decide) (fun c5 => ?_) (fun c5 => ?_)
    · rw [if_pos c5] at h
      obtain rfl := Option.some.inj h
      exact kx _ _ hP hS _ (lv_sub hl [0] rfl)
    · rw [if_neg c5] at h
      refine lv_aload_n hx hb dX12_back_36 rfl (lv_at hl 0 rfl) ?_
      refine fg_66_20 Z hP wF_X12_22 dX12_back_37 ?_
      refine lv_iload_n hx hb dX12_back_40 rfl (lv_at hl 2 rfl) ?_
      refine lv_aload_n hx hb dX12_back_41 rfl (lv_at hl 0 rfl) ?_
      refine fg_66_22 Z hP wF_X12_28 dX12_back_42 ?_
      refine lv_bipush (v := 14) hx hb dX12_back_45 (by decide) ?_
      refine lv_iload_n hx hb dX12_back_47 rfl (lv_at hl 1 rfl) ?_
      refine lv_imul hx hb dX12_back_48 ?_
      refine lv_iload_n hx hb dX12_back_49 rfl (lv_at hl 2 rfl) ?_
      refine lv_iadd hx hb dX12_back_50 ?_
      obtain ⟨v6, hv6, h⟩ := bd h
      refine zm_ld (j := 6) Z hP hv6 dX12_back_51 ?_
      obtain ⟨q7, hq7, h⟩ := bd h
      refine zm_st (j := 4) Z hP hS hq7 dX12_back_52 (fun H locs hP hS => ?_)
      refine lv_iinc (v := (x2 + 1)) (lv' := [(2, .int (x2 + 1)), (0, .ref (ad 66)), (1, .int x1)]) hx hb dX12_back_53 hl (k := 2) rfl rfl (by decide) rfl (fun ls hl => ?_)
      refine lv_goto (tgt := 30) hx hb dX12_back_56 (by decide) ?_
      exact ih x1 ((x2 + 1)) q7 _ h _ _ hP hS _ (lv_sub hl [1, 2, 0] rfl) kx
set_option maxHeartbeats 4000000 in
set_option maxRecDepth 100000 in
theorem c_X12_back {l : Launch} {D : va_G} {cy : Nat → ClassId} {ad : Nat → Nat} {σ τ : Sx} {R : Room} (hI : gInj ad) (hRf : 1 ≤ R.frames) (hRl : 22 ≤ R.locals) {x1 : Int32} {out : Int32 × Sx} (h : m_X12_back τ x1 = some out) : Met l yX12_back [Cond.code yX12_back cX12_back 3 (some .int)] R (va_Pc [.ref (ad 66), .int x1] (gB D cy ad σ τ)) (mQi D cy ad σ out) 0 0 (gA ad) := by
  refine zstart [.ref (ad 66), .int x1] (by decide) rfl hI (Nat.le_of_ble_eq_true rfl) ?_
  intro p e s m below meth c Z hr hlk hP ls hl
  have hx := Z.x
  have hb := Z.b
  generalize hargs : ([.ref (ad 66), .int x1] : List Value).toArray = args
  have hl : lv_has ls 3 [(0, .ref (ad 66)), (1, .int x1)] := hl
  have hS : va_S (gA ad) s.heap s.heap [] := va_S.rf
  unfold m_X12_back at h
  refine lv_aload_n hx hb dX12_back_0 rfl (lv_at hl 0 rfl) ?_
  refine lv_iconst (v := 0) hx hb dX12_back_1 (by decide) ?_
  refine fp_66_0 Z hP hS wF_X12_61 dX12_back_2 (fun H locs hP hS => ?_)
  refine lv_iload_n hx hb dX12_back_5 rfl (lv_at hl 1 rfl) ?_
  refine lv_iconst (v := 0) hx hb dX12_back_6 (by decide) ?_
  refine lv_iconst (v := 1) hx hb dX12_back_7 (by decide) ?_
  obtain ⟨v1, hv1, h⟩ := bd h
  refine zqi (zrunS Z hP (As := [.int x1, .int 0, .int 1]) (rest := []) (c_X12_in (R := { frames := 0, cells := 0, slots := 0, locals := 0 }) Z.i (Nat.le_refl _) (Nat.le_refl _) hv1) cV_X12_64 rfl rfl ⟨(Nat.le_trans (Nat.le_of_ble_eq_true rfl) hRf), (Nat.le_trans (Nat.le_of_ble_eq_true rfl) hRl)⟩ rfl hl.1 rfl (Nat.le_of_ble_eq_true rfl) dX12_back_8 ⟨Nat.zero_le _, Nat.zero_le _⟩) ?_
  refine lv_if_ne (tgt := 16) hx hb dX12_back_11 (by decide) (fun c2 => ?_) (fun c2 => ?_)
  · rw [if_neg c2] at h
    refine lv_aload_n hx hb dX12_back_16 rfl (lv_at hl 0 rfl) ?_
    refine fg_66_23 Z hP wF_X12_31 dX12_back_17 ?_
    refine lv_iload_n hx hb dX12_back_20 rfl (lv_at hl 1 rfl) ?_
    obtain ⟨v3, hv3, h⟩ := bd h
    refine zm_ldz Z hP hv3 dX12_back_21 ?_
    refine lv_if_ne (tgt := 28) hx hb dX12_back_22 (by decide) (fun c4 => ?_) (fun c4 => ?_)
    · rw [if_neg c4] at h
      refine lv_iconst (v := 0) hx hb dX12_back_28 (by decide) ?_
      refine lv_istore_n (lv' := [(2, .int 0), (0, .ref (ad 66)), (1, .int x1)]) hx hb dX12_back_29 rfl hl (by decide) rfl (fun ls hl => ?_)
      obtain ⟨y8, hy8, h⟩ := bd h
      refine w_X12_back_L30 Z hr hlk hRf hRl out FU x1 0 ((sg τ 0 0)) y8 hy8 _ _ hP hS _ (lv_sub hl [1, 2, 0] rfl) (fun H locs hP hS ls hl => ?_)
      refine lv_aload_n hx hb dX12_back_59 rfl (lv_at hl 0 rfl) ?_
      refine lv_iconst (v := 0) hx hb dX12_back_60 (by decide) ?_
      refine fp_66_25 Z hP hS wF_X12_136 dX12_back_61 (fun H locs hP hS => ?_)
      refine lv_aload_n hx hb dX12_back_64 rfl (lv_at hl 0 rfl) ?_
      refine fg_66_20 Z hP wF_X12_22 dX12_back_65 ?_
      refine lv_iconst (v := 0) hx hb dX12_back_68 (by decide) ?_
      obtain ⟨v9, hv9, h⟩ := bd h
      refine zm_ld (j := 4) Z hP hv9 dX12_back_69 ?_
      exact zmi Z hP hS hr hlk h dX12_back_70
    · rw [if_pos c4] at h
      refine lv_bipush (v := (-2)) hx hb dX12_back_25 (by decide) ?_
      exact zmi Z hP hS hr hlk h dX12_back_27
  · rw [if_pos c2] at h
    refine lv_iconst (v := (-1)) hx hb dX12_back_14 (by decide) ?_
    exact zmi Z hP hS hr hlk h dX12_back_15
def m_X12_count (τ : Sx) (x1 : Int32) : Option (Int32 × Sx) :=
  if 3 ≤ x1 then (if x1 = 3 then (some (((((sg τ 0 0)).1 9), (sg τ 0 0)))) else (if x1 = 4 then (some (((((sg τ 0 0)).1 16), (sg τ 0 0)))) else (if x1 = 5 then (some (((((sg τ 0 0)).1 1), (sg τ 0 0)))) else (some (((-1), (sg τ 0 0))))))) else (if x1 = 0 then (some (((((sg τ 0 0)).1 7), (sg τ 0 0)))) else (if x1 = 1 then (some (((((sg τ 0 0)).1 10), (sg τ 0 0)))) else (if x1 = 2 then (some (((((sg τ 0 0)).1 8), (sg τ 0 0)))) else (some (((-1), (sg τ 0 0)))))))
set_option maxHeartbeats 4000000 in
set_option maxRecDepth 100000 in
theorem c_X12_count {l : Launch} {D : va_G} {cy : Nat → ClassId} {ad : Nat → Nat} {σ τ : Sx} {R : Room} (hI : gInj ad) (hRf : 0 ≤ R.frames) (hRl : 0 ≤ R.locals) {x1 : Int32} {out : Int32 × Sx} (h : m_X12_count τ x1 = some out) : Met l yX12_count [Cond.code yX12_count cX12_count 2 (some .int)] R (va_Pc [.ref (ad 66), .int x1] (gB D cy ad σ τ)) (mQi D cy ad σ out) 0 0 (gA ad) := by
  refine zstart [.ref (ad 66), .int x1] (by decide) rfl hI (Nat.le_of_ble_eq_true rfl) ?_
  intro p e s m below meth c Z hr hlk hP ls hl
  have hx := Z.x
  have hb := Z.b
  generalize hargs : ([.ref (ad 66), .int x1] : List Value).toArray = args
  have hl : lv_has ls 2 [(0, .ref (ad 66)), (1, .int x1)] := hl
  have hS : va_S (gA ad) s.heap s.heap [] := va_S.rf
  unfold m_X12_count at h
  refine lv_aload_n hx hb dX12_count_0 rfl (lv_at hl 0 rfl) ?_
  refine lv_iconst (v := 0) hx hb dX12_count_1 (by decide) ?_
  refine fp_66_0 Z hP hS wF_X12_61 dX12_count_2 (fun H locs hP hS => ?_)
  refine lv_iload_n hx hb dX12_count_5 rfl (lv_at hl 1 rfl) ?_
  refine lv_iconst (v := 3) hx hb dX12_count_6 (by decide) ?_
  refine lv_icmp_ge (tgt := 47) hx hb dX12_count_7 (by decide) (fun c1 => ?_) (fun c1 => ?_)
  · rw [if_pos c1] at h
    refine lv_iload_n hx hb dX12_count_47 rfl (lv_at hl 1 rfl) ?_
    refine lv_iconst (v := 3) hx hb dX12_count_48 (by decide) ?_
    refine lv_icmp_ne (tgt := 59) hx hb dX12_count_49 (by decide) (fun c2 => ?_) (fun c2 => ?_)
    · rw [if_neg c2] at h
      refine lv_iload_n hx hb dX12_count_59 rfl (lv_at hl 1 rfl) ?_
      refine lv_iconst (v := 4) hx hb dX12_count_60 (by decide) ?_
      refine lv_icmp_ne (tgt := 71) hx hb dX12_count_61 (by decide) (fun c3 => ?_) (fun c3 => ?_)
      · rw [if_neg c3] at h
        refine lv_iload_n hx hb dX12_count_71 rfl (lv_at hl 1 rfl) ?_
        refine lv_iconst (v := 5) hx hb dX12_count_72 (by decide) ?_
        refine lv_icmp_ne (tgt := 83) hx hb dX12_count_73 (by decide) (fun c4 => ?_) (fun c4 => ?_)
        · rw [if_neg c4] at h
          refine lv_iconst (v := (-1)) hx hb dX12_count_83 (by decide) ?_
          exact zmi Z hP hS hr hlk h dX12_count_84
        · rw [if_pos c4] at h
          refine lv_aload_n hx hb dX12_count_76 rfl (lv_at hl 0 rfl) ?_
          refine fg_66_3 Z hP wF_X12_68 dX12_count_77 ?_
          refine lv_goto (tgt := 84) hx hb dX12_count_80 (by decide) ?_
          exact zmi Z hP hS hr hlk h dX12_count_84
      · rw [if_pos c3] at h
        refine lv_aload_n hx hb dX12_count_64 rfl (lv_at hl 0 rfl) ?_
        refine fg_66_27 Z hP wF_X12_139 dX12_count_65 ?_
        refine lv_goto (tgt := 84) hx hb dX12_count_68 (by decide) ?_
        exact zmi Z hP hS hr hlk h dX12_count_84
    · rw [if_pos c2] at h
      refine lv_aload_n hx hb dX12_count_52 rfl (lv_at hl 0 rfl) ?_
      refine fg_66_14 Z hP wF_X12_133 dX12_count_53 ?_
      refine lv_goto (tgt := 84) hx hb dX12_count_56 (by decide) ?_
      exact zmi Z hP hS hr hlk h dX12_count_84
  · rw [if_neg c1] at h
    refine lv_iload_n hx hb dX12_count_10 rfl (lv_at hl 1 rfl) ?_
    refine lv_if_ne (tgt := 21) hx hb dX12_count_11 (by decide) (fun c5 => ?_) (fun c5 => ?_)
    · rw [if_neg c5] at h
      refine lv_iload_n hx hb dX12_count_21 rfl (lv_at hl 1 rfl) ?_
      refine lv_iconst (v := 1) hx hb dX12_count_22 (by decide) ?_
      refine lv_icmp_ne (tgt := 33) hx hb dX12_count_23 (by decide) (fun c6 => ?_) (fun c6 => ?_)
      · rw [if_neg c6] at h
        refine lv_iload_n hx hb dX12_count_33 rfl (lv_at hl 1 rfl) ?_
        refine lv_iconst (v := 2) hx hb dX12_count_34 (by decide) ?_
        refine lv_icmp_ne (tgt := 45) hx hb dX12_count_35 (by decide) (fun c7 => ?_) (fun c7 => ?_)
        · rw [if_neg c7] at h
          refine lv_iconst (v := (-1)) hx hb dX12_count_45 (by decide) ?_
          exact zmi Z hP hS hr hlk h dX12_count_46
        · rw [if_pos c7] at h
          refine lv_aload_n hx hb dX12_count_38 rfl (lv_at hl 0 rfl) ?_
          refine fg_66_13 Z hP wF_X12_130 dX12_count_39 ?_
          refine lv_goto (tgt := 46) hx hb dX12_count_42 (by decide) ?_
          exact zmi Z hP hS hr hlk h dX12_count_46
      · rw [if_pos c6] at h
        refine lv_aload_n hx hb dX12_count_26 rfl (lv_at hl 0 rfl) ?_
        refine fg_66_15 Z hP wF_X12_57 dX12_count_27 ?_
        refine lv_goto (tgt := 46) hx hb dX12_count_30 (by decide) ?_
        exact zmi Z hP hS hr hlk h dX12_count_46
    · rw [if_pos c5] at h
      refine lv_aload_n hx hb dX12_count_14 rfl (lv_at hl 0 rfl) ?_
      refine fg_66_12 Z hP wF_X12_127 dX12_count_15 ?_
      refine lv_goto (tgt := 46) hx hb dX12_count_18 (by decide) ?_
      exact zmi Z hP hS hr hlk h dX12_count_46
def m_X12_trace (τ : Sx) : Option (Int64 × Sx) :=
  some ((((sg τ 0 0)).2.1, (sg τ 0 0)))
set_option maxHeartbeats 4000000 in
set_option maxRecDepth 100000 in
theorem c_X12_trace {l : Launch} {D : va_G} {cy : Nat → ClassId} {ad : Nat → Nat} {σ τ : Sx} {R : Room} (hI : gInj ad) (hRf : 0 ≤ R.frames) (hRl : 0 ≤ R.locals) {out : Int64 × Sx} (h : m_X12_trace τ = some out) : Met l yX12_trace [Cond.code yX12_trace cX12_trace 1 (some .long)] R (va_Pc [.ref (ad 66)] (gB D cy ad σ τ)) (mQl D cy ad σ out) 0 0 (gA ad) := by
  refine zstart [.ref (ad 66)] (by decide) rfl hI (Nat.le_of_ble_eq_true rfl) ?_
  intro p e s m below meth c Z hr hlk hP ls hl
  have hx := Z.x
  have hb := Z.b
  generalize hargs : ([.ref (ad 66)] : List Value).toArray = args
  have hl : lv_has ls 1 [(0, .ref (ad 66))] := hl
  have hS : va_S (gA ad) s.heap s.heap [] := va_S.rf
  unfold m_X12_trace at h
  refine lv_aload_n hx hb dX12_trace_0 rfl (lv_at hl 0 rfl) ?_
  refine lv_iconst (v := 0) hx hb dX12_trace_1 (by decide) ?_
  refine fp_66_0 Z hP hS wF_X12_61 dX12_trace_2 (fun H locs hP hS => ?_)
  refine lv_aload_n hx hb dX12_trace_5 rfl (lv_at hl 0 rfl) ?_
  refine fg_66_1 Z hP wF_X12_233 dX12_trace_6 ?_
  exact zml Z hP hS hr hlk h dX12_trace_9
