def LawOK (INV : Sx → Sx → Prop) : Prop := OK_type INV ∧ OK_clear INV ∧ OK_room INV ∧ OK_phone INV ∧ OK_call INV ∧ OK_dark INV ∧ OK_puts INV ∧ OK_turn INV ∧ OK_lends INV ∧ OK_undo INV ∧ OK_now INV ∧ OK_plan INV ∧ OK_fullBy INV ∧ OK_latest INV ∧ OK_says INV ∧ OK_forget INV ∧ OK_could INV ∧ OK_liars INV ∧ OK_odds INV ∧ OK_rate INV ∧ OK_keep INV ∧ OK_back INV ∧ OK_count INV ∧ OK_trace INV
set_option maxHeartbeats 4000000 in
set_option maxRecDepth 100000 in
theorem law_loop {l : Launch} {D : va_G} {cy : Nat → ClassId} {ad : Nat → Nat} {p : Program} {e : Env} {s : State} {m : MethodId} {below : List Frame} {meth : Method} {c : Code} {b L : Nat} {xs : Nat → Int32} {INV : Sx → Sx → Prop} (Z : Zc p s m c cL_law 4 RL D cy ad) (hr : meth.sig.returnType = ret) (hlk : meth.locks = false) (hL : L ≤ 384) (hX : va_X b L xs s s.heap) (hbl : b < s.heap.size) (hg : ∀ q, gA ad q → s.heap.size ≤ q) (hOK : LawOK INV) :
    ∀ (n i : Nat) (x3 : Int32) (σ τ : Sx), i ≤ L + 6 → L + 7 ≤ i + n → x3 = nI i → INV σ τ → ∀ (H : Heap) (locs : List Loc), va_P D vwCl (gW cy ad σ τ) H → va_S (gA ad) s.heap H locs → ∀ ls : Array Slot, lv_has ls 4 [(0, .ref b), (1, .ref (ad 0)), (2, .ref (ad 66)), (3, .int x3)] → W p l e room_1 s m #[Value.ref b] below meth c H locs 82 1544 (lw_Z below #[Value.ref b] s) (F0 m 18 ls []) := by
  have hx := Z.x
  have hb := Z.b
  have hbA : ¬ gA ad b := fun h => absurd (hg b h) (by omega)
  obtain ⟨k_type, k_clear, k_room, k_phone, k_call, k_dark, k_puts, k_turn, k_lends, k_undo, k_now, k_plan, k_fullBy, k_latest, k_says, k_forget, k_could, k_liars, k_odds, k_rate, k_keep, k_back, k_count, k_trace⟩ := hOK
  intro n
  induction n with
  | zero => intro i x3 σ τ h1 h2; exact absurd h2 (by omega)
  | succ n ih =>
    intro i x3 σ τ hi hn e3 hinv H locs hP hS ls hl
    have hback : ∀ σ1 τ1 : Sx, i + 6 ≤ L → INV σ1 τ1 → ∀ (H : Heap) (locs : List Loc), va_P D vwCl (gW cy ad σ1 τ1) H → va_S (gA ad) s.heap H locs → ∀ ls : Array Slot, lv_has ls 4 [(0, .ref b), (1, .ref (ad 0)), (2, .ref (ad 66)), (3, .int x3)] → W p l e room_1 s m #[Value.ref b] below meth c H locs 82 1544 (lw_Z below #[Value.ref b] s) (F0 m 778 ls []) := by
      intro σ1 τ1 hlt hv H locs hP hS ls hl
      refine lv_iinc (v := x3 + 6) (lv' := [(3, .int (x3 + 6)), (0, .ref b), (1, .ref (ad 0)), (2, .ref (ad 66))]) hx hb dL_law_778 hl (k := 3) rfl rfl (by decide) rfl (fun ls hl => ?_)
      refine lv_goto (tgt := 18) hx hb dL_law_781 (by decide) ?_
      exact ih (i + 6) (x3 + 6) σ1 τ1 (by omega) (by omega) (by rw [e3]; exact nI_add i 6) hv H locs hP hS ls (lv_sub hl [1, 2, 3, 0] rfl)
    refine lv_iload_n hx hb dL_law_18 rfl (lv_at hl 3 rfl) ?_
    refine lv_aload_n hx hb dL_law_19 rfl (lv_at hl 0 rfl) ?_
    refine va_slen hx hb hX hbl hbA hS dL_law_20 ?_
    refine lv_bipush (v := 6) hx hb dL_law_21 (by decide) ?_
    refine lv_isub hx hb dL_law_23 ?_
    refine lv_icmp_gt (tgt := 784) hx hb dL_law_24 (by decide) (fun c1 => ?_) (fun c1 => ?_)
    · refine lv_iconst (v := 1) hx hb dL_law_784 (by decide) ?_
      refine va_forget (fun q hq => hg _ (hS.2.2 q hq)) ?_
      refine W.widen (k := 600000) (n := 7302250) (by decide) (by decide) ?_
      exact lw_ret hx hb hr hlk dL_law_785
    · have hlt : i + 6 ≤ L := by
        have t1 : x3.toInt = (i : Int) := by rw [e3]; exact nI_toInt (by omega)
        have t2 : (Int32.ofNat L - 6).toInt = (L : Int) - 6 := pk_sub_toInt (a := L) (b := 6) (by omega) (by decide)
        rw [Int32.lt_iff_toInt_lt, t1, t2] at c1
        omega
      have hin : ∀ j : Nat, j < 6 → vp_in (x3 + nI j) L := by
        intro j hj
        rw [e3, nI_add]
        exact vp_in_nI (by omega) (by omega)
      have hin0 : vp_in x3 L := by rw [e3]; exact vp_in_nI (by omega) (by omega)
      refine lv_aload_n hx hb dL_law_27 rfl (lv_at hl 0 rfl) ?_
      refine lv_iload_n hx hb dL_law_28 rfl (lv_at hl 3 rfl) ?_
      refine va_sld hx hb hX hbl hbA hS hin0 dL_law_29 ?_
      refine lv_bipush (v := 31) hx hb dL_law_30 (by decide) ?_
      refine lv_iand hx hb dL_law_32 ?_
      generalize hz : xs x3.toNatClampNeg &&& 31 = z
      by_cases c2 : z = 0
      · refine lv_tableIn (tgt := 144) hx hb dL_law_33 (by rw [c2]; decide) (by rw [c2]; decide) (by rw [c2]; rfl) (by decide) ?_
        exact law_type Z hX hbl hbA hin k_type hinv (fun σ1 τ1 hv => hback σ1 τ1 hlt hv) hP hS hl
      by_cases c3 : z = 1
      · refine lv_tableIn (tgt := 167) hx hb dL_law_33 (by rw [c3]; decide) (by rw [c3]; decide) (by rw [c3]; rfl) (by decide) ?_
        exact law_clear Z hX hbl hbA hin k_clear hinv (fun σ1 τ1 hv => hback σ1 τ1 hlt hv) hP hS hl
      by_cases c4 : z = 2
      · refine lv_tableIn (tgt := 180) hx hb dL_law_33 (by rw [c4]; decide) (by rw [c4]; decide) (by rw [c4]; rfl) (by decide) ?_
        exact law_room Z hX hbl hbA hin k_room hinv (fun σ1 τ1 hv => hback σ1 τ1 hlt hv) hP hS hl
      by_cases c5 : z = 3
      · refine lv_tableIn (tgt := 193) hx hb dL_law_33 (by rw [c5]; decide) (by rw [c5]; decide) (by rw [c5]; rfl) (by decide) ?_
        exact law_phone Z hX hbl hbA hin k_phone hinv (fun σ1 τ1 hv => hback σ1 τ1 hlt hv) hP hS hl
      by_cases c6 : z = 4
      · refine lv_tableIn (tgt := 226) hx hb dL_law_33 (by rw [c6]; decide) (by rw [c6]; decide) (by rw [c6]; rfl) (by decide) ?_
        exact law_call Z hX hbl hbA hin k_call hinv (fun σ1 τ1 hv => hback σ1 τ1 hlt hv) hP hS hl
      by_cases c7 : z = 5
      · refine lv_tableIn (tgt := 259) hx hb dL_law_33 (by rw [c7]; decide) (by rw [c7]; decide) (by rw [c7]; rfl) (by decide) ?_
        exact law_dark Z hX hbl hbA hin k_dark hinv (fun σ1 τ1 hv => hback σ1 τ1 hlt hv) hP hS hl
      by_cases c8 : z = 6
      · refine lv_tableIn (tgt := 282) hx hb dL_law_33 (by rw [c8]; decide) (by rw [c8]; decide) (by rw [c8]; rfl) (by decide) ?_
        exact law_puts Z hX hbl hbA hin k_puts hinv (fun σ1 τ1 hv => hback σ1 τ1 hlt hv) hP hS hl
      by_cases c9 : z = 7
      · refine lv_tableIn (tgt := 305) hx hb dL_law_33 (by rw [c9]; decide) (by rw [c9]; decide) (by rw [c9]; rfl) (by decide) ?_
        exact law_turn Z hX hbl hbA hin k_turn hinv (fun σ1 τ1 hv => hback σ1 τ1 hlt hv) hP hS hl
      by_cases c10 : z = 8
      · refine lv_tableIn (tgt := 318) hx hb dL_law_33 (by rw [c10]; decide) (by rw [c10]; decide) (by rw [c10]; rfl) (by decide) ?_
        exact law_lends Z hX hbl hbA hin k_lends hinv (fun σ1 τ1 hv => hback σ1 τ1 hlt hv) hP hS hl
      by_cases c11 : z = 9
      · refine lv_tableIn (tgt := 351) hx hb dL_law_33 (by rw [c11]; decide) (by rw [c11]; decide) (by rw [c11]; rfl) (by decide) ?_
        exact law_undo Z hX hbl hbA hin k_undo hinv (fun σ1 τ1 hv => hback σ1 τ1 hlt hv) hP hS hl
      by_cases c12 : z = 10
      · refine lv_tableIn (tgt := 364) hx hb dL_law_33 (by rw [c12]; decide) (by rw [c12]; decide) (by rw [c12]; rfl) (by decide) ?_
        exact law_now Z hX hbl hbA hin k_now hinv (fun σ1 τ1 hv => hback σ1 τ1 hlt hv) hP hS hl
      by_cases c13 : z = 11
      · refine lv_tableIn (tgt := 387) hx hb dL_law_33 (by rw [c13]; decide) (by rw [c13]; decide) (by rw [c13]; rfl) (by decide) ?_
        exact law_plan Z hX hbl hbA hin k_plan hinv (fun σ1 τ1 hv => hback σ1 τ1 hlt hv) hP hS hl
      by_cases c14 : z = 12
      · refine lv_tableIn (tgt := 420) hx hb dL_law_33 (by rw [c14]; decide) (by rw [c14]; decide) (by rw [c14]; rfl) (by decide) ?_
        exact law_fullBy Z hX hbl hbA hin k_fullBy hinv (fun σ1 τ1 hv => hback σ1 τ1 hlt hv) hP hS hl
      by_cases c15 : z = 13
      · refine lv_tableIn (tgt := 453) hx hb dL_law_33 (by rw [c15]; decide) (by rw [c15]; decide) (by rw [c15]; rfl) (by decide) ?_
        exact law_latest Z hX hbl hbA hin k_latest hinv (fun σ1 τ1 hv => hback σ1 τ1 hlt hv) hP hS hl
      by_cases c16 : z = 14
      · refine lv_tableIn (tgt := 486) hx hb dL_law_33 (by rw [c16]; decide) (by rw [c16]; decide) (by rw [c16]; rfl) (by decide) ?_
        exact law_says Z hX hbl hbA hin k_says hinv (fun σ1 τ1 hv => hback σ1 τ1 hlt hv) hP hS hl
      by_cases c17 : z = 15
      · refine lv_tableIn (tgt := 539) hx hb dL_law_33 (by rw [c17]; decide) (by rw [c17]; decide) (by rw [c17]; rfl) (by decide) ?_
        exact law_forget Z hX hbl hbA hin k_forget hinv (fun σ1 τ1 hv => hback σ1 τ1 hlt hv) hP hS hl
      by_cases c18 : z = 16
      · refine lv_tableIn (tgt := 552) hx hb dL_law_33 (by rw [c18]; decide) (by rw [c18]; decide) (by rw [c18]; rfl) (by decide) ?_
        exact law_could Z hX hbl hbA hin k_could hinv (fun σ1 τ1 hv => hback σ1 τ1 hlt hv) hP hS hl
      by_cases c19 : z = 17
      · refine lv_tableIn (tgt := 585) hx hb dL_law_33 (by rw [c19]; decide) (by rw [c19]; decide) (by rw [c19]; rfl) (by decide) ?_
        exact law_liars Z hX hbl hbA hin k_liars hinv (fun σ1 τ1 hv => hback σ1 τ1 hlt hv) hP hS hl
      by_cases c20 : z = 18
      · refine lv_tableIn (tgt := 598) hx hb dL_law_33 (by rw [c20]; decide) (by rw [c20]; decide) (by rw [c20]; rfl) (by decide) ?_
        exact law_odds Z hX hbl hbA hin k_odds hinv (fun σ1 τ1 hv => hback σ1 τ1 hlt hv) hP hS hl
      by_cases c21 : z = 19
      · refine lv_tableIn (tgt := 662) hx hb dL_law_33 (by rw [c21]; decide) (by rw [c21]; decide) (by rw [c21]; rfl) (by decide) ?_
        exact law_rate Z hX hbl hbA hin k_rate hinv (fun σ1 τ1 hv => hback σ1 τ1 hlt hv) hP hS hl
      by_cases c22 : z = 20
      · refine lv_tableIn (tgt := 695) hx hb dL_law_33 (by rw [c22]; decide) (by rw [c22]; decide) (by rw [c22]; rfl) (by decide) ?_
        exact law_keep Z hX hbl hbA hin k_keep hinv (fun σ1 τ1 hv => hback σ1 τ1 hlt hv) hP hS hl
      by_cases c23 : z = 21
      · refine lv_tableIn (tgt := 718) hx hb dL_law_33 (by rw [c23]; decide) (by rw [c23]; decide) (by rw [c23]; rfl) (by decide) ?_
        exact law_back Z hX hbl hbA hin k_back hinv (fun σ1 τ1 hv => hback σ1 τ1 hlt hv) hP hS hl
      by_cases c24 : z = 22
      · refine lv_tableIn (tgt := 741) hx hb dL_law_33 (by rw [c24]; decide) (by rw [c24]; decide) (by rw [c24]; rfl) (by decide) ?_
        exact law_count Z hX hbl hbA hin k_count hinv (fun σ1 τ1 hv => hback σ1 τ1 hlt hv) hP hS hl
      by_cases c25 : z = 23
      · refine lv_tableIn (tgt := 764) hx hb dL_law_33 (by rw [c25]; decide) (by rw [c25]; decide) (by rw [c25]; rfl) (by decide) ?_
        exact law_trace Z hX hbl hbA hin k_trace hinv (fun σ1 τ1 hv => hback σ1 τ1 hlt hv) hP hS hl
      refine lv_tableOut (tgt := 778) hx hb dL_law_33 (by have e2 := lv_neT c2 (a := 0) rfl; have e3 := lv_neT c3 (a := 1) rfl; have e4 := lv_neT c4 (a := 2) rfl; have e5 := lv_neT c5 (a := 3) rfl; have e6 := lv_neT c6 (a := 4) rfl; have e7 := lv_neT c7 (a := 5) rfl; have e8 := lv_neT c8 (a := 6) rfl; have e9 := lv_neT c9 (a := 7) rfl; have e10 := lv_neT c10 (a := 8) rfl; have e11 := lv_neT c11 (a := 9) rfl; have e12 := lv_neT c12 (a := 10) rfl; have e13 := lv_neT c13 (a := 11) rfl; have e14 := lv_neT c14 (a := 12) rfl; have e15 := lv_neT c15 (a := 13) rfl; have e16 := lv_neT c16 (a := 14) rfl; have e17 := lv_neT c17 (a := 15) rfl; have e18 := lv_neT c18 (a := 16) rfl; have e19 := lv_neT c19 (a := 17) rfl; have e20 := lv_neT c20 (a := 18) rfl; have e21 := lv_neT c21 (a := 19) rfl; have e22 := lv_neT c22 (a := 20) rfl; have e23 := lv_neT c23 (a := 21) rfl; have e24 := lv_neT c24 (a := 22) rfl; have e25 := lv_neT c25 (a := 23) rfl; omega) (by decide) ?_
      exact hback σ τ hlt hinv H locs hP hS ls hl
