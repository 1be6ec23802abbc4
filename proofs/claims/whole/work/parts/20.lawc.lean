/-! THE CLAIM OUT OF ONE WALK OF THE LAW'S BODY. Your part is whole_start (and what it stands on); all else here is the same for every law, but numbers. -/
def R_law : String := "OneSocketLaw"
def lw_P (b : Addr) (xs : List Int32) (args : Array Value) (s : State) : Prop := args = #[.ref b] ∧ s.IntsAt b xs ∧ xs.length ≤ 384 ∧ (Jvm.Cond.and given_1 narrow_1).before args s = true
def lw_Q (_ : Array Value) (s : State) (o : Outcome) (t : State) : Prop := o = .returned (some (.int 1)) ∧ Framed s o t [] 600000 7302250
def lw_Z (below : List Frame) (a : Array Value) (s : State) : State → Prop := fun t => ∃ o, t.status = .running ∧ Ended t below o ∧ lw_Q a s o t
/-- the law's own end, with 1 on the stack, nothing written that was there before, its room as the claim has it -/
theorem lw_ret {p : Program} {l : Launch} {e : Env} {s : State} {m : MethodId} {below : List Frame} {meth : Method} {c : Code} {b : Nat} (hx : p.tables.exec = Jvm.exec) (hb : c.code = code) (hr : meth.sig.returnType = ret) (hlocks : meth.locks = false) {pc : Nat} {H : Heap} {ls : Array Slot} (hdg : decode code pc = .ok (.ireturn, 1)) : W p l e room_1 s m #[Value.ref b] below meth c H [] 600000 7302250 (lw_Z below #[Value.ref b] s) (F0 m pc ls [.int 1]) := by
  intro T hT X
  obtain ⟨fs, hret, hrun, hended, hW, hframe⟩ := X.leave (v := some (.int 1)) (hlocks := hlocks) (fun h => by rw [hr] at h; cases h)
  have hmeth' : T.vm.method? m = some meth := X.method'
  refine ⟨T.setFrames fs, ?_, .returned (some (.int 1)), hrun, hended, rfl, ⟨_, rfl⟩, hW, hframe⟩
  jvm_step X.here [X.here.top, hx, hb, hdg, hmeth', hr, ret, narrow_b1]
  (try refine ⟨rfl, ?_⟩); (try refine ⟨rfl, ?_⟩)
  first | (intro acts; rw [hret _ acts rfl rfl rfl]) | rw [hret _ _ rfl rfl rfl]
  exact Steps.refl _
/-- what holds at the law's entry: the machine, the code, the tables' words (any of lw_tbl by 'hts w (by decide +kernel)'), the script of L ints xs at the cell b, what the Statement gives of the start (any of its parts by flat_of_before) -/
def lw_At (p : Program) (s : State) (m : MethodId) (meth : Method) (c : Code) (b L : Nat) (xs : Nat → Int32) : Prop :=
  p.tables.exec = Jvm.exec ∧ c.code = code ∧ meth.sig.returnType = ret ∧ c.maxLocals = 4 ∧ s.vm.findClass R_law = some m.cls ∧ (∀ w ∈ lw_tbl, w.before #[Value.ref b] s = true) ∧ va_X b L xs s s.heap ∧ b < s.heap.size ∧ meth.locks = false ∧ (Jvm.Cond.and given_1 narrow_1).before #[Value.ref b] s = true

def OK_type (INV : Sx → Sx → Prop) : Prop := ∀ (σ τ : Sx) (x0 : Int32), INV σ τ → ∃ (r : Int32) (σ1 τ1 : Sx), m_X11_type σ x0 = some (r, σ1) ∧ m_X12_type τ x0 = some (r, τ1) ∧ INV σ1 τ1
def OK_clear (INV : Sx → Sx → Prop) : Prop := ∀ (σ τ : Sx), INV σ τ → ∃ (r : Int32) (σ1 τ1 : Sx), m_X11_clear σ  = some (r, σ1) ∧ m_X12_clear τ  = some (r, τ1) ∧ INV σ1 τ1
def OK_room (INV : Sx → Sx → Prop) : Prop := ∀ (σ τ : Sx), INV σ τ → ∃ (r : Int32) (σ1 τ1 : Sx), m_X11_room σ  = some (r, σ1) ∧ m_X12_room τ  = some (r, τ1) ∧ INV σ1 τ1
def OK_phone (INV : Sx → Sx → Prop) : Prop := ∀ (σ τ : Sx) (x0 x1 : Int32), INV σ τ → ∃ (r : Int32) (τ1 : Sx), m_X11_phone σ x0 x1 = some r ∧ m_X12_phone τ x0 x1 = some (r, τ1) ∧ INV σ τ1
def OK_call (INV : Sx → Sx → Prop) : Prop := ∀ (σ τ : Sx) (x0 x1 : Int32), INV σ τ → ∃ (r : Int32) (τ1 : Sx), m_X11_call σ x0 x1 = some r ∧ m_X12_call τ x0 x1 = some (r, τ1) ∧ INV σ τ1
def OK_dark (INV : Sx → Sx → Prop) : Prop := ∀ (σ τ : Sx) (x0 : Int32), INV σ τ → ∃ (r : Int32) (τ1 : Sx), m_X11_dark σ x0 = some r ∧ m_X12_dark τ x0 = some (r, τ1) ∧ INV σ τ1
def OK_puts (INV : Sx → Sx → Prop) : Prop := ∀ (σ τ : Sx) (x0 : Int32), INV σ τ → ∃ (r : Int32) (σ1 τ1 : Sx), m_X11_puts σ x0 = some (r, σ1) ∧ m_X12_puts τ x0 = some (r, τ1) ∧ INV σ1 τ1
def OK_turn (INV : Sx → Sx → Prop) : Prop := ∀ (σ τ : Sx), INV σ τ → ∃ (r : Int32) (σ1 τ1 : Sx), m_X11_turn σ  = some (r, σ1) ∧ m_X12_turn τ  = some (r, τ1) ∧ INV σ1 τ1
def OK_lends (INV : Sx → Sx → Prop) : Prop := ∀ (σ τ : Sx) (x0 x1 : Int32), INV σ τ → ∃ (r : Int32) (σ1 τ1 : Sx), m_X11_lends σ x0 x1 = some (r, σ1) ∧ m_X12_lends τ x0 x1 = some (r, τ1) ∧ INV σ1 τ1
def OK_undo (INV : Sx → Sx → Prop) : Prop := ∀ (σ τ : Sx), INV σ τ → ∃ (r : Int32) (σ1 τ1 : Sx), m_X11_undo σ  = some (r, σ1) ∧ m_X12_undo τ  = some (r, τ1) ∧ INV σ1 τ1
def OK_now (INV : Sx → Sx → Prop) : Prop := ∀ (σ τ : Sx) (x0 : Int32), INV σ τ → ∃ (r : Int32) (τ1 : Sx), m_X11_now σ x0 = some r ∧ m_X12_now τ x0 = some (r, τ1) ∧ INV σ τ1
def OK_plan (INV : Sx → Sx → Prop) : Prop := ∀ (σ τ : Sx) (x0 x1 : Int32), INV σ τ → ∃ (r : Int32) (σ1 τ1 : Sx), m_X11_plan σ x0 x1 = some (r, σ1) ∧ m_X12_plan τ x0 x1 = some (r, τ1) ∧ INV σ1 τ1
def OK_fullBy (INV : Sx → Sx → Prop) : Prop := ∀ (σ τ : Sx) (x0 x1 : Int32), INV σ τ → ∃ (r : Int32) (τ1 : Sx), m_X11_fullBy σ x0 x1 = some r ∧ m_X12_fullBy τ x0 x1 = some (r, τ1) ∧ INV σ τ1
def OK_latest (INV : Sx → Sx → Prop) : Prop := ∀ (σ τ : Sx) (x0 x1 : Int32), INV σ τ → ∃ (r : Int32) (τ1 : Sx), m_X11_latest σ x0 x1 = some r ∧ m_X12_latest τ x0 x1 = some (r, τ1) ∧ INV σ τ1
def OK_says (INV : Sx → Sx → Prop) : Prop := ∀ (σ τ : Sx) (x0 x1 x2 x3 : Int32), INV σ τ → ∃ (r : Int32) (σ1 τ1 : Sx), m_X11_says σ x0 x1 x2 x3 = some (r, σ1) ∧ m_X12_says τ x0 x1 x2 x3 = some (r, τ1) ∧ INV σ1 τ1
def OK_forget (INV : Sx → Sx → Prop) : Prop := ∀ (σ τ : Sx), INV σ τ → ∃ (r : Int32) (σ1 τ1 : Sx), m_X11_forget σ  = some (r, σ1) ∧ m_X12_forget τ  = some (r, τ1) ∧ INV σ1 τ1
def OK_could (INV : Sx → Sx → Prop) : Prop := ∀ (σ τ : Sx) (x0 x1 : Int32), INV σ τ → ∃ (r : Int32) (τ1 : Sx), m_X11_could σ x0 x1 = some r ∧ m_X12_could τ x0 x1 = some (r, τ1) ∧ INV σ τ1
def OK_liars (INV : Sx → Sx → Prop) : Prop := ∀ (σ τ : Sx), INV σ τ → ∃ (r : Int32) (τ1 : Sx), m_X11_liars σ  = some r ∧ m_X12_liars τ  = some (r, τ1) ∧ INV σ τ1
def OK_odds (INV : Sx → Sx → Prop) : Prop := ∀ (σ τ : Sx) (x0 x1 x2 x3 x4 : Int32), INV σ τ → ∃ (r : Int64) (τ1 : Sx), m_X11_odds σ x0 x1 x2 x3 x4 = some r ∧ m_X12_odds τ x0 x1 x2 x3 x4 = some (r, τ1) ∧ INV σ τ1
def OK_rate (INV : Sx → Sx → Prop) : Prop := ∀ (σ τ : Sx) (x0 x1 : Int32), INV σ τ → ∃ (r : Int32) (σ1 τ1 : Sx), m_X11_rate σ x0 x1 = some (r, σ1) ∧ m_X12_rate τ x0 x1 = some (r, τ1) ∧ INV σ1 τ1
def OK_keep (INV : Sx → Sx → Prop) : Prop := ∀ (σ τ : Sx) (x0 : Int32), INV σ τ → ∃ (r : Int32) (σ1 τ1 : Sx), m_X11_keep σ x0 = some (r, σ1) ∧ m_X12_keep τ x0 = some (r, τ1) ∧ INV σ1 τ1
def OK_back (INV : Sx → Sx → Prop) : Prop := ∀ (σ τ : Sx) (x0 : Int32), INV σ τ → ∃ (r : Int32) (σ1 τ1 : Sx), m_X11_back σ x0 = some (r, σ1) ∧ m_X12_back τ x0 = some (r, τ1) ∧ INV σ1 τ1
def OK_count (INV : Sx → Sx → Prop) : Prop := ∀ (σ τ : Sx) (x0 : Int32), INV σ τ → ∃ (r : Int32) (τ1 : Sx), m_X11_count σ x0 = some r ∧ m_X12_count τ x0 = some (r, τ1) ∧ INV σ τ1
def OK_trace (INV : Sx → Sx → Prop) : Prop := ∀ (σ τ : Sx), INV σ τ → ∃ (r : Int64) (τ1 : Sx), m_X11_trace σ  = some r ∧ m_X12_trace τ  = some (r, τ1) ∧ INV σ τ1
set_option maxHeartbeats 4000000 in
set_option maxRecDepth 100000 in
theorem law_type {l : Launch} {D : va_G} {cy : Nat → ClassId} {ad : Nat → Nat} {σ τ : Sx} {p : Program} {e : Env} {s : State} {m : MethodId} {below : List Frame} {meth : Method} {c : Code} {b L : Nat} {xs : Nat → Int32} {INV : Sx → Sx → Prop} {x3 : Int32} (Z : Zc p s m c cL_law 4 RL D cy ad) (hX : va_X b L xs s s.heap) (hbl : b < s.heap.size) (hbA : ¬ gA ad b) (hin : ∀ j : Nat, j < 6 → vp_in (x3 + nI j) L) (hOK : OK_type INV) (hinv : INV σ τ) (kk : ∀ σ1 τ1 : Sx, INV σ1 τ1 → ∀ (H : Heap) (locs : List Loc), va_P D vwCl (gW cy ad σ1 τ1) H → va_S (gA ad) s.heap H locs → ∀ ls : Array Slot, lv_has ls 4 [(0, .ref b), (1, .ref (ad 0)), (2, .ref (ad 66)), (3, .int x3)] → W p l e room_1 s m #[Value.ref b] below meth c H locs 82 1544 (lw_Z below #[Value.ref b] s) (F0 m 778 ls [])) {H : Heap} {locs : List Loc} (hP : va_P D vwCl (gW cy ad σ τ) H) (hS : va_S (gA ad) s.heap H locs) {ls : Array Slot} (hl : lv_has ls 4 [(0, .ref b), (1, .ref (ad 0)), (2, .ref (ad 66)), (3, .int x3)]) : W p l e room_1 s m #[Value.ref b] below meth c H locs 82 1544 (lw_Z below #[Value.ref b] s) (F0 m 144 ls []) := by
  have hx := Z.x
  have hb := Z.b
  obtain ⟨r, σ1, τ1, e1, e2, hv1⟩ := hOK σ τ (xs (x3 + 1).toNatClampNeg) hinv
  refine lv_aload_n hx hb dL_law_144 rfl (lv_at hl 1 rfl) ?_
  refine lv_aload_n hx hb dL_law_145 rfl (lv_at hl 0 rfl) ?_
  refine lv_iload_n hx hb dL_law_146 rfl (lv_at hl 3 rfl) ?_
  refine lv_iconst (v := 1) hx hb dL_law_147 (by decide) ?_
  refine lv_iadd hx hb dL_law_148 ?_
  refine va_sld hx hb hX hbl hbA hS (hin 1 (by decide)) dL_law_149 ?_
  refine zwci (zrunV Z hP (As := [.int (xs (x3 + 1).toNatClampNeg)]) (rest := []) (c_X11_type (R := { frames := 1, cells := 0, slots := 0, locals := 21 }) Z.i (Nat.le_refl _) (Nat.le_refl _) e1) cV_L_13 rfl rfl ⟨Nat.le_of_ble_eq_true rfl, Nat.le_of_ble_eq_true rfl⟩ 0 (gW_o rfl) rfl rfl rfl hl.1 rfl (Nat.le_of_ble_eq_true rfl) dL_law_150 ⟨Nat.le_of_ble_eq_true rfl, Nat.le_of_ble_eq_true rfl⟩) hS (fun H locs hP hS => ?_)
  refine lv_aload_n hx hb dL_law_153 rfl (lv_at hl 2 rfl) ?_
  refine lv_aload_n hx hb dL_law_154 rfl (lv_at hl 0 rfl) ?_
  refine lv_iload_n hx hb dL_law_155 rfl (lv_at hl 3 rfl) ?_
  refine lv_iconst (v := 1) hx hb dL_law_156 (by decide) ?_
  refine lv_iadd hx hb dL_law_157 ?_
  refine va_sld hx hb hX hbl hbA hS (hin 1 (by decide)) dL_law_158 ?_
  refine zwmi (zrunV Z hP (As := [.int (xs (x3 + 1).toNatClampNeg)]) (rest := [.int r]) (c_X12_type (R := { frames := 1, cells := 0, slots := 0, locals := 22 }) Z.i (Nat.le_refl _) (Nat.le_refl _) e2) cV_L_17 rfl rfl ⟨Nat.le_of_ble_eq_true rfl, Nat.le_of_ble_eq_true rfl⟩ 66 (gW_mo.trans rfl) rfl rfl rfl hl.1 rfl (Nat.le_of_ble_eq_true rfl) dL_law_159 ⟨Nat.le_of_ble_eq_true rfl, Nat.le_of_ble_eq_true rfl⟩) hS (fun H locs hP hS => ?_)
  refine lv_icmp_eq (tgt := 778) hx hb dL_law_162 (by decide) (fun c1 => ?_) (fun c1 => absurd rfl c1)
  exact kk σ1 τ1 hv1 H locs hP hS ls hl
set_option maxHeartbeats 4000000 in
set_option maxRecDepth 100000 in
theorem law_clear {l : Launch} {D : va_G} {cy : Nat → ClassId} {ad : Nat → Nat} {σ τ : Sx} {p : Program} {e : Env} {s : State} {m : MethodId} {below : List Frame} {meth : Method} {c : Code} {b L : Nat} {xs : Nat → Int32} {INV : Sx → Sx → Prop} {x3 : Int32} (Z : Zc p s m c cL_law 4 RL D cy ad) (hX : va_X b L xs s s.heap) (hbl : b < s.heap.size) (hbA : ¬ gA ad b) (hin : ∀ j : Nat, j < 6 → vp_in (x3 + nI j) L) (hOK : OK_clear INV) (hinv : INV σ τ) (kk : ∀ σ1 τ1 : Sx, INV σ1 τ1 → ∀ (H : Heap) (locs : List Loc), va_P D vwCl (gW cy ad σ1 τ1) H → va_S (gA ad) s.heap H locs → ∀ ls : Array Slot, lv_has ls 4 [(0, .ref b), (1, .ref (ad 0)), (2, .ref (ad 66)), (3, .int x3)] → W p l e room_1 s m #[Value.ref b] below meth c H locs 82 1544 (lw_Z below #[Value.ref b] s) (F0 m 778 ls [])) {H : Heap} {locs : List Loc} (hP : va_P D vwCl (gW cy ad σ τ) H) (hS : va_S (gA ad) s.heap H locs) {ls : Array Slot} (hl : lv_has ls 4 [(0, .ref b), (1, .ref (ad 0)), (2, .ref (ad 66)), (3, .int x3)]) : W p l e room_1 s m #[Value.ref b] below meth c H locs 82 1544 (lw_Z below #[Value.ref b] s) (F0 m 167 ls []) := by
  have hx := Z.x
  have hb := Z.b
  obtain ⟨r, σ1, τ1, e1, e2, hv1⟩ := hOK σ τ  hinv
  refine lv_aload_n hx hb dL_law_167 rfl (lv_at hl 1 rfl) ?_
  refine zwci (zrunV Z hP (As := []) (rest := []) (c_X11_clear (R := { frames := 0, cells := 0, slots := 0, locals := 0 }) Z.i (Nat.le_refl _) (Nat.le_refl _) e1) cV_L_18 rfl rfl ⟨Nat.le_of_ble_eq_true rfl, Nat.le_of_ble_eq_true rfl⟩ 0 (gW_o rfl) rfl rfl rfl hl.1 rfl (Nat.le_of_ble_eq_true rfl) dL_law_168 ⟨Nat.le_of_ble_eq_true rfl, Nat.le_of_ble_eq_true rfl⟩) hS (fun H locs hP hS => ?_)
  refine lv_aload_n hx hb dL_law_171 rfl (lv_at hl 2 rfl) ?_
  refine zwmi (zrunV Z hP (As := []) (rest := [.int r]) (c_X12_clear (R := { frames := 0, cells := 0, slots := 0, locals := 0 }) Z.i (Nat.le_refl _) (Nat.le_refl _) e2) cV_L_22 rfl rfl ⟨Nat.le_of_ble_eq_true rfl, Nat.le_of_ble_eq_true rfl⟩ 66 (gW_mo.trans rfl) rfl rfl rfl hl.1 rfl (Nat.le_of_ble_eq_true rfl) dL_law_172 ⟨Nat.le_of_ble_eq_true rfl, Nat.le_of_ble_eq_true rfl⟩) hS (fun H locs hP hS => ?_)
  refine lv_icmp_eq (tgt := 778) hx hb dL_law_175 (by decide) (fun c1 => ?_) (fun c1 => absurd rfl c1)
  exact kk σ1 τ1 hv1 H locs hP hS ls hl
set_option maxHeartbeats 4000000 in
set_option maxRecDepth 100000 in
theorem law_room {l : Launch} {D : va_G} {cy : Nat → ClassId} {ad : Nat → Nat} {σ τ : Sx} {p : Program} {e : Env} {s : State} {m : MethodId} {below : List Frame} {meth : Method} {c : Code} {b L : Nat} {xs : Nat → Int32} {INV : Sx → Sx → Prop} {x3 : Int32} (Z : Zc p s m c cL_law 4 RL D cy ad) (hX : va_X b L xs s s.heap) (hbl : b < s.heap.size) (hbA : ¬ gA ad b) (hin : ∀ j : Nat, j < 6 → vp_in (x3 + nI j) L) (hOK : OK_room INV) (hinv : INV σ τ) (kk : ∀ σ1 τ1 : Sx, INV σ1 τ1 → ∀ (H : Heap) (locs : List Loc), va_P D vwCl (gW cy ad σ1 τ1) H → va_S (gA ad) s.heap H locs → ∀ ls : Array Slot, lv_has ls 4 [(0, .ref b), (1, .ref (ad 0)), (2, .ref (ad 66)), (3, .int x3)] → W p l e room_1 s m #[Value.ref b] below meth c H locs 82 1544 (lw_Z below #[Value.ref b] s) (F0 m 778 ls [])) {H : Heap} {locs : List Loc} (hP : va_P D vwCl (gW cy ad σ τ) H) (hS : va_S (gA ad) s.heap H locs) {ls : Array Slot} (hl : lv_has ls 4 [(0, .ref b), (1, .ref (ad 0)), (2, .ref (ad 66)), (3, .int x3)]) : W p l e room_1 s m #[Value.ref b] below meth c H locs 82 1544 (lw_Z below #[Value.ref b] s) (F0 m 180 ls []) := by
  have hx := Z.x
  have hb := Z.b
  obtain ⟨r, σ1, τ1, e1, e2, hv1⟩ := hOK σ τ  hinv
  refine lv_aload_n hx hb dL_law_180 rfl (lv_at hl 1 rfl) ?_
  refine zwci (zrunV Z hP (As := []) (rest := []) (c_X11_room (R := { frames := 6, cells := 0, slots := 0, locals := 128 }) Z.i (Nat.le_refl _) (Nat.le_refl _) e1) cV_L_23 rfl rfl ⟨Nat.le_of_ble_eq_true rfl, Nat.le_of_ble_eq_true rfl⟩ 0 (gW_o rfl) rfl rfl rfl hl.1 rfl (Nat.le_of_ble_eq_true rfl) dL_law_181 ⟨Nat.le_of_ble_eq_true rfl, Nat.le_of_ble_eq_true rfl⟩) hS (fun H locs hP hS => ?_)
  refine lv_aload_n hx hb dL_law_184 rfl (lv_at hl 2 rfl) ?_
  refine zwmi (zrunV Z hP (As := []) (rest := [.int r]) (c_X12_room (R := { frames := 5, cells := 0, slots := 0, locals := 109 }) Z.i (Nat.le_refl _) (Nat.le_refl _) e2) cV_L_26 rfl rfl ⟨Nat.le_of_ble_eq_true rfl, Nat.le_of_ble_eq_true rfl⟩ 66 (gW_mo.trans rfl) rfl rfl rfl hl.1 rfl (Nat.le_of_ble_eq_true rfl) dL_law_185 ⟨Nat.le_of_ble_eq_true rfl, Nat.le_of_ble_eq_true rfl⟩) hS (fun H locs hP hS => ?_)
  refine lv_icmp_eq (tgt := 778) hx hb dL_law_188 (by decide) (fun c1 => ?_) (fun c1 => absurd rfl c1)
  exact kk σ1 τ1 hv1 H locs hP hS ls hl
set_option maxHeartbeats 4000000 in
set_option maxRecDepth 100000 in
theorem law_phone {l : Launch} {D : va_G} {cy : Nat → ClassId} {ad : Nat → Nat} {σ τ : Sx} {p : Program} {e : Env} {s : State} {m : MethodId} {below : List Frame} {meth : Method} {c : Code} {b L : Nat} {xs : Nat → Int32} {INV : Sx → Sx → Prop} {x3 : Int32} (Z : Zc p s m c cL_law 4 RL D cy ad) (hX : va_X b L xs s s.heap) (hbl : b < s.heap.size) (hbA : ¬ gA ad b) (hin : ∀ j : Nat, j < 6 → vp_in (x3 + nI j) L) (hOK : OK_phone INV) (hinv : INV σ τ) (kk : ∀ σ1 τ1 : Sx, INV σ1 τ1 → ∀ (H : Heap) (locs : List Loc), va_P D vwCl (gW cy ad σ1 τ1) H → va_S (gA ad) s.heap H locs → ∀ ls : Array Slot, lv_has ls 4 [(0, .ref b), (1, .ref (ad 0)), (2, .ref (ad 66)), (3, .int x3)] → W p l e room_1 s m #[Value.ref b] below meth c H locs 82 1544 (lw_Z below #[Value.ref b] s) (F0 m 778 ls [])) {H : Heap} {locs : List Loc} (hP : va_P D vwCl (gW cy ad σ τ) H) (hS : va_S (gA ad) s.heap H locs) {ls : Array Slot} (hl : lv_has ls 4 [(0, .ref b), (1, .ref (ad 0)), (2, .ref (ad 66)), (3, .int x3)]) : W p l e room_1 s m #[Value.ref b] below meth c H locs 82 1544 (lw_Z below #[Value.ref b] s) (F0 m 193 ls []) := by
  have hx := Z.x
  have hb := Z.b
  obtain ⟨r, τ1, e1, e2, hv1⟩ := hOK σ τ (xs (x3 + 1).toNatClampNeg) (xs (x3 + 2).toNatClampNeg) hinv
  refine lv_aload_n hx hb dL_law_193 rfl (lv_at hl 1 rfl) ?_
  refine lv_aload_n hx hb dL_law_194 rfl (lv_at hl 0 rfl) ?_
  refine lv_iload_n hx hb dL_law_195 rfl (lv_at hl 3 rfl) ?_
  refine lv_iconst (v := 1) hx hb dL_law_196 (by decide) ?_
  refine lv_iadd hx hb dL_law_197 ?_
  refine va_sld hx hb hX hbl hbA hS (hin 1 (by decide)) dL_law_198 ?_
  refine lv_aload_n hx hb dL_law_199 rfl (lv_at hl 0 rfl) ?_
  refine lv_iload_n hx hb dL_law_200 rfl (lv_at hl 3 rfl) ?_
  refine lv_iconst (v := 2) hx hb dL_law_201 (by decide) ?_
  refine lv_iadd hx hb dL_law_202 ?_
  refine va_sld hx hb hX hbl hbA hS (hin 2 (by decide)) dL_law_203 ?_
  refine zqi (zrunV Z hP (As := [.int (xs (x3 + 1).toNatClampNeg), .int (xs (x3 + 2).toNatClampNeg)]) (rest := []) (c_X11_phone (R := { frames := 2, cells := 0, slots := 0, locals := 43 }) Z.i (Nat.le_refl _) (Nat.le_refl _) e1) cV_L_27 rfl rfl ⟨Nat.le_of_ble_eq_true rfl, Nat.le_of_ble_eq_true rfl⟩ 0 (gW_o rfl) rfl rfl rfl hl.1 rfl (Nat.le_of_ble_eq_true rfl) dL_law_204 ⟨Nat.le_of_ble_eq_true rfl, Nat.le_of_ble_eq_true rfl⟩) ?_
  refine lv_aload_n hx hb dL_law_207 rfl (lv_at hl 2 rfl) ?_
  refine lv_aload_n hx hb dL_law_208 rfl (lv_at hl 0 rfl) ?_
  refine lv_iload_n hx hb dL_law_209 rfl (lv_at hl 3 rfl) ?_
  refine lv_iconst (v := 1) hx hb dL_law_210 (by decide) ?_
  refine lv_iadd hx hb dL_law_211 ?_
  refine va_sld hx hb hX hbl hbA hS (hin 1 (by decide)) dL_law_212 ?_
  refine lv_aload_n hx hb dL_law_213 rfl (lv_at hl 0 rfl) ?_
  refine lv_iload_n hx hb dL_law_214 rfl (lv_at hl 3 rfl) ?_
  refine lv_iconst (v := 2) hx hb dL_law_215 (by decide) ?_
  refine lv_iadd hx hb dL_law_216 ?_
  refine va_sld hx hb hX hbl hbA hS (hin 2 (by decide)) dL_law_217 ?_
  refine zwmi (zrunV Z hP (As := [.int (xs (x3 + 1).toNatClampNeg), .int (xs (x3 + 2).toNatClampNeg)]) (rest := [.int r]) (c_X12_phone (R := { frames := 2, cells := 0, slots := 0, locals := 43 }) Z.i (Nat.le_refl _) (Nat.le_refl _) e2) cV_L_31 rfl rfl ⟨Nat.le_of_ble_eq_true rfl, Nat.le_of_ble_eq_true rfl⟩ 66 (gW_mo.trans rfl) rfl rfl rfl hl.1 rfl (Nat.le_of_ble_eq_true rfl) dL_law_218 ⟨Nat.le_of_ble_eq_true rfl, Nat.le_of_ble_eq_true rfl⟩) hS (fun H locs hP hS => ?_)
  refine lv_icmp_eq (tgt := 778) hx hb dL_law_221 (by decide) (fun c1 => ?_) (fun c1 => absurd rfl c1)
  exact kk σ τ1 hv1 H locs hP hS ls hl
set_option maxHeartbeats 4000000 in
set_option maxRecDepth 100000 in
theorem law_call {l : Launch} {D : va_G} {cy : Nat → ClassId} {ad : Nat → Nat} {σ τ : Sx} {p : Program} {e : Env} {s : State} {m : MethodId} {below : List Frame} {meth : Method} {c : Code} {b L : Nat} {xs : Nat → Int32} {INV : Sx → Sx → Prop} {x3 : Int32} (Z : Zc p s m c cL_law 4 RL D cy ad) (hX : va_X b L xs s s.heap) (hbl : b < s.heap.size) (hbA : ¬ gA ad b) (hin : ∀ j : Nat, j < 6 → vp_in (x3 + nI j) L) (hOK : OK_call INV) (hinv : INV σ τ) (kk : ∀ σ1 τ1 : Sx, INV σ1 τ1 → ∀ (H : Heap) (locs : List Loc), va_P D vwCl (gW cy ad σ1 τ1) H → va_S (gA ad) s.heap H locs → ∀ ls : Array Slot, lv_has ls 4 [(0, .ref b), (1, .ref (ad 0)), (2, .ref (ad 66)), (3, .int x3)] → W p l e room_1 s m #[Value.ref b] below meth c H locs 82 1544 (lw_Z below #[Value.ref b] s) (F0 m 778 ls [])) {H : Heap} {locs : List Loc} (hP : va_P D vwCl (gW cy ad σ τ) H) (hS : va_S (gA ad) s.heap H locs) {ls : Array Slot} (hl : lv_has ls 4 [(0, .ref b), (1, .ref (ad 0)), (2, .ref (ad 66)), (3, .int x3)]) : W p l e room_1 s m #[Value.ref b] below meth c H locs 82 1544 (lw_Z below #[Value.ref b] s) (F0 m 226 ls []) := by
  have hx := Z.x
  have hb := Z.b
  obtain ⟨r, τ1, e1, e2, hv1⟩ := hOK σ τ (xs (x3 + 1).toNatClampNeg) (xs (x3 + 2).toNatClampNeg) hinv
  refine lv_aload_n hx hb dL_law_226 rfl (lv_at hl 1 rfl) ?_
  refine lv_aload_n hx hb dL_law_227 rfl (lv_at hl 0 rfl) ?_
  refine lv_iload_n hx hb dL_law_228 rfl (lv_at hl 3 rfl) ?_
  refine lv_iconst (v := 1) hx hb dL_law_229 (by decide) ?_
  refine lv_iadd hx hb dL_law_230 ?_
  refine va_sld hx hb hX hbl hbA hS (hin 1 (by decide)) dL_law_231 ?_
  refine lv_aload_n hx hb dL_law_232 rfl (lv_at hl 0 rfl) ?_
  refine lv_iload_n hx hb dL_law_233 rfl (lv_at hl 3 rfl) ?_
  refine lv_iconst (v := 2) hx hb dL_law_234 (by decide) ?_
  refine lv_iadd hx hb dL_law_235 ?_
  refine va_sld hx hb hX hbl hbA hS (hin 2 (by decide)) dL_law_236 ?_
  refine zqi (zrunV Z hP (As := [.int (xs (x3 + 1).toNatClampNeg), .int (xs (x3 + 2).toNatClampNeg)]) (rest := []) (c_X11_call (R := { frames := 1, cells := 0, slots := 0, locals := 22 }) Z.i (Nat.le_refl _) (Nat.le_refl _) e1) cV_L_32 rfl rfl ⟨Nat.le_of_ble_eq_true rfl, Nat.le_of_ble_eq_true rfl⟩ 0 (gW_o rfl) rfl rfl rfl hl.1 rfl (Nat.le_of_ble_eq_true rfl) dL_law_237 ⟨Nat.le_of_ble_eq_true rfl, Nat.le_of_ble_eq_true rfl⟩) ?_
  refine lv_aload_n hx hb dL_law_240 rfl (lv_at hl 2 rfl) ?_
  refine lv_aload_n hx hb dL_law_241 rfl (lv_at hl 0 rfl) ?_
  refine lv_iload_n hx hb dL_law_242 rfl (lv_at hl 3 rfl) ?_
  refine lv_iconst (v := 1) hx hb dL_law_243 (by decide) ?_
  refine lv_iadd hx hb dL_law_244 ?_
  refine va_sld hx hb hX hbl hbA hS (hin 1 (by decide)) dL_law_245 ?_
  refine lv_aload_n hx hb dL_law_246 rfl (lv_at hl 0 rfl) ?_
  refine lv_iload_n hx hb dL_law_247 rfl (lv_at hl 3 rfl) ?_
  refine lv_iconst (v := 2) hx hb dL_law_248 (by decide) ?_
  refine lv_iadd hx hb dL_law_249 ?_
  refine va_sld hx hb hX hbl hbA hS (hin 2 (by decide)) dL_law_250 ?_
  refine zwmi (zrunV Z hP (As := [.int (xs (x3 + 1).toNatClampNeg), .int (xs (x3 + 2).toNatClampNeg)]) (rest := [.int r]) (c_X12_call (R := { frames := 1, cells := 0, slots := 0, locals := 22 }) Z.i (Nat.le_refl _) (Nat.le_refl _) e2) cV_L_35 rfl rfl ⟨Nat.le_of_ble_eq_true rfl, Nat.le_of_ble_eq_true rfl⟩ 66 (gW_mo.trans rfl) rfl rfl rfl hl.1 rfl (Nat.le_of_ble_eq_true rfl) dL_law_251 ⟨Nat.le_of_ble_eq_true rfl, Nat.le_of_ble_eq_true rfl⟩) hS (fun H locs hP hS => ?_)
  refine lv_icmp_eq (tgt := 778) hx hb dL_law_254 (by decide) (fun c1 => ?_) (fun c1 => absurd rfl c1)
  exact kk σ τ1 hv1 H locs hP hS ls hl
set_option maxHeartbeats 4000000 in
set_option maxRecDepth 100000 in
theorem law_dark {l : Launch} {D : va_G} {cy : Nat → ClassId} {ad : Nat → Nat} {σ τ : Sx} {p : Program} {e : Env} {s : State} {m : MethodId} {below : List Frame} {meth : Method} {c : Code} {b L : Nat} {xs : Nat → Int32} {INV : Sx → Sx → Prop} {x3 : Int32} (Z : Zc p s m c cL_law 4 RL D cy ad) (hX : va_X b L xs s s.heap) (hbl : b < s.heap.size) (hbA : ¬ gA ad b) (hin : ∀ j : Nat, j < 6 → vp_in (x3 + nI j) L) (hOK : OK_dark INV) (hinv : INV σ τ) (kk : ∀ σ1 τ1 : Sx, INV σ1 τ1 → ∀ (H : Heap) (locs : List Loc), va_P D vwCl (gW cy ad σ1 τ1) H → va_S (gA ad) s.heap H locs → ∀ ls : Array Slot, lv_has ls 4 [(0, .ref b), (1, .ref (ad 0)), (2, .ref (ad 66)), (3, .int x3)] → W p l e room_1 s m #[Value.ref b] below meth c H locs 82 1544 (lw_Z below #[Value.ref b] s) (F0 m 778 ls [])) {H : Heap} {locs : List Loc} (hP : va_P D vwCl (gW cy ad σ τ) H) (hS : va_S (gA ad) s.heap H locs) {ls : Array Slot} (hl : lv_has ls 4 [(0, .ref b), (1, .ref (ad 0)), (2, .ref (ad 66)), (3, .int x3)]) : W p l e room_1 s m #[Value.ref b] below meth c H locs 82 1544 (lw_Z below #[Value.ref b] s) (F0 m 259 ls []) := by
  have hx := Z.x
  have hb := Z.b
  obtain ⟨r, τ1, e1, e2, hv1⟩ := hOK σ τ (xs (x3 + 1).toNatClampNeg) hinv
  refine lv_aload_n hx hb dL_law_259 rfl (lv_at hl 1 rfl) ?_
  refine lv_aload_n hx hb dL_law_260 rfl (lv_at hl 0 rfl) ?_
  refine lv_iload_n hx hb dL_law_261 rfl (lv_at hl 3 rfl) ?_
  refine lv_iconst (v := 1) hx hb dL_law_262 (by decide) ?_
  refine lv_iadd hx hb dL_law_263 ?_
  refine va_sld hx hb hX hbl hbA hS (hin 1 (by decide)) dL_law_264 ?_
  refine zqi (zrunV Z hP (As := [.int (xs (x3 + 1).toNatClampNeg)]) (rest := []) (c_X11_dark (R := { frames := 1, cells := 0, slots := 0, locals := 22 }) Z.i (Nat.le_refl _) (Nat.le_refl _) e1) cV_L_36 rfl rfl ⟨Nat.le_of_ble_eq_true rfl, Nat.le_of_ble_eq_true rfl⟩ 0 (gW_o rfl) rfl rfl rfl hl.1 rfl (Nat.le_of_ble_eq_true rfl) dL_law_265 ⟨Nat.le_of_ble_eq_true rfl, Nat.le_of_ble_eq_true rfl⟩) ?_
  refine lv_aload_n hx hb dL_law_268 rfl (lv_at hl 2 rfl) ?_
  refine lv_aload_n hx hb dL_law_269 rfl (lv_at hl 0 rfl) ?_
  refine lv_iload_n hx hb dL_law_270 rfl (lv_at hl 3 rfl) ?_
  refine lv_iconst (v := 1) hx hb dL_law_271 (by decide) ?_
  refine lv_iadd hx hb dL_law_272 ?_
  refine va_sld hx hb hX hbl hbA hS (hin 1 (by decide)) dL_law_273 ?_
  refine zwmi (zrunV Z hP (As := [.int (xs (x3 + 1).toNatClampNeg)]) (rest := [.int r]) (c_X12_dark (R := { frames := 2, cells := 0, slots := 0, locals := 45 }) Z.i (Nat.le_refl _) (Nat.le_refl _) e2) cV_L_39 rfl rfl ⟨Nat.le_of_ble_eq_true rfl, Nat.le_of_ble_eq_true rfl⟩ 66 (gW_mo.trans rfl) rfl rfl rfl hl.1 rfl (Nat.le_of_ble_eq_true rfl) dL_law_274 ⟨Nat.le_of_ble_eq_true rfl, Nat.le_of_ble_eq_true rfl⟩) hS (fun H locs hP hS => ?_)
  refine lv_icmp_eq (tgt := 778) hx hb dL_law_277 (by decide) (fun c1 => ?_) (fun c1 => absurd rfl c1)
  exact kk σ τ1 hv1 H locs hP hS ls hl
set_option maxHeartbeats 4000000 in
set_option maxRecDepth 100000 in
theorem law_puts {l : Launch} {D : va_G} {cy : Nat → ClassId} {ad : Nat → Nat} {σ τ : Sx} {p : Program} {e : Env} {s : State} {m : MethodId} {below : List Frame} {meth : Method} {c : Code} {b L : Nat} {xs : Nat → Int32} {INV : Sx → Sx → Prop} {x3 : Int32} (Z : Zc p s m c cL_law 4 RL D cy ad) (hX : va_X b L xs s s.heap) (hbl : b < s.heap.size) (hbA : ¬ gA ad b) (hin : ∀ j : Nat, j < 6 → vp_in (x3 + nI j) L) (hOK : OK_puts INV) (hinv : INV σ τ) (kk : ∀ σ1 τ1 : Sx, INV σ1 τ1 → ∀ (H : Heap) (locs : List Loc), va_P D vwCl (gW cy ad σ1 τ1) H → va_S (gA ad) s.heap H locs → ∀ ls : Array Slot, lv_has ls 4 [(0, .ref b), (1, .ref (ad 0)), (2, .ref (ad 66)), (3, .int x3)] → W p l e room_1 s m #[Value.ref b] below meth c H locs 82 1544 (lw_Z below #[Value.ref b] s) (F0 m 778 ls [])) {H : Heap} {locs : List Loc} (hP : va_P D vwCl (gW cy ad σ τ) H) (hS : va_S (gA ad) s.heap H locs) {ls : Array Slot} (hl : lv_has ls 4 [(0, .ref b), (1, .ref (ad 0)), (2, .ref (ad 66)), (3, .int x3)]) : W p l e room_1 s m #[Value.ref b] below meth c H locs 82 1544 (lw_Z below #[Value.ref b] s) (F0 m 282 ls []) := by
  have hx := Z.x
  have hb := Z.b
  obtain ⟨r, σ1, τ1, e1, e2, hv1⟩ := hOK σ τ (xs (x3 + 1).toNatClampNeg) hinv
  refine lv_aload_n hx hb dL_law_282 rfl (lv_at hl 1 rfl) ?_
  refine lv_aload_n hx hb dL_law_283 rfl (lv_at hl 0 rfl) ?_
  refine lv_iload_n hx hb dL_law_284 rfl (lv_at hl 3 rfl) ?_
  refine lv_iconst (v := 1) hx hb dL_law_285 (by decide) ?_
  refine lv_iadd hx hb dL_law_286 ?_
  refine va_sld hx hb hX hbl hbA hS (hin 1 (by decide)) dL_law_287 ?_
  refine zwci (zrunV Z hP (As := [.int (xs (x3 + 1).toNatClampNeg)]) (rest := []) (c_X11_puts (R := { frames := 3, cells := 0, slots := 0, locals := 60 }) Z.i (Nat.le_refl _) (Nat.le_refl _) e1) cV_L_40 rfl rfl ⟨Nat.le_of_ble_eq_true rfl, Nat.le_of_ble_eq_true rfl⟩ 0 (gW_o rfl) rfl rfl rfl hl.1 rfl (Nat.le_of_ble_eq_true rfl) dL_law_288 ⟨Nat.le_of_ble_eq_true rfl, Nat.le_of_ble_eq_true rfl⟩) hS (fun H locs hP hS => ?_)
  refine lv_aload_n hx hb dL_law_291 rfl (lv_at hl 2 rfl) ?_
  refine lv_aload_n hx hb dL_law_292 rfl (lv_at hl 0 rfl) ?_
  refine lv_iload_n hx hb dL_law_293 rfl (lv_at hl 3 rfl) ?_
  refine lv_iconst (v := 1) hx hb dL_law_294 (by decide) ?_
  refine lv_iadd hx hb dL_law_295 ?_
  refine va_sld hx hb hX hbl hbA hS (hin 1 (by decide)) dL_law_296 ?_
  refine zwmi (zrunV Z hP (As := [.int (xs (x3 + 1).toNatClampNeg)]) (rest := [.int r]) (c_X12_puts (R := { frames := 2, cells := 0, slots := 0, locals := 43 }) Z.i (Nat.le_refl _) (Nat.le_refl _) e2) cV_L_43 rfl rfl ⟨Nat.le_of_ble_eq_true rfl, Nat.le_of_ble_eq_true rfl⟩ 66 (gW_mo.trans rfl) rfl rfl rfl hl.1 rfl (Nat.le_of_ble_eq_true rfl) dL_law_297 ⟨Nat.le_of_ble_eq_true rfl, Nat.le_of_ble_eq_true rfl⟩) hS (fun H locs hP hS => ?_)
  refine lv_icmp_eq (tgt := 778) hx hb dL_law_300 (by decide) (fun c1 => ?_) (fun c1 => absurd rfl c1)
  exact kk σ1 τ1 hv1 H locs hP hS ls hl
set_option maxHeartbeats 4000000 in
set_option maxRecDepth 100000 in
theorem law_turn {l : Launch} {D : va_G} {cy : Nat → ClassId} {ad : Nat → Nat} {σ τ : Sx} {p : Program} {e : Env} {s : State} {m : MethodId} {below : List Frame} {meth : Method} {c : Code} {b L : Nat} {xs : Nat → Int32} {INV : Sx → Sx → Prop} {x3 : Int32} (Z : Zc p s m c cL_law 4 RL D cy ad) (hX : va_X b L xs s s.heap) (hbl : b < s.heap.size) (hbA : ¬ gA ad b) (hin : ∀ j : Nat, j < 6 → vp_in (x3 + nI j) L) (hOK : OK_turn INV) (hinv : INV σ τ) (kk : ∀ σ1 τ1 : Sx, INV σ1 τ1 → ∀ (H : Heap) (locs : List Loc), va_P D vwCl (gW cy ad σ1 τ1) H → va_S (gA ad) s.heap H locs → ∀ ls : Array Slot, lv_has ls 4 [(0, .ref b), (1, .ref (ad 0)), (2, .ref (ad 66)), (3, .int x3)] → W p l e room_1 s m #[Value.ref b] below meth c H locs 82 1544 (lw_Z below #[Value.ref b] s) (F0 m 778 ls [])) {H : Heap} {locs : List Loc} (hP : va_P D vwCl (gW cy ad σ τ) H) (hS : va_S (gA ad) s.heap H locs) {ls : Array Slot} (hl : lv_has ls 4 [(0, .ref b), (1, .ref (ad 0)), (2, .ref (ad 66)), (3, .int x3)]) : W p l e room_1 s m #[Value.ref b] below meth c H locs 82 1544 (lw_Z below #[Value.ref b] s) (F0 m 305 ls []) := by
  have hx := Z.x
  have hb := Z.b
  obtain ⟨r, σ1, τ1, e1, e2, hv1⟩ := hOK σ τ  hinv
  refine lv_aload_n hx hb dL_law_305 rfl (lv_at hl 1 rfl) ?_
  refine zwci (zrunV Z hP (As := []) (rest := []) (c_X11_turn (R := { frames := 4, cells := 0, slots := 0, locals := 96 }) Z.i (Nat.le_refl _) (Nat.le_refl _) e1) cV_L_44 rfl rfl ⟨Nat.le_of_ble_eq_true rfl, Nat.le_of_ble_eq_true rfl⟩ 0 (gW_o rfl) rfl rfl rfl hl.1 rfl (Nat.le_of_ble_eq_true rfl) dL_law_306 ⟨Nat.le_of_ble_eq_true rfl, Nat.le_of_ble_eq_true rfl⟩) hS (fun H locs hP hS => ?_)
  refine lv_aload_n hx hb dL_law_309 rfl (lv_at hl 2 rfl) ?_
  refine zwmi (zrunV Z hP (As := []) (rest := [.int r]) (c_X12_turn (R := { frames := 3, cells := 0, slots := 0, locals := 69 }) Z.i (Nat.le_refl _) (Nat.le_refl _) e2) cV_L_47 rfl rfl ⟨Nat.le_of_ble_eq_true rfl, Nat.le_of_ble_eq_true rfl⟩ 66 (gW_mo.trans rfl) rfl rfl rfl hl.1 rfl (Nat.le_of_ble_eq_true rfl) dL_law_310 ⟨Nat.le_of_ble_eq_true rfl, Nat.le_of_ble_eq_true rfl⟩) hS (fun H locs hP hS => ?_)
  refine lv_icmp_eq (tgt := 778) hx hb dL_law_313 (by decide) (fun c1 => ?_) (fun c1 => absurd rfl c1)
  exact kk σ1 τ1 hv1 H locs hP hS ls hl
set_option maxHeartbeats 4000000 in
set_option maxRecDepth 100000 in
theorem law_lends {l : Launch} {D : va_G} {cy : Nat → ClassId} {ad : Nat → Nat} {σ τ : Sx} {p : Program} {e : Env} {s : State} {m : MethodId} {below : List Frame} {meth : Method} {c : Code} {b L : Nat} {xs : Nat → Int32} {INV : Sx → Sx → Prop} {x3 : Int32} (Z : Zc p s m c cL_law 4 RL D cy ad) (hX : va_X b L xs s s.heap) (hbl : b < s.heap.size) (hbA : ¬ gA ad b) (hin : ∀ j : Nat, j < 6 → vp_in (x3 + nI j) L) (hOK : OK_lends INV) (hinv : INV σ τ) (kk : ∀ σ1 τ1 : Sx, INV σ1 τ1 → ∀ (H : Heap) (locs : List Loc), va_P D vwCl (gW cy ad σ1 τ1) H → va_S (gA ad) s.heap H locs → ∀ ls : Array Slot, lv_has ls 4 [(0, .ref b), (1, .ref (ad 0)), (2, .ref (ad 66)), (3, .int x3)] → W p l e room_1 s m #[Value.ref b] below meth c H locs 82 1544 (lw_Z below #[Value.ref b] s) (F0 m 778 ls [])) {H : Heap} {locs : List Loc} (hP : va_P D vwCl (gW cy ad σ τ) H) (hS : va_S (gA ad) s.heap H locs) {ls : Array Slot} (hl : lv_has ls 4 [(0, .ref b), (1, .ref (ad 0)), (2, .ref (ad 66)), (3, .int x3)]) : W p l e room_1 s m #[Value.ref b] below meth c H locs 82 1544 (lw_Z below #[Value.ref b] s) (F0 m 318 ls []) := by
  have hx := Z.x
  have hb := Z.b
  obtain ⟨r, σ1, τ1, e1, e2, hv1⟩ := hOK σ τ (xs (x3 + 1).toNatClampNeg) (xs (x3 + 2).toNatClampNeg) hinv
  refine lv_aload_n hx hb dL_law_318 rfl (lv_at hl 1 rfl) ?_
  refine lv_aload_n hx hb dL_law_319 rfl (lv_at hl 0 rfl) ?_
  refine lv_iload_n hx hb dL_law_320 rfl (lv_at hl 3 rfl) ?_
  refine lv_iconst (v := 1) hx hb dL_law_321 (by decide) ?_
  refine lv_iadd hx hb dL_law_322 ?_
  refine va_sld hx hb hX hbl hbA hS (hin 1 (by decide)) dL_law_323 ?_
  refine lv_aload_n hx hb dL_law_324 rfl (lv_at hl 0 rfl) ?_
  refine lv_iload_n hx hb dL_law_325 rfl (lv_at hl 3 rfl) ?_
  refine lv_iconst (v := 2) hx hb dL_law_326 (by decide) ?_
  refine lv_iadd hx hb dL_law_327 ?_
  refine va_sld hx hb hX hbl hbA hS (hin 2 (by decide)) dL_law_328 ?_
  refine zwci (zrunV Z hP (As := [.int (xs (x3 + 1).toNatClampNeg), .int (xs (x3 + 2).toNatClampNeg)]) (rest := []) (c_X11_lends (R := { frames := 3, cells := 0, slots := 0, locals := 60 }) Z.i (Nat.le_refl _) (Nat.le_refl _) e1) cV_L_48 rfl rfl ⟨Nat.le_of_ble_eq_true rfl, Nat.le_of_ble_eq_true rfl⟩ 0 (gW_o rfl) rfl rfl rfl hl.1 rfl (Nat.le_of_ble_eq_true rfl) dL_law_329 ⟨Nat.le_of_ble_eq_true rfl, Nat.le_of_ble_eq_true rfl⟩) hS (fun H locs hP hS => ?_)
  refine lv_aload_n hx hb dL_law_332 rfl (lv_at hl 2 rfl) ?_
  refine lv_aload_n hx hb dL_law_333 rfl (lv_at hl 0 rfl) ?_
  refine lv_iload_n hx hb dL_law_334 rfl (lv_at hl 3 rfl) ?_
  refine lv_iconst (v := 1) hx hb dL_law_335 (by decide) ?_
  refine lv_iadd hx hb dL_law_336 ?_
  refine va_sld hx hb hX hbl hbA hS (hin 1 (by decide)) dL_law_337 ?_
  refine lv_aload_n hx hb dL_law_338 rfl (lv_at hl 0 rfl) ?_
  refine lv_iload_n hx hb dL_law_339 rfl (lv_at hl 3 rfl) ?_
  refine lv_iconst (v := 2) hx hb dL_law_340 (by decide) ?_
  refine lv_iadd hx hb dL_law_341 ?_
  refine va_sld hx hb hX hbl hbA hS (hin 2 (by decide)) dL_law_342 ?_
  refine zwmi (zrunV Z hP (As := [.int (xs (x3 + 1).toNatClampNeg), .int (xs (x3 + 2).toNatClampNeg)]) (rest := [.int r]) (c_X12_lends (R := { frames := 2, cells := 0, slots := 0, locals := 43 }) Z.i (Nat.le_refl _) (Nat.le_refl _) e2) cV_L_51 rfl rfl ⟨Nat.le_of_ble_eq_true rfl, Nat.le_of_ble_eq_true rfl⟩ 66 (gW_mo.trans rfl) rfl rfl rfl hl.1 rfl (Nat.le_of_ble_eq_true rfl) dL_law_343 ⟨Nat.le_of_ble_eq_true rfl, Nat.le_of_ble_eq_true rfl⟩) hS (fun H locs hP hS => ?_)
  refine lv_icmp_eq (tgt := 778) hx hb dL_law_346 (by decide) (fun c1 => ?_) (fun c1 => absurd rfl c1)
  exact kk σ1 τ1 hv1 H locs hP hS ls hl
set_option maxHeartbeats 4000000 in
set_option maxRecDepth 100000 in
theorem law_undo {l : Launch} {D : va_G} {cy : Nat → ClassId} {ad : Nat → Nat} {σ τ : Sx} {p : Program} {e : Env} {s : State} {m : MethodId} {below : List Frame} {meth : Method} {c : Code} {b L : Nat} {xs : Nat → Int32} {INV : Sx → Sx → Prop} {x3 : Int32} (Z : Zc p s m c cL_law 4 RL D cy ad) (hX : va_X b L xs s s.heap) (hbl : b < s.heap.size) (hbA : ¬ gA ad b) (hin : ∀ j : Nat, j < 6 → vp_in (x3 + nI j) L) (hOK : OK_undo INV) (hinv : INV σ τ) (kk : ∀ σ1 τ1 : Sx, INV σ1 τ1 → ∀ (H : Heap) (locs : List Loc), va_P D vwCl (gW cy ad σ1 τ1) H → va_S (gA ad) s.heap H locs → ∀ ls : Array Slot, lv_has ls 4 [(0, .ref b), (1, .ref (ad 0)), (2, .ref (ad 66)), (3, .int x3)] → W p l e room_1 s m #[Value.ref b] below meth c H locs 82 1544 (lw_Z below #[Value.ref b] s) (F0 m 778 ls [])) {H : Heap} {locs : List Loc} (hP : va_P D vwCl (gW cy ad σ τ) H) (hS : va_S (gA ad) s.heap H locs) {ls : Array Slot} (hl : lv_has ls 4 [(0, .ref b), (1, .ref (ad 0)), (2, .ref (ad 66)), (3, .int x3)]) : W p l e room_1 s m #[Value.ref b] below meth c H locs 82 1544 (lw_Z below #[Value.ref b] s) (F0 m 351 ls []) := by
  have hx := Z.x
  have hb := Z.b
  obtain ⟨r, σ1, τ1, e1, e2, hv1⟩ := hOK σ τ  hinv
  refine lv_aload_n hx hb dL_law_351 rfl (lv_at hl 1 rfl) ?_
  refine zwci (zrunV Z hP (As := []) (rest := []) (c_X11_undo (R := { frames := 3, cells := 0, slots := 0, locals := 60 }) Z.i (Nat.le_refl _) (Nat.le_refl _) e1) cV_L_52 rfl rfl ⟨Nat.le_of_ble_eq_true rfl, Nat.le_of_ble_eq_true rfl⟩ 0 (gW_o rfl) rfl rfl rfl hl.1 rfl (Nat.le_of_ble_eq_true rfl) dL_law_352 ⟨Nat.le_of_ble_eq_true rfl, Nat.le_of_ble_eq_true rfl⟩) hS (fun H locs hP hS => ?_)
  refine lv_aload_n hx hb dL_law_355 rfl (lv_at hl 2 rfl) ?_
  refine zwmi (zrunV Z hP (As := []) (rest := [.int r]) (c_X12_undo (R := { frames := 0, cells := 0, slots := 0, locals := 0 }) Z.i (Nat.le_refl _) (Nat.le_refl _) e2) cV_L_55 rfl rfl ⟨Nat.le_of_ble_eq_true rfl, Nat.le_of_ble_eq_true rfl⟩ 66 (gW_mo.trans rfl) rfl rfl rfl hl.1 rfl (Nat.le_of_ble_eq_true rfl) dL_law_356 ⟨Nat.le_of_ble_eq_true rfl, Nat.le_of_ble_eq_true rfl⟩) hS (fun H locs hP hS => ?_)
  refine lv_icmp_eq (tgt := 778) hx hb dL_law_359 (by decide) (fun c1 => ?_) (fun c1 => absurd rfl c1)
  exact kk σ1 τ1 hv1 H locs hP hS ls hl
set_option maxHeartbeats 4000000 in
set_option maxRecDepth 100000 in
theorem law_now {l : Launch} {D : va_G} {cy : Nat → ClassId} {ad : Nat → Nat} {σ τ : Sx} {p : Program} {e : Env} {s : State} {m : MethodId} {below : List Frame} {meth : Method} {c : Code} {b L : Nat} {xs : Nat → Int32} {INV : Sx → Sx → Prop} {x3 : Int32} (Z : Zc p s m c cL_law 4 RL D cy ad) (hX : va_X b L xs s s.heap) (hbl : b < s.heap.size) (hbA : ¬ gA ad b) (hin : ∀ j : Nat, j < 6 → vp_in (x3 + nI j) L) (hOK : OK_now INV) (hinv : INV σ τ) (kk : ∀ σ1 τ1 : Sx, INV σ1 τ1 → ∀ (H : Heap) (locs : List Loc), va_P D vwCl (gW cy ad σ1 τ1) H → va_S (gA ad) s.heap H locs → ∀ ls : Array Slot, lv_has ls 4 [(0, .ref b), (1, .ref (ad 0)), (2, .ref (ad 66)), (3, .int x3)] → W p l e room_1 s m #[Value.ref b] below meth c H locs 82 1544 (lw_Z below #[Value.ref b] s) (F0 m 778 ls [])) {H : Heap} {locs : List Loc} (hP : va_P D vwCl (gW cy ad σ τ) H) (hS : va_S (gA ad) s.heap H locs) {ls : Array Slot} (hl : lv_has ls 4 [(0, .ref b), (1, .ref (ad 0)), (2, .ref (ad 66)), (3, .int x3)]) : W p l e room_1 s m #[Value.ref b] below meth c H locs 82 1544 (lw_Z below #[Value.ref b] s) (F0 m 364 ls []) := by
  have hx := Z.x
  have hb := Z.b
  obtain ⟨r, τ1, e1, e2, hv1⟩ := hOK σ τ (xs (x3 + 1).toNatClampNeg) hinv
  refine lv_aload_n hx hb dL_law_364 rfl (lv_at hl 1 rfl) ?_
  refine lv_aload_n hx hb dL_law_365 rfl (lv_at hl 0 rfl) ?_
  refine lv_iload_n hx hb dL_law_366 rfl (lv_at hl 3 rfl) ?_
  refine lv_iconst (v := 1) hx hb dL_law_367 (by decide) ?_
  refine lv_iadd hx hb dL_law_368 ?_
  refine va_sld hx hb hX hbl hbA hS (hin 1 (by decide)) dL_law_369 ?_
  refine zqi (zrunV Z hP (As := [.int (xs (x3 + 1).toNatClampNeg)]) (rest := []) (c_X11_now (R := { frames := 2, cells := 0, slots := 0, locals := 37 }) Z.i (Nat.le_refl _) (Nat.le_refl _) e1) cV_L_56 rfl rfl ⟨Nat.le_of_ble_eq_true rfl, Nat.le_of_ble_eq_true rfl⟩ 0 (gW_o rfl) rfl rfl rfl hl.1 rfl (Nat.le_of_ble_eq_true rfl) dL_law_370 ⟨Nat.le_of_ble_eq_true rfl, Nat.le_of_ble_eq_true rfl⟩) ?_
  refine lv_aload_n hx hb dL_law_373 rfl (lv_at hl 2 rfl) ?_
  refine lv_aload_n hx hb dL_law_374 rfl (lv_at hl 0 rfl) ?_
  refine lv_iload_n hx hb dL_law_375 rfl (lv_at hl 3 rfl) ?_
  refine lv_iconst (v := 1) hx hb dL_law_376 (by decide) ?_
  refine lv_iadd hx hb dL_law_377 ?_
  refine va_sld hx hb hX hbl hbA hS (hin 1 (by decide)) dL_law_378 ?_
  refine zwmi (zrunV Z hP (As := [.int (xs (x3 + 1).toNatClampNeg)]) (rest := [.int r]) (c_X12_now (R := { frames := 1, cells := 0, slots := 0, locals := 23 }) Z.i (Nat.le_refl _) (Nat.le_refl _) e2) cV_L_59 rfl rfl ⟨Nat.le_of_ble_eq_true rfl, Nat.le_of_ble_eq_true rfl⟩ 66 (gW_mo.trans rfl) rfl rfl rfl hl.1 rfl (Nat.le_of_ble_eq_true rfl) dL_law_379 ⟨Nat.le_of_ble_eq_true rfl, Nat.le_of_ble_eq_true rfl⟩) hS (fun H locs hP hS => ?_)
  refine lv_icmp_eq (tgt := 778) hx hb dL_law_382 (by decide) (fun c1 => ?_) (fun c1 => absurd rfl c1)
  exact kk σ τ1 hv1 H locs hP hS ls hl
set_option maxHeartbeats 4000000 in
set_option maxRecDepth 100000 in
theorem law_plan {l : Launch} {D : va_G} {cy : Nat → ClassId} {ad : Nat → Nat} {σ τ : Sx} {p : Program} {e : Env} {s : State} {m : MethodId} {below : List Frame} {meth : Method} {c : Code} {b L : Nat} {xs : Nat → Int32} {INV : Sx → Sx → Prop} {x3 : Int32} (Z : Zc p s m c cL_law 4 RL D cy ad) (hX : va_X b L xs s s.heap) (hbl : b < s.heap.size) (hbA : ¬ gA ad b) (hin : ∀ j : Nat, j < 6 → vp_in (x3 + nI j) L) (hOK : OK_plan INV) (hinv : INV σ τ) (kk : ∀ σ1 τ1 : Sx, INV σ1 τ1 → ∀ (H : Heap) (locs : List Loc), va_P D vwCl (gW cy ad σ1 τ1) H → va_S (gA ad) s.heap H locs → ∀ ls : Array Slot, lv_has ls 4 [(0, .ref b), (1, .ref (ad 0)), (2, .ref (ad 66)), (3, .int x3)] → W p l e room_1 s m #[Value.ref b] below meth c H locs 82 1544 (lw_Z below #[Value.ref b] s) (F0 m 778 ls [])) {H : Heap} {locs : List Loc} (hP : va_P D vwCl (gW cy ad σ τ) H) (hS : va_S (gA ad) s.heap H locs) {ls : Array Slot} (hl : lv_has ls 4 [(0, .ref b), (1, .ref (ad 0)), (2, .ref (ad 66)), (3, .int x3)]) : W p l e room_1 s m #[Value.ref b] below meth c H locs 82 1544 (lw_Z below #[Value.ref b] s) (F0 m 387 ls []) := by
  have hx := Z.x
  have hb := Z.b
  obtain ⟨r, σ1, τ1, e1, e2, hv1⟩ := hOK σ τ (xs (x3 + 1).toNatClampNeg) (xs (x3 + 2).toNatClampNeg) hinv
  refine lv_aload_n hx hb dL_law_387 rfl (lv_at hl 1 rfl) ?_
  refine lv_aload_n hx hb dL_law_388 rfl (lv_at hl 0 rfl) ?_
  refine lv_iload_n hx hb dL_law_389 rfl (lv_at hl 3 rfl) ?_
  refine lv_iconst (v := 1) hx hb dL_law_390 (by decide) ?_
  refine lv_iadd hx hb dL_law_391 ?_
  refine va_sld hx hb hX hbl hbA hS (hin 1 (by decide)) dL_law_392 ?_
  refine lv_aload_n hx hb dL_law_393 rfl (lv_at hl 0 rfl) ?_
  refine lv_iload_n hx hb dL_law_394 rfl (lv_at hl 3 rfl) ?_
  refine lv_iconst (v := 2) hx hb dL_law_395 (by decide) ?_
  refine lv_iadd hx hb dL_law_396 ?_
  refine va_sld hx hb hX hbl hbA hS (hin 2 (by decide)) dL_law_397 ?_
  refine zwci (zrunV Z hP (As := [.int (xs (x3 + 1).toNatClampNeg), .int (xs (x3 + 2).toNatClampNeg)]) (rest := []) (c_X11_plan (R := { frames := 20, cells := 0, slots := 0, locals := 508 }) Z.i (Nat.le_refl _) (Nat.le_refl _) e1) cV_L_60 rfl rfl ⟨Nat.le_of_ble_eq_true rfl, Nat.le_of_ble_eq_true rfl⟩ 0 (gW_o rfl) rfl rfl rfl hl.1 rfl (Nat.le_of_ble_eq_true rfl) dL_law_398 ⟨Nat.le_of_ble_eq_true rfl, Nat.le_of_ble_eq_true rfl⟩) hS (fun H locs hP hS => ?_)
  refine lv_aload_n hx hb dL_law_401 rfl (lv_at hl 2 rfl) ?_
  refine lv_aload_n hx hb dL_law_402 rfl (lv_at hl 0 rfl) ?_
  refine lv_iload_n hx hb dL_law_403 rfl (lv_at hl 3 rfl) ?_
  refine lv_iconst (v := 1) hx hb dL_law_404 (by decide) ?_
  refine lv_iadd hx hb dL_law_405 ?_
  refine va_sld hx hb hX hbl hbA hS (hin 1 (by decide)) dL_law_406 ?_
  refine lv_aload_n hx hb dL_law_407 rfl (lv_at hl 0 rfl) ?_
  refine lv_iload_n hx hb dL_law_408 rfl (lv_at hl 3 rfl) ?_
  refine lv_iconst (v := 2) hx hb dL_law_409 (by decide) ?_
  refine lv_iadd hx hb dL_law_410 ?_
  refine va_sld hx hb hX hbl hbA hS (hin 2 (by decide)) dL_law_411 ?_
  refine zwmi (zrunV Z hP (As := [.int (xs (x3 + 1).toNatClampNeg), .int (xs (x3 + 2).toNatClampNeg)]) (rest := [.int r]) (c_X12_plan (R := { frames := 5, cells := 0, slots := 0, locals := 121 }) Z.i (Nat.le_refl _) (Nat.le_refl _) e2) cV_L_63 rfl rfl ⟨Nat.le_of_ble_eq_true rfl, Nat.le_of_ble_eq_true rfl⟩ 66 (gW_mo.trans rfl) rfl rfl rfl hl.1 rfl (Nat.le_of_ble_eq_true rfl) dL_law_412 ⟨Nat.le_of_ble_eq_true rfl, Nat.le_of_ble_eq_true rfl⟩) hS (fun H locs hP hS => ?_)
  refine lv_icmp_eq (tgt := 778) hx hb dL_law_415 (by decide) (fun c1 => ?_) (fun c1 => absurd rfl c1)
  exact kk σ1 τ1 hv1 H locs hP hS ls hl
set_option maxHeartbeats 4000000 in
set_option maxRecDepth 100000 in
theorem law_fullBy {l : Launch} {D : va_G} {cy : Nat → ClassId} {ad : Nat → Nat} {σ τ : Sx} {p : Program} {e : Env} {s : State} {m : MethodId} {below : List Frame} {meth : Method} {c : Code} {b L : Nat} {xs : Nat → Int32} {INV : Sx → Sx → Prop} {x3 : Int32} (Z : Zc p s m c cL_law 4 RL D cy ad) (hX : va_X b L xs s s.heap) (hbl : b < s.heap.size) (hbA : ¬ gA ad b) (hin : ∀ j : Nat, j < 6 → vp_in (x3 + nI j) L) (hOK : OK_fullBy INV) (hinv : INV σ τ) (kk : ∀ σ1 τ1 : Sx, INV σ1 τ1 → ∀ (H : Heap) (locs : List Loc), va_P D vwCl (gW cy ad σ1 τ1) H → va_S (gA ad) s.heap H locs → ∀ ls : Array Slot, lv_has ls 4 [(0, .ref b), (1, .ref (ad 0)), (2, .ref (ad 66)), (3, .int x3)] → W p l e room_1 s m #[Value.ref b] below meth c H locs 82 1544 (lw_Z below #[Value.ref b] s) (F0 m 778 ls [])) {H : Heap} {locs : List Loc} (hP : va_P D vwCl (gW cy ad σ τ) H) (hS : va_S (gA ad) s.heap H locs) {ls : Array Slot} (hl : lv_has ls 4 [(0, .ref b), (1, .ref (ad 0)), (2, .ref (ad 66)), (3, .int x3)]) : W p l e room_1 s m #[Value.ref b] below meth c H locs 82 1544 (lw_Z below #[Value.ref b] s) (F0 m 420 ls []) := by
  have hx := Z.x
  have hb := Z.b
  obtain ⟨r, τ1, e1, e2, hv1⟩ := hOK σ τ (xs (x3 + 1).toNatClampNeg) (xs (x3 + 2).toNatClampNeg) hinv
  refine lv_aload_n hx hb dL_law_420 rfl (lv_at hl 1 rfl) ?_
  refine lv_aload_n hx hb dL_law_421 rfl (lv_at hl 0 rfl) ?_
  refine lv_iload_n hx hb dL_law_422 rfl (lv_at hl 3 rfl) ?_
  refine lv_iconst (v := 1) hx hb dL_law_423 (by decide) ?_
  refine lv_iadd hx hb dL_law_424 ?_
  refine va_sld hx hb hX hbl hbA hS (hin 1 (by decide)) dL_law_425 ?_
  refine lv_aload_n hx hb dL_law_426 rfl (lv_at hl 0 rfl) ?_
  refine lv_iload_n hx hb dL_law_427 rfl (lv_at hl 3 rfl) ?_
  refine lv_iconst (v := 2) hx hb dL_law_428 (by decide) ?_
  refine lv_iadd hx hb dL_law_429 ?_
  refine va_sld hx hb hX hbl hbA hS (hin 2 (by decide)) dL_law_430 ?_
  refine zqi (zrunV Z hP (As := [.int (xs (x3 + 1).toNatClampNeg), .int (xs (x3 + 2).toNatClampNeg)]) (rest := []) (c_X11_fullBy (R := { frames := 3, cells := 0, slots := 0, locals := 73 }) Z.i (Nat.le_refl _) (Nat.le_refl _) e1) cV_L_64 rfl rfl ⟨Nat.le_of_ble_eq_true rfl, Nat.le_of_ble_eq_true rfl⟩ 0 (gW_o rfl) rfl rfl rfl hl.1 rfl (Nat.le_of_ble_eq_true rfl) dL_law_431 ⟨Nat.le_of_ble_eq_true rfl, Nat.le_of_ble_eq_true rfl⟩) ?_
  refine lv_aload_n hx hb dL_law_434 rfl (lv_at hl 2 rfl) ?_
  refine lv_aload_n hx hb dL_law_435 rfl (lv_at hl 0 rfl) ?_
  refine lv_iload_n hx hb dL_law_436 rfl (lv_at hl 3 rfl) ?_
  refine lv_iconst (v := 1) hx hb dL_law_437 (by decide) ?_
  refine lv_iadd hx hb dL_law_438 ?_
  refine va_sld hx hb hX hbl hbA hS (hin 1 (by decide)) dL_law_439 ?_
  refine lv_aload_n hx hb dL_law_440 rfl (lv_at hl 0 rfl) ?_
  refine lv_iload_n hx hb dL_law_441 rfl (lv_at hl 3 rfl) ?_
  refine lv_iconst (v := 2) hx hb dL_law_442 (by decide) ?_
  refine lv_iadd hx hb dL_law_443 ?_
  refine va_sld hx hb hX hbl hbA hS (hin 2 (by decide)) dL_law_444 ?_
  refine zwmi (zrunV Z hP (As := [.int (xs (x3 + 1).toNatClampNeg), .int (xs (x3 + 2).toNatClampNeg)]) (rest := [.int r]) (c_X12_fullBy (R := { frames := 3, cells := 0, slots := 0, locals := 69 }) Z.i (Nat.le_refl _) (Nat.le_refl _) e2) cV_L_67 rfl rfl ⟨Nat.le_of_ble_eq_true rfl, Nat.le_of_ble_eq_true rfl⟩ 66 (gW_mo.trans rfl) rfl rfl rfl hl.1 rfl (Nat.le_of_ble_eq_true rfl) dL_law_445 ⟨Nat.le_of_ble_eq_true rfl, Nat.le_of_ble_eq_true rfl⟩) hS (fun H locs hP hS => ?_)
  refine lv_icmp_eq (tgt := 778) hx hb dL_law_448 (by decide) (fun c1 => ?_) (fun c1 => absurd rfl c1)
  exact kk σ τ1 hv1 H locs hP hS ls hl
set_option maxHeartbeats 4000000 in
set_option maxRecDepth 100000 in
theorem law_latest {l : Launch} {D : va_G} {cy : Nat → ClassId} {ad : Nat → Nat} {σ τ : Sx} {p : Program} {e : Env} {s : State} {m : MethodId} {below : List Frame} {meth : Method} {c : Code} {b L : Nat} {xs : Nat → Int32} {INV : Sx → Sx → Prop} {x3 : Int32} (Z : Zc p s m c cL_law 4 RL D cy ad) (hX : va_X b L xs s s.heap) (hbl : b < s.heap.size) (hbA : ¬ gA ad b) (hin : ∀ j : Nat, j < 6 → vp_in (x3 + nI j) L) (hOK : OK_latest INV) (hinv : INV σ τ) (kk : ∀ σ1 τ1 : Sx, INV σ1 τ1 → ∀ (H : Heap) (locs : List Loc), va_P D vwCl (gW cy ad σ1 τ1) H → va_S (gA ad) s.heap H locs → ∀ ls : Array Slot, lv_has ls 4 [(0, .ref b), (1, .ref (ad 0)), (2, .ref (ad 66)), (3, .int x3)] → W p l e room_1 s m #[Value.ref b] below meth c H locs 82 1544 (lw_Z below #[Value.ref b] s) (F0 m 778 ls [])) {H : Heap} {locs : List Loc} (hP : va_P D vwCl (gW cy ad σ τ) H) (hS : va_S (gA ad) s.heap H locs) {ls : Array Slot} (hl : lv_has ls 4 [(0, .ref b), (1, .ref (ad 0)), (2, .ref (ad 66)), (3, .int x3)]) : W p l e room_1 s m #[Value.ref b] below meth c H locs 82 1544 (lw_Z below #[Value.ref b] s) (F0 m 453 ls []) := by
  have hx := Z.x
  have hb := Z.b
  obtain ⟨r, τ1, e1, e2, hv1⟩ := hOK σ τ (xs (x3 + 1).toNatClampNeg) (xs (x3 + 2).toNatClampNeg) hinv
  refine lv_aload_n hx hb dL_law_453 rfl (lv_at hl 1 rfl) ?_
  refine lv_aload_n hx hb dL_law_454 rfl (lv_at hl 0 rfl) ?_
  refine lv_iload_n hx hb dL_law_455 rfl (lv_at hl 3 rfl) ?_
  refine lv_iconst (v := 1) hx hb dL_law_456 (by decide) ?_
  refine lv_iadd hx hb dL_law_457 ?_
  refine va_sld hx hb hX hbl hbA hS (hin 1 (by decide)) dL_law_458 ?_
  refine lv_aload_n hx hb dL_law_459 rfl (lv_at hl 0 rfl) ?_
  refine lv_iload_n hx hb dL_law_460 rfl (lv_at hl 3 rfl) ?_
  refine lv_iconst (v := 2) hx hb dL_law_461 (by decide) ?_
  refine lv_iadd hx hb dL_law_462 ?_
  refine va_sld hx hb hX hbl hbA hS (hin 2 (by decide)) dL_law_463 ?_
  refine zqi (zrunV Z hP (As := [.int (xs (x3 + 1).toNatClampNeg), .int (xs (x3 + 2).toNatClampNeg)]) (rest := []) (c_X11_latest (R := { frames := 4, cells := 0, slots := 0, locals := 98 }) Z.i (Nat.le_refl _) (Nat.le_refl _) e1) cV_L_68 rfl rfl ⟨Nat.le_of_ble_eq_true rfl, Nat.le_of_ble_eq_true rfl⟩ 0 (gW_o rfl) rfl rfl rfl hl.1 rfl (Nat.le_of_ble_eq_true rfl) dL_law_464 ⟨Nat.le_of_ble_eq_true rfl, Nat.le_of_ble_eq_true rfl⟩) ?_
  refine lv_aload_n hx hb dL_law_467 rfl (lv_at hl 2 rfl) ?_
  refine lv_aload_n hx hb dL_law_468 rfl (lv_at hl 0 rfl) ?_
  refine lv_iload_n hx hb dL_law_469 rfl (lv_at hl 3 rfl) ?_
  refine lv_iconst (v := 1) hx hb dL_law_470 (by decide) ?_
  refine lv_iadd hx hb dL_law_471 ?_
  refine va_sld hx hb hX hbl hbA hS (hin 1 (by decide)) dL_law_472 ?_
  refine lv_aload_n hx hb dL_law_473 rfl (lv_at hl 0 rfl) ?_
  refine lv_iload_n hx hb dL_law_474 rfl (lv_at hl 3 rfl) ?_
  refine lv_iconst (v := 2) hx hb dL_law_475 (by decide) ?_
  refine lv_iadd hx hb dL_law_476 ?_
  refine va_sld hx hb hX hbl hbA hS (hin 2 (by decide)) dL_law_477 ?_
  refine zwmi (zrunV Z hP (As := [.int (xs (x3 + 1).toNatClampNeg), .int (xs (x3 + 2).toNatClampNeg)]) (rest := [.int r]) (c_X12_latest (R := { frames := 3, cells := 0, slots := 0, locals := 71 }) Z.i (Nat.le_refl _) (Nat.le_refl _) e2) cV_L_71 rfl rfl ⟨Nat.le_of_ble_eq_true rfl, Nat.le_of_ble_eq_true rfl⟩ 66 (gW_mo.trans rfl) rfl rfl rfl hl.1 rfl (Nat.le_of_ble_eq_true rfl) dL_law_478 ⟨Nat.le_of_ble_eq_true rfl, Nat.le_of_ble_eq_true rfl⟩) hS (fun H locs hP hS => ?_)
  refine lv_icmp_eq (tgt := 778) hx hb dL_law_481 (by decide) (fun c1 => ?_) (fun c1 => absurd rfl c1)
  exact kk σ τ1 hv1 H locs hP hS ls hl
set_option maxHeartbeats 4000000 in
set_option maxRecDepth 100000 in
theorem law_says {l : Launch} {D : va_G} {cy : Nat → ClassId} {ad : Nat → Nat} {σ τ : Sx} {p : Program} {e : Env} {s : State} {m : MethodId} {below : List Frame} {meth : Method} {c : Code} {b L : Nat} {xs : Nat → Int32} {INV : Sx → Sx → Prop} {x3 : Int32} (Z : Zc p s m c cL_law 4 RL D cy ad) (hX : va_X b L xs s s.heap) (hbl : b < s.heap.size) (hbA : ¬ gA ad b) (hin : ∀ j : Nat, j < 6 → vp_in (x3 + nI j) L) (hOK : OK_says INV) (hinv : INV σ τ) (kk : ∀ σ1 τ1 : Sx, INV σ1 τ1 → ∀ (H : Heap) (locs : List Loc), va_P D vwCl (gW cy ad σ1 τ1) H → va_S (gA ad) s.heap H locs → ∀ ls : Array Slot, lv_has ls 4 [(0, .ref b), (1, .ref (ad 0)), (2, .ref (ad 66)), (3, .int x3)] → W p l e room_1 s m #[Value.ref b] below meth c H locs 82 1544 (lw_Z below #[Value.ref b] s) (F0 m 778 ls [])) {H : Heap} {locs : List Loc} (hP : va_P D vwCl (gW cy ad σ τ) H) (hS : va_S (gA ad) s.heap H locs) {ls : Array Slot} (hl : lv_has ls 4 [(0, .ref b), (1, .ref (ad 0)), (2, .ref (ad 66)), (3, .int x3)]) : W p l e room_1 s m #[Value.ref b] below meth c H locs 82 1544 (lw_Z below #[Value.ref b] s) (F0 m 486 ls []) := by
  have hx := Z.x
  have hb := Z.b
  obtain ⟨r, σ1, τ1, e1, e2, hv1⟩ := hOK σ τ (xs (x3 + 1).toNatClampNeg) (xs (x3 + 2).toNatClampNeg) (xs (x3 + 3).toNatClampNeg) (xs (x3 + 4).toNatClampNeg) hinv
  refine lv_aload_n hx hb dL_law_486 rfl (lv_at hl 1 rfl) ?_
  refine lv_aload_n hx hb dL_law_487 rfl (lv_at hl 0 rfl) ?_
  refine lv_iload_n hx hb dL_law_488 rfl (lv_at hl 3 rfl) ?_
  refine lv_iconst (v := 1) hx hb dL_law_489 (by decide) ?_
  refine lv_iadd hx hb dL_law_490 ?_
  refine va_sld hx hb hX hbl hbA hS (hin 1 (by decide)) dL_law_491 ?_
  refine lv_aload_n hx hb dL_law_492 rfl (lv_at hl 0 rfl) ?_
  refine lv_iload_n hx hb dL_law_493 rfl (lv_at hl 3 rfl) ?_
  refine lv_iconst (v := 2) hx hb dL_law_494 (by decide) ?_
  refine lv_iadd hx hb dL_law_495 ?_
  refine va_sld hx hb hX hbl hbA hS (hin 2 (by decide)) dL_law_496 ?_
  refine lv_aload_n hx hb dL_law_497 rfl (lv_at hl 0 rfl) ?_
  refine lv_iload_n hx hb dL_law_498 rfl (lv_at hl 3 rfl) ?_
  refine lv_iconst (v := 3) hx hb dL_law_499 (by decide) ?_
  refine lv_iadd hx hb dL_law_500 ?_
  refine va_sld hx hb hX hbl hbA hS (hin 3 (by decide)) dL_law_501 ?_
  refine lv_aload_n hx hb dL_law_502 rfl (lv_at hl 0 rfl) ?_
  refine lv_iload_n hx hb dL_law_503 rfl (lv_at hl 3 rfl) ?_
  refine lv_iconst (v := 4) hx hb dL_law_504 (by decide) ?_
  refine lv_iadd hx hb dL_law_505 ?_
  refine va_sld hx hb hX hbl hbA hS (hin 4 (by decide)) dL_law_506 ?_
  refine zwci (zrunV Z hP (As := [.int (xs (x3 + 1).toNatClampNeg), .int (xs (x3 + 2).toNatClampNeg), .int (xs (x3 + 3).toNatClampNeg), .int (xs (x3 + 4).toNatClampNeg)]) (rest := []) (c_X11_says (R := { frames := 2, cells := 0, slots := 0, locals := 43 }) Z.i (Nat.le_refl _) (Nat.le_refl _) e1) cV_L_72 rfl rfl ⟨Nat.le_of_ble_eq_true rfl, Nat.le_of_ble_eq_true rfl⟩ 0 (gW_o rfl) rfl rfl rfl hl.1 rfl (Nat.le_of_ble_eq_true rfl) dL_law_507 ⟨Nat.le_of_ble_eq_true rfl, Nat.le_of_ble_eq_true rfl⟩) hS (fun H locs hP hS => ?_)
  refine lv_aload_n hx hb dL_law_510 rfl (lv_at hl 2 rfl) ?_
  refine lv_aload_n hx hb dL_law_511 rfl (lv_at hl 0 rfl) ?_
  refine lv_iload_n hx hb dL_law_512 rfl (lv_at hl 3 rfl) ?_
  refine lv_iconst (v := 1) hx hb dL_law_513 (by decide) ?_
  refine lv_iadd hx hb dL_law_514 ?_
  refine va_sld hx hb hX hbl hbA hS (hin 1 (by decide)) dL_law_515 ?_
  refine lv_aload_n hx hb dL_law_516 rfl (lv_at hl 0 rfl) ?_
  refine lv_iload_n hx hb dL_law_517 rfl (lv_at hl 3 rfl) ?_
  refine lv_iconst (v := 2) hx hb dL_law_518 (by decide) ?_
  refine lv_iadd hx hb dL_law_519 ?_
  refine va_sld hx hb hX hbl hbA hS (hin 2 (by decide)) dL_law_520 ?_
  refine lv_aload_n hx hb dL_law_521 rfl (lv_at hl 0 rfl) ?_
  refine lv_iload_n hx hb dL_law_522 rfl (lv_at hl 3 rfl) ?_
  refine lv_iconst (v := 3) hx hb dL_law_523 (by decide) ?_
  refine lv_iadd hx hb dL_law_524 ?_
  refine va_sld hx hb hX hbl hbA hS (hin 3 (by decide)) dL_law_525 ?_
  refine lv_aload_n hx hb dL_law_526 rfl (lv_at hl 0 rfl) ?_
  refine lv_iload_n hx hb dL_law_527 rfl (lv_at hl 3 rfl) ?_
  refine lv_iconst (v := 4) hx hb dL_law_528 (by decide) ?_
  refine lv_iadd hx hb dL_law_529 ?_
  refine va_sld hx hb hX hbl hbA hS (hin 4 (by decide)) dL_law_530 ?_
  refine zwmi (zrunV Z hP (As := [.int (xs (x3 + 1).toNatClampNeg), .int (xs (x3 + 2).toNatClampNeg), .int (xs (x3 + 3).toNatClampNeg), .int (xs (x3 + 4).toNatClampNeg)]) (rest := [.int r]) (c_X12_says (R := { frames := 2, cells := 0, slots := 0, locals := 43 }) Z.i (Nat.le_refl _) (Nat.le_refl _) e2) cV_L_76 rfl rfl ⟨Nat.le_of_ble_eq_true rfl, Nat.le_of_ble_eq_true rfl⟩ 66 (gW_mo.trans rfl) rfl rfl rfl hl.1 rfl (Nat.le_of_ble_eq_true rfl) dL_law_531 ⟨Nat.le_of_ble_eq_true rfl, Nat.le_of_ble_eq_true rfl⟩) hS (fun H locs hP hS => ?_)
  refine lv_icmp_eq (tgt := 778) hx hb dL_law_534 (by decide) (fun c1 => ?_) (fun c1 => absurd rfl c1)
  exact kk σ1 τ1 hv1 H locs hP hS ls hl
set_option maxHeartbeats 4000000 in
set_option maxRecDepth 100000 in
theorem law_forget {l : Launch} {D : va_G} {cy : Nat → ClassId} {ad : Nat → Nat} {σ τ : Sx} {p : Program} {e : Env} {s : State} {m : MethodId} {below : List Frame} {meth : Method} {c : Code} {b L : Nat} {xs : Nat → Int32} {INV : Sx → Sx → Prop} {x3 : Int32} (Z : Zc p s m c cL_law 4 RL D cy ad) (hX : va_X b L xs s s.heap) (hbl : b < s.heap.size) (hbA : ¬ gA ad b) (hin : ∀ j : Nat, j < 6 → vp_in (x3 + nI j) L) (hOK : OK_forget INV) (hinv : INV σ τ) (kk : ∀ σ1 τ1 : Sx, INV σ1 τ1 → ∀ (H : Heap) (locs : List Loc), va_P D vwCl (gW cy ad σ1 τ1) H → va_S (gA ad) s.heap H locs → ∀ ls : Array Slot, lv_has ls 4 [(0, .ref b), (1, .ref (ad 0)), (2, .ref (ad 66)), (3, .int x3)] → W p l e room_1 s m #[Value.ref b] below meth c H locs 82 1544 (lw_Z below #[Value.ref b] s) (F0 m 778 ls [])) {H : Heap} {locs : List Loc} (hP : va_P D vwCl (gW cy ad σ τ) H) (hS : va_S (gA ad) s.heap H locs) {ls : Array Slot} (hl : lv_has ls 4 [(0, .ref b), (1, .ref (ad 0)), (2, .ref (ad 66)), (3, .int x3)]) : W p l e room_1 s m #[Value.ref b] below meth c H locs 82 1544 (lw_Z below #[Value.ref b] s) (F0 m 539 ls []) := by
  have hx := Z.x
  have hb := Z.b
  obtain ⟨r, σ1, τ1, e1, e2, hv1⟩ := hOK σ τ  hinv
  refine lv_aload_n hx hb dL_law_539 rfl (lv_at hl 1 rfl) ?_
  refine zwci (zrunV Z hP (As := []) (rest := []) (c_X11_forget (R := { frames := 0, cells := 0, slots := 0, locals := 0 }) Z.i (Nat.le_refl _) (Nat.le_refl _) e1) cV_L_77 rfl rfl ⟨Nat.le_of_ble_eq_true rfl, Nat.le_of_ble_eq_true rfl⟩ 0 (gW_o rfl) rfl rfl rfl hl.1 rfl (Nat.le_of_ble_eq_true rfl) dL_law_540 ⟨Nat.le_of_ble_eq_true rfl, Nat.le_of_ble_eq_true rfl⟩) hS (fun H locs hP hS => ?_)
  refine lv_aload_n hx hb dL_law_543 rfl (lv_at hl 2 rfl) ?_
  refine zwmi (zrunV Z hP (As := []) (rest := [.int r]) (c_X12_forget (R := { frames := 0, cells := 0, slots := 0, locals := 0 }) Z.i (Nat.le_refl _) (Nat.le_refl _) e2) cV_L_80 rfl rfl ⟨Nat.le_of_ble_eq_true rfl, Nat.le_of_ble_eq_true rfl⟩ 66 (gW_mo.trans rfl) rfl rfl rfl hl.1 rfl (Nat.le_of_ble_eq_true rfl) dL_law_544 ⟨Nat.le_of_ble_eq_true rfl, Nat.le_of_ble_eq_true rfl⟩) hS (fun H locs hP hS => ?_)
  refine lv_icmp_eq (tgt := 778) hx hb dL_law_547 (by decide) (fun c1 => ?_) (fun c1 => absurd rfl c1)
  exact kk σ1 τ1 hv1 H locs hP hS ls hl
set_option maxHeartbeats 4000000 in
set_option maxRecDepth 100000 in
theorem law_could {l : Launch} {D : va_G} {cy : Nat → ClassId} {ad : Nat → Nat} {σ τ : Sx} {p : Program} {e : Env} {s : State} {m : MethodId} {below : List Frame} {meth : Method} {c : Code} {b L : Nat} {xs : Nat → Int32} {INV : Sx → Sx → Prop} {x3 : Int32} (Z : Zc p s m c cL_law 4 RL D cy ad) (hX : va_X b L xs s s.heap) (hbl : b < s.heap.size) (hbA : ¬ gA ad b) (hin : ∀ j : Nat, j < 6 → vp_in (x3 + nI j) L) (hOK : OK_could INV) (hinv : INV σ τ) (kk : ∀ σ1 τ1 : Sx, INV σ1 τ1 → ∀ (H : Heap) (locs : List Loc), va_P D vwCl (gW cy ad σ1 τ1) H → va_S (gA ad) s.heap H locs → ∀ ls : Array Slot, lv_has ls 4 [(0, .ref b), (1, .ref (ad 0)), (2, .ref (ad 66)), (3, .int x3)] → W p l e room_1 s m #[Value.ref b] below meth c H locs 82 1544 (lw_Z below #[Value.ref b] s) (F0 m 778 ls [])) {H : Heap} {locs : List Loc} (hP : va_P D vwCl (gW cy ad σ τ) H) (hS : va_S (gA ad) s.heap H locs) {ls : Array Slot} (hl : lv_has ls 4 [(0, .ref b), (1, .ref (ad 0)), (2, .ref (ad 66)), (3, .int x3)]) : W p l e room_1 s m #[Value.ref b] below meth c H locs 82 1544 (lw_Z below #[Value.ref b] s) (F0 m 552 ls []) := by
  have hx := Z.x
  have hb := Z.b
  obtain ⟨r, τ1, e1, e2, hv1⟩ := hOK σ τ (xs (x3 + 1).toNatClampNeg) (xs (x3 + 2).toNatClampNeg) hinv
  refine lv_aload_n hx hb dL_law_552 rfl (lv_at hl 1 rfl) ?_
  refine lv_aload_n hx hb dL_law_553 rfl (lv_at hl 0 rfl) ?_
  refine lv_iload_n hx hb dL_law_554 rfl (lv_at hl 3 rfl) ?_
  refine lv_iconst (v := 1) hx hb dL_law_555 (by decide) ?_
  refine lv_iadd hx hb dL_law_556 ?_
  refine va_sld hx hb hX hbl hbA hS (hin 1 (by decide)) dL_law_557 ?_
  refine lv_aload_n hx hb dL_law_558 rfl (lv_at hl 0 rfl) ?_
  refine lv_iload_n hx hb dL_law_559 rfl (lv_at hl 3 rfl) ?_
  refine lv_iconst (v := 2) hx hb dL_law_560 (by decide) ?_
  refine lv_iadd hx hb dL_law_561 ?_
  refine va_sld hx hb hX hbl hbA hS (hin 2 (by decide)) dL_law_562 ?_
  refine zqi (zrunV Z hP (As := [.int (xs (x3 + 1).toNatClampNeg), .int (xs (x3 + 2).toNatClampNeg)]) (rest := []) (c_X11_could (R := { frames := 3, cells := 0, slots := 0, locals := 60 }) Z.i (Nat.le_refl _) (Nat.le_refl _) e1) cV_L_81 rfl rfl ⟨Nat.le_of_ble_eq_true rfl, Nat.le_of_ble_eq_true rfl⟩ 0 (gW_o rfl) rfl rfl rfl hl.1 rfl (Nat.le_of_ble_eq_true rfl) dL_law_563 ⟨Nat.le_of_ble_eq_true rfl, Nat.le_of_ble_eq_true rfl⟩) ?_
  refine lv_aload_n hx hb dL_law_566 rfl (lv_at hl 2 rfl) ?_
  refine lv_aload_n hx hb dL_law_567 rfl (lv_at hl 0 rfl) ?_
  refine lv_iload_n hx hb dL_law_568 rfl (lv_at hl 3 rfl) ?_
  refine lv_iconst (v := 1) hx hb dL_law_569 (by decide) ?_
  refine lv_iadd hx hb dL_law_570 ?_
  refine va_sld hx hb hX hbl hbA hS (hin 1 (by decide)) dL_law_571 ?_
  refine lv_aload_n hx hb dL_law_572 rfl (lv_at hl 0 rfl) ?_
  refine lv_iload_n hx hb dL_law_573 rfl (lv_at hl 3 rfl) ?_
  refine lv_iconst (v := 2) hx hb dL_law_574 (by decide) ?_
  refine lv_iadd hx hb dL_law_575 ?_
  refine va_sld hx hb hX hbl hbA hS (hin 2 (by decide)) dL_law_576 ?_
  refine zwmi (zrunV Z hP (As := [.int (xs (x3 + 1).toNatClampNeg), .int (xs (x3 + 2).toNatClampNeg)]) (rest := [.int r]) (c_X12_could (R := { frames := 2, cells := 0, slots := 0, locals := 48 }) Z.i (Nat.le_refl _) (Nat.le_refl _) e2) cV_L_84 rfl rfl ⟨Nat.le_of_ble_eq_true rfl, Nat.le_of_ble_eq_true rfl⟩ 66 (gW_mo.trans rfl) rfl rfl rfl hl.1 rfl (Nat.le_of_ble_eq_true rfl) dL_law_577 ⟨Nat.le_of_ble_eq_true rfl, Nat.le_of_ble_eq_true rfl⟩) hS (fun H locs hP hS => ?_)
  refine lv_icmp_eq (tgt := 778) hx hb dL_law_580 (by decide) (fun c1 => ?_) (fun c1 => absurd rfl c1)
  exact kk σ τ1 hv1 H locs hP hS ls hl
set_option maxHeartbeats 4000000 in
set_option maxRecDepth 100000 in
theorem law_liars {l : Launch} {D : va_G} {cy : Nat → ClassId} {ad : Nat → Nat} {σ τ : Sx} {p : Program} {e : Env} {s : State} {m : MethodId} {below : List Frame} {meth : Method} {c : Code} {b L : Nat} {xs : Nat → Int32} {INV : Sx → Sx → Prop} {x3 : Int32} (Z : Zc p s m c cL_law 4 RL D cy ad) (hX : va_X b L xs s s.heap) (hbl : b < s.heap.size) (hbA : ¬ gA ad b) (hin : ∀ j : Nat, j < 6 → vp_in (x3 + nI j) L) (hOK : OK_liars INV) (hinv : INV σ τ) (kk : ∀ σ1 τ1 : Sx, INV σ1 τ1 → ∀ (H : Heap) (locs : List Loc), va_P D vwCl (gW cy ad σ1 τ1) H → va_S (gA ad) s.heap H locs → ∀ ls : Array Slot, lv_has ls 4 [(0, .ref b), (1, .ref (ad 0)), (2, .ref (ad 66)), (3, .int x3)] → W p l e room_1 s m #[Value.ref b] below meth c H locs 82 1544 (lw_Z below #[Value.ref b] s) (F0 m 778 ls [])) {H : Heap} {locs : List Loc} (hP : va_P D vwCl (gW cy ad σ τ) H) (hS : va_S (gA ad) s.heap H locs) {ls : Array Slot} (hl : lv_has ls 4 [(0, .ref b), (1, .ref (ad 0)), (2, .ref (ad 66)), (3, .int x3)]) : W p l e room_1 s m #[Value.ref b] below meth c H locs 82 1544 (lw_Z below #[Value.ref b] s) (F0 m 585 ls []) := by
  have hx := Z.x
  have hb := Z.b
  obtain ⟨r, τ1, e1, e2, hv1⟩ := hOK σ τ  hinv
  refine lv_aload_n hx hb dL_law_585 rfl (lv_at hl 1 rfl) ?_
  refine zqi (zrunV Z hP (As := []) (rest := []) (c_X11_liars (R := { frames := 3, cells := 0, slots := 0, locals := 60 }) Z.i (Nat.le_refl _) (Nat.le_refl _) e1) cV_L_85 rfl rfl ⟨Nat.le_of_ble_eq_true rfl, Nat.le_of_ble_eq_true rfl⟩ 0 (gW_o rfl) rfl rfl rfl hl.1 rfl (Nat.le_of_ble_eq_true rfl) dL_law_586 ⟨Nat.le_of_ble_eq_true rfl, Nat.le_of_ble_eq_true rfl⟩) ?_
  refine lv_aload_n hx hb dL_law_589 rfl (lv_at hl 2 rfl) ?_
  refine zwmi (zrunV Z hP (As := []) (rest := [.int r]) (c_X12_liars (R := { frames := 2, cells := 0, slots := 0, locals := 48 }) Z.i (Nat.le_refl _) (Nat.le_refl _) e2) cV_L_88 rfl rfl ⟨Nat.le_of_ble_eq_true rfl, Nat.le_of_ble_eq_true rfl⟩ 66 (gW_mo.trans rfl) rfl rfl rfl hl.1 rfl (Nat.le_of_ble_eq_true rfl) dL_law_590 ⟨Nat.le_of_ble_eq_true rfl, Nat.le_of_ble_eq_true rfl⟩) hS (fun H locs hP hS => ?_)
  refine lv_icmp_eq (tgt := 778) hx hb dL_law_593 (by decide) (fun c1 => ?_) (fun c1 => absurd rfl c1)
  exact kk σ τ1 hv1 H locs hP hS ls hl
set_option maxHeartbeats 4000000 in
set_option maxRecDepth 100000 in
theorem law_odds {l : Launch} {D : va_G} {cy : Nat → ClassId} {ad : Nat → Nat} {σ τ : Sx} {p : Program} {e : Env} {s : State} {m : MethodId} {below : List Frame} {meth : Method} {c : Code} {b L : Nat} {xs : Nat → Int32} {INV : Sx → Sx → Prop} {x3 : Int32} (Z : Zc p s m c cL_law 4 RL D cy ad) (hX : va_X b L xs s s.heap) (hbl : b < s.heap.size) (hbA : ¬ gA ad b) (hin : ∀ j : Nat, j < 6 → vp_in (x3 + nI j) L) (hOK : OK_odds INV) (hinv : INV σ τ) (kk : ∀ σ1 τ1 : Sx, INV σ1 τ1 → ∀ (H : Heap) (locs : List Loc), va_P D vwCl (gW cy ad σ1 τ1) H → va_S (gA ad) s.heap H locs → ∀ ls : Array Slot, lv_has ls 4 [(0, .ref b), (1, .ref (ad 0)), (2, .ref (ad 66)), (3, .int x3)] → W p l e room_1 s m #[Value.ref b] below meth c H locs 82 1544 (lw_Z below #[Value.ref b] s) (F0 m 778 ls [])) {H : Heap} {locs : List Loc} (hP : va_P D vwCl (gW cy ad σ τ) H) (hS : va_S (gA ad) s.heap H locs) {ls : Array Slot} (hl : lv_has ls 4 [(0, .ref b), (1, .ref (ad 0)), (2, .ref (ad 66)), (3, .int x3)]) : W p l e room_1 s m #[Value.ref b] below meth c H locs 82 1544 (lw_Z below #[Value.ref b] s) (F0 m 598 ls []) := by
  have hx := Z.x
  have hb := Z.b
  obtain ⟨r, τ1, e1, e2, hv1⟩ := hOK σ τ (xs (x3 + 1).toNatClampNeg) (xs (x3 + 2).toNatClampNeg) (xs (x3 + 3).toNatClampNeg) (xs (x3 + 4).toNatClampNeg) (xs (x3 + 5).toNatClampNeg) hinv
  refine lv_aload_n hx hb dL_law_598 rfl (lv_at hl 1 rfl) ?_
  refine lv_aload_n hx hb dL_law_599 rfl (lv_at hl 0 rfl) ?_
  refine lv_iload_n hx hb dL_law_600 rfl (lv_at hl 3 rfl) ?_
  refine lv_iconst (v := 1) hx hb dL_law_601 (by decide) ?_
  refine lv_iadd hx hb dL_law_602 ?_
  refine va_sld hx hb hX hbl hbA hS (hin 1 (by decide)) dL_law_603 ?_
  refine lv_aload_n hx hb dL_law_604 rfl (lv_at hl 0 rfl) ?_
  refine lv_iload_n hx hb dL_law_605 rfl (lv_at hl 3 rfl) ?_
  refine lv_iconst (v := 2) hx hb dL_law_606 (by decide) ?_
  refine lv_iadd hx hb dL_law_607 ?_
  refine va_sld hx hb hX hbl hbA hS (hin 2 (by decide)) dL_law_608 ?_
  refine lv_aload_n hx hb dL_law_609 rfl (lv_at hl 0 rfl) ?_
  refine lv_iload_n hx hb dL_law_610 rfl (lv_at hl 3 rfl) ?_
  refine lv_iconst (v := 3) hx hb dL_law_611 (by decide) ?_
  refine lv_iadd hx hb dL_law_612 ?_
  refine va_sld hx hb hX hbl hbA hS (hin 3 (by decide)) dL_law_613 ?_
  refine lv_aload_n hx hb dL_law_614 rfl (lv_at hl 0 rfl) ?_
  refine lv_iload_n hx hb dL_law_615 rfl (lv_at hl 3 rfl) ?_
  refine lv_iconst (v := 4) hx hb dL_law_616 (by decide) ?_
  refine lv_iadd hx hb dL_law_617 ?_
  refine va_sld hx hb hX hbl hbA hS (hin 4 (by decide)) dL_law_618 ?_
  refine lv_aload_n hx hb dL_law_619 rfl (lv_at hl 0 rfl) ?_
  refine lv_iload_n hx hb dL_law_620 rfl (lv_at hl 3 rfl) ?_
  refine lv_iconst (v := 5) hx hb dL_law_621 (by decide) ?_
  refine lv_iadd hx hb dL_law_622 ?_
  refine va_sld hx hb hX hbl hbA hS (hin 5 (by decide)) dL_law_623 ?_
  refine zql (zrunV Z hP (As := [.int (xs (x3 + 1).toNatClampNeg), .int (xs (x3 + 2).toNatClampNeg), .int (xs (x3 + 3).toNatClampNeg), .int (xs (x3 + 4).toNatClampNeg), .int (xs (x3 + 5).toNatClampNeg)]) (rest := []) (c_X11_odds (R := { frames := 15, cells := 0, slots := 0, locals := 361 }) Z.i (Nat.le_refl _) (Nat.le_refl _) e1) cV_L_89 rfl rfl ⟨Nat.le_of_ble_eq_true rfl, Nat.le_of_ble_eq_true rfl⟩ 0 (gW_o rfl) rfl rfl rfl hl.1 rfl (Nat.le_of_ble_eq_true rfl) dL_law_624 ⟨Nat.le_of_ble_eq_true rfl, Nat.le_of_ble_eq_true rfl⟩) ?_
  refine lv_aload_n hx hb dL_law_627 rfl (lv_at hl 2 rfl) ?_
  refine lv_aload_n hx hb dL_law_628 rfl (lv_at hl 0 rfl) ?_
  refine lv_iload_n hx hb dL_law_629 rfl (lv_at hl 3 rfl) ?_
  refine lv_iconst (v := 1) hx hb dL_law_630 (by decide) ?_
  refine lv_iadd hx hb dL_law_631 ?_
  refine va_sld hx hb hX hbl hbA hS (hin 1 (by decide)) dL_law_632 ?_
  refine lv_aload_n hx hb dL_law_633 rfl (lv_at hl 0 rfl) ?_
  refine lv_iload_n hx hb dL_law_634 rfl (lv_at hl 3 rfl) ?_
  refine lv_iconst (v := 2) hx hb dL_law_635 (by decide) ?_
  refine lv_iadd hx hb dL_law_636 ?_
  refine va_sld hx hb hX hbl hbA hS (hin 2 (by decide)) dL_law_637 ?_
  refine lv_aload_n hx hb dL_law_638 rfl (lv_at hl 0 rfl) ?_
  refine lv_iload_n hx hb dL_law_639 rfl (lv_at hl 3 rfl) ?_
  refine lv_iconst (v := 3) hx hb dL_law_640 (by decide) ?_
  refine lv_iadd hx hb dL_law_641 ?_
  refine va_sld hx hb hX hbl hbA hS (hin 3 (by decide)) dL_law_642 ?_
  refine lv_aload_n hx hb dL_law_643 rfl (lv_at hl 0 rfl) ?_
  refine lv_iload_n hx hb dL_law_644 rfl (lv_at hl 3 rfl) ?_
  refine lv_iconst (v := 4) hx hb dL_law_645 (by decide) ?_
  refine lv_iadd hx hb dL_law_646 ?_
  refine va_sld hx hb hX hbl hbA hS (hin 4 (by decide)) dL_law_647 ?_
  refine lv_aload_n hx hb dL_law_648 rfl (lv_at hl 0 rfl) ?_
  refine lv_iload_n hx hb dL_law_649 rfl (lv_at hl 3 rfl) ?_
  refine lv_iconst (v := 5) hx hb dL_law_650 (by decide) ?_
  refine lv_iadd hx hb dL_law_651 ?_
  refine va_sld hx hb hX hbl hbA hS (hin 5 (by decide)) dL_law_652 ?_
  refine zwml (zrunV Z hP (As := [.int (xs (x3 + 1).toNatClampNeg), .int (xs (x3 + 2).toNatClampNeg), .int (xs (x3 + 3).toNatClampNeg), .int (xs (x3 + 4).toNatClampNeg), .int (xs (x3 + 5).toNatClampNeg)]) (rest := [.long r]) (c_X12_odds (R := { frames := 2, cells := 0, slots := 0, locals := 46 }) Z.i (Nat.le_refl _) (Nat.le_refl _) e2) cV_L_93 rfl rfl ⟨Nat.le_of_ble_eq_true rfl, Nat.le_of_ble_eq_true rfl⟩ 66 (gW_mo.trans rfl) rfl rfl rfl hl.1 rfl (Nat.le_of_ble_eq_true rfl) dL_law_653 ⟨Nat.le_of_ble_eq_true rfl, Nat.le_of_ble_eq_true rfl⟩) hS (fun H locs hP hS => ?_)
  refine W.lcmp hx hb dL_law_656 ?_
  refine lv_if_eq (tgt := 778) hx hb dL_law_657 (by decide) (fun c1 => ?_) (fun c1 => absurd (by simp [lg_cmp]) c1)
  exact kk σ τ1 hv1 H locs hP hS ls hl
set_option maxHeartbeats 4000000 in
set_option maxRecDepth 100000 in
theorem law_rate {l : Launch} {D : va_G} {cy : Nat → ClassId} {ad : Nat → Nat} {σ τ : Sx} {p : Program} {e : Env} {s : State} {m : MethodId} {below : List Frame} {meth : Method} {c : Code} {b L : Nat} {xs : Nat → Int32} {INV : Sx → Sx → Prop} {x3 : Int32} (Z : Zc p s m c cL_law 4 RL D cy ad) (hX : va_X b L xs s s.heap) (hbl : b < s.heap.size) (hbA : ¬ gA ad b) (hin : ∀ j : Nat, j < 6 → vp_in (x3 + nI j) L) (hOK : OK_rate INV) (hinv : INV σ τ) (kk : ∀ σ1 τ1 : Sx, INV σ1 τ1 → ∀ (H : Heap) (locs : List Loc), va_P D vwCl (gW cy ad σ1 τ1) H → va_S (gA ad) s.heap H locs → ∀ ls : Array Slot, lv_has ls 4 [(0, .ref b), (1, .ref (ad 0)), (2, .ref (ad 66)), (3, .int x3)] → W p l e room_1 s m #[Value.ref b] below meth c H locs 82 1544 (lw_Z below #[Value.ref b] s) (F0 m 778 ls [])) {H : Heap} {locs : List Loc} (hP : va_P D vwCl (gW cy ad σ τ) H) (hS : va_S (gA ad) s.heap H locs) {ls : Array Slot} (hl : lv_has ls 4 [(0, .ref b), (1, .ref (ad 0)), (2, .ref (ad 66)), (3, .int x3)]) : W p l e room_1 s m #[Value.ref b] below meth c H locs 82 1544 (lw_Z below #[Value.ref b] s) (F0 m 662 ls []) := by
  have hx := Z.x
  have hb := Z.b
  obtain ⟨r, σ1, τ1, e1, e2, hv1⟩ := hOK σ τ (xs (x3 + 1).toNatClampNeg) (xs (x3 + 2).toNatClampNeg) hinv
  refine lv_aload_n hx hb dL_law_662 rfl (lv_at hl 1 rfl) ?_
  refine lv_aload_n hx hb dL_law_663 rfl (lv_at hl 0 rfl) ?_
  refine lv_iload_n hx hb dL_law_664 rfl (lv_at hl 3 rfl) ?_
  refine lv_iconst (v := 1) hx hb dL_law_665 (by decide) ?_
  refine lv_iadd hx hb dL_law_666 ?_
  refine va_sld hx hb hX hbl hbA hS (hin 1 (by decide)) dL_law_667 ?_
  refine lv_aload_n hx hb dL_law_668 rfl (lv_at hl 0 rfl) ?_
  refine lv_iload_n hx hb dL_law_669 rfl (lv_at hl 3 rfl) ?_
  refine lv_iconst (v := 2) hx hb dL_law_670 (by decide) ?_
  refine lv_iadd hx hb dL_law_671 ?_
  refine va_sld hx hb hX hbl hbA hS (hin 2 (by decide)) dL_law_672 ?_
  refine zwci (zrunV Z hP (As := [.int (xs (x3 + 1).toNatClampNeg), .int (xs (x3 + 2).toNatClampNeg)]) (rest := []) (c_X11_rate (R := { frames := 3, cells := 0, slots := 0, locals := 67 }) Z.i (Nat.le_refl _) (Nat.le_refl _) e1) cV_L_94 rfl rfl ⟨Nat.le_of_ble_eq_true rfl, Nat.le_of_ble_eq_true rfl⟩ 0 (gW_o rfl) rfl rfl rfl hl.1 rfl (Nat.le_of_ble_eq_true rfl) dL_law_673 ⟨Nat.le_of_ble_eq_true rfl, Nat.le_of_ble_eq_true rfl⟩) hS (fun H locs hP hS => ?_)
  refine lv_aload_n hx hb dL_law_676 rfl (lv_at hl 2 rfl) ?_
  refine lv_aload_n hx hb dL_law_677 rfl (lv_at hl 0 rfl) ?_
  refine lv_iload_n hx hb dL_law_678 rfl (lv_at hl 3 rfl) ?_
  refine lv_iconst (v := 1) hx hb dL_law_679 (by decide) ?_
  refine lv_iadd hx hb dL_law_680 ?_
  refine va_sld hx hb hX hbl hbA hS (hin 1 (by decide)) dL_law_681 ?_
  refine lv_aload_n hx hb dL_law_682 rfl (lv_at hl 0 rfl) ?_
  refine lv_iload_n hx hb dL_law_683 rfl (lv_at hl 3 rfl) ?_
  refine lv_iconst (v := 2) hx hb dL_law_684 (by decide) ?_
  refine lv_iadd hx hb dL_law_685 ?_
  refine va_sld hx hb hX hbl hbA hS (hin 2 (by decide)) dL_law_686 ?_
  refine zwmi (zrunV Z hP (As := [.int (xs (x3 + 1).toNatClampNeg), .int (xs (x3 + 2).toNatClampNeg)]) (rest := [.int r]) (c_X12_rate (R := { frames := 2, cells := 0, slots := 0, locals := 43 }) Z.i (Nat.le_refl _) (Nat.le_refl _) e2) cV_L_97 rfl rfl ⟨Nat.le_of_ble_eq_true rfl, Nat.le_of_ble_eq_true rfl⟩ 66 (gW_mo.trans rfl) rfl rfl rfl hl.1 rfl (Nat.le_of_ble_eq_true rfl) dL_law_687 ⟨Nat.le_of_ble_eq_true rfl, Nat.le_of_ble_eq_true rfl⟩) hS (fun H locs hP hS => ?_)
  refine lv_icmp_eq (tgt := 778) hx hb dL_law_690 (by decide) (fun c1 => ?_) (fun c1 => absurd rfl c1)
  exact kk σ1 τ1 hv1 H locs hP hS ls hl
set_option maxHeartbeats 4000000 in
set_option maxRecDepth 100000 in
theorem law_keep {l : Launch} {D : va_G} {cy : Nat → ClassId} {ad : Nat → Nat} {σ τ : Sx} {p : Program} {e : Env} {s : State} {m : MethodId} {below : List Frame} {meth : Method} {c : Code} {b L : Nat} {xs : Nat → Int32} {INV : Sx → Sx → Prop} {x3 : Int32} (Z : Zc p s m c cL_law 4 RL D cy ad) (hX : va_X b L xs s s.heap) (hbl : b < s.heap.size) (hbA : ¬ gA ad b) (hin : ∀ j : Nat, j < 6 → vp_in (x3 + nI j) L) (hOK : OK_keep INV) (hinv : INV σ τ) (kk : ∀ σ1 τ1 : Sx, INV σ1 τ1 → ∀ (H : Heap) (locs : List Loc), va_P D vwCl (gW cy ad σ1 τ1) H → va_S (gA ad) s.heap H locs → ∀ ls : Array Slot, lv_has ls 4 [(0, .ref b), (1, .ref (ad 0)), (2, .ref (ad 66)), (3, .int x3)] → W p l e room_1 s m #[Value.ref b] below meth c H locs 82 1544 (lw_Z below #[Value.ref b] s) (F0 m 778 ls [])) {H : Heap} {locs : List Loc} (hP : va_P D vwCl (gW cy ad σ τ) H) (hS : va_S (gA ad) s.heap H locs) {ls : Array Slot} (hl : lv_has ls 4 [(0, .ref b), (1, .ref (ad 0)), (2, .ref (ad 66)), (3, .int x3)]) : W p l e room_1 s m #[Value.ref b] below meth c H locs 82 1544 (lw_Z below #[Value.ref b] s) (F0 m 695 ls []) := by
  have hx := Z.x
  have hb := Z.b
  obtain ⟨r, σ1, τ1, e1, e2, hv1⟩ := hOK σ τ (xs (x3 + 1).toNatClampNeg) hinv
  refine lv_aload_n hx hb dL_law_695 rfl (lv_at hl 1 rfl) ?_
  refine lv_aload_n hx hb dL_law_696 rfl (lv_at hl 0 rfl) ?_
  refine lv_iload_n hx hb dL_law_697 rfl (lv_at hl 3 rfl) ?_
  refine lv_iconst (v := 1) hx hb dL_law_698 (by decide) ?_
  refine lv_iadd hx hb dL_law_699 ?_
  refine va_sld hx hb hX hbl hbA hS (hin 1 (by decide)) dL_law_700 ?_
  refine zwci (zrunV Z hP (As := [.int (xs (x3 + 1).toNatClampNeg)]) (rest := []) (c_X11_keep (R := { frames := 2, cells := 0, slots := 0, locals := 39 }) Z.i (Nat.le_refl _) (Nat.le_refl _) e1) cV_L_98 rfl rfl ⟨Nat.le_of_ble_eq_true rfl, Nat.le_of_ble_eq_true rfl⟩ 0 (gW_o rfl) rfl rfl rfl hl.1 rfl (Nat.le_of_ble_eq_true rfl) dL_law_701 ⟨Nat.le_of_ble_eq_true rfl, Nat.le_of_ble_eq_true rfl⟩) hS (fun H locs hP hS => ?_)
  refine lv_aload_n hx hb dL_law_704 rfl (lv_at hl 2 rfl) ?_
  refine lv_aload_n hx hb dL_law_705 rfl (lv_at hl 0 rfl) ?_
  refine lv_iload_n hx hb dL_law_706 rfl (lv_at hl 3 rfl) ?_
  refine lv_iconst (v := 1) hx hb dL_law_707 (by decide) ?_
  refine lv_iadd hx hb dL_law_708 ?_
  refine va_sld hx hb hX hbl hbA hS (hin 1 (by decide)) dL_law_709 ?_
  refine zwmi (zrunV Z hP (As := [.int (xs (x3 + 1).toNatClampNeg)]) (rest := [.int r]) (c_X12_keep (R := { frames := 1, cells := 0, slots := 0, locals := 22 }) Z.i (Nat.le_refl _) (Nat.le_refl _) e2) cV_L_101 rfl rfl ⟨Nat.le_of_ble_eq_true rfl, Nat.le_of_ble_eq_true rfl⟩ 66 (gW_mo.trans rfl) rfl rfl rfl hl.1 rfl (Nat.le_of_ble_eq_true rfl) dL_law_710 ⟨Nat.le_of_ble_eq_true rfl, Nat.le_of_ble_eq_true rfl⟩) hS (fun H locs hP hS => ?_)
  refine lv_icmp_eq (tgt := 778) hx hb dL_law_713 (by decide) (fun c1 => ?_) (fun c1 => absurd rfl c1)
  exact kk σ1 τ1 hv1 H locs hP hS ls hl
set_option maxHeartbeats 4000000 in
set_option maxRecDepth 100000 in
theorem law_back {l : Launch} {D : va_G} {cy : Nat → ClassId} {ad : Nat → Nat} {σ τ : Sx} {p : Program} {e : Env} {s : State} {m : MethodId} {below : List Frame} {meth : Method} {c : Code} {b L : Nat} {xs : Nat → Int32} {INV : Sx → Sx → Prop} {x3 : Int32} (Z : Zc p s m c cL_law 4 RL D cy ad) (hX : va_X b L xs s s.heap) (hbl : b < s.heap.size) (hbA : ¬ gA ad b) (hin : ∀ j : Nat, j < 6 → vp_in (x3 + nI j) L) (hOK : OK_back INV) (hinv : INV σ τ) (kk : ∀ σ1 τ1 : Sx, INV σ1 τ1 → ∀ (H : Heap) (locs : List Loc), va_P D vwCl (gW cy ad σ1 τ1) H → va_S (gA ad) s.heap H locs → ∀ ls : Array Slot, lv_has ls 4 [(0, .ref b), (1, .ref (ad 0)), (2, .ref (ad 66)), (3, .int x3)] → W p l e room_1 s m #[Value.ref b] below meth c H locs 82 1544 (lw_Z below #[Value.ref b] s) (F0 m 778 ls [])) {H : Heap} {locs : List Loc} (hP : va_P D vwCl (gW cy ad σ τ) H) (hS : va_S (gA ad) s.heap H locs) {ls : Array Slot} (hl : lv_has ls 4 [(0, .ref b), (1, .ref (ad 0)), (2, .ref (ad 66)), (3, .int x3)]) : W p l e room_1 s m #[Value.ref b] below meth c H locs 82 1544 (lw_Z below #[Value.ref b] s) (F0 m 718 ls []) := by
  have hx := Z.x
  have hb := Z.b
  obtain ⟨r, σ1, τ1, e1, e2, hv1⟩ := hOK σ τ (xs (x3 + 1).toNatClampNeg) hinv
  refine lv_aload_n hx hb dL_law_718 rfl (lv_at hl 1 rfl) ?_
  refine lv_aload_n hx hb dL_law_719 rfl (lv_at hl 0 rfl) ?_
  refine lv_iload_n hx hb dL_law_720 rfl (lv_at hl 3 rfl) ?_
  refine lv_iconst (v := 1) hx hb dL_law_721 (by decide) ?_
  refine lv_iadd hx hb dL_law_722 ?_
  refine va_sld hx hb hX hbl hbA hS (hin 1 (by decide)) dL_law_723 ?_
  refine zwci (zrunV Z hP (As := [.int (xs (x3 + 1).toNatClampNeg)]) (rest := []) (c_X11_back (R := { frames := 2, cells := 0, slots := 0, locals := 39 }) Z.i (Nat.le_refl _) (Nat.le_refl _) e1) cV_L_102 rfl rfl ⟨Nat.le_of_ble_eq_true rfl, Nat.le_of_ble_eq_true rfl⟩ 0 (gW_o rfl) rfl rfl rfl hl.1 rfl (Nat.le_of_ble_eq_true rfl) dL_law_724 ⟨Nat.le_of_ble_eq_true rfl, Nat.le_of_ble_eq_true rfl⟩) hS (fun H locs hP hS => ?_)
  refine lv_aload_n hx hb dL_law_727 rfl (lv_at hl 2 rfl) ?_
  refine lv_aload_n hx hb dL_law_728 rfl (lv_at hl 0 rfl) ?_
  refine lv_iload_n hx hb dL_law_729 rfl (lv_at hl 3 rfl) ?_
  refine lv_iconst (v := 1) hx hb dL_law_730 (by decide) ?_
  refine lv_iadd hx hb dL_law_731 ?_
  refine va_sld hx hb hX hbl hbA hS (hin 1 (by decide)) dL_law_732 ?_
  refine zwmi (zrunV Z hP (As := [.int (xs (x3 + 1).toNatClampNeg)]) (rest := [.int r]) (c_X12_back (R := { frames := 1, cells := 0, slots := 0, locals := 22 }) Z.i (Nat.le_refl _) (Nat.le_refl _) e2) cV_L_105 rfl rfl ⟨Nat.le_of_ble_eq_true rfl, Nat.le_of_ble_eq_true rfl⟩ 66 (gW_mo.trans rfl) rfl rfl rfl hl.1 rfl (Nat.le_of_ble_eq_true rfl) dL_law_733 ⟨Nat.le_of_ble_eq_true rfl, Nat.le_of_ble_eq_true rfl⟩) hS (fun H locs hP hS => ?_)
  refine lv_icmp_eq (tgt := 778) hx hb dL_law_736 (by decide) (fun c1 => ?_) (fun c1 => absurd rfl c1)
  exact kk σ1 τ1 hv1 H locs hP hS ls hl
set_option maxHeartbeats 4000000 in
set_option maxRecDepth 100000 in
theorem law_count {l : Launch} {D : va_G} {cy : Nat → ClassId} {ad : Nat → Nat} {σ τ : Sx} {p : Program} {e : Env} {s : State} {m : MethodId} {below : List Frame} {meth : Method} {c : Code} {b L : Nat} {xs : Nat → Int32} {INV : Sx → Sx → Prop} {x3 : Int32} (Z : Zc p s m c cL_law 4 RL D cy ad) (hX : va_X b L xs s s.heap) (hbl : b < s.heap.size) (hbA : ¬ gA ad b) (hin : ∀ j : Nat, j < 6 → vp_in (x3 + nI j) L) (hOK : OK_count INV) (hinv : INV σ τ) (kk : ∀ σ1 τ1 : Sx, INV σ1 τ1 → ∀ (H : Heap) (locs : List Loc), va_P D vwCl (gW cy ad σ1 τ1) H → va_S (gA ad) s.heap H locs → ∀ ls : Array Slot, lv_has ls 4 [(0, .ref b), (1, .ref (ad 0)), (2, .ref (ad 66)), (3, .int x3)] → W p l e room_1 s m #[Value.ref b] below meth c H locs 82 1544 (lw_Z below #[Value.ref b] s) (F0 m 778 ls [])) {H : Heap} {locs : List Loc} (hP : va_P D vwCl (gW cy ad σ τ) H) (hS : va_S (gA ad) s.heap H locs) {ls : Array Slot} (hl : lv_has ls 4 [(0, .ref b), (1, .ref (ad 0)), (2, .ref (ad 66)), (3, .int x3)]) : W p l e room_1 s m #[Value.ref b] below meth c H locs 82 1544 (lw_Z below #[Value.ref b] s) (F0 m 741 ls []) := by
  have hx := Z.x
  have hb := Z.b
  obtain ⟨r, τ1, e1, e2, hv1⟩ := hOK σ τ (xs (x3 + 1).toNatClampNeg) hinv
  refine lv_aload_n hx hb dL_law_741 rfl (lv_at hl 1 rfl) ?_
  refine lv_aload_n hx hb dL_law_742 rfl (lv_at hl 0 rfl) ?_
  refine lv_iload_n hx hb dL_law_743 rfl (lv_at hl 3 rfl) ?_
  refine lv_iconst (v := 1) hx hb dL_law_744 (by decide) ?_
  refine lv_iadd hx hb dL_law_745 ?_
  refine va_sld hx hb hX hbl hbA hS (hin 1 (by decide)) dL_law_746 ?_
  refine zqi (zrunV Z hP (As := [.int (xs (x3 + 1).toNatClampNeg)]) (rest := []) (c_X11_count (R := { frames := 0, cells := 0, slots := 0, locals := 0 }) Z.i (Nat.le_refl _) (Nat.le_refl _) e1) cV_L_106 rfl rfl ⟨Nat.le_of_ble_eq_true rfl, Nat.le_of_ble_eq_true rfl⟩ 0 (gW_o rfl) rfl rfl rfl hl.1 rfl (Nat.le_of_ble_eq_true rfl) dL_law_747 ⟨Nat.le_of_ble_eq_true rfl, Nat.le_of_ble_eq_true rfl⟩) ?_
  refine lv_aload_n hx hb dL_law_750 rfl (lv_at hl 2 rfl) ?_
  refine lv_aload_n hx hb dL_law_751 rfl (lv_at hl 0 rfl) ?_
  refine lv_iload_n hx hb dL_law_752 rfl (lv_at hl 3 rfl) ?_
  refine lv_iconst (v := 1) hx hb dL_law_753 (by decide) ?_
  refine lv_iadd hx hb dL_law_754 ?_
  refine va_sld hx hb hX hbl hbA hS (hin 1 (by decide)) dL_law_755 ?_
  refine zwmi (zrunV Z hP (As := [.int (xs (x3 + 1).toNatClampNeg)]) (rest := [.int r]) (c_X12_count (R := { frames := 0, cells := 0, slots := 0, locals := 0 }) Z.i (Nat.le_refl _) (Nat.le_refl _) e2) cV_L_109 rfl rfl ⟨Nat.le_of_ble_eq_true rfl, Nat.le_of_ble_eq_true rfl⟩ 66 (gW_mo.trans rfl) rfl rfl rfl hl.1 rfl (Nat.le_of_ble_eq_true rfl) dL_law_756 ⟨Nat.le_of_ble_eq_true rfl, Nat.le_of_ble_eq_true rfl⟩) hS (fun H locs hP hS => ?_)
  refine lv_icmp_eq (tgt := 778) hx hb dL_law_759 (by decide) (fun c1 => ?_) (fun c1 => absurd rfl c1)
  exact kk σ τ1 hv1 H locs hP hS ls hl
set_option maxHeartbeats 4000000 in
set_option maxRecDepth 100000 in
theorem law_trace {l : Launch} {D : va_G} {cy : Nat → ClassId} {ad : Nat → Nat} {σ τ : Sx} {p : Program} {e : Env} {s : State} {m : MethodId} {below : List Frame} {meth : Method} {c : Code} {b L : Nat} {xs : Nat → Int32} {INV : Sx → Sx → Prop} {x3 : Int32} (Z : Zc p s m c cL_law 4 RL D cy ad) (hX : va_X b L xs s s.heap) (hbl : b < s.heap.size) (hbA : ¬ gA ad b) (hin : ∀ j : Nat, j < 6 → vp_in (x3 + nI j) L) (hOK : OK_trace INV) (hinv : INV σ τ) (kk : ∀ σ1 τ1 : Sx, INV σ1 τ1 → ∀ (H : Heap) (locs : List Loc), va_P D vwCl (gW cy ad σ1 τ1) H → va_S (gA ad) s.heap H locs → ∀ ls : Array Slot, lv_has ls 4 [(0, .ref b), (1, .ref (ad 0)), (2, .ref (ad 66)), (3, .int x3)] → W p l e room_1 s m #[Value.ref b] below meth c H locs 82 1544 (lw_Z below #[Value.ref b] s) (F0 m 778 ls [])) {H : Heap} {locs : List Loc} (hP : va_P D vwCl (gW cy ad σ τ) H) (hS : va_S (gA ad) s.heap H locs) {ls : Array Slot} (hl : lv_has ls 4 [(0, .ref b), (1, .ref (ad 0)), (2, .ref (ad 66)), (3, .int x3)]) : W p l e room_1 s m #[Value.ref b] below meth c H locs 82 1544 (lw_Z below #[Value.ref b] s) (F0 m 764 ls []) := by
  have hx := Z.x
  have hb := Z.b
  obtain ⟨r, τ1, e1, e2, hv1⟩ := hOK σ τ  hinv
  refine lv_aload_n hx hb dL_law_764 rfl (lv_at hl 1 rfl) ?_
  refine zql (zrunV Z hP (As := []) (rest := []) (c_X11_trace (R := { frames := 0, cells := 0, slots := 0, locals := 0 }) Z.i (Nat.le_refl _) (Nat.le_refl _) e1) cV_L_110 rfl rfl ⟨Nat.le_of_ble_eq_true rfl, Nat.le_of_ble_eq_true rfl⟩ 0 (gW_o rfl) rfl rfl rfl hl.1 rfl (Nat.le_of_ble_eq_true rfl) dL_law_765 ⟨Nat.le_of_ble_eq_true rfl, Nat.le_of_ble_eq_true rfl⟩) ?_
  refine lv_aload_n hx hb dL_law_768 rfl (lv_at hl 2 rfl) ?_
  refine zwml (zrunV Z hP (As := []) (rest := [.long r]) (c_X12_trace (R := { frames := 0, cells := 0, slots := 0, locals := 0 }) Z.i (Nat.le_refl _) (Nat.le_refl _) e2) cV_L_114 rfl rfl ⟨Nat.le_of_ble_eq_true rfl, Nat.le_of_ble_eq_true rfl⟩ 66 (gW_mo.trans rfl) rfl rfl rfl hl.1 rfl (Nat.le_of_ble_eq_true rfl) dL_law_769 ⟨Nat.le_of_ble_eq_true rfl, Nat.le_of_ble_eq_true rfl⟩) hS (fun H locs hP hS => ?_)
  refine W.lcmp hx hb dL_law_772 ?_
  refine lv_if_eq (tgt := 778) hx hb dL_law_773 (by decide) (fun c1 => ?_) (fun c1 => absurd (by simp [lg_cmp]) c1)
  exact kk σ τ1 hv1 H locs hP hS ls hl
