/-! ===== own rows: 'multianewarray' of two dimensions, walked over the machine itself; arrays of arrays in the tables ===== -/
/-- what the atom on an array of arrays tells: the class of the rows, the class of the whole, and how the tables find both -/
theorem mn_over {t : FieldType} {A : Array Value} {U : State} (h : (Cond.arrayOver (.array t)).before A U = true) :
    ∃ (comp cA : ClassId) (k : Class), U.vm.findClass (FieldType.array t).toString = some comp ∧
      (U.vm.classes.findIdx? fun (x : Class) => match x.kind with | .array component _ => component == comp | _ => false) = some cA ∧
      U.vm.classes[cA]? = some k ∧ k.kind = .array comp (.array t) ∧ U.vm.findClass ("[" ++ (FieldType.array t).toString) = some cA := by
  unfold Cond.before Cond.holds at h
  simp only [Cond.value] at h
  obtain ⟨comp, g1, h1⟩ := Option.bind_eq_some_iff.mp (eq_of_beq h)
  obtain ⟨cA, g2, h2⟩ := Option.bind_eq_some_iff.mp h1
  obtain ⟨k, g3, h3⟩ := Option.map_eq_some_iff.mp h2
  obtain ⟨hlt, g4, -⟩ := Array.findIdx?_eq_some_iff_getElem.mp g2
  have g5 : U.vm.classes[cA] = k := (Array.getElem?_eq_some_iff.mp g3).2
  rw [g5] at g4
  have g6 : k.kind = .array comp (.array t) ∧ U.vm.findClass ("[" ++ (FieldType.array t).toString) = some cA := by
    generalize k.kind = kd at g4 h3
    cases kd with
    | array c1 t1 =>
      have a1 : (c1 == comp) = true := g4
      have a2 : (decide (t1 = FieldType.array t) && decide (U.vm.findClass ("[" ++ (FieldType.array t).toString) = some cA)) = true := h3
      rw [Bool.and_eq_true] at a2
      exact ⟨by rw [eq_of_beq a1, of_decide_eq_true a2.1], of_decide_eq_true a2.2⟩
    | _ => cases (show false = true from g4)
  exact ⟨comp, cA, k, g1, g2, g3, g6.1, g6.2⟩
def va_AOA (ty : FieldType) (U : State) : Prop := (Cond.arrayOver (.array ty)).before #[] U = true
theorem va_AOA.use {ty : FieldType} {A : Array Value} {U : State} (h : va_AOA ty U) : (Cond.arrayOver (.array ty)).before A U = true := h
theorem va_AOA.moved {ty : FieldType} {u U : State} (hvm : u.vm.Alike U.vm) (h : va_AOA ty u) : va_AOA ty U := by
  obtain ⟨comp, cA, k, h1, h2, h3, h4, h5⟩ := mn_over h
  obtain ⟨k', hk', he⟩ := hvm.2.2 _ _ h3
  have b1 : U.vm.findClass (FieldType.array ty).toString = some comp := (hvm.findClass _ _).trans h1
  have b2 := (va_idx_bare U.vm comp).symm.trans ((congrArg (fun v : Vm => v.classes.findIdx? fun (x : Class) => match x.kind with | .array component _ => component == comp | _ => false) hvm.bare_eq).trans ((va_idx_bare u.vm comp).trans h2))
  have b3 : k'.kind = .array comp (.array ty) := by rw [he]; exact h4
  have b4 : U.vm.findClass ("[" ++ (FieldType.array ty).toString) = some cA := (hvm.findClass _ _).trans h5
  show (_ == some true) = true
  refine beq_iff_eq.mpr (Option.bind_eq_some_iff.mpr ⟨comp, b1, Option.bind_eq_some_iff.mpr ⟨cA, b2, Option.map_eq_some_iff.mpr ⟨k', hk', ?_⟩⟩⟩)
  rw [b3]
  show (decide (FieldType.array ty = FieldType.array ty) && decide (U.vm.findClass ("[" ++ (FieldType.array ty).toString) = some cA)) = true
  rw [decide_eq_true rfl, decide_eq_true b4]
  rfl
section MNA
variable {E : CtlPost} {e : Env} {d : Bool} {acts : List Action} {U : State} {g : JFrame}
/-- one new array of a class that stands in the tables, with room for it -/
theorem mn_new {Q : Nat → Pre} {cA comp : ClassId} {n : Nat} {ty : FieldType} {dv : Value} {k : Class} (hk : U.vm.classes[cA]? = some k) (hkind : k.kind = .array comp ty) (hfit : fits ty dv = true)
    (hl : ¬ n > e.platform.arrayLengthLimit) (hh : ¬ n * componentBytes ty > e.platform.maxHeapBytes) (hr1 : U.heap.size < e.platform.maxCells) (hr2 : U.slotsUsed + n ≤ e.platform.maxSlots)
    (hQ : ∀ (d' : Bool) (acts' : List Action), Q U.heap.size d' acts' ((U.pushCell { cls := cA, slots := Array.replicate n dv, vm := .none }).setTop g)) : wp (Jvm.newArray cA n dv) Q E e d acts (U.setTop g) := by
  have hf : ∀ (i : Nat) (v : Value), (Array.replicate n dv)[i]? = some v → (U.setTop g).fitsSlot cA .none i v = true := fun i v hv => by
    rw [Array.getElem?_replicate] at hv
    split at hv
    · cases hv
      simp [State.fitsSlot, State.slotType?, hk, hkind, hfit]
    · cases hv
  have hm : ¬ n > e.platform.maxSlots := by omega
  simp only [Jvm.newArray, Jvm.arrayFits, wp_bind', Jvm.W.ask, Jvm.W.ite, hl, if_false, wp_pure', Jvm.W.theClass, State.vm_setTop, hk, Option.some.injEq, exists_eq_left', hkind, hh, hm, Jvm.W.alloc]
  refine ⟨hr1, by rw [Array.size_replicate]; exact hr2, hf, hQ _ _⟩
/-- the rows' own call of 'make': one dimension is left -/
theorem mn_last {Q : Nat → Pre} {cA comp : ClassId} {n : Int32} {ty : FieldType} {k : Class} (hk : U.vm.classes[cA]? = some k) (hkind : k.kind = .array comp ty) (hfit : fits ty (defaultValue ty) = true) (hn : ¬ n < 0)
    (hl : ¬ n.toNatClampNeg > e.platform.arrayLengthLimit) (hh : ¬ n.toNatClampNeg * componentBytes ty > e.platform.maxHeapBytes) (hr1 : U.heap.size < e.platform.maxCells) (hr2 : U.slotsUsed + n.toNatClampNeg ≤ e.platform.maxSlots)
    (hQ : ∀ (d' : Bool) (acts' : List Action), Q U.heap.size d' acts' ((U.pushCell { cls := cA, slots := Array.replicate n.toNatClampNeg (defaultValue ty), vm := .none }).setTop g)) : wp (Jvm.Op.multianewarray.make cA [n]) Q E e d acts (U.setTop g) := by
  rw [Jvm.Op.multianewarray.make]
  simp only [wp_bind', Jvm.W.ite, hn, if_false, wp_pure', Jvm.W.theClass, State.vm_setTop, hk, Option.some.injEq, exists_eq_left', hkind]
  exact mn_new hk hkind hfit hl hh hr1 hr2 hQ
end MNA
/-- behind i rows: the walk stands, the old cells are as they were, the whole holds the i rows laid so far -/
def mn_J (p : Program) (l : Launch) (e : Env) (R : Room) (s : State) (m : MethodId) (args : Array Value) (below : List Frame) (meth : Method) (c : Code) (locs : List Loc) (cells slots : Nat) (H : Heap) (cA comp : ClassId) (N K : Nat) (dv : Value) (i : Nat) (U : State) : Prop :=
  Stand p l e R s m args below meth c U locs (cells + 1 + i) (slots + N + i * K) ∧ U.heap.size = H.size + 1 + i ∧ (∀ x : Nat, x < H.size → U.heap[x]? = H[x]?) ∧
    U.heap[H.size]? = some (arrV cA N (fun j => va_rf (if j < i then some (H.size + 1 + j) else none))) ∧ ∀ j : Nat, j < i → U.heap[H.size + 1 + j]? = some ({ cls := comp, slots := Array.replicate K dv, vm := .none } : Cell)
section MNB
variable {p : Program} {l : Launch} {e : Env} {R : Room} {s : State} {m : MethodId} {args : Array Value} {below : List Frame} {meth : Method} {c : Code} {T : State} {locs : List Loc} {cells slots : Nat}
variable {H : Heap} {cA comp : ClassId} {N K : Nat} {dv : Value}
theorem mn_first (X : Stand p l e R s m args below meth c T locs cells slots) (hT : T.heap = H) : mn_J p l e R s m args below meth c locs cells slots H cA comp N K dv 0 (T.pushCell { cls := cA, slots := Array.replicate N .null, vm := .none }) := by
  subst hT
  have X1 := X.pushed ({ cls := cA, slots := Array.replicate N .null, vm := .none } : Cell)
  have es : (Array.replicate N Value.null).size = N := Array.size_replicate
  refine ⟨?_, ?_, fun x hx => ?_, ?_, fun j hj => absurd hj (Nat.not_lt_zero j)⟩
  · have e1 : slots + (Array.replicate N Value.null).size = slots + N + 0 * K := by rw [es]; omega
    have X2 : Stand p l e R s m args below meth c (T.pushCell { cls := cA, slots := Array.replicate N .null, vm := .none }) locs (cells + 1) (slots + (Array.replicate N Value.null).size) := X1
    rw [e1] at X2
    exact X2
  · show (T.heap.push _).size = _
    rw [Array.size_push]
  · show (T.heap.push _)[x]? = _
    rw [Array.getElem?_push, if_neg (by omega)]
  · show (T.heap.push _)[T.heap.size]? = _
    rw [Array.getElem?_push, if_pos rfl, arrV_new]
    refine congrArg some (congrArg (arrV cA N) (funext fun j => ?_))
    rw [if_neg (Nat.not_lt_zero j)]
    rfl
theorem mn_next {i : Nat} {U : State} (hg : s.heap.size ≤ H.size) (h : mn_J p l e R s m args below meth c locs cells slots H cA comp N K dv i U) :
    mn_J p l e R s m args below meth c locs cells slots H cA comp N K dv (i + 1) ((U.pushCell { cls := comp, slots := Array.replicate K dv, vm := .none }).setCell H.size ((arrV cA N (fun j => va_rf (if j < i then some (H.size + 1 + j) else none))).setSlot i (.ref U.heap.size))) := by
  obtain ⟨X, hsz, hold, hout, hrow⟩ := h
  have hcell : (U.pushCell ({ cls := comp, slots := Array.replicate K dv, vm := .none } : Cell)).heap[H.size]? = some (arrV cA N (fun j => va_rf (if j < i then some (H.size + 1 + j) else none))) := by
    show (U.heap.push _)[H.size]? = _
    rw [Array.getElem?_push, if_neg (by omega), hout]
  have X1 := (X.pushed ({ cls := comp, slots := Array.replicate K dv, vm := .none } : Cell)).stored hcell i (.ref U.heap.size)
  have X2 := X1.dropFresh (fun x hx => by
    rw [List.mem_singleton] at hx
    rw [hx]
    exact hg)
  have e1 : slots + N + i * K + (Array.replicate K dv).size = slots + N + (i + 1) * K := by
    rw [Array.size_replicate, Nat.add_mul]
    omega
  have hget : ∀ x : Nat, x ≠ H.size → ((U.heap.push ({ cls := comp, slots := Array.replicate K dv, vm := .none } : Cell)).setIfInBounds H.size ((arrV cA N (fun j => va_rf (if j < i then some (H.size + 1 + j) else none))).setSlot i (.ref U.heap.size)))[x]? = if x = U.heap.size then some ({ cls := comp, slots := Array.replicate K dv, vm := .none } : Cell) else U.heap[x]? := fun x hx => by
    rw [Array.getElem?_setIfInBounds_ne (fun q => hx q.symm), Array.getElem?_push]
  refine ⟨?_, ?_, fun x hx => ?_, ?_, fun j hj => ?_⟩
  · have X3 : Stand p l e R s m args below meth c ((U.pushCell { cls := comp, slots := Array.replicate K dv, vm := .none }).setCell H.size ((arrV cA N (fun j => va_rf (if j < i then some (H.size + 1 + j) else none))).setSlot i (.ref U.heap.size))) locs (cells + 1 + i + 1) (slots + N + i * K + (Array.replicate K dv).size) := X2
    rw [e1] at X3
    exact X3
  · show ((U.heap.push _).setIfInBounds H.size _).size = _
    rw [Array.size_setIfInBounds, Array.size_push, hsz]
    omega
  · show ((U.heap.push _).setIfInBounds H.size _)[x]? = _
    rw [hget x (by omega), if_neg (by omega)]
    exact hold x hx
  · show ((U.heap.push _).setIfInBounds H.size _)[H.size]? = _
    rw [Array.getElem?_setIfInBounds_self_of_lt (by rw [Array.size_push]; omega), arrV_store]
    refine congrArg some (congrArg (arrV cA N) (funext fun j => ?_))
    unfold updV
    by_cases q : j = i
    · rw [if_pos q, if_pos (by omega), q, hsz]
      rfl
    · rw [if_neg q]
      show va_rf (if j < i then some (H.size + 1 + j) else none) = va_rf (if j < i + 1 then some (H.size + 1 + j) else none)
      by_cases w : j < i
      · rw [if_pos w, if_pos (by omega)]
      · rw [if_neg w, if_neg (by omega)]
  · show ((U.heap.push _).setIfInBounds H.size _)[H.size + 1 + j]? = _
    rw [hget _ (by omega)]
    by_cases q : j = i
    · rw [if_pos (by omega)]
    · rw [if_neg (by omega)]
      exact hrow j (by omega)
/-- the loop: from 'nothing laid' to 'all laid' -/
theorem mn_loop {E : CtlPost} {g : JFrame} {ty : FieldType} {k kI : Class} {comp2 : ClassId} {n : Int32} (hg : s.heap.size ≤ H.size) (hk : s.vm.classes[cA]? = some k) (hkind : k.kind = .array comp (.array ty)) (hkI : s.vm.classes[comp]? = some kI) (hkindI : kI.kind = .array comp2 ty)
    (hfit : fits ty (defaultValue ty) = true) (hn : ¬ n < 0) (hK : n.toNatClampNeg = K) (hb2 : K * componentBytes ty ≤ 536870912) (hb3 : K ≤ 536870912) (hcells : cells + (1 + N) ≤ R.cells) (hslots : slots + (N + N * K) ≤ R.slots)
    {Q : PUnit → Pre} (hQ : ∀ (U : State) (d' : Bool) (acts' : List Action), mn_J p l e R s m args below meth c locs cells slots H cA comp N K (defaultValue ty) N U → Q PUnit.unit d' acts' (U.setTop g)) :
    ∀ (j i : Nat) (U : State) (d : Bool) (acts : List Action), i + j = N → mn_J p l e R s m args below meth c locs cells slots H cA comp N K (defaultValue ty) i U →
      wp (forIn (List.range' i j) PUnit.unit (fun (i : Nat) (_ : PUnit) => (do
        let a ← Jvm.Op.multianewarray.make comp [n]
        Jvm.writeLoc H.size i (.ref a)
        Pure.pure (ForInStep.yield PUnit.unit) : Sem (ForInStep PUnit)))) Q E e d acts (U.setTop g)
  | 0, i, U, d, acts, hij, hJ => by
    rw [show List.range' i 0 = [] from rfl, List.forIn_nil, wp_pure']
    have hi : i = N := by omega
    subst hi
    exact hQ U d acts hJ
  | j + 1, i, U, d, acts, hij, hJ => by
    rw [List.range'_succ, List.forIn_cons]
    simp only [wp_bind']
    obtain ⟨X, hsz, hold, hout, hrow⟩ := id hJ
    have hal := X.warmed.alike
    obtain ⟨kI', hkI', heI⟩ := hal.2.2 _ _ hkI
    obtain ⟨k', hk', he⟩ := hal.2.2 _ _ hk
    have hkindI' : kI'.kind = .array comp2 ty := by rw [heI]; exact hkindI
    have hkind' : k'.kind = .array comp (.array ty) := by rw [he]; exact hkind
    have hroom : (i + 1) * K ≤ N * K := Nat.mul_le_mul_right K (by omega)
    rw [Nat.add_mul, Nat.one_mul] at hroom
    obtain ⟨r1, r2⟩ := X.roomAbove (a := 1) (b := K) (by omega) (by omega)
    refine mn_last (k := kI') (comp := comp2) (ty := ty) hkI' hkindI' hfit hn (by rw [Launch.admits_arrayLengthLimit X.admits, hK]; omega) (by rw [Launch.admits_maxHeapBytes X.admits, hK]; omega) (by omega) (by rw [hK]; exact r2) (fun d' acts' => ?_)
    rw [hK, wp_bind', Jvm.W.writeLoc]
    refine ⟨arrV cA N (fun j => va_rf (if j < i then some (H.size + 1 + j) else none)), ?_, (by intro q; cases q), by rw [arrV_size]; omega, ?_, ?_⟩
    · show (U.heap.push _)[H.size]? = _
      rw [Array.getElem?_push, if_neg (by omega), hout]
    · show State.fitsSlot U cA .none i (.ref U.heap.size) = true
      simp [State.fitsSlot, State.slotType?, hk', hkind', fits]
    · rw [wp_pure']
      exact mn_loop hg hk hkind hkI hkindI hfit hn hK hb2 hb3 hcells hslots hQ j (i + 1) _ _ _ (by omega) (mn_next hg hJ)
/-- the whole instruction, its entry resolved -/
theorem mn_sem {E : CtlPost} {d : Bool} {acts : List Action} {g : JFrame} {index : Nat} {ty : FieldType} {k kI : Class} {comp2 : ClassId} {n n2 : Int32} {rest : List Value} (X : Stand p l e R s m args below meth c T locs cells slots) (hr : T.vm.classReady g.method.cls index cA) (hstack : g.stack = .int n2 :: .int n :: rest)
    (hk : s.vm.classes[cA]? = some k) (hkind : k.kind = .array comp (.array ty)) (hkI : s.vm.classes[comp]? = some kI) (hkindI : kI.kind = .array comp2 ty)
    (hfit : fits ty (defaultValue ty) = true) (hn : ¬ n < 0) (hn2 : ¬ n2 < 0) (hN : n.toNatClampNeg = N) (hK : n2.toNatClampNeg = K) (hb1 : N * 4 ≤ 536870912) (hb2 : K * componentBytes ty ≤ 536870912) (hb3 : K ≤ 536870912) (hcells : cells + (1 + N) ≤ R.cells) (hslots : slots + (N + N * K) ≤ R.slots)
    {Q : Unit → Pre} (hQ : ∀ (U : State) (d' : Bool) (acts' : List Action), mn_J p l e R s m args below meth c locs cells slots T.heap cA comp N K (defaultValue ty) N U → Q () d' acts' (U.setTop { g with stack := .ref T.heap.size :: rest })) :
    wp (Jvm.Op.multianewarray.sem index 2) Q E e d acts (T.setTop g) := by
  have hs := X.here.top
  simp only [Jvm.Op.multianewarray.sem, wp_bind', Jvm.W.resolveClassAt_ready (State.method?_setTop g hs) hr]
  refine (Jvm.Op.popN_top (args := [.int n, .int n2]) hs hstack).mpr ?_
  simp only [List.mapM_cons, List.mapM_nil, wp_bind', wp_pure', pure_bind]
  rw [Jvm.Op.multianewarray.make]
  obtain ⟨k', hk', he⟩ := X.warmed.alike.2.2 _ _ hk
  have hkind' : k'.kind = .array comp (.array ty) := by rw [he]; exact hkind
  obtain ⟨r1, r2⟩ := X.roomAbove (a := 1 + N) (b := N + N * K) hcells hslots
  simp only [wp_bind', Jvm.W.ite, hn, if_false, wp_pure', Jvm.W.theClass, State.vm_setTop, hk', Option.some.injEq, exists_eq_left', hkind']
  refine mn_new hk' hkind' rfl (by rw [Launch.admits_arrayLengthLimit X.admits, hN]; omega) (by rw [Launch.admits_maxHeapBytes X.admits, hN]; exact Nat.not_lt.mpr hb1) (by omega) (by rw [hN]; omega) (fun d' acts' => ?_)
  have hfnd : List.find? (fun x : Int32 => decide (x < 0)) [n2] = none := by
    rw [List.find?_cons_of_neg (by simpa using hn2)]
    rfl
  simp only [hfnd, ite_self, wp_bind', Std.Legacy.Range.forIn_eq_forIn_range', wp_pure', hN]
  rw [show List.range' 0 ([:N] : Std.Legacy.Range).size 1 = List.range' 0 N from by simp [Std.Legacy.Range.size]]
  refine mn_loop X.heapGrown hk hkind hkI hkindI hfit hn2 hK hb2 hb3 hcells hslots (fun U d' acts' hJ => ?_) N 0 _ _ _ (by omega) (mn_first X rfl)
  simp only [wp_pure', wp_bind', Jvm.W.mark, Jvm.W.pushRef, State.topJava?_setTop' _ hJ.1.here.top]
  refine ⟨_, rfl, ?_⟩
  rw [State.setTop_setTop]
  exact hQ U _ _ hJ
/-- **THE ROW**: from a walk that stands at the instruction to one that stands behind it -/
theorem mn_two {g : JFrame} {own : String} {index : Nat} {ty : FieldType} {n n2 : Int32} {rest : List Value} (X : Stand p l e R s m args below meth c T locs cells slots) (hexec : p.tables.exec = Jvm.exec) (hown : s.vm.findClass own = some m.cls)
    (hclink : (Cond.classLink own index ("[" ++ (FieldType.array ty).toString)).before args s = true) (hover : (Cond.arrayOver (.array ty)).before args s = true) (harr : (Cond.arrayClass ty).before args s = true)
    (hg : g.method = m) (hdg : decode c.code g.pc = .ok (.multianewarray index 2, 4)) (hstack : g.stack = .int n2 :: .int n :: rest)
    (hfit : fits ty (defaultValue ty) = true) (hn : ¬ n < 0) (hn2 : ¬ n2 < 0) (hN : n.toNatClampNeg = N) (hK : n2.toNatClampNeg = K) (hb1 : N * 4 ≤ 536870912) (hb2 : K * componentBytes ty ≤ 536870912) (hb3 : K ≤ 536870912) (hcells : cells + (1 + N) ≤ R.cells) (hslots : slots + (N + N * K) ≤ R.slots) :
    ∃ (cA comp : ClassId) (U : State), s.vm.findClass ("[" ++ (FieldType.array ty).toString) = some cA ∧ s.vm.findClass (FieldType.array ty).toString = some comp ∧ (∃ k : Class, s.vm.classes[cA]? = some k ∧ k.kind = .array comp (.array ty)) ∧
      mn_J p l e R s m args below meth c locs cells slots T.heap cA comp N K (defaultValue ty) N U ∧
      ∀ target, Steps p.tables e below (U.setTop { g with pc := g.pc + 4, stack := .ref T.heap.size :: rest }) target → Steps p.tables e below (T.setTop g) target := by
  subst hg
  obtain ⟨comp, cA, k, h1, -, h3, h4, h5⟩ := mn_over hover
  obtain ⟨cI, kI, comp2, i1, i2, i3⟩ := Cond.arrayClass_spec harr
  have ei : comp = cI := Option.some.inj (h1.symm.trans i1)
  subst ei
  obtain ⟨cL, j1, j2⟩ := Cond.classLink_spec hown hclink e.platform (by rw [X.admits.platform])
  have el : cA = cL := Option.some.inj (h5.symm.trans j1)
  subst el
  obtain ⟨q1, q2, q3⟩ := State.classEntry (e := e) X.warmed j2
  generalize T.vm.noted g.method.cls index (.cls cA) = vm1 at q1 q2 q3
  have X1 := X.noted q2
  have hw : wpRun (Jvm.Op.multianewarray.sem index 2) (fun _ S _ => ∃ U, mn_J p l e R s g.method args below meth c locs cells slots T.heap cA comp N K (defaultValue ty) N U ∧ S = U.setTop { g with stack := .ref T.heap.size :: rest }) (fun _ _ _ => False) e (T.setTop g) := by
    unfold wpRun
    have hcold : ∀ (Q : Unit → Pre) (E : CtlPost), wp (Jvm.Op.multianewarray.sem index 2) Q E e false [] ((T.setVm vm1).setTop g) → wp (Jvm.Op.multianewarray.sem index 2) Q E e false [] (T.setTop g) := fun Q E h => by
      simp only [Jvm.Op.multianewarray.sem, wp_bind'] at h ⊢
      exact (Jvm.W.resolveClassAt_transfer (s := T.setTop g) (State.method?_setTop g X.here.top) q1 q3).mpr h
    exact hcold _ _ (mn_sem X1 q3 hstack h3 h4 i2 i3 hfit hn hn2 hN hK hb1 hb2 hb3 hcells hslots (fun U _ _ hJ => ⟨U, hJ, rfl⟩))
  have hrun := (wpRun_iff_run _ _ _ _ _).mp hw
  cases hr : (Jvm.Op.multianewarray.sem index 2).run e (T.setTop g) with
  | ctl x S as =>
    rw [hr] at hrun
    cases x <;> exact hrun.elim
  | ok a S as =>
    rw [hr] at hrun
    obtain ⟨U, hJ, hS⟩ := hrun
    refine ⟨cA, comp, U, h5, h1, ⟨k, h3, h4⟩, hJ, fun target hrest => ?_⟩
    refine Steps.instr (c := c) X.here ?_
    rw [hdg]
    show wpRun (p.tables.exec (.multianewarray index 2)) _ _ e (T.setTop g)
    rw [hexec]
    refine (wpRun_iff_run (Jvm.Op.multianewarray.sem index 2) _ _ _ _).mpr ?_
    rw [hr, hS]
    intro acts
    rw [afterInstr_ok]
    exact hrest
end MNB
