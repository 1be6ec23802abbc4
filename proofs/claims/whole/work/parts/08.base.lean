/-! the state of either side: its ints, its long, its rows of ints, its rows of longs -/
abbrev Sx : Type := (Nat → Int32) × Int64 × (Nat → Nat → Int32) × (Nat → Nat → Int64)
def sg (σ : Sx) (i : Nat) (v : Int32) : Sx := (upd σ.1 i v, σ.2)
def sl (σ : Sx) (v : Int64) : Sx := (σ.1, v, σ.2.2)
def sr (σ : Sx) (j : Nat) (f : Nat → Int32) : Sx := (σ.1, σ.2.1, va_up σ.2.2.1 j f, σ.2.2.2)
def sm (σ : Sx) (j : Nat) (f : Nat → Int64) : Sx := (σ.1, σ.2.1, σ.2.2.1, va_up σ.2.2.2 j f)
def inb (i : Int32) (n : Nat) : Bool := !(decide (i < 0)) && decide (i.toNatClampNeg < n)
theorem inb_vp {i : Int32} {n : Nat} (h : inb i n = true) : vp_in i n := by
  simp only [inb, Bool.and_eq_true, Bool.not_eq_true', decide_eq_false_iff_not, decide_eq_true_eq] at h
  intro q
  rcases q with q | q
  · exact h.1 q
  · omega
def ldA (Ln : Nat → Nat) (σ : Sx) (j : Nat) (i : Int32) : Option Int32 := if inb i (Ln j) = true then some (σ.2.2.1 j i.toNatClampNeg) else none
def stA (Ln : Nat → Nat) (σ : Sx) (j : Nat) (i x : Int32) : Option Sx := if inb i (Ln j) = true then some (sr σ j (upd (σ.2.2.1 j) i.toNatClampNeg x)) else none
def ldB (Ln : Nat → Nat) (σ : Sx) (j : Nat) (i : Int32) : Option Int64 := if inb i (Ln j) = true then some (σ.2.2.2 j i.toNatClampNeg) else none
def stB (Ln : Nat → Nat) (σ : Sx) (j : Nat) (i : Int32) (x : Int64) : Option Sx := if inb i (Ln j) = true then some (sm σ j (vp_updL (σ.2.2.2 j) i.toNatClampNeg x)) else none
def cpA (Ln : Nat → Nat) (σ : Sx) (i j : Nat) (sp dp n : Int32) : Option Sx := if (i < 47 ∧ j < 47) ∧ (¬ sp < 0 ∧ ¬ dp < 0 ∧ ¬ n < 0) ∧ sp.toNatClampNeg + n.toNatClampNeg ≤ Ln i ∧ dp.toNatClampNeg + n.toNatClampNeg ≤ Ln j then some (sr σ j (va_cpy (σ.2.2.1 i) (σ.2.2.1 j) sp.toNatClampNeg dp.toNatClampNeg n.toNatClampNeg)) else none
def dvI (x y : Int32) : Option Int32 := if y = 0 then none else some (x / y)
def dvL (x y : Int64) : Option Int64 := if y = 0 then none else some (x / y)
def rmI (x y : Int32) : Option Int32 := if y = 0 then none else some (x - x / y * y)
def rmL (x y : Int64) : Option Int64 := if y = 0 then none else some (x - x / y * y)
def rtZ (x : Int32) : Option Int32 := if x = 0 ∨ x = 1 then some x else none
def ixq (i : Int32) (n : Nat) : Option Nat := if inb i n = true then some i.toNatClampNeg else none
def FU : Nat := 100000
theorem bd {α β : Type} {x : Option α} {f : α → Option β} {b : β} (h : x.bind f = some b) : ∃ a, x = some a ∧ f a = some b := by
  cases x with
  | none => cases h
  | some a => exact ⟨a, rfl, h⟩
def cLn : Nat → Nat := fun j => ([5, 5, 5, 8, 8, 8, 2, 2, 5, 5, 5, 8, 8, 8, 2, 2, 200, 5, 5, 6, 6, 6, 6, 4, 4, 14, 14, 14, 14, 14, 14, 14, 14, 14, 14, 14, 14, 32, 32, 32, 32, 32, 5, 5, 5, 5, 5] : List Nat).getD j 0
def mLn : Nat → Nat := fun j => ([200, 30, 48, 8, 14, 14, 28, 140, 24, 4, 4, 16] : List Nat).getD j 0
def mLb : Nat → Nat := fun j => ([101, 101] : List Nat).getD j 0
theorem cLn_lt {j : Nat} {i : Int32} (h : inb i (cLn j) = true) : j < 47 := by
  rcases Nat.lt_or_ge j 47 with q | q
  · exact q
  · exfalso
    have e : cLn j = 0 := by
      unfold cLn
      rw [List.getD_eq_getElem?_getD, List.getElem?_eq_none (by simpa using q)]
      rfl
    rw [e] at h
    simp [inb] at h
theorem mLn_lt {j : Nat} {i : Int32} (h : inb i (mLn j) = true) : j < 12 := by
  rcases Nat.lt_or_ge j 12 with q | q
  · exact q
  · exfalso
    have e : mLn j = 0 := by
      unfold mLn
      rw [List.getD_eq_getElem?_getD, List.getElem?_eq_none (by simpa using q)]
      rfl
    rw [e] at h
    simp [inb] at h
theorem mLb_lt {j : Nat} {i : Int32} (h : inb i (mLb j) = true) : j < 2 := by
  rcases Nat.lt_or_ge j 2 with q | q
  · exact q
  · exfalso
    have e : mLb j = 0 := by
      unfold mLb
      rw [List.getD_eq_getElem?_getD, List.getElem?_eq_none (by simpa using q)]
      rfl
    rw [e] at h
    simp [inb] at h
def cObj (cy : Nat → ClassId) (ad : Nat → Nat) (σ : Sx) : va_W := [(ad 0, .inr (11, [.ref (ad 1), .ref (ad 2), .ref (ad 3), .ref (ad 4), .ref (ad 5), .ref (ad 6), .ref (ad 13), .ref (ad 14), .ref (ad 18), .ref (ad 38), .ref (ad 39), .ref (ad 40), .ref (ad 41), .int (σ.1 23), .long σ.2.1])),
  (ad 1, .inr (10, [.int (σ.1 0), .int (σ.1 1), .int (σ.1 2), .int (σ.1 3), .ref (ad 19), .ref (ad 20), .ref (ad 21), .ref (ad 22), .ref (ad 23), .ref (ad 24), .ref (ad 25), .ref (ad 26)])),
  (ad 2, .inr (10, [.int (σ.1 4), .int (σ.1 5), .int (σ.1 6), .int (σ.1 7), .ref (ad 27), .ref (ad 28), .ref (ad 29), .ref (ad 30), .ref (ad 31), .ref (ad 32), .ref (ad 33), .ref (ad 34)])),
  (ad 3, .inr (7, [.ref (ad 35), .int (σ.1 8), .int (σ.1 9), .int (σ.1 10), .int (σ.1 11), .int (σ.1 12), .int (σ.1 13)])),
  (ad 4, .inr (4, [.int (σ.1 14), .int (σ.1 15), .int (σ.1 16), .int (σ.1 17), .ref (ad 36), .ref (ad 37)])),
  (ad 5, .inr (2, [.ref (ad 15), .int (σ.1 18), .int (σ.1 19)])),
  (ad 6, .inr (5, [.ref (ad 42), .ref (ad 43), .ref (ad 16), .ref (ad 17), .int (σ.1 20), .int (σ.1 21), .int (σ.1 22)])),
  (ad 7, .inr (9, [])),
  (ad 8, .inr (0, [])),
  (ad 9, .inr (3, [])),
  (ad 10, .inr (1, [])),
  (ad 11, .inr (6, [])),
  (ad 12, .inr (8, [])),
  (ad 13, .inl (cy 3, 6, .inr (.inr (.inr (.inr (fun i => some (ad (7 + i)))))))),
  (ad 14, .inl (cy 4, 2, .inr (.inr (.inr (.inr (fun i => some (ad (19 + (35 + i))))))))),
  (ad 15, .inl (cy 4, 10, .inr (.inr (.inr (.inr (fun i => some (ad (19 + (25 + i))))))))),
  (ad 16, .inl (cy 4, 5, .inr (.inr (.inr (.inr (fun i => some (ad (19 + (37 + i))))))))),
  (ad 17, .inl (cy 4, 5, .inr (.inr (.inr (.inr (fun i => some (ad (19 + (42 + i))))))))),
  (ad 18, .inl (cy 2, 2, .inl (σ.2.2.1 47)))]
def cArr (cy : Nat → ClassId) (ad : Nat → Nat) (σ : Sx) : va_W := (List.range 47).map (fun j => (ad (19 + j), .inl (cy 0, cLn j, .inl (σ.2.2.1 j))))
def mObj (ad : Nat → Nat) (τ : Sx) : va_W := [(ad 66, .inr (12, [.int (τ.1 0), .long τ.2.1, .ref (ad 67), .int (τ.1 1), .int (τ.1 2), .int (τ.1 3), .int (τ.1 4), .int (τ.1 5), .int (τ.1 6), .ref (ad 68), .ref (ad 69), .ref (ad 70), .int (τ.1 7), .int (τ.1 8), .int (τ.1 9), .int (τ.1 10), .int (τ.1 11), .int (τ.1 12), .int (τ.1 13), .int (τ.1 14), .ref (ad 71), .ref (ad 72), .ref (ad 73), .ref (ad 79), .ref (ad 74), .int (τ.1 15), .ref (ad 75), .int (τ.1 16), .ref (ad 76), .ref (ad 77), .ref (ad 80), .ref (ad 81), .ref (ad 78), .int (τ.1 17), .int (τ.1 18), .int (τ.1 19), .int (τ.1 20)]))]
def mArr (cy : Nat → ClassId) (ad : Nat → Nat) (τ : Sx) : va_W := (List.range 12).map (fun j => (ad (67 + j), .inl (cy 0, mLn j, .inl (τ.2.2.1 j))))
def mZar (cy : Nat → ClassId) (ad : Nat → Nat) (τ : Sx) : va_W := [(ad 79, .inl (cy 2, 2, .inl (τ.2.2.1 12)))]
def mBar (cy : Nat → ClassId) (ad : Nat → Nat) (τ : Sx) : va_W := (List.range 2).map (fun j => (ad (80 + j), .inl (cy 1, mLb j, .inr (.inl (τ.2.2.2 j)))))
def gW (cy : Nat → ClassId) (ad : Nat → Nat) (σ τ : Sx) : va_W := cObj cy ad σ ++ (cArr cy ad σ ++ (mObj ad τ ++ (mArr cy ad τ ++ (mZar cy ad τ ++ mBar cy ad τ))))
abbrev tyL (cy : Nat → ClassId) : List (ClassId × FieldType) := [(cy 0, .int), (cy 1, .long), (cy 2, .boolean), (cy 3, .object "OneSocket$Telephone"), (cy 4, .array .int)]
theorem rg_get {α : Type} (f : Nat → α) {n j : Nat} (h : j < n) : ((List.range n).map f)[j]? = some (f j) := by
  rw [List.getElem?_map, List.getElem?_range h]; rfl
theorem rg_set {α : Type} (f f' : Nat → α) {n j : Nat} (hne : ∀ i, i ≠ j → f' i = f i) : ((List.range n).map f).set j (f' j) = (List.range n).map f' := by
  apply List.ext_getElem?
  intro i
  rw [List.getElem?_set]
  by_cases e : j = i
  · subst e
    by_cases hl : j < n
    · simp [hl]
    · simp [hl]
  · rw [if_neg e, List.getElem?_map, List.getElem?_map]
    by_cases hl : i < n
    · rw [List.getElem?_range hl]; simp [hne i (fun q => e q.symm)]
    · rw [List.getElem?_eq_none (by simpa using hl)]; rfl
theorem ap_get {α : Type} {a b : List α} {n : Nat} (ha : a.length = n) (j : Nat) : (a ++ b)[n + j]? = b[j]? := by
  rw [List.getElem?_append_right (by omega), ha]; congr 1; omega
theorem ap_set {α : Type} {a b : List α} {n : Nat} (ha : a.length = n) (j : Nat) (x : α) : (a ++ b).set (n + j) x = a ++ b.set j x := by
  rw [List.set_append_right _ _ (by omega), ha]; congr 2; omega
theorem apl_get {α : Type} {a b : List α} {j : Nat} {x : α} (h : a[j]? = some x) : (a ++ b)[j]? = some x := by
  rw [List.getElem?_append_left ((List.getElem?_eq_some_iff.mp h).1)]; exact h
theorem apl_set {α : Type} {a b : List α} {j n : Nat} (ha : a.length = n) (h : j < n) (x : α) : (a ++ b).set j x = a.set j x ++ b := List.set_append_left _ _ (by omega)
section GW
variable {cy : Nat → ClassId} {ad : Nat → Nat} {σ τ : Sx}
theorem len_cObj : (cObj cy ad σ).length = 19 := rfl
theorem len_cArr : (cArr cy ad σ).length = 47 := by simp [cArr]
theorem len_mObj : (mObj ad τ).length = 1 := rfl
theorem len_mArr : (mArr cy ad τ).length = 12 := by simp [mArr]
theorem len_mZar : (mZar cy ad τ).length = 1 := rfl
theorem gW_o {q : Nat} {x : Nat × va_E} (h : (cObj cy ad σ)[q]? = some x) : (gW cy ad σ τ)[q]? = some x := apl_get h
theorem gW_ca {j : Nat} (h : j < 47) : (gW cy ad σ τ)[19 + j]? = some (ad (19 + j), .inl (cy 0, cLn j, .inl (σ.2.2.1 j))) := by
  unfold gW
  rw [ap_get len_cObj]
  exact apl_get (rg_get _ h)
theorem gW_mo : (gW cy ad σ τ)[66]? = (mObj ad τ)[0]? := by
  unfold gW
  rw [show (66 : Nat) = 19 + (47 + 0) from rfl, ap_get len_cObj, ap_get len_cArr]
  rfl
theorem gW_ma {j : Nat} (h : j < 12) : (gW cy ad σ τ)[67 + j]? = some (ad (67 + j), .inl (cy 0, mLn j, .inl (τ.2.2.1 j))) := by
  unfold gW
  rw [show 67 + j = 19 + (47 + (1 + j)) by omega, ap_get len_cObj, ap_get len_cArr, ap_get len_mObj]
  exact apl_get (by rw [show 19 + (47 + (1 + j)) = 67 + j by omega]; exact rg_get _ h)
theorem gW_mz : (gW cy ad σ τ)[79]? = some (ad 79, .inl (cy 2, 2, .inl (τ.2.2.1 12))) := by
  unfold gW
  rw [show (79 : Nat) = 19 + (47 + (1 + (12 + 0))) from rfl, ap_get len_cObj, ap_get len_cArr, ap_get len_mObj, ap_get len_mArr]
  rfl
theorem gW_mb {j : Nat} (h : j < 2) : (gW cy ad σ τ)[80 + j]? = some (ad (80 + j), .inl (cy 1, mLb j, .inr (.inl (τ.2.2.2 j)))) := by
  unfold gW
  rw [show 80 + j = 19 + (47 + (1 + (12 + (1 + j)))) by omega, ap_get len_cObj, ap_get len_cArr, ap_get len_mObj, ap_get len_mArr, ap_get len_mZar]
  rw [show 19 + (47 + (1 + (12 + (1 + j)))) = 80 + j by omega]
  exact rg_get _ h
theorem gS_o {σ' : Sx} {q : Nat} {x : Nat × va_E} (hq : q < 19) (h : (cObj cy ad σ).set q x = cObj cy ad σ') (h2 : σ'.2.2.1 = σ.2.2.1 ∨ (∀ j, j < 47 → σ'.2.2.1 j = σ.2.2.1 j)) : (gW cy ad σ τ).set q x = gW cy ad σ' τ := by
  have e : cArr cy ad σ' = cArr cy ad σ := by
    unfold cArr
    apply List.map_congr_left
    intro j hj
    have hj := List.mem_range.mp hj
    rcases h2 with h2 | h2
    · rw [h2]
    · rw [h2 j hj]
  unfold gW
  rw [apl_set len_cObj hq, h, e]
theorem gS_ca {j : Nat} (f : Nat → Int32) (hj : j < 47) : (gW cy ad σ τ).set (19 + j) (ad (19 + j), .inl (cy 0, cLn j, .inl f)) = gW cy ad (sr σ j f) τ := by
  unfold gW
  rw [ap_set len_cObj, apl_set len_cArr hj]
  have e1 : cObj cy ad (sr σ j f) = cObj cy ad σ := by
    have : (sr σ j f).2.2.1 47 = σ.2.2.1 47 := if_neg (by omega)
    unfold cObj
    rw [this]
    rfl
  have e2 : (cArr cy ad σ).set j (ad (19 + j), .inl (cy 0, cLn j, .inl f)) = cArr cy ad (sr σ j f) := by
    have := rg_set (fun i => (ad (19 + i), (.inl (cy 0, cLn i, .inl (σ.2.2.1 i)) : va_E))) (fun i => (ad (19 + i), (.inl (cy 0, cLn i, .inl ((sr σ j f).2.2.1 i)) : va_E))) (n := 47) (j := j) (fun i hi => by
      show (ad (19 + i), (Sum.inl (cy 0, cLn i, Sum.inl (va_up σ.2.2.1 j f i)) : va_E)) = _
      rw [va_up_ne _ _ hi])
    have e3 : (sr σ j f).2.2.1 j = f := if_pos rfl
    rw [e3] at this
    exact this
  rw [e1, e2]
theorem gS_cz (f : Nat → Int32) : (gW cy ad σ τ).set 18 (ad 18, .inl (cy 2, 2, .inl f)) = gW cy ad (sr σ 47 f) τ := by
  refine gS_o (by decide) ?_ (Or.inr (fun j hj => va_up_ne _ _ (by omega)))
  have e3 : (sr σ 47 f).2.2.1 47 = f := by simp [sr, va_up]
  unfold cObj
  rw [e3]
  rfl
theorem gS_mo {τ' : Sx} {x : Nat × va_E} (h : (mObj ad τ).set 0 x = mObj ad τ') (h2 : τ'.2.2 = τ.2.2) : (gW cy ad σ τ).set 66 x = gW cy ad σ τ' := by
  unfold gW
  rw [show (66 : Nat) = 19 + (47 + 0) from rfl, ap_set len_cObj, ap_set len_cArr, apl_set len_mObj (by decide), h]
  unfold mArr mZar mBar
  rw [h2]
theorem gS_ma {j : Nat} (f : Nat → Int32) (hj : j < 12) : (gW cy ad σ τ).set (67 + j) (ad (67 + j), .inl (cy 0, mLn j, .inl f)) = gW cy ad σ (sr τ j f) := by
  unfold gW
  rw [show 67 + j = 19 + (47 + (1 + j)) by omega, ap_set len_cObj, ap_set len_cArr, ap_set len_mObj, apl_set len_mArr hj]
  rw [show 19 + (47 + (1 + j)) = 67 + j by omega]
  have e2 : (mArr cy ad τ).set j (ad (67 + j), .inl (cy 0, mLn j, .inl f)) = mArr cy ad (sr τ j f) := by
    have := rg_set (fun i => (ad (67 + i), (.inl (cy 0, mLn i, .inl (τ.2.2.1 i)) : va_E))) (fun i => (ad (67 + i), (.inl (cy 0, mLn i, .inl ((sr τ j f).2.2.1 i)) : va_E))) (n := 12) (j := j) (fun i hi => by
      show (ad (67 + i), (Sum.inl (cy 0, mLn i, Sum.inl (va_up τ.2.2.1 j f i)) : va_E)) = _
      rw [va_up_ne _ _ hi])
    have e3 : (sr τ j f).2.2.1 j = f := if_pos rfl
    rw [e3] at this
    exact this
  have e4 : mZar cy ad (sr τ j f) = mZar cy ad τ := by
    have : (sr τ j f).2.2.1 12 = τ.2.2.1 12 := if_neg (by omega)
    unfold mZar
    rw [this]
  have e5 : mBar cy ad (sr τ j f) = mBar cy ad τ := rfl
  have e6 : mObj ad (sr τ j f) = mObj ad τ := rfl
  rw [e2, e4, e5, e6]
theorem gS_mz (f : Nat → Int32) : (gW cy ad σ τ).set 79 (ad 79, .inl (cy 2, 2, .inl f)) = gW cy ad σ (sr τ 12 f) := by
  unfold gW
  rw [show (79 : Nat) = 19 + (47 + (1 + (12 + 0))) from rfl, ap_set len_cObj, ap_set len_cArr, ap_set len_mObj, ap_set len_mArr, apl_set len_mZar (by decide)]
  have e2 : mArr cy ad (sr τ 12 f) = mArr cy ad τ := by
    unfold mArr
    apply List.map_congr_left
    intro j hj
    have hj := List.mem_range.mp hj
    show (ad (67 + j), (Sum.inl (cy 0, mLn j, Sum.inl (va_up τ.2.2.1 12 f j)) : va_E)) = _
    rw [va_up_ne _ _ (by omega)]
  have e3 : (sr τ 12 f).2.2.1 12 = f := by simp [sr, va_up]
  have e4 : mZar cy ad (sr τ 12 f) = (mZar cy ad τ).set 0 (ad 79, .inl (cy 2, 2, .inl f)) := by
    unfold mZar
    rw [e3]
    rfl
  rw [e2, e4]
  rfl
theorem gS_mb {j : Nat} (f : Nat → Int64) (hj : j < 2) : (gW cy ad σ τ).set (80 + j) (ad (80 + j), .inl (cy 1, mLb j, .inr (.inl f))) = gW cy ad σ (sm τ j f) := by
  unfold gW
  rw [show 80 + j = 19 + (47 + (1 + (12 + (1 + j)))) by omega, ap_set len_cObj, ap_set len_cArr, ap_set len_mObj, ap_set len_mArr, ap_set len_mZar]
  rw [show 19 + (47 + (1 + (12 + (1 + j)))) = 80 + j by omega]
  have e2 : (mBar cy ad τ).set j (ad (80 + j), .inl (cy 1, mLb j, .inr (.inl f))) = mBar cy ad (sm τ j f) := by
    have := rg_set (fun i => (ad (80 + i), (.inl (cy 1, mLb i, .inr (.inl (τ.2.2.2 i))) : va_E))) (fun i => (ad (80 + i), (.inl (cy 1, mLb i, .inr (.inl ((sm τ j f).2.2.2 i))) : va_E))) (n := 2) (j := j) (fun i hi => by
      show (ad (80 + i), (Sum.inl (cy 1, mLb i, Sum.inr (Sum.inl (va_up τ.2.2.2 j f i))) : va_E)) = _
      rw [va_up_ne _ _ hi])
    have e3 : (sm τ j f).2.2.2 j = f := if_pos rfl
    rw [e3] at this
    exact this
  rw [e2]
  rfl
theorem gW_ad : (gW cy ad σ τ).map (fun x => x.1) = (List.range 82).map ad := by
  unfold gW cArr mArr mBar
  simp only [List.map_append, List.map_map]
  rfl
def gInj (ad : Nat → Nat) : Prop := ∀ i j : Nat, i < 82 → j < 82 → ad i = ad j → i = j
def gA (ad : Nat → Nat) : Nat → Prop := fun q => ∃ i, i < 82 ∧ q = ad i
theorem gW_at {k : Nat} {x : Nat × va_E} (h : (gW cy ad σ τ)[k]? = some x) : k < 82 ∧ x.1 = ad k := by
  have h1 : ((gW cy ad σ τ).map (fun x => x.1))[k]? = some x.1 := by rw [List.getElem?_map, h]; rfl
  rw [gW_ad] at h1
  have hl : k < 82 := by
    have := (List.getElem?_eq_some_iff.mp h1).1
    simpa using this
  rw [rg_get _ hl] at h1
  exact ⟨hl, (Option.some.inj h1).symm⟩
theorem gD (hI : gInj ad) : va_D (gA ad) (gW cy ad σ τ) := by
  refine ⟨fun i j x y hx hy e => ?_, fun k x hx => ?_⟩
  · obtain ⟨l1, e1⟩ := gW_at hx
    obtain ⟨l2, e2⟩ := gW_at hy
    exact hI i j l1 l2 (by rw [← e1, ← e2, e])
  · obtain ⟨l1, e1⟩ := gW_at hx
    exact ⟨k, l1, e1⟩
end GW
/-! the tables' words, at every state that is as warm -/
def mvW : Cond → Bool
  | .fieldLinkNest .. => true
  | .methodLinkNest .. => true
  | w => goodWord w
def TB (U : State) : Prop := ∀ w ∈ lw_tbl, mvW w = true → ∀ a : Array Value, w.before a U = true
theorem mvW_moved {w : Cond} (h : mvW w = true) {s U : State} (hW : s.WarmedH U.vm) (hb : ∀ a : Array Value, w.before a s = true) (a : Array Value) : w.before a U = true := by
  by_cases hg : goodWord w = true
  · exact word_at hW (good_of_word hg) (hb a)
  · cases w <;> first | exact absurd h hg | exact va_Nw.use rfl (va_Nw.warmF hW (va_Nw.of (A := a) rfl (hb a))) | exact va_Nw.use rfl (va_Nw.warmM hW (va_Nw.of (A := a) rfl (hb a)))
theorem TB.moved {s U : State} (h : TB s) (hW : s.WarmedH U.vm) : TB U := fun w hw hm a => mvW_moved hm hW (h w hw hm) a
theorem TB.same {s U : State} (h : TB s) (hv : U.vm = s.vm) : TB U := h.moved (by rw [hv]; exact State.WarmedH.refl s)
/-- what holds of the heap and of the tables -/
def gB (D : va_G) (cy : Nat → ClassId) (ad : Nat → Nat) (σ τ : Sx) (U : State) : Prop := va_P D vwCl (gW cy ad σ τ) U.heap ∧ va_K D vwCl (tyL cy) U ∧ TB U
theorem gB_blind {D : va_G} {cy : Nat → ClassId} {ad : Nat → Nat} {σ τ : Sx} {av : List Value} : FrameBlind (va_Pc av (gB D cy ad σ τ)) := by
  intro a U g mk h
  obtain ⟨h1, h2, h3, h4⟩ := h
  exact ⟨h1, h2, va_K.moved (u := U) (U := U.calling g mk a) (Vm.Alike.refl U.vm) h3, h4.same rfl⟩
/-- what a method's walk stands on -/
def Zc (p : Program) (s : State) (m : MethodId) (c : Code) (cc : ByteArray) (nL : Nat) (own : String) (D : va_G) (cy : Nat → ClassId) (ad : Nat → Nat) : Prop :=
  p.tables.exec = Jvm.exec ∧ c.code = cc ∧ c.maxLocals = nL ∧ s.vm.findClass own = some m.cls ∧ TB s ∧ va_K D vwCl (tyL cy) s ∧ gInj ad
/-! ends -/
def cQi (D : va_G) (cy : Nat → ClassId) (ad : Nat → Nat) (τ : Sx) (out : Int32 × Sx) : Array Value → State → Outcome → State → Prop := va_Qi (fun r u => (r, u) = out) (fun u t => va_P D vwCl (gW cy ad u τ) t.heap) (gA ad)
def cQl (D : va_G) (cy : Nat → ClassId) (ad : Nat → Nat) (τ : Sx) (out : Int64 × Sx) : Array Value → State → Outcome → State → Prop := va_Ql (fun r u => (r, u) = out) (fun u t => va_P D vwCl (gW cy ad u τ) t.heap) (gA ad)
def cQv (D : va_G) (cy : Nat → ClassId) (ad : Nat → Nat) (τ : Sx) (out : Sx) : Array Value → State → Outcome → State → Prop := va_Qv (fun u => u = out) (fun u t => va_P D vwCl (gW cy ad u τ) t.heap) (gA ad)
def mQi (D : va_G) (cy : Nat → ClassId) (ad : Nat → Nat) (σ : Sx) (out : Int32 × Sx) : Array Value → State → Outcome → State → Prop := va_Qi (fun r u => (r, u) = out) (fun u t => va_P D vwCl (gW cy ad σ u) t.heap) (gA ad)
def mQl (D : va_G) (cy : Nat → ClassId) (ad : Nat → Nat) (σ : Sx) (out : Int64 × Sx) : Array Value → State → Outcome → State → Prop := va_Ql (fun r u => (r, u) = out) (fun u t => va_P D vwCl (gW cy ad σ u) t.heap) (gA ad)
def mQv (D : va_G) (cy : Nat → ClassId) (ad : Nat → Nat) (σ : Sx) (out : Sx) : Array Value → State → Outcome → State → Prop := va_Qv (fun u => u = out) (fun u t => va_P D vwCl (gW cy ad σ u) t.heap) (gA ad)
def rQi (out : Int32) : Array Value → State → Outcome → State → Prop := vp_Si (fun r => r = out)
def rQl (out : Int64) : Array Value → State → Outcome → State → Prop := vp_Sl (fun r => r = out)
def noA : Nat → Prop := fun _ => False
section ZR
variable {p : Program} {l : Launch} {e : Env} {R : Room} {s : State} {m : MethodId} {args : Array Value} {below : List Frame} {meth : Method} {c : Code} {H : Heap} {locs : List Loc} {cells slots : Nat} {Q : State → Prop}
variable {cc : ByteArray} {pc : Nat} {ls : Array Slot} {rest : List Value} {D : va_G} {cy : Nat → ClassId} {ad : Nat → Nat} {σ τ : Sx} {nL : Nat} {own : String}
theorem zstart {y : MethodName} {maxL : Nat} {ret : Option FieldType} {rm : Room} {Qc : Array Value → State → Outcome → State → Prop} {free : Addr → Prop} (avs : List Value) (hy : plainName y.cls = true) (hown : y.cls = own) (hI : gInj ad) (hlen : (lg_sl avs).length ≤ maxL)
    (body : ∀ (p : Program) (e : Env) (s : State) (m : MethodId) (below : List Frame) (meth : Method) (c : Code), Zc p s m c cc maxL own D cy ad → meth.sig.returnType = ret → meth.locks = false → va_P D vwCl (gW cy ad σ τ) s.heap → ∀ ls : Array Slot, lv_has ls maxL (lv_args 0 avs) → W p l e rm s m avs.toArray below meth c s.heap [] 0 0 (MQ below Qc avs.toArray s 0 0 free) (F0 m 0 ls [])) :
    Met l y [Cond.code y cc maxL ret] rm (va_Pc avs (gB D cy ad σ τ)) Qc 0 0 free := by
  refine Met.ofW (cc := cc) (maxL := maxL) (ret := ret) hy rfl ?_
  intro p e s m args below meth c s₁ B hml hv
  obtain ⟨rfl, hP, hK, hT⟩ := hv
  have hown2 : s.vm.findClass own = some m.cls := by rw [← hown]; exact findClass_of_methodNamed B.named
  have hl := lv_entry avs (n := maxL) hlen
  rw [lg_entry_eq]
  exact body p e s m below meth c ⟨B.exec, B.bytes, hml, hown2, hT, hK, hI⟩ B.returns B.notSynchronized hP _ hl
theorem Zc.x (Z : Zc p s m c cc nL own D cy ad) : p.tables.exec = Jvm.exec := Z.1
theorem Zc.b (Z : Zc p s m c cc nL own D cy ad) : c.code = cc := Z.2.1
theorem Zc.ml (Z : Zc p s m c cc nL own D cy ad) : c.maxLocals = nL := Z.2.2.1
theorem Zc.o (Z : Zc p s m c cc nL own D cy ad) : s.vm.findClass own = some m.cls := Z.2.2.2.1
theorem Zc.t (Z : Zc p s m c cc nL own D cy ad) : TB s := Z.2.2.2.2.1
theorem Zc.k (Z : Zc p s m c cc nL own D cy ad) : va_K D vwCl (tyL cy) s := Z.2.2.2.2.2.1
theorem Zc.i (Z : Zc p s m c cc nL own D cy ad) : gInj ad := Z.2.2.2.2.2.2
theorem u_ws_good {C : String} {T : u_T} {N : Nat} : ∀ w ∈ u_ws C T N, mvW w = true := by
  intro w hw
  obtain ⟨k, -, rfl⟩ := List.mem_map.mp hw
  unfold u_lay
  split <;> rfl
theorem TB.u {C : String} {T : u_T} {N : Nat} (h : TB s) (hin : ∀ w ∈ u_ws C T N, w ∈ lw_tbl) (a : Array Value) : ∀ w ∈ u_ws C T N, w.before a s = true := fun w hw => h w (hin w hw) (u_ws_good w hw) a
theorem zget (Z : Zc p s m c cc nL own D cy ad) (hP : va_P D vwCl (gW cy ad σ τ) H) (q0 : Nat) {ci : Nat} {fs : List Value} {a : Nat} (he : (gW cy ad σ τ)[q0]? = some (a, .inr (ci, fs))) {C : String} {T : u_T} {N : Nat} (hc : vwCl[ci]? = some (C, T, N)) (hin : ∀ w ∈ u_ws C T N, w ∈ lw_tbl) (k : Nat) (hk : k < N) (hT : (T k).1 = C) {index : Nat} (hw : Cond.fieldLink own index C (T k).2.1 (T k).2.2.1 ∈ lw_tbl) {v : Value} (hv : fs[k]? = some v) (hdg : decode cc pc = .ok (.getfield index, 3))
    (kk : W p l e R s m args below meth c H locs cells slots Q (F0 m (pc + 3) ls (v :: rest))) : W p l e R s m args below meth c H locs cells slots Q (F0 m pc ls (.ref a :: rest)) :=
  va_get (D := D) (ci := ci) (C := C) (T := T) (N := N) Z.x Z.b (Z.t.u hin args) (fun _ h => h) Z.o Z.k hP q0 he hc k hk (Z.t _ hw rfl args) (by rw [hT]; exact fun _ h => h) hv hdg kk
theorem zgetN (Z : Zc p s m c cc nL own D cy ad) (hP : va_P D vwCl (gW cy ad σ τ) H) (q0 : Nat) {ci : Nat} {fs : List Value} {a : Nat} (he : (gW cy ad σ τ)[q0]? = some (a, .inr (ci, fs))) {C : String} {T : u_T} {N : Nat} (hc : vwCl[ci]? = some (C, T, N)) (hin : ∀ w ∈ u_ws C T N, w ∈ lw_tbl) (k : Nat) (hk : k < N) (hT : (T k).1 = C) {index : Nat} {host : String} (hw : Cond.fieldLinkNest own index C (T k).2.1 (T k).2.2.1 host ∈ lw_tbl) {v : Value} (hv : fs[k]? = some v) (hdg : decode cc pc = .ok (.getfield index, 3))
    (kk : W p l e R s m args below meth c H locs cells slots Q (F0 m (pc + 3) ls (v :: rest))) : W p l e R s m args below meth c H locs cells slots Q (F0 m pc ls (.ref a :: rest)) :=
  va_getN (D := D) (ci := ci) (C := C) (T := T) (N := N) Z.x Z.b (Z.t.u hin args) (fun _ h => h) Z.o Z.k hP q0 he hc k hk (Z.t _ hw rfl args) (by rw [hT]; exact fun _ h => h) hv hdg kk
theorem zput (Z : Zc p s m c cc nL own D cy ad) (hP : va_P D vwCl (gW cy ad σ τ) H) (hS : va_S (gA ad) s.heap H locs) (q0 : Nat) {ci : Nat} {fs : List Value} {a : Nat} (he : (gW cy ad σ τ)[q0]? = some (a, .inr (ci, fs))) {C : String} {T : u_T} {N : Nat} (hc : vwCl[ci]? = some (C, T, N)) (hin : ∀ w ∈ u_ws C T N, w ∈ lw_tbl) {ty0 : Nat → FieldType} (hty : ∀ k, k < N → parseFieldDescriptor (T k).2.2.1 = some (ty0 k)) (hnm : ∀ a, a < N → ∀ b, b < N → a ≠ b → (T a).2.1 ≠ (T b).2.1) (k : Nat) (hk : k < N) (hT : (T k).1 = C) (hfin : (T k).2.2.2 = false) {index : Nat} (hw : Cond.fieldLink own index C (T k).2.1 (T k).2.2.1 ∈ lw_tbl) {v : Value} (hn : narrow (ty0 k) v = v) (hfit : fits (ty0 k) v = true) (hlf : k < fs.length) {σ' τ' : Sx} (hset : (gW cy ad σ τ).set q0 (a, .inr (ci, fs.set k v)) = gW cy ad σ' τ') (hdg : decode cc pc = .ok (.putfield index, 3))
    (kk : ∀ (H1 : Heap) (locs1 : List Loc), va_P D vwCl (gW cy ad σ' τ') H1 → va_S (gA ad) s.heap H1 locs1 → W p l e R s m args below meth c H1 locs1 cells slots Q (F0 m (pc + 3) ls rest)) : W p l e R s m args below meth c H locs cells slots Q (F0 m pc ls (v :: .ref a :: rest)) :=
  va_put (D := D) (ci := ci) (C := C) (T := T) (N := N) Z.x Z.b (Z.t.u hin args) (fun _ h => h) ty0 hty hnm Z.o Z.k hP (gD Z.i) hS q0 he hc k hk (Z.t _ hw rfl args) (by rw [hT]; exact fun _ h => h) hfin (hty k hk) hn hfit hlf hdg (fun H1 locs1 h1 _ h3 => kk H1 locs1 (hset ▸ h1) h3)
theorem zputN (Z : Zc p s m c cc nL own D cy ad) (hP : va_P D vwCl (gW cy ad σ τ) H) (hS : va_S (gA ad) s.heap H locs) (q0 : Nat) {ci : Nat} {fs : List Value} {a : Nat} (he : (gW cy ad σ τ)[q0]? = some (a, .inr (ci, fs))) {C : String} {T : u_T} {N : Nat} (hc : vwCl[ci]? = some (C, T, N)) (hin : ∀ w ∈ u_ws C T N, w ∈ lw_tbl) {ty0 : Nat → FieldType} (hty : ∀ k, k < N → parseFieldDescriptor (T k).2.2.1 = some (ty0 k)) (hnm : ∀ a, a < N → ∀ b, b < N → a ≠ b → (T a).2.1 ≠ (T b).2.1) (k : Nat) (hk : k < N) (hT : (T k).1 = C) (hfin : (T k).2.2.2 = false) {index : Nat} {host : String} (hw : Cond.fieldLinkNest own index C (T k).2.1 (T k).2.2.1 host ∈ lw_tbl) {v : Value} (hn : narrow (ty0 k) v = v) (hfit : fits (ty0 k) v = true) (hlf : k < fs.length) {σ' τ' : Sx} (hset : (gW cy ad σ τ).set q0 (a, .inr (ci, fs.set k v)) = gW cy ad σ' τ') (hdg : decode cc pc = .ok (.putfield index, 3))
    (kk : ∀ (H1 : Heap) (locs1 : List Loc), va_P D vwCl (gW cy ad σ' τ') H1 → va_S (gA ad) s.heap H1 locs1 → W p l e R s m args below meth c H1 locs1 cells slots Q (F0 m (pc + 3) ls rest)) : W p l e R s m args below meth c H locs cells slots Q (F0 m pc ls (v :: .ref a :: rest)) :=
  va_putN (D := D) (ci := ci) (C := C) (T := T) (N := N) Z.x Z.b (Z.t.u hin args) (fun _ h => h) ty0 hty hnm Z.o Z.k hP (gD Z.i) hS q0 he hc k hk (Z.t _ hw rfl args) (by rw [hT]; exact fun _ h => h) hfin (hty k hk) hn hfit hlf hdg (fun H1 locs1 h1 _ h3 => kk H1 locs1 (hset ▸ h1) h3)
/-! arrays -/
theorem zc_ld (Z : Zc p s m c cc nL own D cy ad) (hP : va_P D vwCl (gW cy ad σ τ) H) {j : Nat} {i v : Int32} (hv : ldA cLn σ j i = some v) (hdg : decode cc pc = .ok (.iaload, 1))
    (kk : W p l e R s m args below meth c H locs cells slots Q (F0 m (pc + 1) ls (.int v :: rest))) : W p l e R s m args below meth c H locs cells slots Q (F0 m pc ls (.int i :: .ref (ad (19 + j)) :: rest)) := by
  unfold ldA at hv
  split at hv
  · next h =>
    cases hv
    exact va_iald Z.x Z.b Z.k hP (19 + j) 0 (gW_ca (cLn_lt h)) rfl (inb_vp h) hdg kk
  · cases hv
theorem zm_ld (Z : Zc p s m c cc nL own D cy ad) (hP : va_P D vwCl (gW cy ad σ τ) H) {j : Nat} {i v : Int32} (hv : ldA mLn τ j i = some v) (hdg : decode cc pc = .ok (.iaload, 1))
    (kk : W p l e R s m args below meth c H locs cells slots Q (F0 m (pc + 1) ls (.int v :: rest))) : W p l e R s m args below meth c H locs cells slots Q (F0 m pc ls (.int i :: .ref (ad (67 + j)) :: rest)) := by
  unfold ldA at hv
  split at hv
  · next h =>
    cases hv
    exact va_iald Z.x Z.b Z.k hP (67 + j) 0 (gW_ma (mLn_lt h)) rfl (inb_vp h) hdg kk
  · cases hv
theorem zm_ldl (Z : Zc p s m c cc nL own D cy ad) (hP : va_P D vwCl (gW cy ad σ τ) H) {j : Nat} {i : Int32} {v : Int64} (hv : ldB mLb τ j i = some v) (hdg : decode cc pc = .ok (.laload, 1))
    (kk : W p l e R s m args below meth c H locs cells slots Q (F0 m (pc + 1) ls (.long v :: rest))) : W p l e R s m args below meth c H locs cells slots Q (F0 m pc ls (.int i :: .ref (ad (80 + j)) :: rest)) := by
  unfold ldB at hv
  split at hv
  · next h =>
    cases hv
    exact va_lald Z.x Z.b Z.k hP (80 + j) 1 (gW_mb (mLb_lt h)) rfl (inb_vp h) hdg kk
  · cases hv
theorem zc_st (Z : Zc p s m c cc nL own D cy ad) (hP : va_P D vwCl (gW cy ad σ τ) H) (hS : va_S (gA ad) s.heap H locs) {j : Nat} {i x : Int32} {σ' : Sx} (hv : stA cLn σ j i x = some σ') (hdg : decode cc pc = .ok (.iastore, 1))
    (kk : ∀ (H1 : Heap) (locs1 : List Loc), va_P D vwCl (gW cy ad σ' τ) H1 → va_S (gA ad) s.heap H1 locs1 → W p l e R s m args below meth c H1 locs1 cells slots Q (F0 m (pc + 1) ls rest)) : W p l e R s m args below meth c H locs cells slots Q (F0 m pc ls (.int x :: .int i :: .ref (ad (19 + j)) :: rest)) := by
  unfold stA at hv
  split at hv
  · next h =>
    cases hv
    exact va_iast Z.x Z.b Z.k hP (gD Z.i) hS (19 + j) 0 (gW_ca (cLn_lt h)) rfl (inb_vp h) hdg (fun H1 locs1 h1 _ h3 => kk H1 locs1 (gS_ca _ (cLn_lt h) ▸ h1) h3)
  · cases hv
theorem zm_st (Z : Zc p s m c cc nL own D cy ad) (hP : va_P D vwCl (gW cy ad σ τ) H) (hS : va_S (gA ad) s.heap H locs) {j : Nat} {i x : Int32} {τ' : Sx} (hv : stA mLn τ j i x = some τ') (hdg : decode cc pc = .ok (.iastore, 1))
    (kk : ∀ (H1 : Heap) (locs1 : List Loc), va_P D vwCl (gW cy ad σ τ') H1 → va_S (gA ad) s.heap H1 locs1 → W p l e R s m args below meth c H1 locs1 cells slots Q (F0 m (pc + 1) ls rest)) : W p l e R s m args below meth c H locs cells slots Q (F0 m pc ls (.int x :: .int i :: .ref (ad (67 + j)) :: rest)) := by
  unfold stA at hv
  split at hv
  · next h =>
    cases hv
    exact va_iast Z.x Z.b Z.k hP (gD Z.i) hS (67 + j) 0 (gW_ma (mLn_lt h)) rfl (inb_vp h) hdg (fun H1 locs1 h1 _ h3 => kk H1 locs1 (gS_ma _ (mLn_lt h) ▸ h1) h3)
  · cases hv
theorem zm_stl (Z : Zc p s m c cc nL own D cy ad) (hP : va_P D vwCl (gW cy ad σ τ) H) (hS : va_S (gA ad) s.heap H locs) {j : Nat} {i : Int32} {x : Int64} {τ' : Sx} (hv : stB mLb τ j i x = some τ') (hdg : decode cc pc = .ok (.lastore, 1))
    (kk : ∀ (H1 : Heap) (locs1 : List Loc), va_P D vwCl (gW cy ad σ τ') H1 → va_S (gA ad) s.heap H1 locs1 → W p l e R s m args below meth c H1 locs1 cells slots Q (F0 m (pc + 1) ls rest)) : W p l e R s m args below meth c H locs cells slots Q (F0 m pc ls (.long x :: .int i :: .ref (ad (80 + j)) :: rest)) := by
  unfold stB at hv
  split at hv
  · next h =>
    cases hv
    exact va_last Z.x Z.b Z.k hP (gD Z.i) hS (80 + j) 1 (gW_mb (mLb_lt h)) rfl (inb_vp h) hdg (fun H1 locs1 h1 _ h3 => kk H1 locs1 (gS_mb _ (mLb_lt h) ▸ h1) h3)
  · cases hv
def ldZ (σ : Sx) (j : Nat) (i : Int32) : Option Int32 := if inb i 2 = true then some (σ.2.2.1 j i.toNatClampNeg) else none
def stZ (σ : Sx) (j : Nat) (i x : Int32) : Option Sx := if inb i 2 = true then some (sr σ j (upd (σ.2.2.1 j) i.toNatClampNeg (vp_nar .boolean x))) else none
theorem zc_ldz (Z : Zc p s m c cc nL own D cy ad) (hP : va_P D vwCl (gW cy ad σ τ) H) {i v : Int32} (hv : ldZ σ 47 i = some v) (hdg : decode cc pc = .ok (.baload, 1))
    (kk : W p l e R s m args below meth c H locs cells slots Q (F0 m (pc + 1) ls (.int v :: rest))) : W p l e R s m args below meth c H locs cells slots Q (F0 m pc ls (.int i :: .ref (ad 18) :: rest)) := by
  unfold ldZ at hv
  split at hv
  · next h =>
    cases hv
    exact va_zald (cA := cy 2) (n := 2) (f := σ.2.2.1 47) Z.x Z.b Z.k hP 18 2 (gW_o rfl) rfl (inb_vp h) hdg kk
  · cases hv
theorem zc_stz (Z : Zc p s m c cc nL own D cy ad) (hP : va_P D vwCl (gW cy ad σ τ) H) (hS : va_S (gA ad) s.heap H locs) {i x : Int32} {σ' : Sx} (hv : stZ σ 47 i x = some σ') (hdg : decode cc pc = .ok (.bastore, 1))
    (kk : ∀ (H1 : Heap) (locs1 : List Loc), va_P D vwCl (gW cy ad σ' τ) H1 → va_S (gA ad) s.heap H1 locs1 → W p l e R s m args below meth c H1 locs1 cells slots Q (F0 m (pc + 1) ls rest)) : W p l e R s m args below meth c H locs cells slots Q (F0 m pc ls (.int x :: .int i :: .ref (ad 18) :: rest)) := by
  unfold stZ at hv
  split at hv
  · next h =>
    cases hv
    exact va_zast (cA := cy 2) (n := 2) (f := σ.2.2.1 47) Z.x Z.b Z.k hP (gD Z.i) hS 18 2 (gW_o rfl) rfl (inb_vp h) hdg (fun H1 locs1 h1 _ h3 => kk H1 locs1 (gS_cz _ ▸ h1) h3)
  · cases hv
theorem zm_ldz (Z : Zc p s m c cc nL own D cy ad) (hP : va_P D vwCl (gW cy ad σ τ) H) {i v : Int32} (hv : ldZ τ 12 i = some v) (hdg : decode cc pc = .ok (.baload, 1))
    (kk : W p l e R s m args below meth c H locs cells slots Q (F0 m (pc + 1) ls (.int v :: rest))) : W p l e R s m args below meth c H locs cells slots Q (F0 m pc ls (.int i :: .ref (ad 79) :: rest)) := by
  unfold ldZ at hv
  split at hv
  · next h =>
    cases hv
    exact va_zald Z.x Z.b Z.k hP 79 2 gW_mz rfl (inb_vp h) hdg kk
  · cases hv
theorem zm_stz (Z : Zc p s m c cc nL own D cy ad) (hP : va_P D vwCl (gW cy ad σ τ) H) (hS : va_S (gA ad) s.heap H locs) {i x : Int32} {τ' : Sx} (hv : stZ τ 12 i x = some τ') (hdg : decode cc pc = .ok (.bastore, 1))
    (kk : ∀ (H1 : Heap) (locs1 : List Loc), va_P D vwCl (gW cy ad σ τ') H1 → va_S (gA ad) s.heap H1 locs1 → W p l e R s m args below meth c H1 locs1 cells slots Q (F0 m (pc + 1) ls rest)) : W p l e R s m args below meth c H locs cells slots Q (F0 m pc ls (.int x :: .int i :: .ref (ad 79) :: rest)) := by
  unfold stZ at hv
  split at hv
  · next h =>
    cases hv
    exact va_zast Z.x Z.b Z.k hP (gD Z.i) hS 79 2 gW_mz rfl (inb_vp h) hdg (fun H1 locs1 h1 _ h3 => kk H1 locs1 (gS_mz _ ▸ h1) h3)
  · cases hv
theorem zald (Z : Zc p s m c cc nL own D cy ad) (hP : va_P D vwCl (gW cy ad σ τ) H) (q0 : Nat) {n b : Nat} (he : (gW cy ad σ τ)[q0]? = some (ad q0, .inl (cy 4, n, .inr (.inr (.inr (.inr (fun i => some (ad (19 + (b + i)))))))))) {i : Int32} {k : Nat} (hv : ixq i n = some k) (hdg : decode cc pc = .ok (.aaload, 1))
    (kk : W p l e R s m args below meth c H locs cells slots Q (F0 m (pc + 1) ls (.ref (ad (19 + (b + k))) :: rest))) : W p l e R s m args below meth c H locs cells slots Q (F0 m pc ls (.int i :: .ref (ad q0) :: rest)) := by
  unfold ixq at hv
  split at hv
  · next h =>
    cases hv
    have hin := inb_vp h
    have hlt : i.toNatClampNeg < n := Nat.not_le.mp fun q => hin (Or.inr q)
    exact W.aald (v := .ref (ad (19 + (b + i.toNatClampNeg)))) (ty := .array .int) Z.x Z.b (hP q0 _ he) ((Z.k.2 4 _ rfl).1 n (fun j => va_rf (some (ad (19 + (b + j)))))) rfl (fun q => by cases q) (by show ¬ (i < 0 ∨ (arrV _ _ _).slots.size ≤ _); rw [arrV_size]; exact hin) (by show (arrV _ _ _).slots[_]? = _; rw [arrV_read _ _ hlt]; rfl) rfl rfl hdg kk
  · cases hv
theorem zc_cp (Z : Zc p s m c cc nL own D cy ad) (hP : va_P D vwCl (gW cy ad σ τ) H) (hS : va_S (gA ad) s.heap H locs) (hml : ls.size = nL) {i j : Nat} {sp dp n : Int32} {index : Nat} (hw : Cond.methodLink own index arraycopyName ∈ lw_tbl) (hw2 : Cond.native arraycopyName ∈ lw_tbl) (hw3 : Cond.static arraycopyName ∈ lw_tbl) (hw4 : Cond.initialized "java/lang/System" ∈ lw_tbl) {σ' : Sx} (hv : cpA cLn σ i j sp dp n = some σ') (hframes : 1 ≤ R.frames) (hlocals : (rest.map fun v => v.category).sum + (nativeFrameWords "java/lang/System" "arraycopy" 5 + 11) ≤ R.locals) (hdg : decode cc pc = .ok (.invokestatic index, 3))
    (kk : ∀ (H1 : Heap) (locs1 : List Loc), va_P D vwCl (gW cy ad σ' τ) H1 → va_S (gA ad) s.heap H1 locs1 → W p l e R s m args below meth c H1 locs1 cells slots Q (F0 m (pc + 3) ls rest)) : W p l e R s m args below meth c H locs cells slots Q (F0 m pc ls (.int n :: .int dp :: .ref (ad (19 + j)) :: .int sp :: .ref (ad (19 + i)) :: rest)) := by
  unfold cpA at hv
  split at hv
  · next h =>
    cases hv
    obtain ⟨⟨hi, hj⟩, ⟨h1, h2, h3⟩, h4, h5⟩ := h
    exact va_copyi Z.x Z.b (by rw [Z.ml, hml]) Z.o (Z.t _ hw rfl args) (Z.t _ hw2 rfl args) (Z.t _ hw3 rfl args) (Z.t _ hw4 rfl args) Z.k hP (gD Z.i) hS (19 + i) (19 + j) 0 0 (gW_ca hi) (gW_ca hj) rfl rfl rfl h1 h2 h3 h4 h5 (fun _ _ => rfl) hframes hlocals hdg (fun H1 locs1 a1 _ a3 => kk H1 locs1 (gS_ca _ hj ▸ a1) a3)
  · cases hv
theorem zdiv (Z : Zc p s m c cc nL own D cy ad) {x y v : Int32} (hv : dvI x y = some v) (hdg : decode cc pc = .ok (.idiv, 1)) (kk : W p l e R s m args below meth c H locs cells slots Q (F0 m (pc + 1) ls (.int v :: rest))) : W p l e R s m args below meth c H locs cells slots Q (F0 m pc ls (.int y :: .int x :: rest)) := by
  unfold dvI at hv
  split at hv
  · cases hv
  · next h =>
    cases hv
    exact lv_idiv Z.x Z.b hdg h kk
theorem zldiv (Z : Zc p s m c cc nL own D cy ad) {x y v : Int64} (hv : dvL x y = some v) (hdg : decode cc pc = .ok (.ldiv, 1)) (kk : W p l e R s m args below meth c H locs cells slots Q (F0 m (pc + 1) ls (.long v :: rest))) : W p l e R s m args below meth c H locs cells slots Q (F0 m pc ls (.long y :: .long x :: rest)) := by
  unfold dvL at hv
  split at hv
  · cases hv
  · next h =>
    cases hv
    exact lv_ldiv Z.x Z.b hdg h kk
theorem zrem (Z : Zc p s m c cc nL own D cy ad) {x y v : Int32} (hv : rmI x y = some v) (hdg : decode cc pc = .ok (.irem, 1)) (kk : W p l e R s m args below meth c H locs cells slots Q (F0 m (pc + 1) ls (.int v :: rest))) : W p l e R s m args below meth c H locs cells slots Q (F0 m pc ls (.int y :: .int x :: rest)) := by
  unfold rmI at hv
  split at hv
  · cases hv
  · next h =>
    cases hv
    exact lv_irem Z.x Z.b hdg h kk
theorem zlrem (Z : Zc p s m c cc nL own D cy ad) {x y v : Int64} (hv : rmL x y = some v) (hdg : decode cc pc = .ok (.lrem, 1)) (kk : W p l e R s m args below meth c H locs cells slots Q (F0 m (pc + 1) ls (.long v :: rest))) : W p l e R s m args below meth c H locs cells slots Q (F0 m pc ls (.long y :: .long x :: rest)) := by
  unfold rmL at hv
  split at hv
  · cases hv
  · next h =>
    cases hv
    exact lv_lrem Z.x Z.b hdg h kk
/-! ends: of readers -/
theorem zri (Z : Zc p s m c cc nL own D cy ad) (hr : meth.sig.returnType = some .int) (hlk : meth.locks = false) {v out : Int32} (h : some v = some out) (hdg : decode cc pc = .ok (.ireturn, 1)) : W p l e R s m args below meth c s.heap [] 0 0 (MQ below (rQi out) args s 0 0 noA) (F0 m pc ls [.int v]) := by
  cases h
  exact W.iret Z.x Z.b hr (fun t ht _ => ⟨v, rfl, rfl, ht⟩) (fun q hq => by cases hq) hdg hlk
theorem zrz (Z : Zc p s m c cc nL own D cy ad) (hr : meth.sig.returnType = some .boolean) (hlk : meth.locks = false) {v out : Int32} (h : rtZ v = some out) (hdg : decode cc pc = .ok (.ireturn, 1)) : W p l e R s m args below meth c s.heap [] 0 0 (MQ below (rQi out) args s 0 0 noA) (F0 m pc ls [.int v]) := by
  unfold rtZ at h
  split at h
  · next hz =>
    cases h
    exact W.zret Z.x Z.b hr (by rcases hz with rfl | rfl <;> rfl) (fun t ht _ => ⟨v, rfl, rfl, ht⟩) (fun q hq => by cases hq) hdg hlk
  · cases h
theorem zrzc (Z : Zc p s m c cc nL own D cy ad) (hr : meth.sig.returnType = some .boolean) (hlk : meth.locks = false) {v out : Int32} (hz : v = 0 ∨ v = 1) (h : some v = some out) (hdg : decode cc pc = .ok (.ireturn, 1)) : W p l e R s m args below meth c s.heap [] 0 0 (MQ below (rQi out) args s 0 0 noA) (F0 m pc ls [.int v]) :=
  zrz Z hr hlk (by unfold rtZ; rw [if_pos hz]; exact h) hdg
theorem zrl (Z : Zc p s m c cc nL own D cy ad) (hr : meth.sig.returnType = some .long) (hlk : meth.locks = false) {v out : Int64} (h : some v = some out) (hdg : decode cc pc = .ok (.lreturn, 1)) : W p l e R s m args below meth c s.heap [] 0 0 (MQ below (rQl out) args s 0 0 noA) (F0 m pc ls [.long v]) := by
  cases h
  exact W.lret Z.x Z.b hr (fun t ht _ => ⟨v, rfl, rfl, ht⟩) (fun q hq => by cases hq) hdg hlk
/-! ends: of writers -/
theorem zci (Z : Zc p s m c cc nL own D cy ad) (hP : va_P D vwCl (gW cy ad σ τ) H) (hS : va_S (gA ad) s.heap H locs) (hr : meth.sig.returnType = some .int) (hlk : meth.locks = false) {v : Int32} {out : Int32 × Sx} (h : some (v, σ) = some out) (hdg : decode cc pc = .ok (.ireturn, 1)) : W p l e R s m args below meth c H locs 0 0 (MQ below (cQi D cy ad τ out) args s 0 0 (gA ad)) (F0 m pc ls [.int v]) := by
  cases h
  exact W.iret Z.x Z.b hr (fun t ht _ => ⟨⟨v, σ, rfl, rfl, by dsimp only; rw [ht]; exact hP⟩, hS.F ht⟩) hS.2.2 hdg hlk
theorem zcz (Z : Zc p s m c cc nL own D cy ad) (hP : va_P D vwCl (gW cy ad σ τ) H) (hS : va_S (gA ad) s.heap H locs) (hr : meth.sig.returnType = some .boolean) (hlk : meth.locks = false) {v : Int32} {out : Int32 × Sx} (h : (rtZ v).bind (fun v => some (v, σ)) = some out) (hdg : decode cc pc = .ok (.ireturn, 1)) : W p l e R s m args below meth c H locs 0 0 (MQ below (cQi D cy ad τ out) args s 0 0 (gA ad)) (F0 m pc ls [.int v]) := by
  unfold rtZ at h
  split at h
  · next hz =>
    cases h
    exact W.zret Z.x Z.b hr (by rcases hz with rfl | rfl <;> rfl) (fun t ht _ => ⟨⟨v, σ, rfl, rfl, by dsimp only; rw [ht]; exact hP⟩, hS.F ht⟩) hS.2.2 hdg hlk
  · cases h
theorem zczc (Z : Zc p s m c cc nL own D cy ad) (hP : va_P D vwCl (gW cy ad σ τ) H) (hS : va_S (gA ad) s.heap H locs) (hr : meth.sig.returnType = some .boolean) (hlk : meth.locks = false) {v : Int32} {out : Int32 × Sx} (hz : v = 0 ∨ v = 1) (h : some (v, σ) = some out) (hdg : decode cc pc = .ok (.ireturn, 1)) : W p l e R s m args below meth c H locs 0 0 (MQ below (cQi D cy ad τ out) args s 0 0 (gA ad)) (F0 m pc ls [.int v]) :=
  zcz Z hP hS hr hlk (by unfold rtZ; rw [if_pos hz]; exact h) hdg
theorem zcl (Z : Zc p s m c cc nL own D cy ad) (hP : va_P D vwCl (gW cy ad σ τ) H) (hS : va_S (gA ad) s.heap H locs) (hr : meth.sig.returnType = some .long) (hlk : meth.locks = false) {v : Int64} {out : Int64 × Sx} (h : some (v, σ) = some out) (hdg : decode cc pc = .ok (.lreturn, 1)) : W p l e R s m args below meth c H locs 0 0 (MQ below (cQl D cy ad τ out) args s 0 0 (gA ad)) (F0 m pc ls [.long v]) := by
  cases h
  exact W.lret Z.x Z.b hr (fun t ht _ => ⟨⟨v, σ, rfl, rfl, by dsimp only; rw [ht]; exact hP⟩, hS.F ht⟩) hS.2.2 hdg hlk
theorem zcv (Z : Zc p s m c cc nL own D cy ad) (hP : va_P D vwCl (gW cy ad σ τ) H) (hS : va_S (gA ad) s.heap H locs) (hr : meth.sig.returnType = none) (hlk : meth.locks = false) {out : Sx} (h : some σ = some out) (hdg : decode cc pc = .ok (.return_, 1)) : W p l e R s m args below meth c H locs 0 0 (MQ below (cQv D cy ad τ out) args s 0 0 (gA ad)) (F0 m pc ls []) := by
  cases h
  exact W.vret Z.x Z.b hr (fun t ht _ => ⟨⟨σ, rfl, rfl, by dsimp only; rw [ht]; exact hP⟩, hS.F ht⟩) hS.2.2 hdg hlk
theorem zmi (Z : Zc p s m c cc nL own D cy ad) (hP : va_P D vwCl (gW cy ad σ τ) H) (hS : va_S (gA ad) s.heap H locs) (hr : meth.sig.returnType = some .int) (hlk : meth.locks = false) {v : Int32} {out : Int32 × Sx} (h : some (v, τ) = some out) (hdg : decode cc pc = .ok (.ireturn, 1)) : W p l e R s m args below meth c H locs 0 0 (MQ below (mQi D cy ad σ out) args s 0 0 (gA ad)) (F0 m pc ls [.int v]) := by
  cases h
  exact W.iret Z.x Z.b hr (fun t ht _ => ⟨⟨v, τ, rfl, rfl, by dsimp only; rw [ht]; exact hP⟩, hS.F ht⟩) hS.2.2 hdg hlk
theorem zmz (Z : Zc p s m c cc nL own D cy ad) (hP : va_P D vwCl (gW cy ad σ τ) H) (hS : va_S (gA ad) s.heap H locs) (hr : meth.sig.returnType = some .boolean) (hlk : meth.locks = false) {v : Int32} {out : Int32 × Sx} (h : (rtZ v).bind (fun v => some (v, τ)) = some out) (hdg : decode cc pc = .ok (.ireturn, 1)) : W p l e R s m args below meth c H locs 0 0 (MQ below (mQi D cy ad σ out) args s 0 0 (gA ad)) (F0 m pc ls [.int v]) := by
  unfold rtZ at h
  split at h
  · next hz =>
    cases h
    exact W.zret Z.x Z.b hr (by rcases hz with rfl | rfl <;> rfl) (fun t ht _ => ⟨⟨v, τ, rfl, rfl, by dsimp only; rw [ht]; exact hP⟩, hS.F ht⟩) hS.2.2 hdg hlk
  · cases h
theorem zmzc (Z : Zc p s m c cc nL own D cy ad) (hP : va_P D vwCl (gW cy ad σ τ) H) (hS : va_S (gA ad) s.heap H locs) (hr : meth.sig.returnType = some .boolean) (hlk : meth.locks = false) {v : Int32} {out : Int32 × Sx} (hz : v = 0 ∨ v = 1) (h : some (v, τ) = some out) (hdg : decode cc pc = .ok (.ireturn, 1)) : W p l e R s m args below meth c H locs 0 0 (MQ below (mQi D cy ad σ out) args s 0 0 (gA ad)) (F0 m pc ls [.int v]) :=
  zmz Z hP hS hr hlk (by unfold rtZ; rw [if_pos hz]; exact h) hdg
theorem zml (Z : Zc p s m c cc nL own D cy ad) (hP : va_P D vwCl (gW cy ad σ τ) H) (hS : va_S (gA ad) s.heap H locs) (hr : meth.sig.returnType = some .long) (hlk : meth.locks = false) {v : Int64} {out : Int64 × Sx} (h : some (v, τ) = some out) (hdg : decode cc pc = .ok (.lreturn, 1)) : W p l e R s m args below meth c H locs 0 0 (MQ below (mQl D cy ad σ out) args s 0 0 (gA ad)) (F0 m pc ls [.long v]) := by
  cases h
  exact W.lret Z.x Z.b hr (fun t ht _ => ⟨⟨v, τ, rfl, rfl, by dsimp only; rw [ht]; exact hP⟩, hS.F ht⟩) hS.2.2 hdg hlk
theorem zmv (Z : Zc p s m c cc nL own D cy ad) (hP : va_P D vwCl (gW cy ad σ τ) H) (hS : va_S (gA ad) s.heap H locs) (hr : meth.sig.returnType = none) (hlk : meth.locks = false) {out : Sx} (h : some τ = some out) (hdg : decode cc pc = .ok (.return_, 1)) : W p l e R s m args below meth c H locs 0 0 (MQ below (mQv D cy ad σ out) args s 0 0 (gA ad)) (F0 m pc ls []) := by
  cases h
  exact W.vret Z.x Z.b hr (fun t ht _ => ⟨⟨τ, rfl, rfl, by dsimp only; rw [ht]; exact hP⟩, hS.F ht⟩) hS.2.2 hdg hlk
theorem gGood {y : MethodName} {bytes : ByteArray} {maxL : Nat} {ret : Option FieldType} : ([Cond.code y bytes maxL ret] : List Cond).all goodWord = true := rfl
theorem g1 {y : MethodName} {bytes : ByteArray} {maxL : Nat} {ret : Option FieldType} : GoodIn [Cond.code y bytes maxL ret] [Cond.code y bytes maxL ret] := fun w hw => ⟨hw, good_of_word (List.all_eq_true.mp gGood w hw)⟩
theorem gPre (Z : Zc p s m c cc nL own D cy ad) (hP : va_P D vwCl (gW cy ad σ τ) H) (av : List Value) : PreS s H (va_Pc av (gB D cy ad σ τ)) av :=
  ⟨gB_blind, fun U hU hW => ⟨rfl, by rw [hU]; exact hP, va_K.moved hW.alike Z.k, Z.t.moved hW⟩⟩
theorem zrunV (Z : Zc p s m c cc nL own D cy ad) (hP : va_P D vwCl (gW cy ad σ τ) H) {y : MethodName} {bytes : ByteArray} {maxL n index : Nat} {ret : Option FieldType} {rm : Room} {Qc : Array Value → State → Outcome → State → Prop} {free : Addr → Prop} {C : String} {b : Nat} {As st : List Value} (hM : Met l y [Cond.code y bytes maxL ret] rm (va_Pc (.ref b :: As) (gB D cy ad σ τ)) Qc 0 0 free) (cv : CVw own index C y bytes maxL ret n) (hrc : rm.cells = 0) (hrs : rm.slots = 0) (hR : rm.frames + 1 ≤ R.frames ∧ 8 + (maxL + 11) + rm.locals ≤ R.locals)
    (q0 : Nat) {ci : Nat} {fs : List Value} {qc : vw_C} (he : (gW cy ad σ τ)[q0]? = some (b, .inr (ci, fs))) (hc : vwCl[ci]? = some qc) (hC : qc.1 = C) (hn : As.length = n) (hsize : ls.size = nL) (hst : st = As.reverse ++ .ref b :: rest) (hW : (rest.map fun v => v.category).sum ≤ 8) (hdg : decode cc pc = .ok (.invokevirtual index, 3)) (hcl : cells ≤ R.cells ∧ slots ≤ R.slots) :
    va_Run p l e R s m args below meth c H locs cells slots 0 0 (F0 m pc ls st) rest (Qc (Value.ref b :: As).toArray) free := by
  obtain ⟨⟨w1, w2, w3, w4, w5⟩, hd⟩ := cv
  subst hC
  have hts : ∀ w ∈ [Cond.code y bytes maxL ret], w.before args s = true := fun w hw => by rw [List.mem_singleton.mp hw]; exact Z.t _ w5 rfl args
  obtain ⟨hd0, hd1⟩ := hd
  exact va_runV ⟨Z.x, Z.b, Z.ml, Z.o, hts⟩ hM ⟨callB_of n hts g1 rfl hrc hrs (by rw [hd0]; exact Z.t _ w4 rfl args) (Z.t _ w1 rfl args) hd1 hR, Z.t _ w2 rfl args, Z.t _ w3 rfl args⟩ ⟨(gPre Z hP (.ref b :: As)).1, va_recv Z.k hP hc he, (gPre Z hP (.ref b :: As)).2⟩ rfl hn hsize hst (by show 2 * 0 + _ ≤ 8; omega) hdg hcl
theorem zrunS (Z : Zc p s m c cc nL own D cy ad) (hP : va_P D vwCl (gW cy ad σ τ) H) {y : MethodName} {bytes : ByteArray} {maxL n index : Nat} {ret : Option FieldType} {rm : Room} {Qc : Array Value → State → Outcome → State → Prop} {free : Addr → Prop} {As st : List Value} (hM : Met l y [Cond.code y bytes maxL ret] rm (va_Pc As (gB D cy ad σ τ)) Qc 0 0 free) (cv : CSw own index y bytes maxL ret n) (hrc : rm.cells = 0) (hrs : rm.slots = 0) (hR : rm.frames + 1 ≤ R.frames ∧ 8 + (maxL + 11) + rm.locals ≤ R.locals)
    (hn : As.length = n) (hsize : ls.size = nL) (hst : st = As.reverse ++ rest) (hW : (rest.map fun v => v.category).sum ≤ 8) (hdg : decode cc pc = .ok (.invokestatic index, 3)) (hcl : cells ≤ R.cells ∧ slots ≤ R.slots) :
    va_Run p l e R s m args below meth c H locs cells slots 0 0 (F0 m pc ls st) rest (Qc As.toArray) free := by
  obtain ⟨⟨w1, w2, w4, w5⟩, hd⟩ := cv
  have hts : ∀ w ∈ [Cond.code y bytes maxL ret], w.before args s = true := fun w hw => by rw [List.mem_singleton.mp hw]; exact Z.t _ w5 rfl args
  exact va_runS ⟨Z.x, Z.b, Z.ml, Z.o, hts⟩ hM ⟨callB_of n hts g1 rfl hrc hrs (Z.t _ w4 rfl args) (Z.t _ w1 rfl args) hd hR, Z.t _ w2 rfl args⟩ (gPre Z hP As) rfl hn hsize hst (by show 2 * 0 + _ ≤ 8; omega) hdg hcl
theorem zrunSN (Z : Zc p s m c cc nL own D cy ad) (hP : va_P D vwCl (gW cy ad σ τ) H) {y : MethodName} {bytes : ByteArray} {maxL n index : Nat} {ret : Option FieldType} {rm : Room} {Qc : Array Value → State → Outcome → State → Prop} {free : Addr → Prop} {host : String} {As st : List Value} (hM : Met l y [Cond.code y bytes maxL ret] rm (va_Pc As (gB D cy ad σ τ)) Qc 0 0 free) (cv : CSn own index host y bytes maxL ret n) (hrc : rm.cells = 0) (hrs : rm.slots = 0) (hR : rm.frames + 1 ≤ R.frames ∧ 8 + (maxL + 11) + rm.locals ≤ R.locals)
    (hn : As.length = n) (hsize : ls.size = nL) (hst : st = As.reverse ++ rest) (hW : (rest.map fun v => v.category).sum ≤ 8) (hdg : decode cc pc = .ok (.invokestatic index, 3)) (hcl : cells ≤ R.cells ∧ slots ≤ R.slots) :
    va_Run p l e R s m args below meth c H locs cells slots 0 0 (F0 m pc ls st) rest (Qc As.toArray) free := by
  obtain ⟨⟨w1, w2, w4, w5⟩, hd⟩ := cv
  have hts : ∀ w ∈ [Cond.code y bytes maxL ret], w.before args s = true := fun w hw => by rw [List.mem_singleton.mp hw]; exact Z.t _ w5 rfl args
  exact va_runSN ⟨Z.x, Z.b, Z.ml, Z.o, hts⟩ hM ⟨va_cnB n hts g1 rfl hrc hrs (va_Nw.of (A := args) rfl (Z.t _ w1 rfl args)) (Z.t _ w4 rfl args) hd hR, Z.t _ w2 rfl args, trivial⟩ (gPre Z hP As) rfl hn hsize hst (by show 2 * 0 + _ ≤ 8; omega) hdg hcl
theorem mv_SU {own : String} {index : Nat} {y : MethodName} {bytes : ByteArray} {maxL : Nat} {ret : Option FieldType} : (va_wsSU own index y [Cond.code y bytes maxL ret]).all goodWord = true := rfl
theorem mv_O {own C : String} {index : Nat} {x y : MethodName} {bytes : ByteArray} {maxL : Nat} {ret : Option FieldType} : (va_wsO own index C x.cls x y [Cond.code y bytes maxL ret]).all goodWord = true := rfl
theorem gw_mv {w : Cond} (h : goodWord w = true) : mvW w = true := by
  cases w <;> first | exact h | rfl
theorem tbG (hT : TB s) {L : List Cond} (h : ∀ w ∈ L, w ∈ lw_tbl) (hg : L.all goodWord = true) (a : Array Value) : ∀ w ∈ L, w.before a s = true := fun w hw => hT w (h w hw) (gw_mv (List.all_eq_true.mp hg w hw)) a
theorem inG {L : List Cond} (hg : L.all goodWord = true) : GoodIn L L := fun w hw => ⟨hw, good_of_word (List.all_eq_true.mp hg w hw)⟩
theorem zrunSU (Z : Zc p s m c cc nL own D cy ad) (hP : va_P D vwCl (gW cy ad σ τ) H) {y : MethodName} {bytes : ByteArray} {maxL n index : Nat} {ret : Option FieldType} {rm : Room} {Qc : Array Value → State → Outcome → State → Prop} {free : Addr → Prop} {b : Nat} {As st : List Value} (hM : Met l y [Cond.code y bytes maxL ret] rm (va_Pc (.ref b :: As) (gB D cy ad σ τ)) Qc 0 0 free) (cv : CSu own index y bytes maxL ret n) (hrc : rm.cells = 0) (hrs : rm.slots = 0) (hR : rm.frames + 1 ≤ R.frames ∧ 8 + (maxL + 11) + rm.locals ≤ R.locals)
    (q0 : Nat) {ci : Nat} {fs : List Value} {qc : vw_C} (he : (gW cy ad σ τ)[q0]? = some (b, .inr (ci, fs))) (hc : vwCl[ci]? = some qc) (hC : qc.1 = qc.1) (hn : As.length = n) (hsize : ls.size = nL) (hst : st = As.reverse ++ .ref b :: rest) (hW : (rest.map fun v => v.category).sum ≤ 8) (hdg : decode cc pc = .ok (.invokespecial index, 3)) (hcl : cells ≤ R.cells ∧ slots ≤ R.slots) :
    va_Run p l e R s m args below meth c H locs cells slots 0 0 (F0 m pc ls st) rest (Qc (Value.ref b :: As).toArray) free := by
  obtain ⟨w1, hd⟩ := cv
  have hts := tbG Z.t w1 mv_SU args
  exact va_runSU (C := qc.1) (Z.k.1 ci _ hc).2 ⟨Z.x, Z.b, Z.ml, Z.o, hts⟩ hM (va_cwSU n hts (inG mv_SU) rfl hrc hrs hd hR) ⟨(gPre Z hP (.ref b :: As)).1, va_recv Z.k hP hc he, (gPre Z hP (.ref b :: As)).2⟩ rfl hn hsize hst (by show 2 * 0 + _ ≤ 8; omega) hdg hcl
theorem zrunO (Z : Zc p s m c cc nL own D cy ad) (hP : va_P D vwCl (gW cy ad σ τ) H) {x y : MethodName} {bytes b0 : ByteArray} {maxL m0 n index : Nat} {ret r0 : Option FieldType} {rm : Room} {Qc : Array Value → State → Outcome → State → Prop} {free : Addr → Prop} {C : String} {b : Nat} {As st : List Value} (hM : Met l y [Cond.code y bytes maxL ret] rm (va_Pc (.ref b :: As) (gB D cy ad σ τ)) Qc 0 0 free) (cv : COv own index C x y bytes maxL ret b0 m0 r0 n) (hrc : rm.cells = 0) (hrs : rm.slots = 0) (hR : rm.frames + 1 ≤ R.frames ∧ 8 + (maxL + 11) + rm.locals ≤ R.locals)
    (q0 : Nat) {ci : Nat} {fs : List Value} {qc : vw_C} (he : (gW cy ad σ τ)[q0]? = some (b, .inr (ci, fs))) (hc : vwCl[ci]? = some qc) (hC : qc.1 = C) (hn : As.length = n) (hsize : ls.size = nL) (hst : st = As.reverse ++ .ref b :: rest) (hW : (rest.map fun v => v.category).sum ≤ 8) (hdg : decode cc pc = .ok (.invokevirtual index, 3)) (hcl : cells ≤ R.cells ∧ slots ≤ R.slots) :
    va_Run p l e R s m args below meth c H locs cells slots 0 0 (F0 m pc ls st) rest (Qc (Value.ref b :: As).toArray) free := by
  obtain ⟨w1, w2, hd⟩ := cv
  subst hC
  have hg : (va_wsO own index qc.1 x.cls x y [Cond.code y bytes maxL ret] ++ [Cond.code x b0 m0 r0]).all goodWord = true := rfl
  have hts := tbG Z.t (L := va_wsO own index qc.1 x.cls x y [Cond.code y bytes maxL ret] ++ [Cond.code x b0 m0 r0]) (fun w hw => by
    rcases List.mem_append.mp hw with h | h
    · exact w1 w h
    · rw [List.mem_singleton.mp h]; exact w2) hg args
  exact va_runU (C := qc.1) (owner := x.cls) ⟨Z.x, Z.b, Z.ml, Z.o, hts⟩ hM (va_cwO (owner := x.cls) n hts (fun w hw => inG hg w (List.mem_append_left _ hw)) rfl hrc hrs (b0 := b0) (m0 := m0) (r0 := r0) (List.mem_append_right _ List.mem_cons_self) hd hR) ⟨(gPre Z hP (.ref b :: As)).1, va_recv Z.k hP hc he, (gPre Z hP (.ref b :: As)).2⟩ rfl hn hsize hst (by show 2 * 0 + _ ≤ 8; omega) hdg hcl
theorem zaldk (Z : Zc p s m c cc nL own D cy ad) (hP : va_P D vwCl (gW cy ad σ τ) H) {i : Int32} {k : Nat} (hk : i = nI k) (h6 : k < 6) (hdg : decode cc pc = .ok (.aaload, 1))
    (kk : W p l e R s m args below meth c H locs cells slots Q (F0 m (pc + 1) ls (.ref (ad (7 + k)) :: rest))) : W p l e R s m args below meth c H locs cells slots Q (F0 m pc ls (.int i :: .ref (ad 13) :: rest)) := by
  have e : i.toNatClampNeg = k := by rw [hk]; exact nI_clamp (by omega)
  exact va_aldq (f := fun i => some (ad (7 + i))) (n := 6) Z.x Z.b Z.k hP 13 3 (gW_o rfl) rfl (by rw [hk]; exact vp_in_nI h6 (by decide)) hdg (by rw [e]; exact kk)
/-! calls: going on -/
variable {a : Array Value} {st0 : List Value}
theorem zqi {out : Int32} (hr : va_Run p l e R s m args below meth c H locs cells slots 0 0 (F0 m pc ls st0) rest (rQi out a) noA) (kk : W p l e R s m args below meth c H locs cells slots Q (F0 m (pc + 3) ls (.int out :: rest))) : W p l e R s m args below meth c H locs cells slots Q (F0 m pc ls st0) :=
  vp_callSi (post := fun r => r = out) (va_Run.run hr) (fun r h => by cases h; exact kk)
theorem zql {out : Int64} (hr : va_Run p l e R s m args below meth c H locs cells slots 0 0 (F0 m pc ls st0) rest (rQl out a) noA) (kk : W p l e R s m args below meth c H locs cells slots Q (F0 m (pc + 3) ls (.long out :: rest))) : W p l e R s m args below meth c H locs cells slots Q (F0 m pc ls st0) :=
  vp_callSl (post := fun r => r = out) (va_Run.run hr) (fun r h => by cases h; exact kk)
theorem zwci {q : Int32 × Sx} (hr : va_Run p l e R s m args below meth c H locs cells slots 0 0 (F0 m pc ls st0) rest (cQi D cy ad τ q a) (gA ad)) (hS : va_S (gA ad) s.heap H locs) (kk : ∀ (H1 : Heap) (locs1 : List Loc), va_P D vwCl (gW cy ad q.2 τ) H1 → va_S (gA ad) s.heap H1 locs1 → W p l e R s m args below meth c H1 locs1 cells slots Q (F0 m (pc + 3) ls (.int q.1 :: rest))) : W p l e R s m args below meth c H locs cells slots Q (F0 m pc ls st0) :=
  va_calli (hr : va_Run p l e R s m args below meth c H locs cells slots 0 0 (F0 m pc ls st0) rest (va_Qi (fun r' u => (r', u) = q) (fun u t => va_P D vwCl (gW cy ad u τ) t.heap) (gA ad) a) (gA ad)) hS (fun _ _ h => h) (fun _ h => h) (fun r' u t H1 locs1 ht _ hp hB _ _ hS1 => by cases hp; rw [ht] at hB; exact kk H1 locs1 hB hS1)
theorem zwcv {σ1 : Sx} (hr : va_Run p l e R s m args below meth c H locs cells slots 0 0 (F0 m pc ls st0) rest (cQv D cy ad τ σ1 a) (gA ad)) (hS : va_S (gA ad) s.heap H locs) (kk : ∀ (H1 : Heap) (locs1 : List Loc), va_P D vwCl (gW cy ad σ1 τ) H1 → va_S (gA ad) s.heap H1 locs1 → W p l e R s m args below meth c H1 locs1 cells slots Q (F0 m (pc + 3) ls rest)) : W p l e R s m args below meth c H locs cells slots Q (F0 m pc ls st0) :=
  va_callv (hr : va_Run p l e R s m args below meth c H locs cells slots 0 0 (F0 m pc ls st0) rest (va_Qv (fun u => u = σ1) (fun u t => va_P D vwCl (gW cy ad u τ) t.heap) (gA ad) a) (gA ad)) hS (fun _ _ h => h) (fun _ h => h) (fun u t H1 locs1 ht _ hp hB _ _ hS1 => by cases hp; rw [ht] at hB; exact kk H1 locs1 hB hS1)
theorem zwmi {q : Int32 × Sx} (hr : va_Run p l e R s m args below meth c H locs cells slots 0 0 (F0 m pc ls st0) rest (mQi D cy ad σ q a) (gA ad)) (hS : va_S (gA ad) s.heap H locs) (kk : ∀ (H1 : Heap) (locs1 : List Loc), va_P D vwCl (gW cy ad σ q.2) H1 → va_S (gA ad) s.heap H1 locs1 → W p l e R s m args below meth c H1 locs1 cells slots Q (F0 m (pc + 3) ls (.int q.1 :: rest))) : W p l e R s m args below meth c H locs cells slots Q (F0 m pc ls st0) :=
  va_calli (hr : va_Run p l e R s m args below meth c H locs cells slots 0 0 (F0 m pc ls st0) rest (va_Qi (fun r' u => (r', u) = q) (fun u t => va_P D vwCl (gW cy ad σ u) t.heap) (gA ad) a) (gA ad)) hS (fun _ _ h => h) (fun _ h => h) (fun r' u t H1 locs1 ht _ hp hB _ _ hS1 => by cases hp; rw [ht] at hB; exact kk H1 locs1 hB hS1)
theorem zwml {q : Int64 × Sx} (hr : va_Run p l e R s m args below meth c H locs cells slots 0 0 (F0 m pc ls st0) rest (mQl D cy ad σ q a) (gA ad)) (hS : va_S (gA ad) s.heap H locs) (kk : ∀ (H1 : Heap) (locs1 : List Loc), va_P D vwCl (gW cy ad σ q.2) H1 → va_S (gA ad) s.heap H1 locs1 → W p l e R s m args below meth c H1 locs1 cells slots Q (F0 m (pc + 3) ls (.long q.1 :: rest))) : W p l e R s m args below meth c H locs cells slots Q (F0 m pc ls st0) :=
  va_calll (hr : va_Run p l e R s m args below meth c H locs cells slots 0 0 (F0 m pc ls st0) rest (va_Ql (fun r' u => (r', u) = q) (fun u t => va_P D vwCl (gW cy ad σ u) t.heap) (gA ad) a) (gA ad)) hS (fun _ _ h => h) (fun _ h => h) (fun r' u t H1 locs1 ht _ hp hB _ _ hS1 => by cases hp; rw [ht] at hB; exact kk H1 locs1 hB hS1)
theorem zwmv {τ1 : Sx} (hr : va_Run p l e R s m args below meth c H locs cells slots 0 0 (F0 m pc ls st0) rest (mQv D cy ad σ τ1 a) (gA ad)) (hS : va_S (gA ad) s.heap H locs) (kk : ∀ (H1 : Heap) (locs1 : List Loc), va_P D vwCl (gW cy ad σ τ1) H1 → va_S (gA ad) s.heap H1 locs1 → W p l e R s m args below meth c H1 locs1 cells slots Q (F0 m (pc + 3) ls rest)) : W p l e R s m args below meth c H locs cells slots Q (F0 m pc ls st0) :=
  va_callv (hr : va_Run p l e R s m args below meth c H locs cells slots 0 0 (F0 m pc ls st0) rest (va_Qv (fun u => u = τ1) (fun u t => va_P D vwCl (gW cy ad σ u) t.heap) (gA ad) a) (gA ad)) hS (fun _ _ h => h) (fun _ h => h) (fun u t H1 locs1 ht _ hp hB _ _ hS1 => by cases hp; rw [ht] at hB; exact kk H1 locs1 hB hS1)
end ZR
