/-! The flat memory: 121 places, a static tree of cells. -/
abbrev Mem : Type := (Nat → Nat → Int32) × (Nat → Nat → Int64)
def NP : Nat := 121
/-- the kind of a place: 0..10 objects (clX), 11 int[], 12 char[], 13 boolean[], 14 long[], 15 County[], 16 Herd[], 17 int[][] -/
def tyL : List Nat := [9, 0, 3, 11, 11, 11, 11, 6, 11, 11, 5, 11, 11, 11, 11, 15, 0, 3, 11, 11, 11, 11, 6, 11, 11, 5, 11, 11, 11, 11, 0, 3, 11, 11, 11, 11, 6, 11, 11, 5, 11, 11, 11, 11, 13, 7, 12, 11, 11, 0, 3, 11, 11, 11, 11, 6, 11, 11, 5, 11, 11, 11, 11, 3, 11, 11, 11, 11, 8, 11, 11, 14, 4, 3, 11, 11, 11, 11, 11, 11, 2, 1, 16, 3, 11, 11, 11, 11, 3, 11, 11, 11, 11, 3, 11, 11, 11, 11, 3, 11, 11, 11, 11, 17, 11, 11, 11, 17, 11, 11, 11, 11, 10, 11, 11, 13, 11, 11, 11, 11, 11]
def lenL : List Nat := [0, 0, 0, 10, 10, 10, 5, 0, 10, 10, 0, 10, 100, 5, 3, 2, 0, 0, 10, 10, 10, 5, 0, 10, 10, 0, 10, 100, 5, 3, 0, 0, 10, 10, 10, 5, 0, 10, 10, 0, 10, 100, 5, 3, 2, 0, 150, 30, 90, 0, 0, 10, 10, 10, 5, 0, 10, 10, 0, 10, 100, 5, 3, 0, 10, 10, 10, 5, 0, 5, 5, 5, 0, 0, 10, 10, 10, 5, 5, 5, 0, 0, 4, 0, 10, 10, 10, 5, 0, 10, 10, 10, 5, 0, 10, 10, 10, 5, 0, 10, 10, 10, 5, 3, 6, 6, 6, 3, 6, 6, 6, 4, 0, 184, 368, 2, 184, 3, 150, 200, 10]
def tyOf (k : Nat) : Nat := tyL.getD k 99
def lenOf (k : Nat) : Nat := lenL.getD k 0
/-- the fields of a class: 0 an int, 1 a long, n + 2 the place n behind the object's own -/
def fkL : List (List Nat) := [[3, 8, 11, 14, 15], [3, 24, 28, 32], [0, 0, 0, 0, 0], [0, 0, 0, 0, 3, 4, 5, 6], [3, 0, 8, 9, 0, 0, 0], [0, 3, 4], [0, 3, 4, 0], [3, 0, 0, 4, 5, 0, 0, 0, 0], [3, 4, 5, 1, 0], [3, 17, 46, 47, 51, 65, 70, 74, 82, 83, 1, 1, 0, 0, 0], [3, 4, 5, 6, 7, 0, 1, 1, 8, 0, 0, 0, 0, 0, 9, 0, 10, 0, 0, 0]]
def fkOf (ci : Nat) : List Nat := fkL.getD ci []
abbrev clX : List vw_C := [(RX0, TX0, 5), (RX1, TX1, 4), (RX2, TX2, 5), (RX3, TX3, 8), (RX5, TX5, 7), (RX6, TX6, 3), (RX7, TX7, 4), (RX8, TX8, 9), (RX9, TX9, 5), (RX10, TX10, 15), (RX11, TX11, 20)]
def fld (ad : Nat → Nat) (μ : Mem) (k j c : Nat) : Value := if c = 0 then .int (μ.1 k j) else if c = 1 then .long (μ.2 k j) else .ref (ad (k + (c - 2)))
def flds (ad : Nat → Nat) (μ : Mem) (k ci : Nat) : List Value := (fkOf ci).mapIdx (fun j c => fld ad μ k j c)
def rowA (ad : Nat → Nat) (k st : Nat) : Nat → Option Nat := fun i => some (ad (k + 1 + st * i))
def cellE (cy : Nat → ClassId) (ad : Nat → Nat) (μ : Mem) (k : Nat) : va_E :=
  if tyOf k ≤ 10 then .inr (tyOf k, flds ad μ k (tyOf k))
  else if tyOf k = 14 then .inl (cy 14, lenOf k, .inr (.inl (μ.2 k)))
  else if tyOf k = 15 then .inl (cy 15, lenOf k, .inr (.inr (.inr (.inr (rowA ad k 14)))))
  else if tyOf k = 16 then .inl (cy 16, lenOf k, .inr (.inr (.inr (.inr (rowA ad k 5)))))
  else if tyOf k = 17 then .inl (cy 17, lenOf k, .inr (.inr (.inr (.inr (rowA ad k 1)))))
  else .inl (cy (tyOf k), lenOf k, .inl (μ.1 k))
def wsOf (cy : Nat → ClassId) (ad : Nat → Nat) (μ : Mem) : va_W := (List.range NP).map (fun k => (ad k, cellE cy ad μ k))
abbrev tysX (cy : Nat → ClassId) : List (ClassId × FieldType) := [(cy 11, .int), (cy 12, .char), (cy 13, .boolean), (cy 14, .long), (cy 15, .object RX0), (cy 16, .object RX3), (cy 17, .array .int)]
def setI (μ : Mem) (a j : Nat) (x : Int32) : Mem := (fun b i => if b = a ∧ i = j then x else μ.1 b i, μ.2)
def setL (μ : Mem) (a j : Nat) (x : Int64) : Mem := (μ.1, fun b i => if b = a ∧ i = j then x else μ.2 b i)
def cpyI (μ : Mem) (src sp dst dp n : Nat) : Mem := (fun b i => if b = dst ∧ dp ≤ i ∧ i < dp + n then μ.1 src (sp + (i - dp)) else μ.1 b i, μ.2)
theorem ty_lt {k : Nat} (h : tyOf k ≤ 17) : k < NP := by
  by_cases hk : k < 121
  · exact hk
  · have : tyOf k = 99 := by
      unfold tyOf
      rw [List.getD_eq_getElem?_getD, List.getElem?_eq_none (by show 121 ≤ k; omega)]
      rfl
    omega
theorem wsOf_at (cy : Nat → ClassId) (ad : Nat → Nat) (μ : Mem) {k : Nat} (h : k < NP) : (wsOf cy ad μ)[k]? = some (ad k, cellE cy ad μ k) := by
  unfold wsOf
  rw [List.getElem?_map, List.getElem?_range h]
  rfl
theorem wsOf_len (cy : Nat → ClassId) (ad : Nat → Nat) (μ : Mem) : (wsOf cy ad μ).length = NP := by simp [wsOf]
theorem flds_at {ad : Nat → Nat} {μ : Mem} {k ci j c : Nat} (h : (fkOf ci)[j]? = some c) : (flds ad μ k ci)[j]? = some (fld ad μ k j c) := by
  unfold flds
  rw [List.getElem?_mapIdx, h]
  rfl
theorem flds_len {ad : Nat → Nat} {μ : Mem} {k ci : Nat} : (flds ad μ k ci).length = (fkOf ci).length := by simp [flds]
theorem fld_other {ad : Nat → Nat} {μ ν : Mem} {k j c : Nat} (h1 : ν.1 k j = μ.1 k j) (h2 : ν.2 k j = μ.2 k j) : fld ad ν k j c = fld ad μ k j c := by
  unfold fld
  rw [h1, h2]
theorem flds_other {ad : Nat → Nat} {μ ν : Mem} {k ci : Nat} (h1 : ∀ j, ν.1 k j = μ.1 k j) (h2 : ∀ j, ν.2 k j = μ.2 k j) : flds ad ν k ci = flds ad μ k ci := by
  apply List.ext_getElem?
  intro j
  unfold flds
  rw [List.getElem?_mapIdx, List.getElem?_mapIdx]
  cases (fkOf ci)[j]? with
  | none => rfl
  | some c => exact congrArg some (fld_other (h1 j) (h2 j))
theorem cell_other {cy : Nat → ClassId} {ad : Nat → Nat} {μ ν : Mem} {k : Nat} (h1 : ∀ j, ν.1 k j = μ.1 k j) (h2 : ∀ j, ν.2 k j = μ.2 k j) : cellE cy ad ν k = cellE cy ad μ k := by
  have e1 : ν.1 k = μ.1 k := funext h1
  have e2 : ν.2 k = μ.2 k := funext h2
  unfold cellE
  rw [flds_other h1 h2, e1, e2]
/-- a world of which one place's cell is another: the world of the memory that differs there -/
theorem wsOf_set {cy : Nat → ClassId} {ad : Nat → Nat} {μ ν : Mem} {a : Nat} {e : va_E} (ha : a < NP) (h1 : ∀ k j, k ≠ a → ν.1 k j = μ.1 k j) (h2 : ∀ k j, k ≠ a → ν.2 k j = μ.2 k j) (he : cellE cy ad ν a = e) : (wsOf cy ad μ).set a (ad a, e) = wsOf cy ad ν := by
  apply List.ext_getElem?
  intro k
  by_cases hk : k < NP
  · by_cases hka : k = a
    · subst hka
      rw [List.getElem?_set_self (by rw [wsOf_len]; exact hk), wsOf_at _ _ _ hk, he]
    · rw [List.getElem?_set_ne (fun q => hka q.symm), wsOf_at _ _ _ hk, wsOf_at _ _ _ hk, cell_other (fun j => h1 k j hka) (fun j => h2 k j hka)]
  · rw [List.getElem?_eq_none (by rw [List.length_set, wsOf_len]; omega), List.getElem?_eq_none (by rw [wsOf_len]; omega)]
theorem cell_obj {cy : Nat → ClassId} {ad : Nat → Nat} {μ : Mem} {k ci : Nat} (h : tyOf k = ci) (hc : ci ≤ 10) : cellE cy ad μ k = .inr (ci, flds ad μ k ci) := by
  subst h
  unfold cellE
  rw [if_pos hc]
theorem cell_arr {cy : Nat → ClassId} {ad : Nat → Nat} {μ : Mem} {k t n : Nat} (h : tyOf k = t) (hn : lenOf k = n) (ht : t = 11 ∨ t = 12 ∨ t = 13) : cellE cy ad μ k = .inl (cy t, n, .inl (μ.1 k)) := by
  subst h; subst hn
  unfold cellE
  rw [if_neg (by omega), if_neg (by omega), if_neg (by omega), if_neg (by omega), if_neg (by omega)]
theorem cell_lng {cy : Nat → ClassId} {ad : Nat → Nat} {μ : Mem} {k n : Nat} (h : tyOf k = 14) (hn : lenOf k = n) : cellE cy ad μ k = .inl (cy 14, n, .inr (.inl (μ.2 k))) := by
  subst hn
  unfold cellE
  rw [if_neg (by omega), if_pos h]
theorem cell_row {cy : Nat → ClassId} {ad : Nat → Nat} {μ : Mem} {k t n st : Nat} (h : tyOf k = t) (hn : lenOf k = n) (ht : (t = 15 ∧ st = 14) ∨ (t = 16 ∧ st = 5) ∨ (t = 17 ∧ st = 1)) : cellE cy ad μ k = .inl (cy t, n, .inr (.inr (.inr (.inr (rowA ad k st))))) := by
  subst hn
  unfold cellE
  rcases ht with ⟨rfl, rfl⟩ | ⟨rfl, rfl⟩ | ⟨rfl, rfl⟩
  · rw [if_neg (by omega), if_neg (by omega), if_pos h]
  · rw [if_neg (by omega), if_neg (by omega), if_neg (by omega), if_pos h]
  · rw [if_neg (by omega), if_neg (by omega), if_neg (by omega), if_neg (by omega), if_pos h]
theorem flds_setI {ad : Nat → Nat} {μ : Mem} {k ci j : Nat} {x : Int32} (h : (fkOf ci)[j]? = some 0) : flds ad (setI μ k j x) k ci = (flds ad μ k ci).set j (.int x) := by
  apply List.ext_getElem?
  intro i
  by_cases hij : j = i
  · subst hij
    rw [List.getElem?_set_self (by rw [flds_len]; exact (List.getElem?_eq_some_iff.mp h).1), flds_at h]
    simp [fld, setI]
  · rw [List.getElem?_set_ne hij]
    unfold flds
    rw [List.getElem?_mapIdx, List.getElem?_mapIdx]
    cases (fkOf ci)[i]? with
    | none => rfl
    | some c => exact congrArg some (fld_other (by simp [setI, Ne.symm hij]) rfl)
theorem flds_setL {ad : Nat → Nat} {μ : Mem} {k ci j : Nat} {x : Int64} (h : (fkOf ci)[j]? = some 1) : flds ad (setL μ k j x) k ci = (flds ad μ k ci).set j (.long x) := by
  apply List.ext_getElem?
  intro i
  by_cases hij : j = i
  · subst hij
    rw [List.getElem?_set_self (by rw [flds_len]; exact (List.getElem?_eq_some_iff.mp h).1), flds_at h]
    simp [fld, setL]
  · rw [List.getElem?_set_ne hij]
    unfold flds
    rw [List.getElem?_mapIdx, List.getElem?_mapIdx]
    cases (fkOf ci)[i]? with
    | none => rfl
    | some c => exact congrArg some (fld_other rfl (by simp [setL, Ne.symm hij]))
theorem setI_row (μ : Mem) (a j : Nat) (x : Int32) : (setI μ a j x).1 a = upd (μ.1 a) j x := by
  funext i
  by_cases h : i = j
  · simp [setI, upd, h]
  · simp [setI, upd, h]
theorem setL_row (μ : Mem) (a j : Nat) (x : Int64) : (setL μ a j x).2 a = vp_updL (μ.2 a) j x := by
  funext i
  by_cases h : i = j
  · simp [setL, vp_updL, h]
  · simp [setL, vp_updL, h]
theorem cpyI_row (μ : Mem) (src sp dst dp n : Nat) : (cpyI μ src sp dst dp n).1 dst = va_cpy (μ.1 src) (μ.1 dst) sp dp n := by
  funext i
  by_cases h : dp ≤ i ∧ i < dp + n
  · simp [cpyI, va_cpy, h]
  · simp [cpyI, va_cpy, h]
