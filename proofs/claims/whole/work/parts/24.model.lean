def ILs : List (Nat → Int32) := [fun j => ([0, 0, 0, 0, 0, 0, 0, 0, 0, 0, 0, 0, 0, 0, 0] : List Int32).getD j 0, fun j => ([0, 0, 0, 0, 0] : List Int32).getD j 0, fun j => ([3, 0, 0, 0, 0, 0, 0, 0] : List Int32).getD j 0, fun _ => 0, fun _ => 0, fun _ => 0, fun _ => 0, fun j => ([0, 0, 0, 0] : List Int32).getD j 0, fun _ => 0, fun _ => 0, fun j => ([0, 0, 0] : List Int32).getD j 0, fun _ => 0, fun _ => 0, fun _ => 0, fun _ => 0, fun _ => 0, fun j => ([0, 0, 0, 0, 0] : List Int32).getD j 0, fun j => ([3, 0, 0, 0, 0, 0, 0, 0] : List Int32).getD j 0, fun _ => 0, fun _ => 0, fun _ => 0, fun _ => 0, fun j => ([0, 0, 0, 0] : List Int32).getD j 0, fun _ => 0, fun _ => 0, fun j => ([0, 0, 0] : List Int32).getD j 0, fun _ => 0, fun _ => 0, fun _ => 0, fun _ => 0, fun j => ([0, 0, 0, 0, 0] : List Int32).getD j 0, fun j => ([3, 0, 0, 0, 0, 0, 0, 0] : List Int32).getD j 0, fun _ => 0, fun _ => 0, fun _ => 0, fun _ => 0, fun j => ([0, 0, 0, 0] : List Int32).getD j 0, fun _ => 0, fun _ => 0, fun j => ([0, 0, 0] : List Int32).getD j 0, fun _ => 0, fun _ => 0, fun _ => 0, fun _ => 0, fun _ => 0, fun j => ([0, 0, 0, 0, 0, 0, 0, 0, 0] : List Int32).getD j 0, fun _ => 0, fun _ => 0, fun _ => 0, fun j => ([0, 0, 0, 0, 0] : List Int32).getD j 0, fun j => ([3, 0, 0, 0, 0, 0, 0, 0] : List Int32).getD j 0, fun _ => 0, fun _ => 0, fun _ => 0, fun _ => 0, fun j => ([0, 0, 0, 0] : List Int32).getD j 0, fun _ => 0, fun _ => 0, fun j => ([0, 0, 0] : List Int32).getD j 0, fun _ => 0, fun _ => 0, fun _ => 0, fun _ => 0, fun j => ([3, 0, 0, 0, 0, 0, 0, 0] : List Int32).getD j 0, fun _ => 0, fun _ => 0, fun _ => 0, fun _ => 0, fun j => ([0, 0, 0, 0, 0] : List Int32).getD j 0, fun _ => 0, fun _ => 0, fun _ => 0, fun j => ([0, 0, 0, 0, 0, (-1), (-1)] : List Int32).getD j 0, fun j => ([3, 0, 0, 0, 0, 0, 0, 0] : List Int32).getD j 0, fun _ => 0, fun _ => 0, fun _ => 0, fun _ => 0, fun _ => 0, fun _ => 0, fun j => ([0, 0, 0, 0, (-1)] : List Int32).getD j 0, fun j => ([0, 0, 0, 0] : List Int32).getD j 0, fun _ => 0, fun j => ([3, 0, 0, 0, 0, 0, 0, 0] : List Int32).getD j 0, fun _ => 0, fun _ => 0, fun _ => 0, fun _ => 0, fun j => ([3, 0, 0, 0, 0, 0, 0, 0] : List Int32).getD j 0, fun _ => 0, fun _ => 0, fun _ => 0, fun _ => 0, fun j => ([3, 0, 0, 0, 0, 0, 0, 0] : List Int32).getD j 0, fun _ => 0, fun _ => 0, fun _ => 0, fun _ => 0, fun j => ([3, 0, 0, 0, 0, 0, 0, 0] : List Int32).getD j 0, fun _ => 0, fun _ => 0, fun _ => 0, fun _ => 0, fun _ => 0, fun _ => 0, fun _ => 0, fun _ => 0, fun _ => 0, fun _ => 0, fun _ => 0, fun _ => 0, fun _ => 0, fun j => ([0, 0, 0, 0, 0, 0, 0, 0, 0, 0, 0, 0, 0, 0, 0, 0, 0, 0, 0, 0] : List Int32).getD j 0, fun _ => 0, fun _ => 0, fun _ => 0, fun _ => 0, fun _ => 0, fun _ => 0, fun _ => 0, fun _ => 0]
def LLs : List (Nat → Int64) := [fun j => ([0, 0, 0, 0, 0, 0, 0, 0, 0, 0, 0, 1, 0, 0, 0] : List Int64).getD j 0, fun _ => 0, fun _ => 0, fun _ => 0, fun _ => 0, fun _ => 0, fun _ => 0, fun _ => 0, fun _ => 0, fun _ => 0, fun _ => 0, fun _ => 0, fun _ => 0, fun _ => 0, fun _ => 0, fun _ => 0, fun _ => 0, fun _ => 0, fun _ => 0, fun _ => 0, fun _ => 0, fun _ => 0, fun _ => 0, fun _ => 0, fun _ => 0, fun _ => 0, fun _ => 0, fun _ => 0, fun _ => 0, fun _ => 0, fun _ => 0, fun _ => 0, fun _ => 0, fun _ => 0, fun _ => 0, fun _ => 0, fun _ => 0, fun _ => 0, fun _ => 0, fun _ => 0, fun _ => 0, fun _ => 0, fun _ => 0, fun _ => 0, fun _ => 0, fun _ => 0, fun _ => 0, fun _ => 0, fun _ => 0, fun _ => 0, fun _ => 0, fun _ => 0, fun _ => 0, fun _ => 0, fun _ => 0, fun _ => 0, fun _ => 0, fun _ => 0, fun _ => 0, fun _ => 0, fun _ => 0, fun _ => 0, fun _ => 0, fun _ => 0, fun _ => 0, fun _ => 0, fun _ => 0, fun _ => 0, fun j => ([0, 0, 0, 1, 0] : List Int64).getD j 0, fun _ => 0, fun _ => 0, fun _ => 0, fun _ => 0, fun _ => 0, fun _ => 0, fun _ => 0, fun _ => 0, fun _ => 0, fun _ => 0, fun _ => 0, fun _ => 0, fun _ => 0, fun _ => 0, fun _ => 0, fun _ => 0, fun _ => 0, fun _ => 0, fun _ => 0, fun _ => 0, fun _ => 0, fun _ => 0, fun _ => 0, fun _ => 0, fun _ => 0, fun _ => 0, fun _ => 0, fun _ => 0, fun _ => 0, fun _ => 0, fun _ => 0, fun _ => 0, fun _ => 0, fun _ => 0, fun _ => 0, fun _ => 0, fun _ => 0, fun _ => 0, fun _ => 0, fun _ => 0, fun _ => 0, fun _ => 0, fun _ => 0, fun j => ([0, 0, 0, 0, 0, 0, 0, 1, 0, 0, 0, 0, 0, 0, 0, 0, 0, 0, 0, 0] : List Int64).getD j 0, fun _ => 0, fun _ => 0, fun _ => 0, fun _ => 0, fun _ => 0, fun _ => 0, fun _ => 0, fun _ => 0]
def μI : Mem := (fun k => ILs.getD k (fun _ => 0), fun k => LLs.getD k (fun _ => 0))
def ordL : List Nat := [112, 0, 1, 2, 3, 4, 5, 6, 7, 8, 9, 10, 11, 12, 13, 14, 15, 44, 45, 46, 47, 48, 49, 50, 51, 52, 53, 54, 55, 56, 57, 58, 59, 60, 61, 62, 63, 64, 65, 66, 67, 68, 69, 70, 71, 72, 73, 74, 75, 76, 77, 78, 79, 80, 81, 82, 103, 104, 105, 106, 107, 108, 109, 110, 111, 83, 84, 85, 86, 87, 88, 89, 90, 91, 92, 93, 94, 95, 96, 97, 98, 99, 100, 101, 102, 16, 17, 18, 19, 20, 21, 22, 23, 24, 25, 26, 27, 28, 29, 30, 31, 32, 33, 34, 35, 36, 37, 38, 39, 40, 41, 42, 43, 113, 114, 115, 116, 117, 118, 119, 120]
theorem ordL_all : ∀ k, k < 121 → k ∈ ordL := by decide +kernel
theorem ordL_lt : ∀ k ∈ ordL, k < 121 := by decide +kernel
theorem nd_inj {α : Type} {f : Nat → α} : ∀ {L : List Nat}, (∀ (i j : Nat) (x y : α), (L.map f)[i]? = some x → (L.map f)[j]? = some y → x = y → i = j) → ∀ a ∈ L, ∀ b ∈ L, f a = f b → a = b := by
  intro L h a ha b hb hab
  obtain ⟨i, hi⟩ := List.getElem?_of_mem ha
  obtain ⟨j, hj⟩ := List.getElem?_of_mem hb
  have e1 : (L.map f)[i]? = some (f a) := by rw [List.getElem?_map, hi]; rfl
  have e2 : (L.map f)[j]? = some (f b) := by rw [List.getElem?_map, hj]; rfl
  have := h i j _ _ e1 e2 hab
  subst this
  exact Option.some.inj (hi.symm.trans hj)
theorem at_row {D : va_G} {cl : List vw_C} {a n : Nat} {c : ClassId} {f f' : Nat → Option Nat} {H : Heap} (hf : ∀ j, j < n → f j = f' j) (h : va_at D cl (a, .inl (c, n, .inr (.inr (.inr (.inr f))))) H) : va_at D cl (a, .inl (c, n, .inr (.inr (.inr (.inr f'))))) H := by
  have h : H[a]? = some (arrV c n (fun j => va_rf (f j))) := h
  show H[a]? = some (arrV c n (fun j => va_rf (f' j)))
  rw [h]
  unfold arrV
  congr 2
  congr 1
  funext j
  show va_rf (f j.val) = va_rf (f' j.val)
  rw [hf j.val j.isLt]
theorem dX11_init_0 : decode cX11_init 0 = .ok (.aload_n 0, 1) := by decide +kernel
theorem dX11_init_1 : decode cX11_init 1 = .ok (.invokespecial 1, 3) := by decide +kernel
theorem dX11_init_4 : decode cX11_init 4 = .ok (.aload_n 0, 1) := by decide +kernel
theorem dX11_init_5 : decode cX11_init 5 = .ok (.sipush 184, 3) := by decide +kernel
theorem dX11_init_8 : decode cX11_init 8 = .ok (.newarray .int, 2) := by decide +kernel
theorem dX11_init_10 : decode cX11_init 10 = .ok (.putfield 7, 3) := by decide +kernel
theorem dX11_init_13 : decode cX11_init 13 = .ok (.aload_n 0, 1) := by decide +kernel
theorem dX11_init_14 : decode cX11_init 14 = .ok (.sipush 368, 3) := by decide +kernel
theorem dX11_init_17 : decode cX11_init 17 = .ok (.newarray .int, 2) := by decide +kernel
theorem dX11_init_19 : decode cX11_init 19 = .ok (.putfield 13, 3) := by decide +kernel
theorem dX11_init_22 : decode cX11_init 22 = .ok (.aload_n 0, 1) := by decide +kernel
theorem dX11_init_23 : decode cX11_init 23 = .ok (.iconst 2, 1) := by decide +kernel
theorem dX11_init_24 : decode cX11_init 24 = .ok (.newarray .boolean, 2) := by decide +kernel
theorem dX11_init_26 : decode cX11_init 26 = .ok (.putfield 16, 3) := by decide +kernel
theorem dX11_init_29 : decode cX11_init 29 = .ok (.aload_n 0, 1) := by decide +kernel
theorem dX11_init_30 : decode cX11_init 30 = .ok (.sipush 184, 3) := by decide +kernel
theorem dX11_init_33 : decode cX11_init 33 = .ok (.newarray .int, 2) := by decide +kernel
theorem dX11_init_35 : decode cX11_init 35 = .ok (.putfield 20, 3) := by decide +kernel
theorem dX11_init_38 : decode cX11_init 38 = .ok (.aload_n 0, 1) := by decide +kernel
theorem dX11_init_39 : decode cX11_init 39 = .ok (.iconst 3, 1) := by decide +kernel
theorem dX11_init_40 : decode cX11_init 40 = .ok (.newarray .int, 2) := by decide +kernel
theorem dX11_init_42 : decode cX11_init 42 = .ok (.putfield 23, 3) := by decide +kernel
theorem dX11_init_45 : decode cX11_init 45 = .ok (.aload_n 0, 1) := by decide +kernel
theorem dX11_init_46 : decode cX11_init 46 = .ok (.sipush 150, 3) := by decide +kernel
theorem dX11_init_49 : decode cX11_init 49 = .ok (.newarray .int, 2) := by decide +kernel
theorem dX11_init_51 : decode cX11_init 51 = .ok (.putfield 26, 3) := by decide +kernel
theorem dX11_init_54 : decode cX11_init 54 = .ok (.aload_n 0, 1) := by decide +kernel
theorem dX11_init_55 : decode cX11_init 55 = .ok (.sipush 200, 3) := by decide +kernel
theorem dX11_init_58 : decode cX11_init 58 = .ok (.newarray .int, 2) := by decide +kernel
theorem dX11_init_60 : decode cX11_init 60 = .ok (.putfield 29, 3) := by decide +kernel
theorem dX11_init_63 : decode cX11_init 63 = .ok (.aload_n 0, 1) := by decide +kernel
theorem dX11_init_64 : decode cX11_init 64 = .ok (.bipush 10, 2) := by decide +kernel
theorem dX11_init_66 : decode cX11_init 66 = .ok (.newarray .int, 2) := by decide +kernel
theorem dX11_init_68 : decode cX11_init 68 = .ok (.putfield 32, 3) := by decide +kernel
theorem dX11_init_71 : decode cX11_init 71 = .ok (.aload_n 0, 1) := by decide +kernel
theorem dX11_init_72 : decode cX11_init 72 = .ok (.lconst 1, 1) := by decide +kernel
theorem dX11_init_73 : decode cX11_init 73 = .ok (.putfield 35, 3) := by decide +kernel
theorem dX11_init_76 : decode cX11_init 76 = .ok (.aload_n 0, 1) := by decide +kernel
theorem dX11_init_77 : decode cX11_init 77 = .ok (.iconst 3, 1) := by decide +kernel
theorem dX11_init_78 : decode cX11_init 78 = .ok (.invokevirtual 39, 3) := by decide +kernel
theorem dX11_init_81 : decode cX11_init 81 = .ok (.return_, 1) := by decide +kernel
def adM (uX : Nat → Nat) (h q1 q2 q3 q4 q5 q6 q7 q8 : Nat) : Nat → Nat := fun k => if k < 112 then uX k else ([h, q1, q2, q3, q4, q5, q6, q7, q8] : List Nat).getD (k - 112) 0
def wM (cy : Nat → ClassId) (uX : Nat → Nat) (h q1 q2 q3 q4 q5 q6 q7 q8 : Nat) : va_W := (h, .inr (10, [.ref q1, .ref q2, .ref q3, .ref q4, .ref q5, .int 0, .long 0, .long 1, .ref q6, .int 0, .int 0, .int 0, .int 0, .int 0, .ref q7, .int 0, .ref q8, .int 0, .int 0, .int 0])) :: (dtW cy uX ++ [(q1, .inl (cy 11, 184, .inl (fun _ => 0)))] ++ [(q2, .inl (cy 11, 368, .inl (fun _ => 0)))] ++ [(q3, .inl (cy 13, 2, .inl (fun _ => 0)))] ++ [(q4, .inl (cy 11, 184, .inl (fun _ => 0)))] ++ [(q5, .inl (cy 11, 3, .inl (fun _ => 0)))] ++ [(q6, .inl (cy 11, 150, .inl (fun _ => 0)))] ++ [(q7, .inl (cy 11, 200, .inl (fun _ => 0)))] ++ [(q8, .inl (cy 11, 10, .inl (fun _ => 0)))])
theorem ce_0 (cy : Nat → ClassId) (ad : Nat → Nat) : cellE cy ad μI 0 = .inr (9, [.ref (ad 1), .ref (ad 15), .ref (ad 44), .ref (ad 45), .ref (ad 49), .ref (ad 63), .ref (ad 68), .ref (ad 72), .ref (ad 80), .ref (ad 81), .long 0, .long 1, .int 0, .int 0, .int 0]) := by
  rw [cell_obj (ci := 9) rfl (by decide)]; rfl
theorem ce_1 (cy : Nat → ClassId) (ad : Nat → Nat) : cellE cy ad μI 1 = .inr (0, [.ref (ad 2), .ref (ad 7), .ref (ad 10), .ref (ad 13), .ref (ad 14)]) := by
  rw [cell_obj (ci := 0) rfl (by decide)]; rfl
theorem ce_2 (cy : Nat → ClassId) (ad : Nat → Nat) : cellE cy ad μI 2 = .inr (3, [.int 3, .int 0, .int 0, .int 0, .ref (ad 3), .ref (ad 4), .ref (ad 5), .ref (ad 6)]) := by
  rw [cell_obj (ci := 3) rfl (by decide)]; rfl
theorem ce_3 (cy : Nat → ClassId) (ad : Nat → Nat) : cellE cy ad μI 3 = .inl (cy 11, 10, .inl (fun _ => 0)) := by
  rw [cell_arr (t := 11) (n := 10) rfl rfl (by omega)]; rfl
theorem ce_4 (cy : Nat → ClassId) (ad : Nat → Nat) : cellE cy ad μI 4 = .inl (cy 11, 10, .inl (fun _ => 0)) := by
  rw [cell_arr (t := 11) (n := 10) rfl rfl (by omega)]; rfl
theorem ce_5 (cy : Nat → ClassId) (ad : Nat → Nat) : cellE cy ad μI 5 = .inl (cy 11, 10, .inl (fun _ => 0)) := by
  rw [cell_arr (t := 11) (n := 10) rfl rfl (by omega)]; rfl
theorem ce_6 (cy : Nat → ClassId) (ad : Nat → Nat) : cellE cy ad μI 6 = .inl (cy 11, 5, .inl (fun _ => 0)) := by
  rw [cell_arr (t := 11) (n := 5) rfl rfl (by omega)]; rfl
theorem ce_7 (cy : Nat → ClassId) (ad : Nat → Nat) : cellE cy ad μI 7 = .inr (6, [.int 0, .ref (ad 8), .ref (ad 9), .int 0]) := by
  rw [cell_obj (ci := 6) rfl (by decide)]; rfl
theorem ce_8 (cy : Nat → ClassId) (ad : Nat → Nat) : cellE cy ad μI 8 = .inl (cy 11, 10, .inl (fun _ => 0)) := by
  rw [cell_arr (t := 11) (n := 10) rfl rfl (by omega)]; rfl
theorem ce_9 (cy : Nat → ClassId) (ad : Nat → Nat) : cellE cy ad μI 9 = .inl (cy 11, 10, .inl (fun _ => 0)) := by
  rw [cell_arr (t := 11) (n := 10) rfl rfl (by omega)]; rfl
theorem ce_10 (cy : Nat → ClassId) (ad : Nat → Nat) : cellE cy ad μI 10 = .inr (5, [.int 0, .ref (ad 11), .ref (ad 12)]) := by
  rw [cell_obj (ci := 5) rfl (by decide)]; rfl
theorem ce_11 (cy : Nat → ClassId) (ad : Nat → Nat) : cellE cy ad μI 11 = .inl (cy 11, 10, .inl (fun _ => 0)) := by
  rw [cell_arr (t := 11) (n := 10) rfl rfl (by omega)]; rfl
theorem ce_12 (cy : Nat → ClassId) (ad : Nat → Nat) : cellE cy ad μI 12 = .inl (cy 11, 100, .inl (fun _ => 0)) := by
  rw [cell_arr (t := 11) (n := 100) rfl rfl (by omega)]; rfl
theorem ce_13 (cy : Nat → ClassId) (ad : Nat → Nat) : cellE cy ad μI 13 = .inl (cy 11, 5, .inl (fun _ => 0)) := by
  rw [cell_arr (t := 11) (n := 5) rfl rfl (by omega)]; rfl
theorem ce_14 (cy : Nat → ClassId) (ad : Nat → Nat) : cellE cy ad μI 14 = .inl (cy 11, 3, .inl (fun _ => 0)) := by
  rw [cell_arr (t := 11) (n := 3) rfl rfl (by omega)]; rfl
theorem ce_15 (cy : Nat → ClassId) (ad : Nat → Nat) : cellE cy ad μI 15 = .inl (cy 15, 2, .inr (.inr (.inr (.inr (rowA ad 15 14))))) := by
  rw [cell_row (t := 15) (n := 2) (st := 14) rfl rfl (by omega)]
theorem ce_16 (cy : Nat → ClassId) (ad : Nat → Nat) : cellE cy ad μI 16 = .inr (0, [.ref (ad 17), .ref (ad 22), .ref (ad 25), .ref (ad 28), .ref (ad 29)]) := by
  rw [cell_obj (ci := 0) rfl (by decide)]; rfl
theorem ce_17 (cy : Nat → ClassId) (ad : Nat → Nat) : cellE cy ad μI 17 = .inr (3, [.int 3, .int 0, .int 0, .int 0, .ref (ad 18), .ref (ad 19), .ref (ad 20), .ref (ad 21)]) := by
  rw [cell_obj (ci := 3) rfl (by decide)]; rfl
theorem ce_18 (cy : Nat → ClassId) (ad : Nat → Nat) : cellE cy ad μI 18 = .inl (cy 11, 10, .inl (fun _ => 0)) := by
  rw [cell_arr (t := 11) (n := 10) rfl rfl (by omega)]; rfl
theorem ce_19 (cy : Nat → ClassId) (ad : Nat → Nat) : cellE cy ad μI 19 = .inl (cy 11, 10, .inl (fun _ => 0)) := by
  rw [cell_arr (t := 11) (n := 10) rfl rfl (by omega)]; rfl
theorem ce_20 (cy : Nat → ClassId) (ad : Nat → Nat) : cellE cy ad μI 20 = .inl (cy 11, 10, .inl (fun _ => 0)) := by
  rw [cell_arr (t := 11) (n := 10) rfl rfl (by omega)]; rfl
theorem ce_21 (cy : Nat → ClassId) (ad : Nat → Nat) : cellE cy ad μI 21 = .inl (cy 11, 5, .inl (fun _ => 0)) := by
  rw [cell_arr (t := 11) (n := 5) rfl rfl (by omega)]; rfl
theorem ce_22 (cy : Nat → ClassId) (ad : Nat → Nat) : cellE cy ad μI 22 = .inr (6, [.int 0, .ref (ad 23), .ref (ad 24), .int 0]) := by
  rw [cell_obj (ci := 6) rfl (by decide)]; rfl
theorem ce_23 (cy : Nat → ClassId) (ad : Nat → Nat) : cellE cy ad μI 23 = .inl (cy 11, 10, .inl (fun _ => 0)) := by
  rw [cell_arr (t := 11) (n := 10) rfl rfl (by omega)]; rfl
theorem ce_24 (cy : Nat → ClassId) (ad : Nat → Nat) : cellE cy ad μI 24 = .inl (cy 11, 10, .inl (fun _ => 0)) := by
  rw [cell_arr (t := 11) (n := 10) rfl rfl (by omega)]; rfl
theorem ce_25 (cy : Nat → ClassId) (ad : Nat → Nat) : cellE cy ad μI 25 = .inr (5, [.int 0, .ref (ad 26), .ref (ad 27)]) := by
  rw [cell_obj (ci := 5) rfl (by decide)]; rfl
theorem ce_26 (cy : Nat → ClassId) (ad : Nat → Nat) : cellE cy ad μI 26 = .inl (cy 11, 10, .inl (fun _ => 0)) := by
  rw [cell_arr (t := 11) (n := 10) rfl rfl (by omega)]; rfl
theorem ce_27 (cy : Nat → ClassId) (ad : Nat → Nat) : cellE cy ad μI 27 = .inl (cy 11, 100, .inl (fun _ => 0)) := by
  rw [cell_arr (t := 11) (n := 100) rfl rfl (by omega)]; rfl
theorem ce_28 (cy : Nat → ClassId) (ad : Nat → Nat) : cellE cy ad μI 28 = .inl (cy 11, 5, .inl (fun _ => 0)) := by
  rw [cell_arr (t := 11) (n := 5) rfl rfl (by omega)]; rfl
theorem ce_29 (cy : Nat → ClassId) (ad : Nat → Nat) : cellE cy ad μI 29 = .inl (cy 11, 3, .inl (fun _ => 0)) := by
  rw [cell_arr (t := 11) (n := 3) rfl rfl (by omega)]; rfl
theorem ce_30 (cy : Nat → ClassId) (ad : Nat → Nat) : cellE cy ad μI 30 = .inr (0, [.ref (ad 31), .ref (ad 36), .ref (ad 39), .ref (ad 42), .ref (ad 43)]) := by
  rw [cell_obj (ci := 0) rfl (by decide)]; rfl
theorem ce_31 (cy : Nat → ClassId) (ad : Nat → Nat) : cellE cy ad μI 31 = .inr (3, [.int 3, .int 0, .int 0, .int 0, .ref (ad 32), .ref (ad 33), .ref (ad 34), .ref (ad 35)]) := by
  rw [cell_obj (ci := 3) rfl (by decide)]; rfl
theorem ce_32 (cy : Nat → ClassId) (ad : Nat → Nat) : cellE cy ad μI 32 = .inl (cy 11, 10, .inl (fun _ => 0)) := by
  rw [cell_arr (t := 11) (n := 10) rfl rfl (by omega)]; rfl
theorem ce_33 (cy : Nat → ClassId) (ad : Nat → Nat) : cellE cy ad μI 33 = .inl (cy 11, 10, .inl (fun _ => 0)) := by
  rw [cell_arr (t := 11) (n := 10) rfl rfl (by omega)]; rfl
theorem ce_34 (cy : Nat → ClassId) (ad : Nat → Nat) : cellE cy ad μI 34 = .inl (cy 11, 10, .inl (fun _ => 0)) := by
  rw [cell_arr (t := 11) (n := 10) rfl rfl (by omega)]; rfl
theorem ce_35 (cy : Nat → ClassId) (ad : Nat → Nat) : cellE cy ad μI 35 = .inl (cy 11, 5, .inl (fun _ => 0)) := by
  rw [cell_arr (t := 11) (n := 5) rfl rfl (by omega)]; rfl
theorem ce_36 (cy : Nat → ClassId) (ad : Nat → Nat) : cellE cy ad μI 36 = .inr (6, [.int 0, .ref (ad 37), .ref (ad 38), .int 0]) := by
  rw [cell_obj (ci := 6) rfl (by decide)]; rfl
theorem ce_37 (cy : Nat → ClassId) (ad : Nat → Nat) : cellE cy ad μI 37 = .inl (cy 11, 10, .inl (fun _ => 0)) := by
  rw [cell_arr (t := 11) (n := 10) rfl rfl (by omega)]; rfl
theorem ce_38 (cy : Nat → ClassId) (ad : Nat → Nat) : cellE cy ad μI 38 = .inl (cy 11, 10, .inl (fun _ => 0)) := by
  rw [cell_arr (t := 11) (n := 10) rfl rfl (by omega)]; rfl
theorem ce_39 (cy : Nat → ClassId) (ad : Nat → Nat) : cellE cy ad μI 39 = .inr (5, [.int 0, .ref (ad 40), .ref (ad 41)]) := by
  rw [cell_obj (ci := 5) rfl (by decide)]; rfl
theorem ce_40 (cy : Nat → ClassId) (ad : Nat → Nat) : cellE cy ad μI 40 = .inl (cy 11, 10, .inl (fun _ => 0)) := by
  rw [cell_arr (t := 11) (n := 10) rfl rfl (by omega)]; rfl
theorem ce_41 (cy : Nat → ClassId) (ad : Nat → Nat) : cellE cy ad μI 41 = .inl (cy 11, 100, .inl (fun _ => 0)) := by
  rw [cell_arr (t := 11) (n := 100) rfl rfl (by omega)]; rfl
theorem ce_42 (cy : Nat → ClassId) (ad : Nat → Nat) : cellE cy ad μI 42 = .inl (cy 11, 5, .inl (fun _ => 0)) := by
  rw [cell_arr (t := 11) (n := 5) rfl rfl (by omega)]; rfl
theorem ce_43 (cy : Nat → ClassId) (ad : Nat → Nat) : cellE cy ad μI 43 = .inl (cy 11, 3, .inl (fun _ => 0)) := by
  rw [cell_arr (t := 11) (n := 3) rfl rfl (by omega)]; rfl
theorem ce_44 (cy : Nat → ClassId) (ad : Nat → Nat) : cellE cy ad μI 44 = .inl (cy 13, 2, .inl (fun _ => 0)) := by
  rw [cell_arr (t := 13) (n := 2) rfl rfl (by omega)]; rfl
theorem ce_45 (cy : Nat → ClassId) (ad : Nat → Nat) : cellE cy ad μI 45 = .inr (7, [.ref (ad 46), .int 0, .int 0, .ref (ad 47), .ref (ad 48), .int 0, .int 0, .int 0, .int 0]) := by
  rw [cell_obj (ci := 7) rfl (by decide)]; rfl
theorem ce_46 (cy : Nat → ClassId) (ad : Nat → Nat) : cellE cy ad μI 46 = .inl (cy 12, 150, .inl (fun _ => 0)) := by
  rw [cell_arr (t := 12) (n := 150) rfl rfl (by omega)]; rfl
theorem ce_47 (cy : Nat → ClassId) (ad : Nat → Nat) : cellE cy ad μI 47 = .inl (cy 11, 30, .inl (fun _ => 0)) := by
  rw [cell_arr (t := 11) (n := 30) rfl rfl (by omega)]; rfl
theorem ce_48 (cy : Nat → ClassId) (ad : Nat → Nat) : cellE cy ad μI 48 = .inl (cy 11, 90, .inl (fun _ => 0)) := by
  rw [cell_arr (t := 11) (n := 90) rfl rfl (by omega)]; rfl
theorem ce_49 (cy : Nat → ClassId) (ad : Nat → Nat) : cellE cy ad μI 49 = .inr (0, [.ref (ad 50), .ref (ad 55), .ref (ad 58), .ref (ad 61), .ref (ad 62)]) := by
  rw [cell_obj (ci := 0) rfl (by decide)]; rfl
theorem ce_50 (cy : Nat → ClassId) (ad : Nat → Nat) : cellE cy ad μI 50 = .inr (3, [.int 3, .int 0, .int 0, .int 0, .ref (ad 51), .ref (ad 52), .ref (ad 53), .ref (ad 54)]) := by
  rw [cell_obj (ci := 3) rfl (by decide)]; rfl
theorem ce_51 (cy : Nat → ClassId) (ad : Nat → Nat) : cellE cy ad μI 51 = .inl (cy 11, 10, .inl (fun _ => 0)) := by
  rw [cell_arr (t := 11) (n := 10) rfl rfl (by omega)]; rfl
theorem ce_52 (cy : Nat → ClassId) (ad : Nat → Nat) : cellE cy ad μI 52 = .inl (cy 11, 10, .inl (fun _ => 0)) := by
  rw [cell_arr (t := 11) (n := 10) rfl rfl (by omega)]; rfl
theorem ce_53 (cy : Nat → ClassId) (ad : Nat → Nat) : cellE cy ad μI 53 = .inl (cy 11, 10, .inl (fun _ => 0)) := by
  rw [cell_arr (t := 11) (n := 10) rfl rfl (by omega)]; rfl
theorem ce_54 (cy : Nat → ClassId) (ad : Nat → Nat) : cellE cy ad μI 54 = .inl (cy 11, 5, .inl (fun _ => 0)) := by
  rw [cell_arr (t := 11) (n := 5) rfl rfl (by omega)]; rfl
theorem ce_55 (cy : Nat → ClassId) (ad : Nat → Nat) : cellE cy ad μI 55 = .inr (6, [.int 0, .ref (ad 56), .ref (ad 57), .int 0]) := by
  rw [cell_obj (ci := 6) rfl (by decide)]; rfl
theorem ce_56 (cy : Nat → ClassId) (ad : Nat → Nat) : cellE cy ad μI 56 = .inl (cy 11, 10, .inl (fun _ => 0)) := by
  rw [cell_arr (t := 11) (n := 10) rfl rfl (by omega)]; rfl
theorem ce_57 (cy : Nat → ClassId) (ad : Nat → Nat) : cellE cy ad μI 57 = .inl (cy 11, 10, .inl (fun _ => 0)) := by
  rw [cell_arr (t := 11) (n := 10) rfl rfl (by omega)]; rfl
theorem ce_58 (cy : Nat → ClassId) (ad : Nat → Nat) : cellE cy ad μI 58 = .inr (5, [.int 0, .ref (ad 59), .ref (ad 60)]) := by
  rw [cell_obj (ci := 5) rfl (by decide)]; rfl
theorem ce_59 (cy : Nat → ClassId) (ad : Nat → Nat) : cellE cy ad μI 59 = .inl (cy 11, 10, .inl (fun _ => 0)) := by
  rw [cell_arr (t := 11) (n := 10) rfl rfl (by omega)]; rfl
theorem ce_60 (cy : Nat → ClassId) (ad : Nat → Nat) : cellE cy ad μI 60 = .inl (cy 11, 100, .inl (fun _ => 0)) := by
  rw [cell_arr (t := 11) (n := 100) rfl rfl (by omega)]; rfl
theorem ce_61 (cy : Nat → ClassId) (ad : Nat → Nat) : cellE cy ad μI 61 = .inl (cy 11, 5, .inl (fun _ => 0)) := by
  rw [cell_arr (t := 11) (n := 5) rfl rfl (by omega)]; rfl
theorem ce_62 (cy : Nat → ClassId) (ad : Nat → Nat) : cellE cy ad μI 62 = .inl (cy 11, 3, .inl (fun _ => 0)) := by
  rw [cell_arr (t := 11) (n := 3) rfl rfl (by omega)]; rfl
theorem ce_63 (cy : Nat → ClassId) (ad : Nat → Nat) : cellE cy ad μI 63 = .inr (3, [.int 3, .int 0, .int 0, .int 0, .ref (ad 64), .ref (ad 65), .ref (ad 66), .ref (ad 67)]) := by
  rw [cell_obj (ci := 3) rfl (by decide)]; rfl
theorem ce_64 (cy : Nat → ClassId) (ad : Nat → Nat) : cellE cy ad μI 64 = .inl (cy 11, 10, .inl (fun _ => 0)) := by
  rw [cell_arr (t := 11) (n := 10) rfl rfl (by omega)]; rfl
theorem ce_65 (cy : Nat → ClassId) (ad : Nat → Nat) : cellE cy ad μI 65 = .inl (cy 11, 10, .inl (fun _ => 0)) := by
  rw [cell_arr (t := 11) (n := 10) rfl rfl (by omega)]; rfl
theorem ce_66 (cy : Nat → ClassId) (ad : Nat → Nat) : cellE cy ad μI 66 = .inl (cy 11, 10, .inl (fun _ => 0)) := by
  rw [cell_arr (t := 11) (n := 10) rfl rfl (by omega)]; rfl
theorem ce_67 (cy : Nat → ClassId) (ad : Nat → Nat) : cellE cy ad μI 67 = .inl (cy 11, 5, .inl (fun _ => 0)) := by
  rw [cell_arr (t := 11) (n := 5) rfl rfl (by omega)]; rfl
theorem ce_68 (cy : Nat → ClassId) (ad : Nat → Nat) : cellE cy ad μI 68 = .inr (8, [.ref (ad 69), .ref (ad 70), .ref (ad 71), .long 1, .int 0]) := by
  rw [cell_obj (ci := 8) rfl (by decide)]; rfl
theorem ce_69 (cy : Nat → ClassId) (ad : Nat → Nat) : cellE cy ad μI 69 = .inl (cy 11, 5, .inl (fun _ => 0)) := by
  rw [cell_arr (t := 11) (n := 5) rfl rfl (by omega)]; rfl
theorem ce_70 (cy : Nat → ClassId) (ad : Nat → Nat) : cellE cy ad μI 70 = .inl (cy 11, 5, .inl (fun _ => 0)) := by
  rw [cell_arr (t := 11) (n := 5) rfl rfl (by omega)]; rfl
theorem ce_71 (cy : Nat → ClassId) (ad : Nat → Nat) : cellE cy ad μI 71 = .inl (cy 14, 5, .inr (.inl (fun _ => 0))) := by
  rw [cell_lng (n := 5) rfl rfl]; rfl
theorem ce_72 (cy : Nat → ClassId) (ad : Nat → Nat) : cellE cy ad μI 72 = .inr (4, [.ref (ad 73), .int 0, .ref (ad 78), .ref (ad 79), .int 0, .int (-1), .int (-1)]) := by
  rw [cell_obj (ci := 4) rfl (by decide)]; rfl
theorem ce_73 (cy : Nat → ClassId) (ad : Nat → Nat) : cellE cy ad μI 73 = .inr (3, [.int 3, .int 0, .int 0, .int 0, .ref (ad 74), .ref (ad 75), .ref (ad 76), .ref (ad 77)]) := by
  rw [cell_obj (ci := 3) rfl (by decide)]; rfl
theorem ce_74 (cy : Nat → ClassId) (ad : Nat → Nat) : cellE cy ad μI 74 = .inl (cy 11, 10, .inl (fun _ => 0)) := by
  rw [cell_arr (t := 11) (n := 10) rfl rfl (by omega)]; rfl
theorem ce_75 (cy : Nat → ClassId) (ad : Nat → Nat) : cellE cy ad μI 75 = .inl (cy 11, 10, .inl (fun _ => 0)) := by
  rw [cell_arr (t := 11) (n := 10) rfl rfl (by omega)]; rfl
theorem ce_76 (cy : Nat → ClassId) (ad : Nat → Nat) : cellE cy ad μI 76 = .inl (cy 11, 10, .inl (fun _ => 0)) := by
  rw [cell_arr (t := 11) (n := 10) rfl rfl (by omega)]; rfl
theorem ce_77 (cy : Nat → ClassId) (ad : Nat → Nat) : cellE cy ad μI 77 = .inl (cy 11, 5, .inl (fun _ => 0)) := by
  rw [cell_arr (t := 11) (n := 5) rfl rfl (by omega)]; rfl
theorem ce_78 (cy : Nat → ClassId) (ad : Nat → Nat) : cellE cy ad μI 78 = .inl (cy 11, 5, .inl (fun _ => 0)) := by
  rw [cell_arr (t := 11) (n := 5) rfl rfl (by omega)]; rfl
theorem ce_79 (cy : Nat → ClassId) (ad : Nat → Nat) : cellE cy ad μI 79 = .inl (cy 11, 5, .inl (fun _ => 0)) := by
  rw [cell_arr (t := 11) (n := 5) rfl rfl (by omega)]; rfl
theorem ce_80 (cy : Nat → ClassId) (ad : Nat → Nat) : cellE cy ad μI 80 = .inr (2, [.int 0, .int 0, .int 0, .int 0, .int (-1)]) := by
  rw [cell_obj (ci := 2) rfl (by decide)]; rfl
theorem ce_81 (cy : Nat → ClassId) (ad : Nat → Nat) : cellE cy ad μI 81 = .inr (1, [.ref (ad 82), .ref (ad 103), .ref (ad 107), .ref (ad 111)]) := by
  rw [cell_obj (ci := 1) rfl (by decide)]; rfl
theorem ce_82 (cy : Nat → ClassId) (ad : Nat → Nat) : cellE cy ad μI 82 = .inl (cy 16, 4, .inr (.inr (.inr (.inr (rowA ad 82 5))))) := by
  rw [cell_row (t := 16) (n := 4) (st := 5) rfl rfl (by omega)]
theorem ce_83 (cy : Nat → ClassId) (ad : Nat → Nat) : cellE cy ad μI 83 = .inr (3, [.int 3, .int 0, .int 0, .int 0, .ref (ad 84), .ref (ad 85), .ref (ad 86), .ref (ad 87)]) := by
  rw [cell_obj (ci := 3) rfl (by decide)]; rfl
theorem ce_84 (cy : Nat → ClassId) (ad : Nat → Nat) : cellE cy ad μI 84 = .inl (cy 11, 10, .inl (fun _ => 0)) := by
  rw [cell_arr (t := 11) (n := 10) rfl rfl (by omega)]; rfl
theorem ce_85 (cy : Nat → ClassId) (ad : Nat → Nat) : cellE cy ad μI 85 = .inl (cy 11, 10, .inl (fun _ => 0)) := by
  rw [cell_arr (t := 11) (n := 10) rfl rfl (by omega)]; rfl
theorem ce_86 (cy : Nat → ClassId) (ad : Nat → Nat) : cellE cy ad μI 86 = .inl (cy 11, 10, .inl (fun _ => 0)) := by
  rw [cell_arr (t := 11) (n := 10) rfl rfl (by omega)]; rfl
theorem ce_87 (cy : Nat → ClassId) (ad : Nat → Nat) : cellE cy ad μI 87 = .inl (cy 11, 5, .inl (fun _ => 0)) := by
  rw [cell_arr (t := 11) (n := 5) rfl rfl (by omega)]; rfl
theorem ce_88 (cy : Nat → ClassId) (ad : Nat → Nat) : cellE cy ad μI 88 = .inr (3, [.int 3, .int 0, .int 0, .int 0, .ref (ad 89), .ref (ad 90), .ref (ad 91), .ref (ad 92)]) := by
  rw [cell_obj (ci := 3) rfl (by decide)]; rfl
theorem ce_89 (cy : Nat → ClassId) (ad : Nat → Nat) : cellE cy ad μI 89 = .inl (cy 11, 10, .inl (fun _ => 0)) := by
  rw [cell_arr (t := 11) (n := 10) rfl rfl (by omega)]; rfl
theorem ce_90 (cy : Nat → ClassId) (ad : Nat → Nat) : cellE cy ad μI 90 = .inl (cy 11, 10, .inl (fun _ => 0)) := by
  rw [cell_arr (t := 11) (n := 10) rfl rfl (by omega)]; rfl
theorem ce_91 (cy : Nat → ClassId) (ad : Nat → Nat) : cellE cy ad μI 91 = .inl (cy 11, 10, .inl (fun _ => 0)) := by
  rw [cell_arr (t := 11) (n := 10) rfl rfl (by omega)]; rfl
theorem ce_92 (cy : Nat → ClassId) (ad : Nat → Nat) : cellE cy ad μI 92 = .inl (cy 11, 5, .inl (fun _ => 0)) := by
  rw [cell_arr (t := 11) (n := 5) rfl rfl (by omega)]; rfl
theorem ce_93 (cy : Nat → ClassId) (ad : Nat → Nat) : cellE cy ad μI 93 = .inr (3, [.int 3, .int 0, .int 0, .int 0, .ref (ad 94), .ref (ad 95), .ref (ad 96), .ref (ad 97)]) := by
  rw [cell_obj (ci := 3) rfl (by decide)]; rfl
theorem ce_94 (cy : Nat → ClassId) (ad : Nat → Nat) : cellE cy ad μI 94 = .inl (cy 11, 10, .inl (fun _ => 0)) := by
  rw [cell_arr (t := 11) (n := 10) rfl rfl (by omega)]; rfl
theorem ce_95 (cy : Nat → ClassId) (ad : Nat → Nat) : cellE cy ad μI 95 = .inl (cy 11, 10, .inl (fun _ => 0)) := by
  rw [cell_arr (t := 11) (n := 10) rfl rfl (by omega)]; rfl
theorem ce_96 (cy : Nat → ClassId) (ad : Nat → Nat) : cellE cy ad μI 96 = .inl (cy 11, 10, .inl (fun _ => 0)) := by
  rw [cell_arr (t := 11) (n := 10) rfl rfl (by omega)]; rfl
theorem ce_97 (cy : Nat → ClassId) (ad : Nat → Nat) : cellE cy ad μI 97 = .inl (cy 11, 5, .inl (fun _ => 0)) := by
  rw [cell_arr (t := 11) (n := 5) rfl rfl (by omega)]; rfl
theorem ce_98 (cy : Nat → ClassId) (ad : Nat → Nat) : cellE cy ad μI 98 = .inr (3, [.int 3, .int 0, .int 0, .int 0, .ref (ad 99), .ref (ad 100), .ref (ad 101), .ref (ad 102)]) := by
  rw [cell_obj (ci := 3) rfl (by decide)]; rfl
theorem ce_99 (cy : Nat → ClassId) (ad : Nat → Nat) : cellE cy ad μI 99 = .inl (cy 11, 10, .inl (fun _ => 0)) := by
  rw [cell_arr (t := 11) (n := 10) rfl rfl (by omega)]; rfl
theorem ce_100 (cy : Nat → ClassId) (ad : Nat → Nat) : cellE cy ad μI 100 = .inl (cy 11, 10, .inl (fun _ => 0)) := by
  rw [cell_arr (t := 11) (n := 10) rfl rfl (by omega)]; rfl
theorem ce_101 (cy : Nat → ClassId) (ad : Nat → Nat) : cellE cy ad μI 101 = .inl (cy 11, 10, .inl (fun _ => 0)) := by
  rw [cell_arr (t := 11) (n := 10) rfl rfl (by omega)]; rfl
theorem ce_102 (cy : Nat → ClassId) (ad : Nat → Nat) : cellE cy ad μI 102 = .inl (cy 11, 5, .inl (fun _ => 0)) := by
  rw [cell_arr (t := 11) (n := 5) rfl rfl (by omega)]; rfl
theorem ce_103 (cy : Nat → ClassId) (ad : Nat → Nat) : cellE cy ad μI 103 = .inl (cy 17, 3, .inr (.inr (.inr (.inr (rowA ad 103 1))))) := by
  rw [cell_row (t := 17) (n := 3) (st := 1) rfl rfl (by omega)]
theorem ce_104 (cy : Nat → ClassId) (ad : Nat → Nat) : cellE cy ad μI 104 = .inl (cy 11, 6, .inl (fun _ => 0)) := by
  rw [cell_arr (t := 11) (n := 6) rfl rfl (by omega)]; rfl
theorem ce_105 (cy : Nat → ClassId) (ad : Nat → Nat) : cellE cy ad μI 105 = .inl (cy 11, 6, .inl (fun _ => 0)) := by
  rw [cell_arr (t := 11) (n := 6) rfl rfl (by omega)]; rfl
theorem ce_106 (cy : Nat → ClassId) (ad : Nat → Nat) : cellE cy ad μI 106 = .inl (cy 11, 6, .inl (fun _ => 0)) := by
  rw [cell_arr (t := 11) (n := 6) rfl rfl (by omega)]; rfl
theorem ce_107 (cy : Nat → ClassId) (ad : Nat → Nat) : cellE cy ad μI 107 = .inl (cy 17, 3, .inr (.inr (.inr (.inr (rowA ad 107 1))))) := by
  rw [cell_row (t := 17) (n := 3) (st := 1) rfl rfl (by omega)]
theorem ce_108 (cy : Nat → ClassId) (ad : Nat → Nat) : cellE cy ad μI 108 = .inl (cy 11, 6, .inl (fun _ => 0)) := by
  rw [cell_arr (t := 11) (n := 6) rfl rfl (by omega)]; rfl
theorem ce_109 (cy : Nat → ClassId) (ad : Nat → Nat) : cellE cy ad μI 109 = .inl (cy 11, 6, .inl (fun _ => 0)) := by
  rw [cell_arr (t := 11) (n := 6) rfl rfl (by omega)]; rfl
theorem ce_110 (cy : Nat → ClassId) (ad : Nat → Nat) : cellE cy ad μI 110 = .inl (cy 11, 6, .inl (fun _ => 0)) := by
  rw [cell_arr (t := 11) (n := 6) rfl rfl (by omega)]; rfl
theorem ce_111 (cy : Nat → ClassId) (ad : Nat → Nat) : cellE cy ad μI 111 = .inl (cy 11, 4, .inl (fun _ => 0)) := by
  rw [cell_arr (t := 11) (n := 4) rfl rfl (by omega)]; rfl
theorem mI_112 : μI.1 112 = (fun j => ([0, 0, 0, 0, 0, 0, 0, 0, 0, 0, 0, 0, 0, 0, 0, 0, 0, 0, 0, 0] : List Int32).getD j 0) := rfl
theorem lI_112 : μI.2 112 = (fun j => ([0, 0, 0, 0, 0, 0, 0, 1, 0, 0, 0, 0, 0, 0, 0, 0, 0, 0, 0, 0] : List Int64).getD j 0) := rfl
set_option maxHeartbeats 16000000 in
theorem ce_112 (cy : Nat → ClassId) (ad : Nat → Nat) : cellE cy ad μI 112 = .inr (10, [.ref (ad 113), .ref (ad 114), .ref (ad 115), .ref (ad 116), .ref (ad 117), .int 0, .long 0, .long 1, .ref (ad 118), .int 0, .int 0, .int 0, .int 0, .int 0, .ref (ad 119), .int 0, .ref (ad 120), .int 0, .int 0, .int 0]) := by
  rw [cell_obj (ci := 10) rfl (by decide)]
  unfold flds fld
  rw [mI_112, lI_112]
  rfl
theorem ce_113 (cy : Nat → ClassId) (ad : Nat → Nat) : cellE cy ad μI 113 = .inl (cy 11, 184, .inl (fun _ => 0)) := by
  rw [cell_arr (t := 11) (n := 184) rfl rfl (by omega)]; rfl
theorem ce_114 (cy : Nat → ClassId) (ad : Nat → Nat) : cellE cy ad μI 114 = .inl (cy 11, 368, .inl (fun _ => 0)) := by
  rw [cell_arr (t := 11) (n := 368) rfl rfl (by omega)]; rfl
theorem ce_115 (cy : Nat → ClassId) (ad : Nat → Nat) : cellE cy ad μI 115 = .inl (cy 13, 2, .inl (fun _ => 0)) := by
  rw [cell_arr (t := 13) (n := 2) rfl rfl (by omega)]; rfl
theorem ce_116 (cy : Nat → ClassId) (ad : Nat → Nat) : cellE cy ad μI 116 = .inl (cy 11, 184, .inl (fun _ => 0)) := by
  rw [cell_arr (t := 11) (n := 184) rfl rfl (by omega)]; rfl
theorem ce_117 (cy : Nat → ClassId) (ad : Nat → Nat) : cellE cy ad μI 117 = .inl (cy 11, 3, .inl (fun _ => 0)) := by
  rw [cell_arr (t := 11) (n := 3) rfl rfl (by omega)]; rfl
theorem ce_118 (cy : Nat → ClassId) (ad : Nat → Nat) : cellE cy ad μI 118 = .inl (cy 11, 150, .inl (fun _ => 0)) := by
  rw [cell_arr (t := 11) (n := 150) rfl rfl (by omega)]; rfl
theorem ce_119 (cy : Nat → ClassId) (ad : Nat → Nat) : cellE cy ad μI 119 = .inl (cy 11, 200, .inl (fun _ => 0)) := by
  rw [cell_arr (t := 11) (n := 200) rfl rfl (by omega)]; rfl
theorem ce_120 (cy : Nat → ClassId) (ad : Nat → Nat) : cellE cy ad μI 120 = .inl (cy 11, 10, .inl (fun _ => 0)) := by
  rw [cell_arr (t := 11) (n := 10) rfl rfl (by omega)]; rfl
theorem P_left {D : va_G} {cl : List vw_C} {a b : va_W} {H : Heap} (h : va_P D cl (a ++ b) H) : va_P D cl a H := fun k q hq => h k q (by rw [List.getElem?_append_left (List.getElem?_eq_some_iff.mp hq).1]; exact hq)
theorem P_right {D : va_G} {cl : List vw_C} {a b : va_W} {H : Heap} (h : va_P D cl (a ++ b) H) : va_P D cl b H := fun k q hq => h (a.length + k) q (by rw [List.getElem?_append_right (Nat.le_add_right _ _), Nat.add_sub_cancel_left]; exact hq)
theorem P_head {D : va_G} {cl : List vw_C} {x : Nat × va_E} {b : va_W} {H : Heap} (h : va_P D cl (x :: b) H) : va_at D cl x H := h 0 x rfl
theorem P_tail {D : va_G} {cl : List vw_C} {x : Nat × va_E} {b : va_W} {H : Heap} (h : va_P D cl (x :: b) H) : va_P D cl b H := fun k q hq => h (k + 1) q hq
theorem wM_ad (cy : Nat → ClassId) (uX : Nat → Nat) (h q1 q2 q3 q4 q5 q6 q7 q8 : Nat) : (wM cy uX h q1 q2 q3 q4 q5 q6 q7 q8).map Prod.fst = ordL.map (adM uX h q1 q2 q3 q4 q5 q6 q7 q8) := by
  simp only [wM, dtW, countyW, herdW, roadsW, pastW, scrollW, weatherW, movesW, gameW, fitW, gridW, List.map_append, List.map_cons, List.map_nil, List.cons_append, List.nil_append, ordL]
  rfl
set_option maxHeartbeats 8000000 in
set_option maxRecDepth 100000 in
theorem wM_P {cy : Nat → ClassId} {D : va_G} {uX : Nat → Nat} {h q1 q2 q3 q4 q5 q6 q7 q8 : Nat} {H : Heap} (hP : va_P D clX (wM cy uX h q1 q2 q3 q4 q5 q6 q7 q8) H) : va_P D clX (wsOf cy (adM uX h q1 q2 q3 q4 q5 q6 q7 q8) μI) H := by
  unfold wM at hP
  have hM := P_head hP
  replace hP := P_tail hP
  have hq8 := P_right hP
  replace hP := P_left hP
  have hq7 := P_right hP
  replace hP := P_left hP
  have hq6 := P_right hP
  replace hP := P_left hP
  have hq5 := P_right hP
  replace hP := P_left hP
  have hq4 := P_right hP
  replace hP := P_left hP
  have hq3 := P_right hP
  replace hP := P_left hP
  have hq2 := P_right hP
  replace hP := P_left hP
  have hq1 := P_right hP
  replace hP := P_left hP
  unfold dtW at hP
  have h0 := P_head hP
  replace hP := P_tail hP
  have hs11 := P_right hP
  replace hP := P_left hP
  have hs10 := P_right hP
  replace hP := P_left hP
  have hs9 := P_right hP
  replace hP := P_left hP
  have hs8 := P_right hP
  replace hP := P_left hP
  have hs7 := P_right hP
  replace hP := P_left hP
  have hs6 := P_right hP
  replace hP := P_left hP
  have hs5 := P_right hP
  replace hP := P_left hP
  have hs4 := P_right hP
  replace hP := P_left hP
  have hs3 := P_right hP
  replace hP := P_left hP
  have hs2 := P_right hP
  replace hP := P_left hP
  have hs1 := P_right hP
  replace hP := P_left hP
  have hs0 := hP
  intro k q hq
  have hk : k < NP := by
    have := (List.getElem?_eq_some_iff.mp hq).1
    rwa [wsOf_len] at this
  rw [wsOf_at _ _ _ hk] at hq
  cases hq
  match k, hk with
  | 0, _ => rw [ce_0]; exact h0
  | 1, _ => rw [ce_1]; exact hs0 0 _ rfl
  | 2, _ => rw [ce_2]; exact hs0 1 _ rfl
  | 3, _ => rw [ce_3]; exact hs0 2 _ rfl
  | 4, _ => rw [ce_4]; exact hs0 3 _ rfl
  | 5, _ => rw [ce_5]; exact hs0 4 _ rfl
  | 6, _ => rw [ce_6]; exact hs0 5 _ rfl
  | 7, _ => rw [ce_7]; exact hs0 6 _ rfl
  | 8, _ => rw [ce_8]; exact hs0 7 _ rfl
  | 9, _ => rw [ce_9]; exact hs0 8 _ rfl
  | 10, _ => rw [ce_10]; exact hs0 9 _ rfl
  | 11, _ => rw [ce_11]; exact hs0 10 _ rfl
  | 12, _ => rw [ce_12]; exact hs0 11 _ rfl
  | 13, _ => rw [ce_13]; exact hs0 12 _ rfl
  | 14, _ => rw [ce_14]; exact hs0 13 _ rfl
  | 15, _ => rw [ce_15]; exact at_row (f := va_up (va_up (fun _ => none) 0 (some (uX 16))) 1 (some (uX 30))) (n := 2) (fun j hj => match j, hj with | 0, _ => rfl | 1, _ => rfl | j + 2, h => absurd h (by omega)) (hs1 0 _ rfl)
  | 16, _ => rw [ce_16]; exact hs10 0 _ rfl
  | 17, _ => rw [ce_17]; exact hs10 1 _ rfl
  | 18, _ => rw [ce_18]; exact hs10 2 _ rfl
  | 19, _ => rw [ce_19]; exact hs10 3 _ rfl
  | 20, _ => rw [ce_20]; exact hs10 4 _ rfl
  | 21, _ => rw [ce_21]; exact hs10 5 _ rfl
  | 22, _ => rw [ce_22]; exact hs10 6 _ rfl
  | 23, _ => rw [ce_23]; exact hs10 7 _ rfl
  | 24, _ => rw [ce_24]; exact hs10 8 _ rfl
  | 25, _ => rw [ce_25]; exact hs10 9 _ rfl
  | 26, _ => rw [ce_26]; exact hs10 10 _ rfl
  | 27, _ => rw [ce_27]; exact hs10 11 _ rfl
  | 28, _ => rw [ce_28]; exact hs10 12 _ rfl
  | 29, _ => rw [ce_29]; exact hs10 13 _ rfl
  | 30, _ => rw [ce_30]; exact hs11 0 _ rfl
  | 31, _ => rw [ce_31]; exact hs11 1 _ rfl
  | 32, _ => rw [ce_32]; exact hs11 2 _ rfl
  | 33, _ => rw [ce_33]; exact hs11 3 _ rfl
  | 34, _ => rw [ce_34]; exact hs11 4 _ rfl
  | 35, _ => rw [ce_35]; exact hs11 5 _ rfl
  | 36, _ => rw [ce_36]; exact hs11 6 _ rfl
  | 37, _ => rw [ce_37]; exact hs11 7 _ rfl
  | 38, _ => rw [ce_38]; exact hs11 8 _ rfl
  | 39, _ => rw [ce_39]; exact hs11 9 _ rfl
  | 40, _ => rw [ce_40]; exact hs11 10 _ rfl
  | 41, _ => rw [ce_41]; exact hs11 11 _ rfl
  | 42, _ => rw [ce_42]; exact hs11 12 _ rfl
  | 43, _ => rw [ce_43]; exact hs11 13 _ rfl
  | 44, _ => rw [ce_44]; exact hs2 0 _ rfl
  | 45, _ => rw [ce_45]; exact hs3 0 _ rfl
  | 46, _ => rw [ce_46]; exact hs3 1 _ rfl
  | 47, _ => rw [ce_47]; exact hs3 2 _ rfl
  | 48, _ => rw [ce_48]; exact hs3 3 _ rfl
  | 49, _ => rw [ce_49]; exact hs4 0 _ rfl
  | 50, _ => rw [ce_50]; exact hs4 1 _ rfl
  | 51, _ => rw [ce_51]; exact hs4 2 _ rfl
  | 52, _ => rw [ce_52]; exact hs4 3 _ rfl
  | 53, _ => rw [ce_53]; exact hs4 4 _ rfl
  | 54, _ => rw [ce_54]; exact hs4 5 _ rfl
  | 55, _ => rw [ce_55]; exact hs4 6 _ rfl
  | 56, _ => rw [ce_56]; exact hs4 7 _ rfl
  | 57, _ => rw [ce_57]; exact hs4 8 _ rfl
  | 58, _ => rw [ce_58]; exact hs4 9 _ rfl
  | 59, _ => rw [ce_59]; exact hs4 10 _ rfl
  | 60, _ => rw [ce_60]; exact hs4 11 _ rfl
  | 61, _ => rw [ce_61]; exact hs4 12 _ rfl
  | 62, _ => rw [ce_62]; exact hs4 13 _ rfl
  | 63, _ => rw [ce_63]; exact hs5 0 _ rfl
  | 64, _ => rw [ce_64]; exact hs5 1 _ rfl
  | 65, _ => rw [ce_65]; exact hs5 2 _ rfl
  | 66, _ => rw [ce_66]; exact hs5 3 _ rfl
  | 67, _ => rw [ce_67]; exact hs5 4 _ rfl
  | 68, _ => rw [ce_68]; exact hs6 0 _ rfl
  | 69, _ => rw [ce_69]; exact hs6 1 _ rfl
  | 70, _ => rw [ce_70]; exact hs6 2 _ rfl
  | 71, _ => rw [ce_71]; exact hs6 3 _ rfl
  | 72, _ => rw [ce_72]; exact hs7 0 _ rfl
  | 73, _ => rw [ce_73]; exact hs7 1 _ rfl
  | 74, _ => rw [ce_74]; exact hs7 2 _ rfl
  | 75, _ => rw [ce_75]; exact hs7 3 _ rfl
  | 76, _ => rw [ce_76]; exact hs7 4 _ rfl
  | 77, _ => rw [ce_77]; exact hs7 5 _ rfl
  | 78, _ => rw [ce_78]; exact hs7 6 _ rfl
  | 79, _ => rw [ce_79]; exact hs7 7 _ rfl
  | 80, _ => rw [ce_80]; exact hs8 0 _ rfl
  | 81, _ => rw [ce_81]; exact hs9 0 _ rfl
  | 82, _ => rw [ce_82]; exact at_row (f := va_up (va_up (va_up (va_up (fun _ => none) 0 (some (uX 83))) 1 (some (uX 88))) 2 (some (uX 93))) 3 (some (uX 98))) (n := 4) (fun j hj => match j, hj with | 0, _ => rfl | 1, _ => rfl | 2, _ => rfl | 3, _ => rfl | j + 4, h => absurd h (by omega)) (hs9 1 _ rfl)
  | 83, _ => rw [ce_83]; exact hs9 11 _ rfl
  | 84, _ => rw [ce_84]; exact hs9 12 _ rfl
  | 85, _ => rw [ce_85]; exact hs9 13 _ rfl
  | 86, _ => rw [ce_86]; exact hs9 14 _ rfl
  | 87, _ => rw [ce_87]; exact hs9 15 _ rfl
  | 88, _ => rw [ce_88]; exact hs9 16 _ rfl
  | 89, _ => rw [ce_89]; exact hs9 17 _ rfl
  | 90, _ => rw [ce_90]; exact hs9 18 _ rfl
  | 91, _ => rw [ce_91]; exact hs9 19 _ rfl
  | 92, _ => rw [ce_92]; exact hs9 20 _ rfl
  | 93, _ => rw [ce_93]; exact hs9 21 _ rfl
  | 94, _ => rw [ce_94]; exact hs9 22 _ rfl
  | 95, _ => rw [ce_95]; exact hs9 23 _ rfl
  | 96, _ => rw [ce_96]; exact hs9 24 _ rfl
  | 97, _ => rw [ce_97]; exact hs9 25 _ rfl
  | 98, _ => rw [ce_98]; exact hs9 26 _ rfl
  | 99, _ => rw [ce_99]; exact hs9 27 _ rfl
  | 100, _ => rw [ce_100]; exact hs9 28 _ rfl
  | 101, _ => rw [ce_101]; exact hs9 29 _ rfl
  | 102, _ => rw [ce_102]; exact hs9 30 _ rfl
  | 103, _ => rw [ce_103]; exact at_row (f := fun i => ([some (uX 104), some (uX 105), some (uX 106)] : List (Option Nat)).getD i none) (n := 3) (fun j hj => match j, hj with | 0, _ => rfl | 1, _ => rfl | 2, _ => rfl | j + 3, h => absurd h (by omega)) (hs9 2 _ rfl)
  | 104, _ => rw [ce_104]; exact hs9 3 _ rfl
  | 105, _ => rw [ce_105]; exact hs9 4 _ rfl
  | 106, _ => rw [ce_106]; exact hs9 5 _ rfl
  | 107, _ => rw [ce_107]; exact at_row (f := fun i => ([some (uX 108), some (uX 109), some (uX 110)] : List (Option Nat)).getD i none) (n := 3) (fun j hj => match j, hj with | 0, _ => rfl | 1, _ => rfl | 2, _ => rfl | j + 3, h => absurd h (by omega)) (hs9 6 _ rfl)
  | 108, _ => rw [ce_108]; exact hs9 7 _ rfl
  | 109, _ => rw [ce_109]; exact hs9 8 _ rfl
  | 110, _ => rw [ce_110]; exact hs9 9 _ rfl
  | 111, _ => rw [ce_111]; exact hs9 10 _ rfl
  | 112, _ => rw [ce_112]; exact hM
  | 113, _ => rw [ce_113]; exact hq1 0 _ rfl
  | 114, _ => rw [ce_114]; exact hq2 0 _ rfl
  | 115, _ => rw [ce_115]; exact hq3 0 _ rfl
  | 116, _ => rw [ce_116]; exact hq4 0 _ rfl
  | 117, _ => rw [ce_117]; exact hq5 0 _ rfl
  | 118, _ => rw [ce_118]; exact hq6 0 _ rfl
  | 119, _ => rw [ce_119]; exact hq7 0 _ rfl
  | 120, _ => rw [ce_120]; exact hq8 0 _ rfl
  | k + 121, h => exact absurd h (by show ¬ k + 121 < 121; omega)
theorem wM_ok {cy : Nat → ClassId} {A : Nat → Prop} {uX : Nat → Nat} {h q1 q2 q3 q4 q5 q6 q7 q8 : Nat} (hD : va_D A (wM cy uX h q1 q2 q3 q4 q5 q6 q7 q8)) : (∀ i j, i < NP → j < NP → adM uX h q1 q2 q3 q4 q5 q6 q7 q8 i = adM uX h q1 q2 q3 q4 q5 q6 q7 q8 j → i = j) ∧ ∀ k, k < NP → A (adM uX h q1 q2 q3 q4 q5 q6 q7 q8 k) := by
  have hw := wM_ad cy uX h q1 q2 q3 q4 q5 q6 q7 q8
  generalize wM cy uX h q1 q2 q3 q4 q5 q6 q7 q8 = W at hw hD
  have at' : ∀ (i : Nat) (x : Nat), (ordL.map (adM uX h q1 q2 q3 q4 q5 q6 q7 q8))[i]? = some x → ∃ e, W[i]? = some (x, e) := by
    intro i x hx
    rw [← hw, List.getElem?_map] at hx
    cases hi : W[i]? with
    | none => rw [hi] at hx; cases hx
    | some y => rw [hi] at hx; cases hx; exact ⟨y.2, rfl⟩
  refine ⟨fun i j hi hj e => ?_, fun k hk => ?_⟩
  · refine nd_inj (f := adM uX h q1 q2 q3 q4 q5 q6 q7 q8) (L := ordL) (fun i j x y hx hy hxy => ?_) i (ordL_all i hi) j (ordL_all j hj) e
    obtain ⟨e1, h1⟩ := at' i x hx
    obtain ⟨e2, h2⟩ := at' j y hy
    exact hD.1 i j _ _ h1 h2 hxy
  · obtain ⟨i, hi⟩ := List.getElem?_of_mem (ordL_all k hk)
    obtain ⟨e1, h1⟩ := at' i (adM uX h q1 q2 q3 q4 q5 q6 q7 q8 k) (by rw [List.getElem?_map, hi]; rfl)
    exact hD.2 i _ h1
def gM (l : Launch) (cy : Nat → ClassId) (D : va_G) (A : Nat → Prop) (aK aV aT : Nat → Nat) (ad : Nat → Nat) : GT := (l, cy, ad, D, A, aK, aV, aT)
def MPre (l : Launch) (cy : Nat → ClassId) (D : va_G) (A : Nat → Prop) (aK aV aT uX : Nat → Nat) (h sz : Nat) (U : State) : Prop := U.heap.size = sz ∧ va_P D clX ((h, .inr (10, [.null, .null, .null, .null, .null, (.int 0), (.long 0), (.long 0), .null, (.int 0), (.int 0), (.int 0), (.int 0), (.int 0), .null, (.int 0), .null, (.int 0), (.int 0), (.int 0)])) :: dtW cy uX) U.heap ∧ va_D A ((h, .inr (10, [.null, .null, .null, .null, .null, (.int 0), (.long 0), (.long 0), .null, (.int 0), (.int 0), (.int 0), (.int 0), (.int 0), .null, (.int 0), .null, (.int 0), (.int 0), (.int 0)])) :: dtW cy uX) ∧ va_K D clX (tysX cy) U ∧ EX cy U ∧ Stt (gM l cy D A aK aV aT (fun _ => 0)) U U.heap
theorem MPre.blind {l : Launch} {cy : Nat → ClassId} {D : va_G} {A : Nat → Prop} {aK aV aT uX : Nat → Nat} {h sz : Nat} {av : List Value} : FrameBlind (va_Pc av (MPre l cy D A aK aV aT uX h sz)) := by
  intro a U gg mk q
  obtain ⟨q0, q1, q2, q3, q4, q5, q6⟩ := q
  exact ⟨q0, q1, q2, q3, va_K.moved (u := U) (U := U.calling gg mk a) (Vm.Alike.refl U.vm) q4, EX.same (u := U) (U := U.calling gg mk a) rfl q5, Stt.same (u := U) (U := U.calling gg mk a) rfl q6⟩
def QM (cy : Nat → ClassId) (D : va_G) (A : Nat → Prop) (uX : Nat → Nat) (h : Nat) (μ0 : Mem) : Array Value → State → Outcome → State → Prop := va_Qv (fun ad : Nat → Nat => (ad 0 = uX 0 ∧ ad 112 = h) ∧ (∀ i j, i < NP → j < NP → ad i = ad j → i = j) ∧ ∀ k, k < NP → A (ad k)) (fun ad t => va_P D clX (wsOf cy ad μ0) t.heap) A
set_option maxHeartbeats 8000000 in
set_option maxRecDepth 100000 in
theorem cc_X11_init {l : Launch} {cy : Nat → ClassId} {D : va_G} {A : Nat → Prop} {aK aV aT uX : Nat → Nat} {h sz : Nat} {μ0 : Mem} (hB : f_X11_begins 3 μI = some μ0) (hA : ∀ q, sz ≤ q → A q) : Met l yX11_init (Cond.code yX11_init cX11_init 1 none :: TB) (RN 3 8 1101) (va_Pc [.ref h] (MPre l cy D A aK aV aT uX h sz)) (QM cy D A uX h μ0) 8 1101 A := by
  refine Met.ofW (cc := cX11_init) (maxL := 1) (ret := none) (by decide) rfl ?_
  intro p e s m args below meth c s₁ B hml hv
  obtain ⟨rfl, hsz, hP0, hD0, hK, hE, hT⟩ := hv
  have hx := B.exec
  have hb := B.bytes
  have hr := B.returns
  have hts0 := atoms_spec (ws := Cond.code yX11_init cX11_init 1 none :: TB) B.pre
  have hts : ∀ w ∈ TB, w.before _ s = true := fun w hw => hts0 w (List.mem_cons_of_mem _ hw)
  have hown : s.vm.findClass RX11 = some m.cls := findClass_of_methodNamed B.named
  have hlocks := B.notSynchronized
  have hin : meth.name = "<init>" := (name_of_methodNamed B.named B.method).1
  have hl := lv_entry [.ref h] (n := 1) (Nat.le_of_ble_eq_true rfl)
  rw [lg_entry_eq]
  subst hsz
  have hX : CN l cy D A (WN l D A p e (RN 3 8 1101) s m [Value.ref h].toArray below meth c 1 (MQ below (QM cy D A uX h μ0) [Value.ref h].toArray s 8 1101 A)) cX11_init RX11 1 3 8 1101 True := ⟨p, e, _, s, m, _, below, meth, c, _, rfl, hx, hb, hml, hown, hts, hK, hE, hA, Nat.le_refl _, Nat.le_refl _, Nat.le_refl _, Nat.le_refl _, fun _ => hin⟩
  suffices key : WN l D A p e (RN 3 8 1101) s m [Value.ref h].toArray below meth c 1 (MQ below (QM cy D A uX h μ0) [Value.ref h].toArray s 8 1101 A) 0 [(0, .ref h)] [] ((h, .inr (10, [.null, .null, .null, .null, .null, (.int 0), (.long 0), (.long 0), .null, (.int 0), (.int 0), (.int 0), (.int 0), (.int 0), .null, (.int 0), .null, (.int 0), (.int 0), (.int 0)])) :: dtW cy uX) 0 0 from key s.heap [] _ hP0 hD0 va_S.rf hl
  refine n_aload_n hX dX11_init_0 rfl 0 rfl ?_
  refine n_obj hX cvX11_1 (by decide) (Nat.le_of_ble_eq_true rfl) dX11_init_1 ?_
  refine n_aload_n hX dX11_init_4 rfl 0 rfl ?_
  refine n_sipush (v := 184) hX dX11_init_5 (by decide) ?_
  refine n_newI (M := 184) hX kwI (by decide) (by decide) (by decide) (by decide) (by decide) dX11_init_8 (fun q1 => ?_)
  refine n_putF (ws' := (h, .inr (10, [.ref q1, .null, .null, .null, .null, .int 0, .long 0, .long 0, .null, .int 0, .int 0, .int 0, .int 0, .int 0, .null, .int 0, .null, .int 0, .int 0, .int 0])) :: (dtW cy uX ++ [(q1, .inl (cy 11, 184, .inl (fun _ => 0)))])) hX 0 trivial flX11_7 (fun C T NN h => by cases h; rfl) rfl ⟨rfl, rfl⟩ (Nat.le_of_ble_eq_true rfl) rfl dX11_init_10 ?_
  refine n_aload_n hX dX11_init_13 rfl 0 rfl ?_
  refine n_sipush (v := 368) hX dX11_init_14 (by decide) ?_
  refine n_newI (M := 368) hX kwI (by decide) (by decide) (by decide) (by decide) (by decide) dX11_init_17 (fun q2 => ?_)
  refine n_putF (ws' := (h, .inr (10, [.ref q1, .ref q2, .null, .null, .null, .int 0, .long 0, .long 0, .null, .int 0, .int 0, .int 0, .int 0, .int 0, .null, .int 0, .null, .int 0, .int 0, .int 0])) :: (dtW cy uX ++ [(q1, .inl (cy 11, 184, .inl (fun _ => 0)))] ++ [(q2, .inl (cy 11, 368, .inl (fun _ => 0)))])) hX 0 trivial flX11_13 (fun C T NN h => by cases h; rfl) rfl ⟨rfl, rfl⟩ (Nat.le_of_ble_eq_true rfl) rfl dX11_init_19 ?_
  refine n_aload_n hX dX11_init_22 rfl 0 rfl ?_
  refine n_iconst (v := 2) hX dX11_init_23 (by decide) ?_
  refine n_newZ (M := 2) hX kwZ (by decide) (by decide) (by decide) (by decide) (by decide) dX11_init_24 (fun q3 => ?_)
  refine n_putF (ws' := (h, .inr (10, [.ref q1, .ref q2, .ref q3, .null, .null, .int 0, .long 0, .long 0, .null, .int 0, .int 0, .int 0, .int 0, .int 0, .null, .int 0, .null, .int 0, .int 0, .int 0])) :: (dtW cy uX ++ [(q1, .inl (cy 11, 184, .inl (fun _ => 0)))] ++ [(q2, .inl (cy 11, 368, .inl (fun _ => 0)))] ++ [(q3, .inl (cy 13, 2, .inl (fun _ => 0)))])) hX 0 trivial flX11_16 (fun C T NN h => by cases h; rfl) rfl ⟨rfl, rfl⟩ (Nat.le_of_ble_eq_true rfl) rfl dX11_init_26 ?_
  refine n_aload_n hX dX11_init_29 rfl 0 rfl ?_
  refine n_sipush (v := 184) hX dX11_init_30 (by decide) ?_
  refine n_newI (M := 184) hX kwI (by decide) (by decide) (by decide) (by decide) (by decide) dX11_init_33 (fun q4 => ?_)
  refine n_putF (ws' := (h, .inr (10, [.ref q1, .ref q2, .ref q3, .ref q4, .null, .int 0, .long 0, .long 0, .null, .int 0, .int 0, .int 0, .int 0, .int 0, .null, .int 0, .null, .int 0, .int 0, .int 0])) :: (dtW cy uX ++ [(q1, .inl (cy 11, 184, .inl (fun _ => 0)))] ++ [(q2, .inl (cy 11, 368, .inl (fun _ => 0)))] ++ [(q3, .inl (cy 13, 2, .inl (fun _ => 0)))] ++ [(q4, .inl (cy 11, 184, .inl (fun _ => 0)))])) hX 0 trivial flX11_20 (fun C T NN h => by cases h; rfl) rfl ⟨rfl, rfl⟩ (Nat.le_of_ble_eq_true rfl) rfl dX11_init_35 ?_
  refine n_aload_n hX dX11_init_38 rfl 0 rfl ?_
  refine n_iconst (v := 3) hX dX11_init_39 (by decide) ?_
  refine n_newI (M := 3) hX kwI (by decide) (by decide) (by decide) (by decide) (by decide) dX11_init_40 (fun q5 => ?_)
  refine n_putF (ws' := (h, .inr (10, [.ref q1, .ref q2, .ref q3, .ref q4, .ref q5, .int 0, .long 0, .long 0, .null, .int 0, .int 0, .int 0, .int 0, .int 0, .null, .int 0, .null, .int 0, .int 0, .int 0])) :: (dtW cy uX ++ [(q1, .inl (cy 11, 184, .inl (fun _ => 0)))] ++ [(q2, .inl (cy 11, 368, .inl (fun _ => 0)))] ++ [(q3, .inl (cy 13, 2, .inl (fun _ => 0)))] ++ [(q4, .inl (cy 11, 184, .inl (fun _ => 0)))] ++ [(q5, .inl (cy 11, 3, .inl (fun _ => 0)))])) hX 0 trivial flX11_23 (fun C T NN h => by cases h; rfl) rfl ⟨rfl, rfl⟩ (Nat.le_of_ble_eq_true rfl) rfl dX11_init_42 ?_
  refine n_aload_n hX dX11_init_45 rfl 0 rfl ?_
  refine n_sipush (v := 150) hX dX11_init_46 (by decide) ?_
  refine n_newI (M := 150) hX kwI (by decide) (by decide) (by decide) (by decide) (by decide) dX11_init_49 (fun q6 => ?_)
  refine n_putF (ws' := (h, .inr (10, [.ref q1, .ref q2, .ref q3, .ref q4, .ref q5, .int 0, .long 0, .long 0, .ref q6, .int 0, .int 0, .int 0, .int 0, .int 0, .null, .int 0, .null, .int 0, .int 0, .int 0])) :: (dtW cy uX ++ [(q1, .inl (cy 11, 184, .inl (fun _ => 0)))] ++ [(q2, .inl (cy 11, 368, .inl (fun _ => 0)))] ++ [(q3, .inl (cy 13, 2, .inl (fun _ => 0)))] ++ [(q4, .inl (cy 11, 184, .inl (fun _ => 0)))] ++ [(q5, .inl (cy 11, 3, .inl (fun _ => 0)))] ++ [(q6, .inl (cy 11, 150, .inl (fun _ => 0)))])) hX 0 trivial flX11_26 (fun C T NN h => by cases h; rfl) rfl ⟨rfl, rfl⟩ (Nat.le_of_ble_eq_true rfl) rfl dX11_init_51 ?_
  refine n_aload_n hX dX11_init_54 rfl 0 rfl ?_
  refine n_sipush (v := 200) hX dX11_init_55 (by decide) ?_
  refine n_newI (M := 200) hX kwI (by decide) (by decide) (by decide) (by decide) (by decide) dX11_init_58 (fun q7 => ?_)
  refine n_putF (ws' := (h, .inr (10, [.ref q1, .ref q2, .ref q3, .ref q4, .ref q5, .int 0, .long 0, .long 0, .ref q6, .int 0, .int 0, .int 0, .int 0, .int 0, .ref q7, .int 0, .null, .int 0, .int 0, .int 0])) :: (dtW cy uX ++ [(q1, .inl (cy 11, 184, .inl (fun _ => 0)))] ++ [(q2, .inl (cy 11, 368, .inl (fun _ => 0)))] ++ [(q3, .inl (cy 13, 2, .inl (fun _ => 0)))] ++ [(q4, .inl (cy 11, 184, .inl (fun _ => 0)))] ++ [(q5, .inl (cy 11, 3, .inl (fun _ => 0)))] ++ [(q6, .inl (cy 11, 150, .inl (fun _ => 0)))] ++ [(q7, .inl (cy 11, 200, .inl (fun _ => 0)))])) hX 0 trivial flX11_29 (fun C T NN h => by cases h; rfl) rfl ⟨rfl, rfl⟩ (Nat.le_of_ble_eq_true rfl) rfl dX11_init_60 ?_
  refine n_aload_n hX dX11_init_63 rfl 0 rfl ?_
  refine n_bipush (v := 10) hX dX11_init_64 (by decide) ?_
  refine n_newI (M := 10) hX kwI (by decide) (by decide) (by decide) (by decide) (by decide) dX11_init_66 (fun q8 => ?_)
  refine n_putF (ws' := (h, .inr (10, [.ref q1, .ref q2, .ref q3, .ref q4, .ref q5, .int 0, .long 0, .long 0, .ref q6, .int 0, .int 0, .int 0, .int 0, .int 0, .ref q7, .int 0, .ref q8, .int 0, .int 0, .int 0])) :: (dtW cy uX ++ [(q1, .inl (cy 11, 184, .inl (fun _ => 0)))] ++ [(q2, .inl (cy 11, 368, .inl (fun _ => 0)))] ++ [(q3, .inl (cy 13, 2, .inl (fun _ => 0)))] ++ [(q4, .inl (cy 11, 184, .inl (fun _ => 0)))] ++ [(q5, .inl (cy 11, 3, .inl (fun _ => 0)))] ++ [(q6, .inl (cy 11, 150, .inl (fun _ => 0)))] ++ [(q7, .inl (cy 11, 200, .inl (fun _ => 0)))] ++ [(q8, .inl (cy 11, 10, .inl (fun _ => 0)))])) hX 0 trivial flX11_32 (fun C T NN h => by cases h; rfl) rfl ⟨rfl, rfl⟩ (Nat.le_of_ble_eq_true rfl) rfl dX11_init_68 ?_
  refine n_aload_n hX dX11_init_71 rfl 0 rfl ?_
  refine n_lconst (v := 1) hX dX11_init_72 (by decide) ?_
  refine n_put (ws' := (h, .inr (10, [.ref q1, .ref q2, .ref q3, .ref q4, .ref q5, .int 0, .long 0, .long 1, .ref q6, .int 0, .int 0, .int 0, .int 0, .int 0, .ref q7, .int 0, .ref q8, .int 0, .int 0, .int 0])) :: (dtW cy uX ++ [(q1, .inl (cy 11, 184, .inl (fun _ => 0)))] ++ [(q2, .inl (cy 11, 368, .inl (fun _ => 0)))] ++ [(q3, .inl (cy 13, 2, .inl (fun _ => 0)))] ++ [(q4, .inl (cy 11, 184, .inl (fun _ => 0)))] ++ [(q5, .inl (cy 11, 3, .inl (fun _ => 0)))] ++ [(q6, .inl (cy 11, 150, .inl (fun _ => 0)))] ++ [(q7, .inl (cy 11, 200, .inl (fun _ => 0)))] ++ [(q8, .inl (cy 11, 10, .inl (fun _ => 0)))])) hX 0 flX11_35 rfl ⟨rfl, rfl⟩ (Nat.le_of_ble_eq_true rfl) rfl dX11_init_73 ?_
  refine n_aload_n hX dX11_init_76 rfl 0 rfl ?_
  refine n_iconst (v := 3) hX dX11_init_77 (by decide) ?_
  intro H locs ls hP hD hS hl
  have hPw : va_P D clX (wM cy uX h q1 q2 q3 q4 q5 q6 q7 q8) H := hP
  have hDw : va_D A (wM cy uX h q1 q2 q3 q4 q5 q6 q7 q8) := hD
  have hO := wM_ok hDw
  have hPW : PW (gM l cy D A aK aV aT (adM uX h q1 q2 q3 q4 q5 q6 q7 q8)) μI H := wM_P hPw
  have y := mkX11_begins
  have cb := callB_of (R := RN 3 8 1101) (rm := RM 1) (mc := 0) (ms := 0) 1 hts (goodTB y.1) rfl rfl rfl (hts _ y.2.1) (hts _ cvX11_39) ⟨y.2.2.1.1, y.2.2.1.2, y.2.2.2⟩ ⟨Nat.le_of_ble_eq_true rfl, Nat.le_of_ble_eq_true rfl⟩
  have hM := c_X11_begins (g := gM l cy D A aK aV aT (adM uX h q1 q2 q3 q4 q5 q6 q7 q8)) hB
  have hrun := va_runV (As := [.int 3]) (rest := []) (b := h) (g := F0 m 78 ls ([Value.int 3].reverse ++ Value.ref h :: [])) (locs := locs) (cells := 8) (slots := 1101) (below := below) (e := e) (meth := meth) ⟨hx, hb, hml, hown, hts⟩ hM ⟨cb, hts _ vkX11_begins.1, hts _ vkX11_begins.2⟩ ⟨Wd.blind, va_recv hK hPw (ci := 10) (q0 := 0) rfl rfl, fun U hU hW => ⟨rfl, by show PW _ μI U.heap; rw [hU]; exact hPW, va_K.moved hW.alike hK, (Stt.warm hW hT).kept (fun q hq hAq => by rw [hU]; exact hS.2.1 q hq hAq), hO⟩⟩ rfl rfl hl.1 rfl (lv_room (Nat.le_of_ble_eq_true rfl)) dX11_init_78 ⟨Nat.le_of_ble_eq_true rfl, Nat.le_of_ble_eq_true rfl⟩
  refine va_callv hrun hS (fun q _ h => h) (fun q h => h) (fun u t H1 locs1 ht hvm hw hB1 hz hk1 hS1 => ?_)
  subst hw
  subst ht
  exact W.vret hx hb hr (fun t' ht hW => ⟨⟨adM uX h q1 q2 q3 q4 q5 q6 q7 q8, rfl, ⟨⟨rfl, rfl⟩, hO⟩, by show va_P D clX _ t'.heap; rw [ht]; exact hB1⟩, hS1.F ht⟩) hS1.2.2 dX11_init_81
