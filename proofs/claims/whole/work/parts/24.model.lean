def ILs : List (Nat → Int32) := [fun j => ([0, 0, 0, 0, 0, 0, 0, 0, 0, 0, 0, 0, 0, 0, 0] : List Int32).getD j 0, fun j => ([0, 0, 0, 0, 0] : List Int32).getD j 0, fun j => ([3, 0, 0, 0, 0, 0, 0, 0] : List Int32).getD j 0, fun _ => 0, fun _ => 0, fun _ => 0, fun _ => 0, fun j => ([0, 0, 0, 0] : List Int32).getD j 0, fun _ => 0, fun _ => 0, fun j => ([0, 0, 0] : List Int32).getD j 0, fun _ => 0, fun _ => 0, fun _ => 0, fun _ => 0, fun _ => 0, fun j => ([0, 0, 0, 0, 0] : List Int32).getD j 0, fun j => ([3, 0, 0, 0, 0, 0, 0, 0] : List Int32).getD j 0, fun _ => 0, fun _ => 0, fun _ => 0, fun _ => 0, fun j => ([0, 0, 0, 0] : List Int32).getD j 0, fun _ => 0, fun _ => 0, fun j => ([0, 0, 0] : List Int32).getD j 0, fun _ => 0, fun _ => 0, fun _ => 0, fun _ => 0, fun j => ([0, 0, 0, 0, 0] : List Int32).getD j 0, fun j => ([3, 0, 0, 0, 0, 0, 0, 0] : List Int32).getD j 0, fun _ => 0, fun _ => 0, fun _ => 0, fun _ => 0, fun j => ([0, 0, 0, 0] : List Int32).getD j 0, fun _ => 0, fun _ => 0, fun j => ([0, 0, 0] : List Int32).getD j 0, fun _ => 0, fun _ => 0, fun _ => 0, fun _ => 0, fun _ => 0, fun j => ([0, 0, 0, 0, 0, 0, 0, 0, 0] : List Int32).getD j 0, fun _ => 0, fun _ => 0, fun _ => 0, fun j => ([0, 0, 0, 0, 0] : List Int32).getD j 0, fun j => ([3, 0, 0, 0, 0, 0, 0, 0] : List Int32).getD j 0, fun _ => 0, fun _ => 0, fun _ => 0, fun _ => 0, fun j => ([0, 0, 0, 0] : List Int32).getD j 0, fun _ => 0, fun _ => 0, fun j => ([0, 0, 0] : List Int32).getD j 0, fun _ => 0, fun _ => 0, fun _ => 0, fun _ => 0, fun j => ([3, 0, 0, 0, 0, 0, 0, 0] : List Int32).getD j 0, fun _ => 0, fun _ => 0, fun _ => 0, fun _ => 0, fun j => ([0, 0, 0, 0, 0] : List Int32).getD j 0, fun _ => 0, fun _ => 0, fun _ => 0, fun j => ([0, 0, 0, 0, 0, (-1), (-1)] : List Int32).getD j 0, fun j => ([3, 0, 0, 0, 0, 0, 0, 0] : List Int32).getD j 0, fun _ => 0, fun _ => 0, fun _ => 0, fun _ => 0, fun _ => 0, fun _ => 0, fun j => ([0, 0, 0, 0, (-1)] : List Int32).getD j 0, fun j => ([0, 0, 0, 0] : List Int32).getD j 0, fun _ => 0, fun j => ([3, 0, 0, 0, 0, 0, 0, 0] : List Int32).getD j 0, fun _ => 0, fun _ => 0, fun _ => 0, fun _ => 0, fun j => ([3, 0, 0, 0, 0, 0, 0, 0] : List Int32).getD j 0, fun _ => 0, fun _ => 0, fun _ => 0, fun _ => 0, fun j => ([3, 0, 0, 0, 0, 0, 0, 0] : List Int32).getD j 0, fun _ => 0, fun _ => 0, fun _ => 0, fun _ => 0, fun j => ([3, 0, 0, 0, 0, 0, 0, 0] : List Int32).getD j 0, fun _ => 0, fun _ => 0, fun _ => 0, fun _ => 0, fun _ => 0, fun _ => 0, fun _ => 0, fun _ => 0, fun _ => 0, fun _ => 0, fun _ => 0, fun _ => 0, fun _ => 0, fun j => ([0, 0, 0, 0, 0, 0, 0, 0, 0, 0, 0, 0, 0, 0, 0, 0, 0, 0, 0, 0] : List Int32).getD j 0, fun _ => 0, fun _ => 0, fun _ => 0, fun _ => 0, fun _ => 0, fun _ => 0, fun _ => 0, fun _ => 0]
def LLs : List (Nat → Int64) := [fun j => ([0, 0, 0, 0, 0, 0, 0, 0, 0, 0, 0, 1, 0, 0, 0] : List Int64).getD j 0, fun _ => 0, fun _ => 0, fun _ => 0, fun _ => 0, fun _ => 0, fun _ => 0, fun _ => 0, fun _ => 0, fun _ => 0, fun _ => 0, fun _ => 0, fun _ => 0, fun _ => 0, fun _ => 0, fun _ => 0, fun _ => 0, fun _ => 0, fun _ => 0, fun _ => 0, fun _ => 0, fun _ => 0, fun _ => 0, fun _ => 0, fun _ => 0, fun _ => 0, fun _ => 0, fun _ => 0, fun _ => 0, fun _ => 0, fun _ => 0, fun _ => 0, fun _ => 0, fun _ => 0, fun _ => 0, fun _ => 0, fun _ => 0, fun _ => 0, fun _ => 0, fun _ => 0, fun _ => 0, fun _ => 0, fun _ => 0, fun _ => 0, fun _ => 0, fun _ => 0, fun _ => 0, fun _ => 0, fun _ => 0, fun _ => 0, fun _ => 0, fun _ => 0, fun _ => 0, fun _ => 0, fun _ => 0, fun _ => 0, fun _ => 0, fun _ => 0, fun _ => 0, fun _ => 0, fun _ => 0, fun _ => 0, fun _ => 0, fun _ => 0, fun _ => 0, fun _ => 0, fun _ => 0, fun _ => 0, fun j => ([0, 0, 0, 1, 0] : List Int64).getD j 0, fun _ => 0, fun _ => 0, fun _ => 0, fun _ => 0, fun _ => 0, fun _ => 0, fun _ => 0, fun _ => 0, fun _ => 0, fun _ => 0, fun _ => 0, fun _ => 0, fun _ => 0, fun _ => 0, fun _ => 0, fun _ => 0, fun _ => 0, fun _ => 0, fun _ => 0, fun _ => 0, fun _ => 0, fun _ => 0, fun _ => 0, fun _ => 0, fun _ => 0, fun _ => 0, fun _ => 0, fun _ => 0, fun _ => 0, fun _ => 0, fun _ => 0, fun _ => 0, fun _ => 0, fun _ => 0, fun _ => 0, fun _ => 0, fun _ => 0, fun _ => 0, fun _ => 0, fun _ => 0, fun _ => 0, fun _ => 0, fun _ => 0, fun j => ([0, 0, 0, 0, 0, 0, 0, 1, 0, 0, 0, 0, 0, 0, 0, 0, 0, 0, 0, 0] : List Int64).getD j 0, fun _ => 0, fun _ => 0, fun _ => 0, fun _ => 0, fun _ => 0, fun _ => 0, fun _ => 0, fun _ => 0]
def μI : Mem := (fun k => ILs.getD k (fun _ => 0), fun k => LLs.getD k (fun _ => 0))
def posL : List Nat := [1, 2, 3, 4, 5, 6, 7, 8, 9, 10, 11, 12, 13, 14, 15, 16, 85, 86, 87, 88, 89, 90, 91, 92, 93, 94, 95, 96, 97, 98, 99, 100, 101, 102, 103, 104, 105, 106, 107, 108, 109, 110, 111, 112, 17, 18, 19, 20, 21, 22, 23, 24, 25, 26, 27, 28, 29, 30, 31, 32, 33, 34, 35, 36, 37, 38, 39, 40, 41, 42, 43, 44, 45, 46, 47, 48, 49, 50, 51, 52, 53, 54, 55, 65, 66, 67, 68, 69, 70, 71, 72, 73, 74, 75, 76, 77, 78, 79, 80, 81, 82, 83, 84, 56, 57, 58, 59, 60, 61, 62, 63, 64, 0, 113, 114, 115, 116, 117, 118, 119, 120]
theorem posL_inj : ∀ i, i < 121 → ∀ j, j < 121 → posL.getD i 0 = posL.getD j 0 → i = j := by decide +kernel
theorem at_row {D : va_G} {cl : List vw_C} {a n : Nat} {c : ClassId} {f f' : Nat → Option Nat} {H : Heap} (hf : ∀ j, j < n → f j = f' j) (h : va_at D cl (a, .inl (c, n, .inr (.inr (.inr (.inr f))))) H) : va_at D cl (a, .inl (c, n, .inr (.inr (.inr (.inr f'))))) H := by
  have h : H[a]? = some (arrV c n (fun j => va_rf (f j))) := h
  show H[a]? = some (arrV c n (fun j => va_rf (f' j)))
  rw [h]
  unfold arrV
  congr 2
  congr 1
  funext j
  rw [hf j.val j.isLt]
theorem dX11_init_0 : decode cX11_init 0 = .ok (.aload_n 0, 1) := by decide +kernel
theorem dX11_init_1 : decode cX11_init 1 = .ok (.invokespecial 1, 3) := by decide +kernel
theorem dX11_init_4 : decode cX11_init 4 = .ok (.aload_n 0, 1) := by decide +kernel
theorem dX11_init_5 : decode cX11_init 5 = .ok (.sipush 184, 3) := by decide +kernel
theorem dX11_init_8 : decode cX11_init 8 = .ok (.newarray .int, 2) := by decide +kernel
theorem dX11_init_10 : decode cX11_init 10 = .ok (.putfield 7, 3) := by decide +kernel
theorem dX11_init_13 : decode cX11_init 13 = .ok (.aload_n 0, 1) := by decide +kernel
theorem dX11_init_14 : decode cX11_init 14 = .ok (.sipush 368, 3) := by decide +kernel
theorem dX11_init_17 : decode cX11_init 17 = .ok (.newarray .int, 2) := by decide +kernel
theorem dX11_init_19 : decode cX11_init 19 = .ok (.putfield 13, 3) := by decide +kernel
theorem dX11_init_22 : decode cX11_init 22 = .ok (.aload_n 0, 1) := by decide +kernel
theorem dX11_init_23 : decode cX11_init 23 = .ok (.iconst 2, 1) := by decide +kernel
theorem dX11_init_24 : decode cX11_init 24 = .ok (.newarray .boolean, 2) := by decide +kernel
theorem dX11_init_26 : decode cX11_init 26 = .ok (.putfield 16, 3) := by decide +kernel
theorem dX11_init_29 : decode cX11_init 29 = .ok (.aload_n 0, 1) := by decide +kernel
theorem dX11_init_30 : decode cX11_init 30 = .ok (.sipush 184, 3) := by decide +kernel
theorem dX11_init_33 : decode cX11_init 33 = .ok (.newarray .int, 2) := by decide +kernel
theorem dX11_init_35 : decode cX11_init 35 = .ok (.putfield 20, 3) := by decide +kernel
theorem dX11_init_38 : decode cX11_init 38 = .ok (.aload_n 0, 1) := by decide +kernel
theorem dX11_init_39 : decode cX11_init 39 = .ok (.iconst 3, 1) := by decide +kernel
theorem dX11_init_40 : decode cX11_init 40 = .ok (.newarray .int, 2) := by decide +kernel
theorem dX11_init_42 : decode cX11_init 42 = .ok (.putfield 23, 3) := by decide +kernel
theorem dX11_init_45 : decode cX11_init 45 = .ok (.aload_n 0, 1) := by decide +kernel
theorem dX11_init_46 : decode cX11_init 46 = .ok (.sipush 150, 3) := by decide +kernel
theorem dX11_init_49 : decode cX11_init 49 = .ok (.newarray .int, 2) := by decide +kernel
theorem dX11_init_51 : decode cX11_init 51 = .ok (.putfield 26, 3) := by decide +kernel
theorem dX11_init_54 : decode cX11_init 54 = .ok (.aload_n 0, 1) := by decide +kernel
theorem dX11_init_55 : decode cX11_init 55 = .ok (.sipush 200, 3) := by decide +kernel
theorem dX11_init_58 : decode cX11_init 58 = .ok (.newarray .int, 2) := by decide +kernel
theorem dX11_init_60 : decode cX11_init 60 = .ok (.putfield 29, 3) := by decide +kernel
theorem dX11_init_63 : decode cX11_init 63 = .ok (.aload_n 0, 1) := by decide +kernel
theorem dX11_init_64 : decode cX11_init 64 = .ok (.bipush 10, 2) := by decide +kernel
theorem dX11_init_66 : decode cX11_init 66 = .ok (.newarray .int, 2) := by decide +kernel
theorem dX11_init_68 : decode cX11_init 68 = .ok (.putfield 32, 3) := by decide +kernel
theorem dX11_init_71 : decode cX11_init 71 = .ok (.aload_n 0, 1) := by decide +kernel
theorem dX11_init_72 : decode cX11_init 72 = .ok (.lconst 1, 1) := by decide +kernel
theorem dX11_init_73 : decode cX11_init 73 = .ok (.putfield 35, 3) := by decide +kernel
theorem dX11_init_76 : decode cX11_init 76 = .ok (.aload_n 0, 1) := by decide +kernel
theorem dX11_init_77 : decode cX11_init 77 = .ok (.iconst 3, 1) := by decide +kernel
theorem dX11_init_78 : decode cX11_init 78 = .ok (.invokevirtual 39, 3) := by decide +kernel
theorem dX11_init_81 : decode cX11_init 81 = .ok (.return_, 1) := by decide +kernel
def adM (uX : Nat → Nat) (h q1 q2 q3 q4 q5 q6 q7 q8 : Nat) : Nat → Nat := fun k => if k < 112 then uX k else ([h, q1, q2, q3, q4, q5, q6, q7, q8] : List Nat).getD (k - 112) 0
def wM (cy : Nat → ClassId) (uX : Nat → Nat) (h q1 q2 q3 q4 q5 q6 q7 q8 : Nat) : va_W := [(h, .inr (10, [.ref q1, .ref q2, .ref q3, .ref q4, .ref q5, .int 0, .long 0, .long 1, .ref q6, .int 0, .int 0, .int 0, .int 0, .int 0, .ref q7, .int 0, .ref q8, .int 0, .int 0, .int 0]))] ++ dtW cy uX ++ [(q1, .inl (cy 11, 184, .inl (fun _ => 0)))] ++ [(q2, .inl (cy 11, 368, .inl (fun _ => 0)))] ++ [(q3, .inl (cy 13, 2, .inl (fun _ => 0)))] ++ [(q4, .inl (cy 11, 184, .inl (fun _ => 0)))] ++ [(q5, .inl (cy 11, 3, .inl (fun _ => 0)))] ++ [(q6, .inl (cy 11, 150, .inl (fun _ => 0)))] ++ [(q7, .inl (cy 11, 200, .inl (fun _ => 0)))] ++ [(q8, .inl (cy 11, 10, .inl (fun _ => 0)))]
set_option maxHeartbeats 8000000 in
set_option maxRecDepth 100000 in
theorem wM_at (cy : Nat → ClassId) (D : va_G) (uX : Nat → Nat) (h q1 q2 q3 q4 q5 q6 q7 q8 : Nat) (H : Heap) : ∀ k, k < 121 → ∃ e, (wM cy uX h q1 q2 q3 q4 q5 q6 q7 q8)[posL.getD k 0]? = some (adM uX h q1 q2 q3 q4 q5 q6 q7 q8 k, e) ∧ (va_at D clX (adM uX h q1 q2 q3 q4 q5 q6 q7 q8 k, e) H → va_at D clX (adM uX h q1 q2 q3 q4 q5 q6 q7 q8 k, cellE cy (adM uX h q1 q2 q3 q4 q5 q6 q7 q8) μI k) H)
  | 0, _ => ⟨_, rfl, fun h => h⟩
  | 1, _ => ⟨_, rfl, fun h => h⟩
  | 2, _ => ⟨_, rfl, fun h => h⟩
  | 3, _ => ⟨_, rfl, fun h => h⟩
  | 4, _ => ⟨_, rfl, fun h => h⟩
  | 5, _ => ⟨_, rfl, fun h => h⟩
  | 6, _ => ⟨_, rfl, fun h => h⟩
  | 7, _ => ⟨_, rfl, fun h => h⟩
  | 8, _ => ⟨_, rfl, fun h => h⟩
  | 9, _ => ⟨_, rfl, fun h => h⟩
  | 10, _ => ⟨_, rfl, fun h => h⟩
  | 11, _ => ⟨_, rfl, fun h => h⟩
  | 12, _ => ⟨_, rfl, fun h => h⟩
  | 13, _ => ⟨_, rfl, fun h => h⟩
  | 14, _ => ⟨_, rfl, fun h => h⟩
  | 15, _ => ⟨_, rfl, at_row (fun j hj => match j, hj with | 0, _ => rfl | 1, _ => rfl | j + 2, h => absurd h (by omega))⟩
  | 16, _ => ⟨_, rfl, fun h => h⟩
  | 17, _ => ⟨_, rfl, fun h => h⟩
  | 18, _ => ⟨_, rfl, fun h => h⟩
  | 19, _ => ⟨_, rfl, fun h => h⟩
  | 20, _ => ⟨_, rfl, fun h => h⟩
  | 21, _ => ⟨_, rfl, fun h => h⟩
  | 22, _ => ⟨_, rfl, fun h => h⟩
  | 23, _ => ⟨_, rfl, fun h => h⟩
  | 24, _ => ⟨_, rfl, fun h => h⟩
  | 25, _ => ⟨_, rfl, fun h => h⟩
  | 26, _ => ⟨_, rfl, fun h => h⟩
  | 27, _ => ⟨_, rfl, fun h => h⟩
  | 28, _ => ⟨_, rfl, fun h => h⟩
  | 29, _ => ⟨_, rfl, fun h => h⟩
  | 30, _ => ⟨_, rfl, fun h => h⟩
  | 31, _ => ⟨_, rfl, fun h => h⟩
  | 32, _ => ⟨_, rfl, fun h => h⟩
  | 33, _ => ⟨_, rfl, fun h => h⟩
  | 34, _ => ⟨_, rfl, fun h => h⟩
  | 35, _ => ⟨_, rfl, fun h => h⟩
  | 36, _ => ⟨_, rfl, fun h => h⟩
  | 37, _ => ⟨_, rfl, fun h => h⟩
  | 38, _ => ⟨_, rfl, fun h => h⟩
  | 39, _ => ⟨_, rfl, fun h => h⟩
  | 40, _ => ⟨_, rfl, fun h => h⟩
  | 41, _ => ⟨_, rfl, fun h => h⟩
  | 42, _ => ⟨_, rfl, fun h => h⟩
  | 43, _ => ⟨_, rfl, fun h => h⟩
  | 44, _ => ⟨_, rfl, fun h => h⟩
  | 45, _ => ⟨_, rfl, fun h => h⟩
  | 46, _ => ⟨_, rfl, fun h => h⟩
  | 47, _ => ⟨_, rfl, fun h => h⟩
  | 48, _ => ⟨_, rfl, fun h => h⟩
  | 49, _ => ⟨_, rfl, fun h => h⟩
  | 50, _ => ⟨_, rfl, fun h => h⟩
  | 51, _ => ⟨_, rfl, fun h => h⟩
  | 52, _ => ⟨_, rfl, fun h => h⟩
  | 53, _ => ⟨_, rfl, fun h => h⟩
  | 54, _ => ⟨_, rfl, fun h => h⟩
  | 55, _ => ⟨_, rfl, fun h => h⟩
  | 56, _ => ⟨_, rfl, fun h => h⟩
  | 57, _ => ⟨_, rfl, fun h => h⟩
  | 58, _ => ⟨_, rfl, fun h => h⟩
  | 59, _ => ⟨_, rfl, fun h => h⟩
  | 60, _ => ⟨_, rfl, fun h => h⟩
  | 61, _ => ⟨_, rfl, fun h => h⟩
  | 62, _ => ⟨_, rfl, fun h => h⟩
  | 63, _ => ⟨_, rfl, fun h => h⟩
  | 64, _ => ⟨_, rfl, fun h => h⟩
  | 65, _ => ⟨_, rfl, fun h => h⟩
  | 66, _ => ⟨_, rfl, fun h => h⟩
  | 67, _ => ⟨_, rfl, fun h => h⟩
  | 68, _ => ⟨_, rfl, fun h => h⟩
  | 69, _ => ⟨_, rfl, fun h => h⟩
  | 70, _ => ⟨_, rfl, fun h => h⟩
  | 71, _ => ⟨_, rfl, fun h => h⟩
  | 72, _ => ⟨_, rfl, fun h => h⟩
  | 73, _ => ⟨_, rfl, fun h => h⟩
  | 74, _ => ⟨_, rfl, fun h => h⟩
  | 75, _ => ⟨_, rfl, fun h => h⟩
  | 76, _ => ⟨_, rfl, fun h => h⟩
  | 77, _ => ⟨_, rfl, fun h => h⟩
  | 78, _ => ⟨_, rfl, fun h => h⟩
  | 79, _ => ⟨_, rfl, fun h => h⟩
  | 80, _ => ⟨_, rfl, fun h => h⟩
  | 81, _ => ⟨_, rfl, fun h => h⟩
  | 82, _ => ⟨_, rfl, at_row (fun j hj => match j, hj with | 0, _ => rfl | 1, _ => rfl | 2, _ => rfl | 3, _ => rfl | j + 4, h => absurd h (by omega))⟩
  | 83, _ => ⟨_, rfl, fun h => h⟩
  | 84, _ => ⟨_, rfl, fun h => h⟩
  | 85, _ => ⟨_, rfl, fun h => h⟩
  | 86, _ => ⟨_, rfl, fun h => h⟩
  | 87, _ => ⟨_, rfl, fun h => h⟩
  | 88, _ => ⟨_, rfl, fun h => h⟩
  | 89, _ => ⟨_, rfl, fun h => h⟩
  | 90, _ => ⟨_, rfl, fun h => h⟩
  | 91, _ => ⟨_, rfl, fun h => h⟩
  | 92, _ => ⟨_, rfl, fun h => h⟩
  | 93, _ => ⟨_, rfl, fun h => h⟩
  | 94, _ => ⟨_, rfl, fun h => h⟩
  | 95, _ => ⟨_, rfl, fun h => h⟩
  | 96, _ => ⟨_, rfl, fun h => h⟩
  | 97, _ => ⟨_, rfl, fun h => h⟩
  | 98, _ => ⟨_, rfl, fun h => h⟩
  | 99, _ => ⟨_, rfl, fun h => h⟩
  | 100, _ => ⟨_, rfl, fun h => h⟩
  | 101, _ => ⟨_, rfl, fun h => h⟩
  | 102, _ => ⟨_, rfl, fun h => h⟩
  | 103, _ => ⟨_, rfl, at_row (fun j hj => match j, hj with | 0, _ => rfl | 1, _ => rfl | 2, _ => rfl | j + 3, h => absurd h (by omega))⟩
  | 104, _ => ⟨_, rfl, fun h => h⟩
  | 105, _ => ⟨_, rfl, fun h => h⟩
  | 106, _ => ⟨_, rfl, fun h => h⟩
  | 107, _ => ⟨_, rfl, at_row (fun j hj => match j, hj with | 0, _ => rfl | 1, _ => rfl | 2, _ => rfl | j + 3, h => absurd h (by omega))⟩
  | 108, _ => ⟨_, rfl, fun h => h⟩
  | 109, _ => ⟨_, rfl, fun h => h⟩
  | 110, _ => ⟨_, rfl, fun h => h⟩
  | 111, _ => ⟨_, rfl, fun h => h⟩
  | 112, _ => ⟨_, rfl, fun h => h⟩
  | 113, _ => ⟨_, rfl, fun h => h⟩
  | 114, _ => ⟨_, rfl, fun h => h⟩
  | 115, _ => ⟨_, rfl, fun h => h⟩
  | 116, _ => ⟨_, rfl, fun h => h⟩
  | 117, _ => ⟨_, rfl, fun h => h⟩
  | 118, _ => ⟨_, rfl, fun h => h⟩
  | 119, _ => ⟨_, rfl, fun h => h⟩
  | 120, _ => ⟨_, rfl, fun h => h⟩
  | k + 121, h => absurd h (by omega)
theorem wM_P {cy : Nat → ClassId} {D : va_G} {uX : Nat → Nat} {h q1 q2 q3 q4 q5 q6 q7 q8 : Nat} {H : Heap} (hP : va_P D clX (wM cy uX h q1 q2 q3 q4 q5 q6 q7 q8) H) : va_P D clX (wsOf cy (adM uX h q1 q2 q3 q4 q5 q6 q7 q8) μI) H := by
  intro k q hq
  have hk : k < NP := by
    have := (List.getElem?_eq_some_iff.mp hq).1
    rwa [wsOf_len] at this
  rw [wsOf_at _ _ _ hk] at hq
  cases hq
  obtain ⟨e, h1, h2⟩ := wM_at cy D uX h q1 q2 q3 q4 q5 q6 q7 q8 H k hk
  exact h2 (hP _ _ h1)
theorem wM_ok {cy : Nat → ClassId} {D : va_G} {A : Nat → Prop} {uX : Nat → Nat} {h q1 q2 q3 q4 q5 q6 q7 q8 : Nat} (hD : va_D A (wM cy uX h q1 q2 q3 q4 q5 q6 q7 q8)) : (∀ i j, i < NP → j < NP → adM uX h q1 q2 q3 q4 q5 q6 q7 q8 i = adM uX h q1 q2 q3 q4 q5 q6 q7 q8 j → i = j) ∧ ∀ k, k < NP → A (adM uX h q1 q2 q3 q4 q5 q6 q7 q8 k) := by
  refine ⟨fun i j hi hj e => ?_, fun k hk => ?_⟩
  · obtain ⟨e1, h1, -⟩ := wM_at cy D uX h q1 q2 q3 q4 q5 q6 q7 q8 #[] i hi
    obtain ⟨e2, h2, -⟩ := wM_at cy D uX h q1 q2 q3 q4 q5 q6 q7 q8 #[] j hj
    exact posL_inj i hi j hj (hD.1 _ _ _ _ h1 h2 e)
  · obtain ⟨e1, h1, -⟩ := wM_at cy D uX h q1 q2 q3 q4 q5 q6 q7 q8 #[] k hk
    exact hD.2 _ _ h1
def gM (l : Launch) (cy : Nat → ClassId) (D : va_G) (A : Nat → Prop) (aK aV aT : Nat → Nat) (ad : Nat → Nat) : GT := (l, cy, ad, D, A, aK, aV, aT)
def MPre (l : Launch) (cy : Nat → ClassId) (D : va_G) (A : Nat → Prop) (aK aV aT uX : Nat → Nat) (h sz : Nat) (U : State) : Prop := U.heap.size = sz ∧ va_P D clX ([(h, .inr (10, [.null, .null, .null, .null, .null, (.int 0), (.long 0), (.long 0), .null, (.int 0), (.int 0), (.int 0), (.int 0), (.int 0), .null, (.int 0), .null, (.int 0), (.int 0), (.int 0)]))] ++ dtW cy uX) U.heap ∧ va_D A ([(h, .inr (10, [.null, .null, .null, .null, .null, (.int 0), (.long 0), (.long 0), .null, (.int 0), (.int 0), (.int 0), (.int 0), (.int 0), .null, (.int 0), .null, (.int 0), (.int 0), (.int 0)]))] ++ dtW cy uX) ∧ va_K D clX (tysX cy) U ∧ EX cy U ∧ Stt (gM l cy D A aK aV aT (fun _ => 0)) U U.heap
theorem MPre.blind {l : Launch} {cy : Nat → ClassId} {D : va_G} {A : Nat → Prop} {aK aV aT uX : Nat → Nat} {h sz : Nat} {av : List Value} : FrameBlind (va_Pc av (MPre l cy D A aK aV aT uX h sz)) := by
  intro a U gg mk q
  obtain ⟨q0, q1, q2, q3, q4, q5, q6⟩ := q
  exact ⟨q0, q1, q2, q3, va_K.moved (u := U) (U := U.calling gg mk a) (Vm.Alike.refl U.vm) q4, EX.same (u := U) (U := U.calling gg mk a) rfl q5, Stt.same (u := U) (U := U.calling gg mk a) rfl q6⟩
def QM (cy : Nat → ClassId) (D : va_G) (A : Nat → Prop) (uX : Nat → Nat) (h : Nat) (μ0 : Mem) : Array Value → State → Outcome → State → Prop := va_Qv (fun ad : Nat → Nat => (ad 0 = uX 0 ∧ ad 112 = h) ∧ (∀ i j, i < NP → j < NP → ad i = ad j → i = j) ∧ ∀ k, k < NP → A (ad k)) (fun ad t => va_P D clX (wsOf cy ad μ0) t.heap) A
set_option maxHeartbeats 8000000 in
set_option maxRecDepth 100000 in
theorem cc_X11_init {l : Launch} {cy : Nat → ClassId} {D : va_G} {A : Nat → Prop} {aK aV aT uX : Nat → Nat} {h sz : Nat} {μ0 : Mem} (hB : f_X11_begins 3 μI = some μ0) (hA : ∀ q, sz ≤ q → A q) : Met l yX11_init (Cond.code yX11_init cX11_init 1 none :: TB) (RN 3 8 1101) (va_Pc [.ref h] (MPre l cy D A aK aV aT uX h sz)) (QM cy D A uX h μ0) 8 1101 A := by
  refine Met.ofW (cc := cX11_init) (maxL := 1) (ret := none) (by decide) rfl ?_
  intro p e s m args below meth c s₁ B hml hv
  obtain ⟨rfl, hsz, hP0, hD0, hK, hE, hT⟩ := hv
  have hx := B.exec
  have hb := B.bytes
  have hr := B.returns
  have hts0 := atoms_spec (ws := Cond.code yX11_init cX11_init 1 none :: TB) B.pre
  have hts : ∀ w ∈ TB, w.before _ s = true := fun w hw => hts0 w (List.mem_cons_of_mem _ hw)
  have hown : s.vm.findClass RX11 = some m.cls := findClass_of_methodNamed B.named
  have hlocks := B.notSynchronized
  have hin : meth.name = "<init>" := (name_of_methodNamed B.named B.method).1
  have hl := lv_entry [.ref h] (n := 1) (Nat.le_of_ble_eq_true rfl)
  rw [lg_entry_eq]
  subst hsz
  have hX : CN l cy D A (WN l D A p e (RN 3 8 1101) s m [Value.ref h].toArray below meth c 1 (MQ below (QM cy D A uX h μ0) [Value.ref h].toArray s 8 1101 A)) cX11_init RX11 1 3 8 1101 True := ⟨p, e, _, s, m, _, below, meth, c, _, rfl, hx, hb, hml, hown, hts, hK, hE, hA, Nat.le_refl _, Nat.le_refl _, Nat.le_refl _, Nat.le_refl _, fun _ => hin⟩
  suffices key : WN l D A p e (RN 3 8 1101) s m [Value.ref h].toArray below meth c 1 (MQ below (QM cy D A uX h μ0) [Value.ref h].toArray s 8 1101 A) 0 [(0, .ref h)] [] ([(h, .inr (10, [.null, .null, .null, .null, .null, (.int 0), (.long 0), (.long 0), .null, (.int 0), (.int 0), (.int 0), (.int 0), (.int 0), .null, (.int 0), .null, (.int 0), (.int 0), (.int 0)]))] ++ dtW cy uX) 0 0 from key s.heap [] _ hP0 hD0 va_S.rf hl
  refine n_aload_n hX dX11_init_0 rfl 0 rfl ?_
  refine n_obj hX cvX11_1 (by decide) (Nat.le_of_ble_eq_true rfl) dX11_init_1 ?_
  refine n_aload_n hX dX11_init_4 rfl 0 rfl ?_
  refine n_sipush (v := 184) hX dX11_init_5 (by decide) ?_
  refine n_newI (M := 184) hX kwI (by decide) (by decide) (by decide) (by decide) (by decide) dX11_init_8 (fun q1 => ?_)
  refine n_putF (ws' := [(h, .inr (10, [.ref q1, .null, .null, .null, .null, .int 0, .long 0, .long 0, .null, .int 0, .int 0, .int 0, .int 0, .int 0, .null, .int 0, .null, .int 0, .int 0, .int 0]))] ++ dtW cy uX ++ [(q1, .inl (cy 11, 184, .inl (fun _ => 0)))]) hX 0 trivial flX11_7 (fun C T NN h => by cases h; rfl) rfl ⟨rfl, rfl⟩ (Nat.le_of_ble_eq_true rfl) rfl dX11_init_10 ?_
  refine n_aload_n hX dX11_init_13 rfl 0 rfl ?_
  refine n_sipush (v := 368) hX dX11_init_14 (by decide) ?_
  refine n_newI (M := 368) hX kwI (by decide) (by decide) (by decide) (by decide) (by decide) dX11_init_17 (fun q2 => ?_)
  refine n_putF (ws' := [(h, .inr (10, [.ref q1, .ref q2, .null, .null, .null, .int 0, .long 0, .long 0, .null, .int 0, .int 0, .int 0, .int 0, .int 0, .null, .int 0, .null, .int 0, .int 0, .int 0]))] ++ dtW cy uX ++ [(q1, .inl (cy 11, 184, .inl (fun _ => 0)))] ++ [(q2, .inl (cy 11, 368, .inl (fun _ => 0)))]) hX 0 trivial flX11_13 (fun C T NN h => by cases h; rfl) rfl ⟨rfl, rfl⟩ (Nat.le_of_ble_eq_true rfl) rfl dX11_init_19 ?_
  refine n_aload_n hX dX11_init_22 rfl 0 rfl ?_
  refine n_iconst (v := 2) hX dX11_init_23 (by decide) ?_
  refine n_newZ (M := 2) hX kwZ (by decide) (by decide) (by decide) (by decide) (by decide) dX11_init_24 (fun q3 => ?_)
  refine n_putF (ws' := [(h, .inr (10, [.ref q1, .ref q2, .ref q3, .null, .null, .int 0, .long 0, .long 0, .null, .int 0, .int 0, .int 0, .int 0, .int 0, .null, .int 0, .null, .int 0, .int 0, .int 0]))] ++ dtW cy uX ++ [(q1, .inl (cy 11, 184, .inl (fun _ => 0)))] ++ [(q2, .inl (cy 11, 368, .inl (fun _ => 0)))] ++ [(q3, .inl (cy 13, 2, .inl (fun _ => 0)))]) hX 0 trivial flX11_16 (fun C T NN h => by cases h; rfl) rfl ⟨rfl, rfl⟩ (Nat.le_of_ble_eq_true rfl) rfl dX11_init_26 ?_
  refine n_aload_n hX dX11_init_29 rfl 0 rfl ?_
  refine n_sipush (v := 184) hX dX11_init_30 (by decide) ?_
  refine n_newI (M := 184) hX kwI (by decide) (by decide) (by decide) (by decide) (by decide) dX11_init_33 (fun q4 => ?_)
  refine n_putF (ws' := [(h, .inr (10, [.ref q1, .ref q2, .ref q3, .ref q4, .null, .int 0, .long 0, .long 0, .null, .int 0, .int 0, .int 0, .int 0, .int 0, .null, .int 0, .null, .int 0, .int 0, .int 0]))] ++ dtW cy uX ++ [(q1, .inl (cy 11, 184, .inl (fun _ => 0)))] ++ [(q2, .inl (cy 11, 368, .inl (fun _ => 0)))] ++ [(q3, .inl (cy 13, 2, .inl (fun _ => 0)))] ++ [(q4, .inl (cy 11, 184, .inl (fun _ => 0)))]) hX 0 trivial flX11_20 (fun C T NN h => by cases h; rfl) rfl ⟨rfl, rfl⟩ (Nat.le_of_ble_eq_true rfl) rfl dX11_init_35 ?_
  refine n_aload_n hX dX11_init_38 rfl 0 rfl ?_
  refine n_iconst (v := 3) hX dX11_init_39 (by decide) ?_
  refine n_newI (M := 3) hX kwI (by decide) (by decide) (by decide) (by decide) (by decide) dX11_init_40 (fun q5 => ?_)
  refine n_putF (ws' := [(h, .inr (10, [.ref q1, .ref q2, .ref q3, .ref q4, .ref q5, .int 0, .long 0, .long 0, .null, .int 0, .int 0, .int 0, .int 0, .int 0, .null, .int 0, .null, .int 0, .int 0, .int 0]))] ++ dtW cy uX ++ [(q1, .inl (cy 11, 184, .inl (fun _ => 0)))] ++ [(q2, .inl (cy 11, 368, .inl (fun _ => 0)))] ++ [(q3, .inl (cy 13, 2, .inl (fun _ => 0)))] ++ [(q4, .inl (cy 11, 184, .inl (fun _ => 0)))] ++ [(q5, .inl (cy 11, 3, .inl (fun _ => 0)))]) hX 0 trivial flX11_23 (fun C T NN h => by cases h; rfl) rfl ⟨rfl, rfl⟩ (Nat.le_of_ble_eq_true rfl) rfl dX11_init_42 ?_
  refine n_aload_n hX dX11_init_45 rfl 0 rfl ?_
  refine n_sipush (v := 150) hX dX11_init_46 (by decide) ?_
  refine n_newI (M := 150) hX kwI (by decide) (by decide) (by decide) (by decide) (by decide) dX11_init_49 (fun q6 => ?_)
  refine n_putF (ws' := [(h, .inr (10, [.ref q1, .ref q2, .ref q3, .ref q4, .ref q5, .int 0, .long 0, .long 0, .ref q6, .int 0, .int 0, .int 0, .int 0, .int 0, .null, .int 0, .null, .int 0, .int 0, .int 0]))] ++ dtW cy uX ++ [(q1, .inl (cy 11, 184, .inl (fun _ => 0)))] ++ [(q2, .inl (cy 11, 368, .inl (fun _ => 0)))] ++ [(q3, .inl (cy 13, 2, .inl (fun _ => 0)))] ++ [(q4, .inl (cy 11, 184, .inl (fun _ => 0)))] ++ [(q5, .inl (cy 11, 3, .inl (fun _ => 0)))] ++ [(q6, .inl (cy 11, 150, .inl (fun _ => 0)))]) hX 0 trivial flX11_26 (fun C T NN h => by cases h; rfl) rfl ⟨rfl, rfl⟩ (Nat.le_of_ble_eq_true rfl) rfl dX11_init_51 ?_
  refine n_aload_n hX dX11_init_54 rfl 0 rfl ?_
  refine n_sipush (v := 200) hX dX11_init_55 (by decide) ?_
  refine n_newI (M := 200) hX kwI (by decide) (by decide) (by decide) (by decide) (by decide) dX11_init_58 (fun q7 => ?_)
  refine n_putF (ws' := [(h, .inr (10, [.ref q1, .ref q2, .ref q3, .ref q4, .ref q5, .int 0, .long 0, .long 0, .ref q6, .int 0, .int 0, .int 0, .int 0, .int 0, .ref q7, .int 0, .null, .int 0, .int 0, .int 0]))] ++ dtW cy uX ++ [(q1, .inl (cy 11, 184, .inl (fun _ => 0)))] ++ [(q2, .inl (cy 11, 368, .inl (fun _ => 0)))] ++ [(q3, .inl (cy 13, 2, .inl (fun _ => 0)))] ++ [(q4, .inl (cy 11, 184, .inl (fun _ => 0)))] ++ [(q5, .inl (cy 11, 3, .inl (fun _ => 0)))] ++ [(q6, .inl (cy 11, 150, .inl (fun _ => 0)))] ++ [(q7, .inl (cy 11, 200, .inl (fun _ => 0)))]) hX 0 trivial flX11_29 (fun C T NN h => by cases h; rfl) rfl ⟨rfl, rfl⟩ (Nat.le_of_ble_eq_true rfl) rfl dX11_init_60 ?_
  refine n_aload_n hX dX11_init_63 rfl 0 rfl ?_
  refine n_bipush (v := 10) hX dX11_init_64 (by decide) ?_
  refine n_newI (M := 10) hX kwI (by decide) (by decide) (by decide) (by decide) (by decide) dX11_init_66 (fun q8 => ?_)
  refine n_putF (ws' := [(h, .inr (10, [.ref q1, .ref q2, .ref q3, .ref q4, .ref q5, .int 0, .long 0, .long 0, .ref q6, .int 0, .int 0, .int 0, .int 0, .int 0, .ref q7, .int 0, .ref q8, .int 0, .int 0, .int 0]))] ++ dtW cy uX ++ [(q1, .inl (cy 11, 184, .inl (fun _ => 0)))] ++ [(q2, .inl (cy 11, 368, .inl (fun _ => 0)))] ++ [(q3, .inl (cy 13, 2, .inl (fun _ => 0)))] ++ [(q4, .inl (cy 11, 184, .inl (fun _ => 0)))] ++ [(q5, .inl (cy 11, 3, .inl (fun _ => 0)))] ++ [(q6, .inl (cy 11, 150, .inl (fun _ => 0)))] ++ [(q7, .inl (cy 11, 200, .inl (fun _ => 0)))] ++ [(q8, .inl (cy 11, 10, .inl (fun _ => 0)))]) hX 0 trivial flX11_32 (fun C T NN h => by cases h; rfl) rfl ⟨rfl, rfl⟩ (Nat.le_of_ble_eq_true rfl) rfl dX11_init_68 ?_
  refine n_aload_n hX dX11_init_71 rfl 0 rfl ?_
  refine n_lconst (v := 1) hX dX11_init_72 (by decide) ?_
  refine n_put (ws' := [(h, .inr (10, [.ref q1, .ref q2, .ref q3, .ref q4, .ref q5, .int 0, .long 0, .long 1, .ref q6, .int 0, .int 0, .int 0, .int 0, .int 0, .ref q7, .int 0, .ref q8, .int 0, .int 0, .int 0]))] ++ dtW cy uX ++ [(q1, .inl (cy 11, 184, .inl (fun _ => 0)))] ++ [(q2, .inl (cy 11, 368, .inl (fun _ => 0)))] ++ [(q3, .inl (cy 13, 2, .inl (fun _ => 0)))] ++ [(q4, .inl (cy 11, 184, .inl (fun _ => 0)))] ++ [(q5, .inl (cy 11, 3, .inl (fun _ => 0)))] ++ [(q6, .inl (cy 11, 150, .inl (fun _ => 0)))] ++ [(q7, .inl (cy 11, 200, .inl (fun _ => 0)))] ++ [(q8, .inl (cy 11, 10, .inl (fun _ => 0)))]) hX 0 flX11_35 rfl ⟨rfl, rfl⟩ (Nat.le_of_ble_eq_true rfl) rfl dX11_init_73 ?_
  refine n_aload_n hX dX11_init_76 rfl 0 rfl ?_
  refine n_iconst (v := 3) hX dX11_init_77 (by decide) ?_
  intro H locs ls hP hD hS hl
  have hPw : va_P D clX (wM cy uX h q1 q2 q3 q4 q5 q6 q7 q8) H := hP
  have hDw : va_D A (wM cy uX h q1 q2 q3 q4 q5 q6 q7 q8) := hD
  have hO := wM_ok (D := D) hDw
  have hPW : PW (gM l cy D A aK aV aT (adM uX h q1 q2 q3 q4 q5 q6 q7 q8)) μI H := wM_P hPw
  have y := mkX11_begins
  have cb := callB_of (R := RN 3 8 1101) (rm := RM 1) (mc := 0) (ms := 0) 1 hts (goodTB y.1) rfl rfl rfl (hts _ y.2.1) (hts _ cvX11_39) ⟨y.2.2.1.1, y.2.2.1.2, y.2.2.2⟩ ⟨Nat.le_of_ble_eq_true rfl, Nat.le_of_ble_eq_true rfl⟩
  have hM := c_X11_begins (g := gM l cy D A aK aV aT (adM uX h q1 q2 q3 q4 q5 q6 q7 q8)) hB
  have hrun := va_runV (As := [.int 3]) (rest := []) (b := h) (g := F0 m 78 ls ([Value.int 3].reverse ++ Value.ref h :: [])) (locs := locs) (cells := 8) (slots := 1101) (below := below) (e := e) (meth := meth) ⟨hx, hb, hml, hown, hts⟩ hM ⟨cb, hts _ vkX11_begins.1, hts _ vkX11_begins.2⟩ ⟨Wd.blind, va_recv hK hPw (ci := 10) (q0 := 0) rfl rfl, fun U hU hW => ⟨rfl, by show PW _ μI U.heap; rw [hU]; exact hPW, va_K.moved hW.alike hK, (Stt.warm hW hT).kept (fun q hq hAq => by rw [hU]; exact hS.2.1 q hq hAq), hO⟩⟩ rfl rfl hl.1 rfl (lv_room (Nat.le_of_ble_eq_true rfl)) dX11_init_78 ⟨Nat.le_of_ble_eq_true rfl, Nat.le_of_ble_eq_true rfl⟩
  refine va_callv hrun hS (fun q _ h => h) (fun q h => h) (fun u t H1 locs1 ht hvm hw hB1 hz hk1 hS1 => ?_)
  subst hw
  subst ht
  exact W.vret hx hb hr (fun t' ht hW => ⟨⟨adM uX h q1 q2 q3 q4 q5 q6 q7 q8, rfl, ⟨⟨rfl, rfl⟩, hO⟩, by rw [ht]; exact hB1⟩, hS1.F ht⟩) hS1.2.2 dX11_init_81
