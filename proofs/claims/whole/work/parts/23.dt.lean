theorem kclX10_7 : Cond.classLink RX10 7 RX0 ∈ TB := tb 28 (by decide +kernel) (by decide)
theorem kinX0 : Cond.instantiable RX0 5 ∈ TB := tb 29 (by decide +kernel) (by decide)
theorem kiiX0 : Cond.initialized RX0 ∈ TB := tb 2 (by decide +kernel) (by decide)
theorem kimX0 : Cond.instanceMethod yX0_init ∈ TB := tb 31 (by decide +kernel) (by decide)
theorem kclX10_24 : Cond.classLink RX10 24 RX8 ∈ TB := tb 154 (by decide +kernel) (by decide)
theorem kinX8 : Cond.instantiable RX8 9 ∈ TB := tb 155 (by decide +kernel) (by decide)
theorem kiiX8 : Cond.initialized RX8 ∈ TB := tb 6 (by decide +kernel) (by decide)
theorem kimX8 : Cond.instanceMethod yX8_init ∈ TB := tb 157 (by decide +kernel) (by decide)
theorem kclX10_34 : Cond.classLink RX10 34 RX3 ∈ TB := tb 193 (by decide +kernel) (by decide)
theorem kclX10_41 : Cond.classLink RX10 41 RX9 ∈ TB := tb 195 (by decide +kernel) (by decide)
theorem kinX9 : Cond.instantiable RX9 5 ∈ TB := tb 196 (by decide +kernel) (by decide)
theorem kiiX9 : Cond.initialized RX9 ∈ TB := tb 7 (by decide +kernel) (by decide)
theorem kimX9 : Cond.instanceMethod yX9_init ∈ TB := tb 198 (by decide +kernel) (by decide)
theorem kclX10_48 : Cond.classLink RX10 48 RX5 ∈ TB := tb 220 (by decide +kernel) (by decide)
theorem kinX5 : Cond.instantiable RX5 7 ∈ TB := tb 221 (by decide +kernel) (by decide)
theorem kiiX5 : Cond.initialized RX5 ∈ TB := tb 8 (by decide +kernel) (by decide)
theorem kimX5 : Cond.instanceMethod yX5_init ∈ TB := tb 223 (by decide +kernel) (by decide)
theorem kclX10_55 : Cond.classLink RX10 55 RX2 ∈ TB := tb 253 (by decide +kernel) (by decide)
theorem kinX2 : Cond.instantiable RX2 5 ∈ TB := tb 254 (by decide +kernel) (by decide)
theorem kiiX2 : Cond.initialized RX2 ∈ TB := tb 9 (by decide +kernel) (by decide)
theorem kimX2 : Cond.instanceMethod yX2_init ∈ TB := tb 256 (by decide +kernel) (by decide)
theorem kclX10_62 : Cond.classLink RX10 62 RX1 ∈ TB := tb 277 (by decide +kernel) (by decide)
theorem kinX1 : Cond.instantiable RX1 4 ∈ TB := tb 278 (by decide +kernel) (by decide)
theorem kiiX1 : Cond.initialized RX1 ∈ TB := tb 10 (by decide +kernel) (by decide)
theorem kimX1 : Cond.instanceMethod yX1_init ∈ TB := tb 280 (by decide +kernel) (by decide)
theorem dX10_init_0 : decode cX10_init 0 = .ok (.aload_n 0, 1) := by decide +kernel
theorem dX10_init_1 : decode cX10_init 1 = .ok (.invokespecial 1, 3) := by decide +kernel
theorem dX10_init_4 : decode cX10_init 4 = .ok (.aload_n 0, 1) := by decide +kernel
theorem dX10_init_5 : decode cX10_init 5 = .ok (.new 7, 3) := by decide +kernel
theorem dX10_init_8 : decode cX10_init 8 = .ok (.dup, 1) := by decide +kernel
theorem dX10_init_9 : decode cX10_init 9 = .ok (.invokespecial 9, 3) := by decide +kernel
theorem dX10_init_12 : decode cX10_init 12 = .ok (.putfield 10, 3) := by decide +kernel
theorem dX10_init_15 : decode cX10_init 15 = .ok (.aload_n 0, 1) := by decide +kernel
theorem dX10_init_16 : decode cX10_init 16 = .ok (.iconst 2, 1) := by decide +kernel
theorem dX10_init_17 : decode cX10_init 17 = .ok (.anewarray 7, 3) := by decide +kernel
theorem dX10_init_20 : decode cX10_init 20 = .ok (.putfield 16, 3) := by decide +kernel
theorem dX10_init_23 : decode cX10_init 23 = .ok (.aload_n 0, 1) := by decide +kernel
theorem dX10_init_24 : decode cX10_init 24 = .ok (.iconst 2, 1) := by decide +kernel
theorem dX10_init_25 : decode cX10_init 25 = .ok (.newarray .boolean, 2) := by decide +kernel
theorem dX10_init_27 : decode cX10_init 27 = .ok (.putfield 20, 3) := by decide +kernel
theorem dX10_init_30 : decode cX10_init 30 = .ok (.aload_n 0, 1) := by decide +kernel
theorem dX10_init_31 : decode cX10_init 31 = .ok (.new 24, 3) := by decide +kernel
theorem dX10_init_34 : decode cX10_init 34 = .ok (.dup, 1) := by decide +kernel
theorem dX10_init_35 : decode cX10_init 35 = .ok (.invokespecial 26, 3) := by decide +kernel
theorem dX10_init_38 : decode cX10_init 38 = .ok (.putfield 27, 3) := by decide +kernel
theorem dX10_init_41 : decode cX10_init 41 = .ok (.aload_n 0, 1) := by decide +kernel
theorem dX10_init_42 : decode cX10_init 42 = .ok (.new 7, 3) := by decide +kernel
theorem dX10_init_45 : decode cX10_init 45 = .ok (.dup, 1) := by decide +kernel
theorem dX10_init_46 : decode cX10_init 46 = .ok (.invokespecial 9, 3) := by decide +kernel
theorem dX10_init_49 : decode cX10_init 49 = .ok (.putfield 31, 3) := by decide +kernel
theorem dX10_init_52 : decode cX10_init 52 = .ok (.aload_n 0, 1) := by decide +kernel
theorem dX10_init_53 : decode cX10_init 53 = .ok (.new 34, 3) := by decide +kernel
theorem dX10_init_56 : decode cX10_init 56 = .ok (.dup, 1) := by decide +kernel
theorem dX10_init_57 : decode cX10_init 57 = .ok (.invokespecial 36, 3) := by decide +kernel
theorem dX10_init_60 : decode cX10_init 60 = .ok (.putfield 37, 3) := by decide +kernel
theorem dX10_init_63 : decode cX10_init 63 = .ok (.aload_n 0, 1) := by decide +kernel
theorem dX10_init_64 : decode cX10_init 64 = .ok (.new 41, 3) := by decide +kernel
theorem dX10_init_67 : decode cX10_init 67 = .ok (.dup, 1) := by decide +kernel
theorem dX10_init_68 : decode cX10_init 68 = .ok (.invokespecial 43, 3) := by decide +kernel
theorem dX10_init_71 : decode cX10_init 71 = .ok (.putfield 44, 3) := by decide +kernel
theorem dX10_init_74 : decode cX10_init 74 = .ok (.aload_n 0, 1) := by decide +kernel
theorem dX10_init_75 : decode cX10_init 75 = .ok (.new 48, 3) := by decide +kernel
theorem dX10_init_78 : decode cX10_init 78 = .ok (.dup, 1) := by decide +kernel
theorem dX10_init_79 : decode cX10_init 79 = .ok (.invokespecial 50, 3) := by decide +kernel
theorem dX10_init_82 : decode cX10_init 82 = .ok (.putfield 51, 3) := by decide +kernel
theorem dX10_init_85 : decode cX10_init 85 = .ok (.aload_n 0, 1) := by decide +kernel
theorem dX10_init_86 : decode cX10_init 86 = .ok (.new 55, 3) := by decide +kernel
theorem dX10_init_89 : decode cX10_init 89 = .ok (.dup, 1) := by decide +kernel
theorem dX10_init_90 : decode cX10_init 90 = .ok (.invokespecial 57, 3) := by decide +kernel
theorem dX10_init_93 : decode cX10_init 93 = .ok (.putfield 58, 3) := by decide +kernel
theorem dX10_init_96 : decode cX10_init 96 = .ok (.aload_n 0, 1) := by decide +kernel
theorem dX10_init_97 : decode cX10_init 97 = .ok (.new 62, 3) := by decide +kernel
theorem dX10_init_100 : decode cX10_init 100 = .ok (.dup, 1) := by decide +kernel
theorem dX10_init_101 : decode cX10_init 101 = .ok (.invokespecial 64, 3) := by decide +kernel
theorem dX10_init_104 : decode cX10_init 104 = .ok (.putfield 65, 3) := by decide +kernel
theorem dX10_init_107 : decode cX10_init 107 = .ok (.aload_n 0, 1) := by decide +kernel
theorem dX10_init_108 : decode cX10_init 108 = .ok (.lconst 0, 1) := by decide +kernel
theorem dX10_init_109 : decode cX10_init 109 = .ok (.putfield 69, 3) := by decide +kernel
theorem dX10_init_112 : decode cX10_init 112 = .ok (.aload_n 0, 1) := by decide +kernel
theorem dX10_init_113 : decode cX10_init 113 = .ok (.lconst 1, 1) := by decide +kernel
theorem dX10_init_114 : decode cX10_init 114 = .ok (.putfield 73, 3) := by decide +kernel
theorem dX10_init_117 : decode cX10_init 117 = .ok (.aload_n 0, 1) := by decide +kernel
theorem dX10_init_118 : decode cX10_init 118 = .ok (.iconst 0, 1) := by decide +kernel
theorem dX10_init_119 : decode cX10_init 119 = .ok (.putfield 76, 3) := by decide +kernel
theorem dX10_init_122 : decode cX10_init 122 = .ok (.aload_n 0, 1) := by decide +kernel
theorem dX10_init_123 : decode cX10_init 123 = .ok (.iconst 0, 1) := by decide +kernel
theorem dX10_init_124 : decode cX10_init 124 = .ok (.putfield 80, 3) := by decide +kernel
theorem dX10_init_127 : decode cX10_init 127 = .ok (.aload_n 0, 1) := by decide +kernel
theorem dX10_init_128 : decode cX10_init 128 = .ok (.iconst 0, 1) := by decide +kernel
theorem dX10_init_129 : decode cX10_init 129 = .ok (.putfield 83, 3) := by decide +kernel
theorem dX10_init_132 : decode cX10_init 132 = .ok (.iconst 0, 1) := by decide +kernel
theorem dX10_init_133 : decode cX10_init 133 = .ok (.istore_n 1, 1) := by decide +kernel
theorem dX10_init_134 : decode cX10_init 134 = .ok (.iload_n 1, 1) := by decide +kernel
theorem dX10_init_135 : decode cX10_init 135 = .ok (.iconst 2, 1) := by decide +kernel
theorem dX10_init_136 : decode cX10_init 136 = .ok (.if_icmp .ge 22, 3) := by decide +kernel
theorem dX10_init_139 : decode cX10_init 139 = .ok (.aload_n 0, 1) := by decide +kernel
theorem dX10_init_140 : decode cX10_init 140 = .ok (.getfield 16, 3) := by decide +kernel
theorem dX10_init_143 : decode cX10_init 143 = .ok (.iload_n 1, 1) := by decide +kernel
theorem dX10_init_144 : decode cX10_init 144 = .ok (.new 7, 3) := by decide +kernel
theorem dX10_init_147 : decode cX10_init 147 = .ok (.dup, 1) := by decide +kernel
theorem dX10_init_148 : decode cX10_init 148 = .ok (.invokespecial 9, 3) := by decide +kernel
theorem dX10_init_151 : decode cX10_init 151 = .ok (.aastore, 1) := by decide +kernel
theorem dX10_init_152 : decode cX10_init 152 = .ok (.iinc 1 1, 3) := by decide +kernel
theorem dX10_init_155 : decode cX10_init 155 = .ok (.goto (-21), 3) := by decide +kernel
theorem dX10_init_158 : decode cX10_init 158 = .ok (.return_, 1) := by decide +kernel
def dtW (cy : Nat → ClassId) (u : Nat → Nat) : va_W := (u 0, .inr (9, [.ref (u 1), .ref (u 15), .ref (u 44), .ref (u 45), .ref (u 49), .ref (u 63), .ref (u 68), .ref (u 72), .ref (u 80), .ref (u 81), .long 0, .long 1, .int 0, .int 0, .int 0])) :: (countyW cy (fun j => u (1 + j)) ++ [((u 15), .inl (cy 15, 2, .inr (.inr (.inr (.inr (va_up (va_up (fun _ => none) 0 (some (u 16))) 1 (some (u 30))))))))] ++ [((u 44), .inl (cy 13, 2, .inl (fun _ => 0)))] ++ scrollW cy (fun j => u (45 + j)) ++ countyW cy (fun j => u (49 + j)) ++ herdW cy (fun j => u (63 + j)) ++ weatherW cy (fun j => u (68 + j)) ++ movesW cy (fun j => u (72 + j)) ++ gameW cy (fun j => u (80 + j)) ++ fitW cy (fun j => u (81 + j)) ++ countyW cy (fun j => u (16 + j)) ++ countyW cy (fun j => u (30 + j)))
set_option maxHeartbeats 16000000 in
set_option maxRecDepth 100000 in
theorem cc_X10_init {l : Launch} {cy : Nat → ClassId} {D : va_G} : CC l cy D yX10_init cX10_init 2 3 111 1409 (.inr (9, [.null, .null, .null, .null, .null, .null, .null, .null, .null, .null, (.long 0), (.long 0), (.int 0), (.int 0), (.int 0)])) (dtW cy) := by
  refine mk_c (by decide) rfl (by decide) ?_
  intro h A N hX hR
  have hX : CN l cy D A N cX10_init RX10 2 3 111 1409 True := hX
  refine n_aload_n hX dX10_init_0 rfl 0 rfl ?_
  refine n_obj hX cvX10_1 (by decide) (Nat.le_of_ble_eq_true rfl) dX10_init_1 ?_
  refine n_aload_n hX dX10_init_4 rfl 0 rfl ?_
  refine n_new (fs := [.null, .null, .null, .null, .null]) hX ck0 (fun j hj => match j, hj with | 0, _ => rfl | 1, _ => rfl | 2, _ => rfl | 3, _ => rfl | 4, _ => rfl | j + 5, h => absurd h (by omega)) kclX10_7 kinX0 kiiX0 (by decide) (by decide) dX10_init_5 (fun q1 => ?_)
  refine n_dup hX dX10_init_8 rfl ?_
  refine n_ctorN (host := "DragonTithe") hX cc_X0_init mkX0_init ⟨rfl, kimX0⟩ (by decide) ⟨by decide, by decide, Nat.le_of_ble_eq_true rfl⟩ (by decide) (by decide) dX10_init_9 (fun u2 hu2 => ?_)
  subst hu2
  refine n_putF (ws' := (h, .inr (9, [.ref (u2 0), .null, .null, .null, .null, .null, .null, .null, .null, .null, .long 0, .long 0, .int 0, .int 0, .int 0])) :: (countyW cy u2)) hX 0 trivial flX10_10 (fun C T NN h => by cases h; rfl) rfl ⟨rfl, rfl⟩ (Nat.le_of_ble_eq_true rfl) rfl dX10_init_12 ?_
  refine n_aload_n hX dX10_init_15 rfl 0 rfl ?_
  refine n_iconst (v := 2) hX dX10_init_16 (by decide) ?_
  refine n_newq15 (M := 2) hX kclX10_7 (by decide) (by decide) (by decide) (by decide) (by decide) dX10_init_17 (fun q3 => ?_)
  refine n_putF (ws' := (h, .inr (9, [.ref (u2 0), .ref q3, .null, .null, .null, .null, .null, .null, .null, .null, .long 0, .long 0, .int 0, .int 0, .int 0])) :: (countyW cy u2 ++ [(q3, .inl (cy 15, 2, .inr (.inr (.inr (.inr (fun _ => none))))))])) hX 0 trivial flX10_16 (fun C T NN h => by cases h; rfl) rfl ⟨rfl, rfl⟩ (Nat.le_of_ble_eq_true rfl) rfl dX10_init_20 ?_
  refine n_aload_n hX dX10_init_23 rfl 0 rfl ?_
  refine n_iconst (v := 2) hX dX10_init_24 (by decide) ?_
  refine n_newZ (M := 2) hX kwZ (by decide) (by decide) (by decide) (by decide) (by decide) dX10_init_25 (fun q4 => ?_)
  refine n_putF (ws' := (h, .inr (9, [.ref (u2 0), .ref q3, .ref q4, .null, .null, .null, .null, .null, .null, .null, .long 0, .long 0, .int 0, .int 0, .int 0])) :: (countyW cy u2 ++ [(q3, .inl (cy 15, 2, .inr (.inr (.inr (.inr (fun _ => none))))))] ++ [(q4, .inl (cy 13, 2, .inl (fun _ => 0)))])) hX 0 trivial flX10_20 (fun C T NN h => by cases h; rfl) rfl ⟨rfl, rfl⟩ (Nat.le_of_ble_eq_true rfl) rfl dX10_init_27 ?_
  refine n_aload_n hX dX10_init_30 rfl 0 rfl ?_
  refine n_new (fs := [.null, (.int 0), (.int 0), .null, .null, (.int 0), (.int 0), (.int 0), (.int 0)]) hX ck7 (fun j hj => match j, hj with | 0, _ => rfl | 1, _ => rfl | 2, _ => rfl | 3, _ => rfl | 4, _ => rfl | 5, _ => rfl | 6, _ => rfl | 7, _ => rfl | 8, _ => rfl | j + 9, h => absurd h (by omega)) kclX10_24 kinX8 kiiX8 (by decide) (by decide) dX10_init_31 (fun q5 => ?_)
  refine n_dup hX dX10_init_34 rfl ?_
  refine n_ctorN (host := "DragonTithe") hX cc_X8_init mkX8_init ⟨rfl, kimX8⟩ (by decide) ⟨by decide, by decide, Nat.le_of_ble_eq_true rfl⟩ (by decide) (by decide) dX10_init_35 (fun u6 hu6 => ?_)
  subst hu6
  refine n_putF (ws' := (h, .inr (9, [.ref (u2 0), .ref q3, .ref q4, .ref (u6 0), .null, .null, .null, .null, .null, .null, .long 0, .long 0, .int 0, .int 0, .int 0])) :: (countyW cy u2 ++ [(q3, .inl (cy 15, 2, .inr (.inr (.inr (.inr (fun _ => none))))))] ++ [(q4, .inl (cy 13, 2, .inl (fun _ => 0)))] ++ scrollW cy u6)) hX 0 trivial flX10_27 (fun C T NN h => by cases h; rfl) rfl ⟨rfl, rfl⟩ (Nat.le_of_ble_eq_true rfl) rfl dX10_init_38 ?_
  refine n_aload_n hX dX10_init_41 rfl 0 rfl ?_
  refine n_new (fs := [.null, .null, .null, .null, .null]) hX ck0 (fun j hj => match j, hj with | 0, _ => rfl | 1, _ => rfl | 2, _ => rfl | 3, _ => rfl | 4, _ => rfl | j + 5, h => absurd h (by omega)) kclX10_7 kinX0 kiiX0 (by decide) (by decide) dX10_init_42 (fun q7 => ?_)
  refine n_dup hX dX10_init_45 rfl ?_
  refine n_ctorN (host := "DragonTithe") hX cc_X0_init mkX0_init ⟨rfl, kimX0⟩ (by decide) ⟨by decide, by decide, Nat.le_of_ble_eq_true rfl⟩ (by decide) (by decide) dX10_init_46 (fun u8 hu8 => ?_)
  subst hu8
  refine n_putF (ws' := (h, .inr (9, [.ref (u2 0), .ref q3, .ref q4, .ref (u6 0), .ref (u8 0), .null, .null, .null, .null, .null, .long 0, .long 0, .int 0, .int 0, .int 0])) :: (countyW cy u2 ++ [(q3, .inl (cy 15, 2, .inr (.inr (.inr (.inr (fun _ => none))))))] ++ [(q4, .inl (cy 13, 2, .inl (fun _ => 0)))] ++ scrollW cy u6 ++ countyW cy u8)) hX 0 trivial flX10_31 (fun C T NN h => by cases h; rfl) rfl ⟨rfl, rfl⟩ (Nat.le_of_ble_eq_true rfl) rfl dX10_init_49 ?_
  refine n_aload_n hX dX10_init_52 rfl 0 rfl ?_
  refine n_new (fs := [(.int 0), (.int 0), (.int 0), (.int 0), .null, .null, .null, .null]) hX ck3 (fun j hj => match j, hj with | 0, _ => rfl | 1, _ => rfl | 2, _ => rfl | 3, _ => rfl | 4, _ => rfl | 5, _ => rfl | 6, _ => rfl | 7, _ => rfl | j + 8, h => absurd h (by omega)) kclX10_34 kinX3 kiiX3 (by decide) (by decide) dX10_init_53 (fun q9 => ?_)
  refine n_dup hX dX10_init_56 rfl ?_
  refine n_ctorN (host := "DragonTithe") hX cc_X3_init mkX3_init ⟨rfl, kimX3⟩ (by decide) ⟨by decide, by decide, Nat.le_of_ble_eq_true rfl⟩ (by decide) (by decide) dX10_init_57 (fun u10 hu10 => ?_)
  subst hu10
  refine n_putF (ws' := (h, .inr (9, [.ref (u2 0), .ref q3, .ref q4, .ref (u6 0), .ref (u8 0), .ref (u10 0), .null, .null, .null, .null, .long 0, .long 0, .int 0, .int 0, .int 0])) :: (countyW cy u2 ++ [(q3, .inl (cy 15, 2, .inr (.inr (.inr (.inr (fun _ => none))))))] ++ [(q4, .inl (cy 13, 2, .inl (fun _ => 0)))] ++ scrollW cy u6 ++ countyW cy u8 ++ herdW cy u10)) hX 0 trivial flX10_37 (fun C T NN h => by cases h; rfl) rfl ⟨rfl, rfl⟩ (Nat.le_of_ble_eq_true rfl) rfl dX10_init_60 ?_
  refine n_aload_n hX dX10_init_63 rfl 0 rfl ?_
  refine n_new (fs := [.null, .null, .null, (.long 0), (.int 0)]) hX ck8 (fun j hj => match j, hj with | 0, _ => rfl | 1, _ => rfl | 2, _ => rfl | 3, _ => rfl | 4, _ => rfl | j + 5, h => absurd h (by omega)) kclX10_41 kinX9 kiiX9 (by decide) (by decide) dX10_init_64 (fun q11 => ?_)
  refine n_dup hX dX10_init_67 rfl ?_
  refine n_ctorN (host := "DragonTithe") hX cc_X9_init mkX9_init ⟨rfl, kimX9⟩ (by decide) ⟨by decide, by decide, Nat.le_of_ble_eq_true rfl⟩ (by decide) (by decide) dX10_init_68 (fun u12 hu12 => ?_)
  subst hu12
  refine n_putF (ws' := (h, .inr (9, [.ref (u2 0), .ref q3, .ref q4, .ref (u6 0), .ref (u8 0), .ref (u10 0), .ref (u12 0), .null, .null, .null, .long 0, .long 0, .int 0, .int 0, .int 0])) :: (countyW cy u2 ++ [(q3, .inl (cy 15, 2, .inr (.inr (.inr (.inr (fun _ => none))))))] ++ [(q4, .inl (cy 13, 2, .inl (fun _ => 0)))] ++ scrollW cy u6 ++ countyW cy u8 ++ herdW cy u10 ++ weatherW cy u12)) hX 0 trivial flX10_44 (fun C T NN h => by cases h; rfl) rfl ⟨rfl, rfl⟩ (Nat.le_of_ble_eq_true rfl) rfl dX10_init_71 ?_
  refine n_aload_n hX dX10_init_74 rfl 0 rfl ?_
  refine n_new (fs := [.null, (.int 0), .null, .null, (.int 0), (.int 0), (.int 0)]) hX ck4 (fun j hj => match j, hj with | 0, _ => rfl | 1, _ => rfl | 2, _ => rfl | 3, _ => rfl | 4, _ => rfl | 5, _ => rfl | 6, _ => rfl | j + 7, h => absurd h (by omega)) kclX10_48 kinX5 kiiX5 (by decide) (by decide) dX10_init_75 (fun q13 => ?_)
  refine n_dup hX dX10_init_78 rfl ?_
  refine n_ctorN (host := "DragonTithe") hX cc_X5_init mkX5_init ⟨rfl, kimX5⟩ (by decide) ⟨by decide, by decide, Nat.le_of_ble_eq_true rfl⟩ (by decide) (by decide) dX10_init_79 (fun u14 hu14 => ?_)
  subst hu14
  refine n_putF (ws' := (h, .inr (9, [.ref (u2 0), .ref q3, .ref q4, .ref (u6 0), .ref (u8 0), .ref (u10 0), .ref (u12 0), .ref (u14 0), .null, .null, .long 0, .long 0, .int 0, .int 0, .int 0])) :: (countyW cy u2 ++ [(q3, .inl (cy 15, 2, .inr (.inr (.inr (.inr (fun _ => none))))))] ++ [(q4, .inl (cy 13, 2, .inl (fun _ => 0)))] ++ scrollW cy u6 ++ countyW cy u8 ++ herdW cy u10 ++ weatherW cy u12 ++ movesW cy u14)) hX 0 trivial flX10_51 (fun C T NN h => by cases h; rfl) rfl ⟨rfl, rfl⟩ (Nat.le_of_ble_eq_true rfl) rfl dX10_init_82 ?_
  refine n_aload_n hX dX10_init_85 rfl 0 rfl ?_
  refine n_new (fs := [(.int 0), (.int 0), (.int 0), (.int 0), (.int 0)]) hX ck2 (fun j hj => match j, hj with | 0, _ => rfl | 1, _ => rfl | 2, _ => rfl | 3, _ => rfl | 4, _ => rfl | j + 5, h => absurd h (by omega)) kclX10_55 kinX2 kiiX2 (by decide) (by decide) dX10_init_86 (fun q15 => ?_)
  refine n_dup hX dX10_init_89 rfl ?_
  refine n_ctorN (host := "DragonTithe") hX cc_X2_init mkX2_init ⟨rfl, kimX2⟩ (by decide) ⟨by decide, by decide, Nat.le_of_ble_eq_true rfl⟩ (by decide) (by decide) dX10_init_90 (fun u16 hu16 => ?_)
  subst hu16
  refine n_putF (ws' := (h, .inr (9, [.ref (u2 0), .ref q3, .ref q4, .ref (u6 0), .ref (u8 0), .ref (u10 0), .ref (u12 0), .ref (u14 0), .ref (u16 0), .null, .long 0, .long 0, .int 0, .int 0, .int 0])) :: (countyW cy u2 ++ [(q3, .inl (cy 15, 2, .inr (.inr (.inr (.inr (fun _ => none))))))] ++ [(q4, .inl (cy 13, 2, .inl (fun _ => 0)))] ++ scrollW cy u6 ++ countyW cy u8 ++ herdW cy u10 ++ weatherW cy u12 ++ movesW cy u14 ++ gameW cy u16)) hX 0 trivial flX10_58 (fun C T NN h => by cases h; rfl) rfl ⟨rfl, rfl⟩ (Nat.le_of_ble_eq_true rfl) rfl dX10_init_93 ?_
  refine n_aload_n hX dX10_init_96 rfl 0 rfl ?_
  refine n_new (fs := [.null, .null, .null, .null]) hX ck1 (fun j hj => match j, hj with | 0, _ => rfl | 1, _ => rfl | 2, _ => rfl | 3, _ => rfl | j + 4, h => absurd h (by omega)) kclX10_62 kinX1 kiiX1 (by decide) (by decide) dX10_init_97 (fun q17 => ?_)
  refine n_dup hX dX10_init_100 rfl ?_
  refine n_ctor hX cc_X1_init mkX1_init ⟨rfl, kimX1⟩ cvX10_64 ⟨by decide, by decide, Nat.le_of_ble_eq_true rfl⟩ (by decide) (by decide) dX10_init_101 (fun u18 hu18 => ?_)
  subst hu18
  refine n_putF (ws' := (h, .inr (9, [.ref (u2 0), .ref q3, .ref q4, .ref (u6 0), .ref (u8 0), .ref (u10 0), .ref (u12 0), .ref (u14 0), .ref (u16 0), .ref (u18 0), .long 0, .long 0, .int 0, .int 0, .int 0])) :: (countyW cy u2 ++ [(q3, .inl (cy 15, 2, .inr (.inr (.inr (.inr (fun _ => none))))))] ++ [(q4, .inl (cy 13, 2, .inl (fun _ => 0)))] ++ scrollW cy u6 ++ countyW cy u8 ++ herdW cy u10 ++ weatherW cy u12 ++ movesW cy u14 ++ gameW cy u16 ++ fitW cy u18)) hX 0 trivial flX10_65 (fun C T NN h => by cases h; rfl) rfl ⟨rfl, rfl⟩ (Nat.le_of_ble_eq_true rfl) rfl dX10_init_104 ?_
  refine n_aload_n hX dX10_init_107 rfl 0 rfl ?_
  refine n_lconst (v := 0) hX dX10_init_108 (by decide) ?_
  refine n_put (ws' := (h, .inr (9, [.ref (u2 0), .ref q3, .ref q4, .ref (u6 0), .ref (u8 0), .ref (u10 0), .ref (u12 0), .ref (u14 0), .ref (u16 0), .ref (u18 0), .long 0, .long 0, .int 0, .int 0, .int 0])) :: (countyW cy u2 ++ [(q3, .inl (cy 15, 2, .inr (.inr (.inr (.inr (fun _ => none))))))] ++ [(q4, .inl (cy 13, 2, .inl (fun _ => 0)))] ++ scrollW cy u6 ++ countyW cy u8 ++ herdW cy u10 ++ weatherW cy u12 ++ movesW cy u14 ++ gameW cy u16 ++ fitW cy u18)) hX 0 flX10_69 rfl ⟨rfl, rfl⟩ (Nat.le_of_ble_eq_true rfl) rfl dX10_init_109 ?_
  refine n_aload_n hX dX10_init_112 rfl 0 rfl ?_
  refine n_lconst (v := 1) hX dX10_init_113 (by decide) ?_
  refine n_put (ws' := (h, .inr (9, [.ref (u2 0), .ref q3, .ref q4, .ref (u6 0), .ref (u8 0), .ref (u10 0), .ref (u12 0), .ref (u14 0), .ref (u16 0), .ref (u18 0), .long 0, .long 1, .int 0, .int 0, .int 0])) :: (countyW cy u2 ++ [(q3, .inl (cy 15, 2, .inr (.inr (.inr (.inr (fun _ => none))))))] ++ [(q4, .inl (cy 13, 2, .inl (fun _ => 0)))] ++ scrollW cy u6 ++ countyW cy u8 ++ herdW cy u10 ++ weatherW cy u12 ++ movesW cy u14 ++ gameW cy u16 ++ fitW cy u18)) hX 0 flX10_73 rfl ⟨rfl, rfl⟩ (Nat.le_of_ble_eq_true rfl) rfl dX10_init_114 ?_
  refine n_aload_n hX dX10_init_117 rfl 0 rfl ?_
  refine n_iconst (v := 0) hX dX10_init_118 (by decide) ?_
  refine n_put (ws' := (h, .inr (9, [.ref (u2 0), .ref q3, .ref q4, .ref (u6 0), .ref (u8 0), .ref (u10 0), .ref (u12 0), .ref (u14 0), .ref (u16 0), .ref (u18 0), .long 0, .long 1, .int 0, .int 0, .int 0])) :: (countyW cy u2 ++ [(q3, .inl (cy 15, 2, .inr (.inr (.inr (.inr (fun _ => none))))))] ++ [(q4, .inl (cy 13, 2, .inl (fun _ => 0)))] ++ scrollW cy u6 ++ countyW cy u8 ++ herdW cy u10 ++ weatherW cy u12 ++ movesW cy u14 ++ gameW cy u16 ++ fitW cy u18)) hX 0 flX10_76 rfl ⟨rfl, rfl⟩ (Nat.le_of_ble_eq_true rfl) rfl dX10_init_119 ?_
  refine n_aload_n hX dX10_init_122 rfl 0 rfl ?_
  refine n_iconst (v := 0) hX dX10_init_123 (by decide) ?_
  refine n_put (ws' := (h, .inr (9, [.ref (u2 0), .ref q3, .ref q4, .ref (u6 0), .ref (u8 0), .ref (u10 0), .ref (u12 0), .ref (u14 0), .ref (u16 0), .ref (u18 0), .long 0, .long 1, .int 0, .int 0, .int 0])) :: (countyW cy u2 ++ [(q3, .inl (cy 15, 2, .inr (.inr (.inr (.inr (fun _ => none))))))] ++ [(q4, .inl (cy 13, 2, .inl (fun _ => 0)))] ++ scrollW cy u6 ++ countyW cy u8 ++ herdW cy u10 ++ weatherW cy u12 ++ movesW cy u14 ++ gameW cy u16 ++ fitW cy u18)) hX 0 flX10_80 rfl ⟨rfl, rfl⟩ (Nat.le_of_ble_eq_true rfl) rfl dX10_init_124 ?_
  refine n_aload_n hX dX10_init_127 rfl 0 rfl ?_
  refine n_iconst (v := 0) hX dX10_init_128 (by decide) ?_
  refine n_put (ws' := (h, .inr (9, [.ref (u2 0), .ref q3, .ref q4, .ref (u6 0), .ref (u8 0), .ref (u10 0), .ref (u12 0), .ref (u14 0), .ref (u16 0), .ref (u18 0), .long 0, .long 1, .int 0, .int 0, .int 0])) :: (countyW cy u2 ++ [(q3, .inl (cy 15, 2, .inr (.inr (.inr (.inr (fun _ => none))))))] ++ [(q4, .inl (cy 13, 2, .inl (fun _ => 0)))] ++ scrollW cy u6 ++ countyW cy u8 ++ herdW cy u10 ++ weatherW cy u12 ++ movesW cy u14 ++ gameW cy u16 ++ fitW cy u18)) hX 0 flX10_83 rfl ⟨rfl, rfl⟩ (Nat.le_of_ble_eq_true rfl) rfl dX10_init_129 ?_
  refine n_iconst (v := 0) hX dX10_init_132 (by decide) ?_
  refine n_istore_n (lv' := [(1, .int 0), (0, .ref h)]) hX dX10_init_133 rfl (by decide) rfl ?_
  refine n_iload_n hX dX10_init_134 rfl 0 rfl ?_
  refine n_iconst (v := 2) hX dX10_init_135 (by decide) ?_
  refine n_icge_f hX 158 dX10_init_136 (by decide) (by decide) ?_
  refine n_aload_n hX dX10_init_139 rfl 1 rfl ?_
  refine n_get hX 0 flX10_16 rfl rfl dX10_init_140 ?_
  refine n_iload_n hX dX10_init_143 rfl 0 rfl ?_
  refine n_new (fs := [.null, .null, .null, .null, .null]) hX ck0 (fun j hj => match j, hj with | 0, _ => rfl | 1, _ => rfl | 2, _ => rfl | 3, _ => rfl | 4, _ => rfl | j + 5, h => absurd h (by omega)) kclX10_7 kinX0 kiiX0 (by decide) (by decide) dX10_init_144 (fun q19 => ?_)
  refine n_dup hX dX10_init_147 rfl ?_
  refine n_ctorN (host := "DragonTithe") hX cc_X0_init mkX0_init ⟨rfl, kimX0⟩ (by decide) ⟨by decide, by decide, Nat.le_of_ble_eq_true rfl⟩ (by decide) (by decide) dX10_init_148 (fun u20 hu20 => ?_)
  subst hu20
  refine n_aast15 (j := 0) (ws' := (h, .inr (9, [.ref (u2 0), .ref q3, .ref q4, .ref (u6 0), .ref (u8 0), .ref (u10 0), .ref (u12 0), .ref (u14 0), .ref (u16 0), .ref (u18 0), .long 0, .long 1, .int 0, .int 0, .int 0])) :: (countyW cy u2 ++ [(q3, .inl (cy 15, 2, .inr (.inr (.inr (.inr (va_up (fun _ => none) 0 (some (u20 0))))))))] ++ [(q4, .inl (cy 13, 2, .inl (fun _ => 0)))] ++ scrollW cy u6 ++ countyW cy u8 ++ herdW cy u10 ++ weatherW cy u12 ++ movesW cy u14 ++ gameW cy u16 ++ fitW cy u18 ++ countyW cy u20)) hX 15 84 rfl rfl hc0 (by unfold vp_in; decide) (by decide) rfl dX10_init_151 ?_
  refine n_iinc (v := 1) (lv' := [(1, .int 1), (0, .ref h)]) hX dX10_init_152 0 rfl (by decide) (by decide) rfl ?_
  refine n_goto hX 134 dX10_init_155 (by decide) ?_
  refine n_iload_n hX dX10_init_134 rfl 0 rfl ?_
  refine n_iconst (v := 2) hX dX10_init_135 (by decide) ?_
  refine n_icge_f hX 158 dX10_init_136 (by decide) (by decide) ?_
  refine n_aload_n hX dX10_init_139 rfl 1 rfl ?_
  refine n_get hX 0 flX10_16 rfl rfl dX10_init_140 ?_
  refine n_iload_n hX dX10_init_143 rfl 0 rfl ?_
  refine n_new (fs := [.null, .null, .null, .null, .null]) hX ck0 (fun j hj => match j, hj with | 0, _ => rfl | 1, _ => rfl | 2, _ => rfl | 3, _ => rfl | 4, _ => rfl | j + 5, h => absurd h (by omega)) kclX10_7 kinX0 kiiX0 (by decide) (by decide) dX10_init_144 (fun q21 => ?_)
  refine n_dup hX dX10_init_147 rfl ?_
  refine n_ctorN (host := "DragonTithe") hX cc_X0_init mkX0_init ⟨rfl, kimX0⟩ (by decide) ⟨by decide, by decide, Nat.le_of_ble_eq_true rfl⟩ (by decide) (by decide) dX10_init_148 (fun u22 hu22 => ?_)
  subst hu22
  refine n_aast15 (j := 1) (ws' := (h, .inr (9, [.ref (u2 0), .ref q3, .ref q4, .ref (u6 0), .ref (u8 0), .ref (u10 0), .ref (u12 0), .ref (u14 0), .ref (u16 0), .ref (u18 0), .long 0, .long 1, .int 0, .int 0, .int 0])) :: (countyW cy u2 ++ [(q3, .inl (cy 15, 2, .inr (.inr (.inr (.inr (va_up (va_up (fun _ => none) 0 (some (u20 0))) 1 (some (u22 0))))))))] ++ [(q4, .inl (cy 13, 2, .inl (fun _ => 0)))] ++ scrollW cy u6 ++ countyW cy u8 ++ herdW cy u10 ++ weatherW cy u12 ++ movesW cy u14 ++ gameW cy u16 ++ fitW cy u18 ++ countyW cy u20 ++ countyW cy u22)) hX 15 98 rfl rfl hc0 (by unfold vp_in; decide) (by decide) rfl dX10_init_151 ?_
  refine n_iinc (v := 2) (lv' := [(1, .int 2), (0, .ref h)]) hX dX10_init_152 0 rfl (by decide) (by decide) rfl ?_
  refine n_goto hX 134 dX10_init_155 (by decide) ?_
  refine n_iload_n hX dX10_init_134 rfl 0 rfl ?_
  refine n_iconst (v := 2) hX dX10_init_135 (by decide) ?_
  refine n_icge_t hX 158 dX10_init_136 (by decide) (by decide) ?_
  obtain ⟨U, hU⟩ : ∃ U : Nat → Nat, U = (fun k => if k < 1 then h else if k < 15 then u2 (k - 1) else if k < 16 then q3 else if k < 30 then u20 (k - 16) else if k < 44 then u22 (k - 30) else if k < 45 then q4 else if k < 49 then u6 (k - 45) else if k < 63 then u8 (k - 49) else if k < 68 then u10 (k - 63) else if k < 72 then u12 (k - 68) else if k < 80 then u14 (k - 72) else if k < 81 then u16 (k - 80) else if k < 112 then u18 (k - 81) else 0) := ⟨_, rfl⟩
  have s0 : countyW cy (fun j => U (1 + j)) = countyW cy u2 := by rw [hU]; rfl
  have s3 : scrollW cy (fun j => U (45 + j)) = scrollW cy u6 := by rw [hU]; rfl
  have s4 : countyW cy (fun j => U (49 + j)) = countyW cy u8 := by rw [hU]; rfl
  have s5 : herdW cy (fun j => U (63 + j)) = herdW cy u10 := by rw [hU]; rfl
  have s6 : weatherW cy (fun j => U (68 + j)) = weatherW cy u12 := by rw [hU]; rfl
  have s7 : movesW cy (fun j => U (72 + j)) = movesW cy u14 := by rw [hU]; rfl
  have s8 : gameW cy (fun j => U (80 + j)) = gameW cy u16 := by rw [hU]; rfl
  have s9 : fitW cy (fun j => U (81 + j)) = fitW cy u18 := by rw [hU]; rfl
  have s10 : countyW cy (fun j => U (16 + j)) = countyW cy u20 := by rw [hU]; rfl
  have s11 : countyW cy (fun j => U (30 + j)) = countyW cy u22 := by rw [hU]; rfl
  have a0 : U 0 = h := by rw [hU]; rfl
  have a1 : U 1 = u2 0 := by rw [hU]; rfl
  have a2 : U 15 = q3 := by rw [hU]; rfl
  have a3 : U 44 = q4 := by rw [hU]; rfl
  have a4 : U 45 = u6 0 := by rw [hU]; rfl
  have a5 : U 49 = u8 0 := by rw [hU]; rfl
  have a6 : U 63 = u10 0 := by rw [hU]; rfl
  have a7 : U 68 = u12 0 := by rw [hU]; rfl
  have a8 : U 72 = u14 0 := by rw [hU]; rfl
  have a9 : U 80 = u16 0 := by rw [hU]; rfl
  have a10 : U 81 = u18 0 := by rw [hU]; rfl
  have a11 : U 16 = u20 0 := by rw [hU]; rfl
  have a12 : U 30 = u22 0 := by rw [hU]; rfl
  exact hR _ _ _ dX10_init_158 ⟨U, a0, by unfold dtW; rw [s0, s3, s4, s5, s6, s7, s8, s9, s10, s11, a0, a1, a2, a3, a4, a5, a6, a7, a8, a9, a10, a11, a12]⟩
