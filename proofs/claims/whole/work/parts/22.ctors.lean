theorem kwI : Cond.arrayClass .int ∈ TB := tb 85 (by decide +kernel) (by decide)
theorem kwC : Cond.arrayClass .char ∈ TB := tb 192 (by decide +kernel) (by decide)
theorem kwZ : Cond.arrayClass .boolean ∈ TB := tb 191 (by decide +kernel) (by decide)
theorem kwL : Cond.arrayClass .long ∈ TB := tb 219 (by decide +kernel) (by decide)
theorem dX3_init_0 : decode cX3_init 0 = .ok (.aload_n 0, 1) := by decide +kernel
theorem dX3_init_1 : decode cX3_init 1 = .ok (.invokespecial 3, 3) := by decide +kernel
theorem dX3_init_4 : decode cX3_init 4 = .ok (.aload_n 0, 1) := by decide +kernel
theorem dX3_init_5 : decode cX3_init 5 = .ok (.iconst 3, 1) := by decide +kernel
theorem dX3_init_6 : decode cX3_init 6 = .ok (.putfield 9, 3) := by decide +kernel
theorem dX3_init_9 : decode cX3_init 9 = .ok (.aload_n 0, 1) := by decide +kernel
theorem dX3_init_10 : decode cX3_init 10 = .ok (.iconst 0, 1) := by decide +kernel
theorem dX3_init_11 : decode cX3_init 11 = .ok (.putfield 15, 3) := by decide +kernel
theorem dX3_init_14 : decode cX3_init 14 = .ok (.aload_n 0, 1) := by decide +kernel
theorem dX3_init_15 : decode cX3_init 15 = .ok (.iconst 0, 1) := by decide +kernel
theorem dX3_init_16 : decode cX3_init 16 = .ok (.putfield 18, 3) := by decide +kernel
theorem dX3_init_19 : decode cX3_init 19 = .ok (.aload_n 0, 1) := by decide +kernel
theorem dX3_init_20 : decode cX3_init 20 = .ok (.iconst 0, 1) := by decide +kernel
theorem dX3_init_21 : decode cX3_init 21 = .ok (.putfield 21, 3) := by decide +kernel
theorem dX3_init_24 : decode cX3_init 24 = .ok (.aload_n 0, 1) := by decide +kernel
theorem dX3_init_25 : decode cX3_init 25 = .ok (.bipush 10, 2) := by decide +kernel
theorem dX3_init_27 : decode cX3_init 27 = .ok (.newarray .int, 2) := by decide +kernel
theorem dX3_init_29 : decode cX3_init 29 = .ok (.putfield 24, 3) := by decide +kernel
theorem dX3_init_32 : decode cX3_init 32 = .ok (.aload_n 0, 1) := by decide +kernel
theorem dX3_init_33 : decode cX3_init 33 = .ok (.bipush 10, 2) := by decide +kernel
theorem dX3_init_35 : decode cX3_init 35 = .ok (.newarray .int, 2) := by decide +kernel
theorem dX3_init_37 : decode cX3_init 37 = .ok (.putfield 28, 3) := by decide +kernel
theorem dX3_init_40 : decode cX3_init 40 = .ok (.aload_n 0, 1) := by decide +kernel
theorem dX3_init_41 : decode cX3_init 41 = .ok (.bipush 10, 2) := by decide +kernel
theorem dX3_init_43 : decode cX3_init 43 = .ok (.newarray .int, 2) := by decide +kernel
theorem dX3_init_45 : decode cX3_init 45 = .ok (.putfield 31, 3) := by decide +kernel
theorem dX3_init_48 : decode cX3_init 48 = .ok (.aload_n 0, 1) := by decide +kernel
theorem dX3_init_49 : decode cX3_init 49 = .ok (.iconst 5, 1) := by decide +kernel
theorem dX3_init_50 : decode cX3_init 50 = .ok (.newarray .int, 2) := by decide +kernel
theorem dX3_init_52 : decode cX3_init 52 = .ok (.putfield 34, 3) := by decide +kernel
theorem dX3_init_55 : decode cX3_init 55 = .ok (.return_, 1) := by decide +kernel
def herdW (cy : Nat → ClassId) (u : Nat → Nat) : va_W := (u 0, .inr (3, [.int 3, .int 0, .int 0, .int 0, .ref (u 1), .ref (u 2), .ref (u 3), .ref (u 4)])) :: ([((u 1), .inl (cy 11, 10, .inl (fun _ => 0)))] ++ [((u 2), .inl (cy 11, 10, .inl (fun _ => 0)))] ++ [((u 3), .inl (cy 11, 10, .inl (fun _ => 0)))] ++ [((u 4), .inl (cy 11, 5, .inl (fun _ => 0)))])
set_option maxHeartbeats 16000000 in
set_option maxRecDepth 100000 in
theorem cc_X3_init {l : Launch} {cy : Nat → ClassId} {D : va_G} : CC l cy D yX3_init cX3_init 1 1 4 35 (.inr (3, [(.int 0), (.int 0), (.int 0), (.int 0), .null, .null, .null, .null])) (herdW cy) := by
  refine mk_c (by decide) rfl (by decide) ?_
  intro h A N hX hR
  have hX : CN l cy D A N cX3_init RX3 1 1 4 35 True := hX
  refine n_aload_n hX dX3_init_0 rfl 0 rfl ?_
  refine n_obj hX cvX3_3 (by decide) (Nat.le_of_ble_eq_true rfl) dX3_init_1 ?_
  refine n_aload_n hX dX3_init_4 rfl 0 rfl ?_
  refine n_iconst (v := 3) hX dX3_init_5 (by decide) ?_
  refine n_put (ws' := [(h, .inr (3, [.int 3, .int 0, .int 0, .int 0, .null, .null, .null, .null]))]) hX 0 flX3_9 rfl ⟨rfl, rfl⟩ (Nat.le_of_ble_eq_true rfl) rfl dX3_init_6 ?_
  refine n_aload_n hX dX3_init_9 rfl 0 rfl ?_
  refine n_iconst (v := 0) hX dX3_init_10 (by decide) ?_
  refine n_put (ws' := [(h, .inr (3, [.int 3, .int 0, .int 0, .int 0, .null, .null, .null, .null]))]) hX 0 flX3_15 rfl ⟨rfl, rfl⟩ (Nat.le_of_ble_eq_true rfl) rfl dX3_init_11 ?_
  refine n_aload_n hX dX3_init_14 rfl 0 rfl ?_
  refine n_iconst (v := 0) hX dX3_init_15 (by decide) ?_
  refine n_put (ws' := [(h, .inr (3, [.int 3, .int 0, .int 0, .int 0, .null, .null, .null, .null]))]) hX 0 flX3_18 rfl ⟨rfl, rfl⟩ (Nat.le_of_ble_eq_true rfl) rfl dX3_init_16 ?_
  refine n_aload_n hX dX3_init_19 rfl 0 rfl ?_
  refine n_iconst (v := 0) hX dX3_init_20 (by decide) ?_
  refine n_put (ws' := [(h, .inr (3, [.int 3, .int 0, .int 0, .int 0, .null, .null, .null, .null]))]) hX 0 flX3_21 rfl ⟨rfl, rfl⟩ (Nat.le_of_ble_eq_true rfl) rfl dX3_init_21 ?_
  refine n_aload_n hX dX3_init_24 rfl 0 rfl ?_
  refine n_bipush (v := 10) hX dX3_init_25 (by decide) ?_
  refine n_newI (M := 10) hX kwI (by decide) (by decide) (by decide) (by decide) (by decide) dX3_init_27 (fun q1 => ?_)
  refine n_putF (ws' := (h, .inr (3, [.int 3, .int 0, .int 0, .int 0, .ref q1, .null, .null, .null])) :: ([(q1, .inl (cy 11, 10, .inl (fun _ => 0)))])) hX 0 trivial flX3_24 (fun C T NN h => by cases h; rfl) rfl ⟨rfl, rfl⟩ (Nat.le_of_ble_eq_true rfl) rfl dX3_init_29 ?_
  refine n_aload_n hX dX3_init_32 rfl 0 rfl ?_
  refine n_bipush (v := 10) hX dX3_init_33 (by decide) ?_
  refine n_newI (M := 10) hX kwI (by decide) (by decide) (by decide) (by decide) (by decide) dX3_init_35 (fun q2 => ?_)
  refine n_putF (ws' := (h, .inr (3, [.int 3, .int 0, .int 0, .int 0, .ref q1, .ref q2, .null, .null])) :: ([(q1, .inl (cy 11, 10, .inl (fun _ => 0)))] ++ [(q2, .inl (cy 11, 10, .inl (fun _ => 0)))])) hX 0 trivial flX3_28 (fun C T NN h => by cases h; rfl) rfl ⟨rfl, rfl⟩ (Nat.le_of_ble_eq_true rfl) rfl dX3_init_37 ?_
  refine n_aload_n hX dX3_init_40 rfl 0 rfl ?_
  refine n_bipush (v := 10) hX dX3_init_41 (by decide) ?_
  refine n_newI (M := 10) hX kwI (by decide) (by decide) (by decide) (by decide) (by decide) dX3_init_43 (fun q3 => ?_)
  refine n_putF (ws' := (h, .inr (3, [.int 3, .int 0, .int 0, .int 0, .ref q1, .ref q2, .ref q3, .null])) :: ([(q1, .inl (cy 11, 10, .inl (fun _ => 0)))] ++ [(q2, .inl (cy 11, 10, .inl (fun _ => 0)))] ++ [(q3, .inl (cy 11, 10, .inl (fun _ => 0)))])) hX 0 trivial flX3_31 (fun C T NN h => by cases h; rfl) rfl ⟨rfl, rfl⟩ (Nat.le_of_ble_eq_true rfl) rfl dX3_init_45 ?_
  refine n_aload_n hX dX3_init_48 rfl 0 rfl ?_
  refine n_iconst (v := 5) hX dX3_init_49 (by decide) ?_
  refine n_newI (M := 5) hX kwI (by decide) (by decide) (by decide) (by decide) (by decide) dX3_init_50 (fun q4 => ?_)
  refine n_putF (ws' := (h, .inr (3, [.int 3, .int 0, .int 0, .int 0, .ref q1, .ref q2, .ref q3, .ref q4])) :: ([(q1, .inl (cy 11, 10, .inl (fun _ => 0)))] ++ [(q2, .inl (cy 11, 10, .inl (fun _ => 0)))] ++ [(q3, .inl (cy 11, 10, .inl (fun _ => 0)))] ++ [(q4, .inl (cy 11, 5, .inl (fun _ => 0)))])) hX 0 trivial flX3_34 (fun C T NN h => by cases h; rfl) rfl ⟨rfl, rfl⟩ (Nat.le_of_ble_eq_true rfl) rfl dX3_init_52 ?_
  exact hR _ _ _ dX3_init_55 ⟨fun k => if k < 1 then h else if k < 2 then q1 else if k < 3 then q2 else if k < 4 then q3 else if k < 5 then q4 else 0, rfl, rfl⟩
theorem dX7_init_0 : decode cX7_init 0 = .ok (.aload_n 0, 1) := by decide +kernel
theorem dX7_init_1 : decode cX7_init 1 = .ok (.invokespecial 3, 3) := by decide +kernel
theorem dX7_init_4 : decode cX7_init 4 = .ok (.aload_n 0, 1) := by decide +kernel
theorem dX7_init_5 : decode cX7_init 5 = .ok (.iconst 0, 1) := by decide +kernel
theorem dX7_init_6 : decode cX7_init 6 = .ok (.putfield 9, 3) := by decide +kernel
theorem dX7_init_9 : decode cX7_init 9 = .ok (.aload_n 0, 1) := by decide +kernel
theorem dX7_init_10 : decode cX7_init 10 = .ok (.bipush 10, 2) := by decide +kernel
theorem dX7_init_12 : decode cX7_init 12 = .ok (.newarray .int, 2) := by decide +kernel
theorem dX7_init_14 : decode cX7_init 14 = .ok (.putfield 15, 3) := by decide +kernel
theorem dX7_init_17 : decode cX7_init 17 = .ok (.aload_n 0, 1) := by decide +kernel
theorem dX7_init_18 : decode cX7_init 18 = .ok (.bipush 10, 2) := by decide +kernel
theorem dX7_init_20 : decode cX7_init 20 = .ok (.newarray .int, 2) := by decide +kernel
theorem dX7_init_22 : decode cX7_init 22 = .ok (.putfield 19, 3) := by decide +kernel
theorem dX7_init_25 : decode cX7_init 25 = .ok (.aload_n 0, 1) := by decide +kernel
theorem dX7_init_26 : decode cX7_init 26 = .ok (.iconst 0, 1) := by decide +kernel
theorem dX7_init_27 : decode cX7_init 27 = .ok (.putfield 22, 3) := by decide +kernel
theorem dX7_init_30 : decode cX7_init 30 = .ok (.return_, 1) := by decide +kernel
def roadsW (cy : Nat → ClassId) (u : Nat → Nat) : va_W := (u 0, .inr (6, [.int 0, .ref (u 1), .ref (u 2), .int 0])) :: ([((u 1), .inl (cy 11, 10, .inl (fun _ => 0)))] ++ [((u 2), .inl (cy 11, 10, .inl (fun _ => 0)))])
set_option maxHeartbeats 16000000 in
set_option maxRecDepth 100000 in
theorem cc_X7_init {l : Launch} {cy : Nat → ClassId} {D : va_G} : CC l cy D yX7_init cX7_init 1 1 2 20 (.inr (6, [(.int 0), .null, .null, (.int 0)])) (roadsW cy) := by
  refine mk_c (by decide) rfl (by decide) ?_
  intro h A N hX hR
  have hX : CN l cy D A N cX7_init RX7 1 1 2 20 True := hX
  refine n_aload_n hX dX7_init_0 rfl 0 rfl ?_
  refine n_obj hX cvX7_3 (by decide) (Nat.le_of_ble_eq_true rfl) dX7_init_1 ?_
  refine n_aload_n hX dX7_init_4 rfl 0 rfl ?_
  refine n_iconst (v := 0) hX dX7_init_5 (by decide) ?_
  refine n_put (ws' := [(h, .inr (6, [.int 0, .null, .null, .int 0]))]) hX 0 flX7_9 rfl ⟨rfl, rfl⟩ (Nat.le_of_ble_eq_true rfl) rfl dX7_init_6 ?_
  refine n_aload_n hX dX7_init_9 rfl 0 rfl ?_
  refine n_bipush (v := 10) hX dX7_init_10 (by decide) ?_
  refine n_newI (M := 10) hX kwI (by decide) (by decide) (by decide) (by decide) (by decide) dX7_init_12 (fun q1 => ?_)
  refine n_putF (ws' := (h, .inr (6, [.int 0, .ref q1, .null, .int 0])) :: ([(q1, .inl (cy 11, 10, .inl (fun _ => 0)))])) hX 0 trivial flX7_15 (fun C T NN h => by cases h; rfl) rfl ⟨rfl, rfl⟩ (Nat.le_of_ble_eq_true rfl) rfl dX7_init_14 ?_
  refine n_aload_n hX dX7_init_17 rfl 0 rfl ?_
  refine n_bipush (v := 10) hX dX7_init_18 (by decide) ?_
  refine n_newI (M := 10) hX kwI (by decide) (by decide) (by decide) (by decide) (by decide) dX7_init_20 (fun q2 => ?_)
  refine n_putF (ws' := (h, .inr (6, [.int 0, .ref q1, .ref q2, .int 0])) :: ([(q1, .inl (cy 11, 10, .inl (fun _ => 0)))] ++ [(q2, .inl (cy 11, 10, .inl (fun _ => 0)))])) hX 0 trivial flX7_19 (fun C T NN h => by cases h; rfl) rfl ⟨rfl, rfl⟩ (Nat.le_of_ble_eq_true rfl) rfl dX7_init_22 ?_
  refine n_aload_n hX dX7_init_25 rfl 0 rfl ?_
  refine n_iconst (v := 0) hX dX7_init_26 (by decide) ?_
  refine n_put (ws' := (h, .inr (6, [.int 0, .ref q1, .ref q2, .int 0])) :: ([(q1, .inl (cy 11, 10, .inl (fun _ => 0)))] ++ [(q2, .inl (cy 11, 10, .inl (fun _ => 0)))])) hX 0 flX7_22 rfl ⟨rfl, rfl⟩ (Nat.le_of_ble_eq_true rfl) rfl dX7_init_27 ?_
  exact hR _ _ _ dX7_init_30 ⟨fun k => if k < 1 then h else if k < 2 then q1 else if k < 3 then q2 else 0, rfl, rfl⟩
theorem dX6_init_0 : decode cX6_init 0 = .ok (.aload_n 0, 1) := by decide +kernel
theorem dX6_init_1 : decode cX6_init 1 = .ok (.invokespecial 3, 3) := by decide +kernel
theorem dX6_init_4 : decode cX6_init 4 = .ok (.aload_n 0, 1) := by decide +kernel
theorem dX6_init_5 : decode cX6_init 5 = .ok (.iconst 0, 1) := by decide +kernel
theorem dX6_init_6 : decode cX6_init 6 = .ok (.putfield 9, 3) := by decide +kernel
theorem dX6_init_9 : decode cX6_init 9 = .ok (.aload_n 0, 1) := by decide +kernel
theorem dX6_init_10 : decode cX6_init 10 = .ok (.bipush 10, 2) := by decide +kernel
theorem dX6_init_12 : decode cX6_init 12 = .ok (.newarray .int, 2) := by decide +kernel
theorem dX6_init_14 : decode cX6_init 14 = .ok (.putfield 15, 3) := by decide +kernel
theorem dX6_init_17 : decode cX6_init 17 = .ok (.aload_n 0, 1) := by decide +kernel
theorem dX6_init_18 : decode cX6_init 18 = .ok (.bipush 100, 2) := by decide +kernel
theorem dX6_init_20 : decode cX6_init 20 = .ok (.newarray .int, 2) := by decide +kernel
theorem dX6_init_22 : decode cX6_init 22 = .ok (.putfield 19, 3) := by decide +kernel
theorem dX6_init_25 : decode cX6_init 25 = .ok (.return_, 1) := by decide +kernel
def pastW (cy : Nat → ClassId) (u : Nat → Nat) : va_W := (u 0, .inr (5, [.int 0, .ref (u 1), .ref (u 2)])) :: ([((u 1), .inl (cy 11, 10, .inl (fun _ => 0)))] ++ [((u 2), .inl (cy 11, 100, .inl (fun _ => 0)))])
set_option maxHeartbeats 16000000 in
set_option maxRecDepth 100000 in
theorem cc_X6_init {l : Launch} {cy : Nat → ClassId} {D : va_G} : CC l cy D yX6_init cX6_init 1 1 2 110 (.inr (5, [(.int 0), .null, .null])) (pastW cy) := by
  refine mk_c (by decide) rfl (by decide) ?_
  intro h A N hX hR
  have hX : CN l cy D A N cX6_init RX6 1 1 2 110 True := hX
  refine n_aload_n hX dX6_init_0 rfl 0 rfl ?_
  refine n_obj hX cvX6_3 (by decide) (Nat.le_of_ble_eq_true rfl) dX6_init_1 ?_
  refine n_aload_n hX dX6_init_4 rfl 0 rfl ?_
  refine n_iconst (v := 0) hX dX6_init_5 (by decide) ?_
  refine n_put (ws' := [(h, .inr (5, [.int 0, .null, .null]))]) hX 0 flX6_9 rfl ⟨rfl, rfl⟩ (Nat.le_of_ble_eq_true rfl) rfl dX6_init_6 ?_
  refine n_aload_n hX dX6_init_9 rfl 0 rfl ?_
  refine n_bipush (v := 10) hX dX6_init_10 (by decide) ?_
  refine n_newI (M := 10) hX kwI (by decide) (by decide) (by decide) (by decide) (by decide) dX6_init_12 (fun q1 => ?_)
  refine n_putF (ws' := (h, .inr (5, [.int 0, .ref q1, .null])) :: ([(q1, .inl (cy 11, 10, .inl (fun _ => 0)))])) hX 0 trivial flX6_15 (fun C T NN h => by cases h; rfl) rfl ⟨rfl, rfl⟩ (Nat.le_of_ble_eq_true rfl) rfl dX6_init_14 ?_
  refine n_aload_n hX dX6_init_17 rfl 0 rfl ?_
  refine n_bipush (v := 100) hX dX6_init_18 (by decide) ?_
  refine n_newI (M := 100) hX kwI (by decide) (by decide) (by decide) (by decide) (by decide) dX6_init_20 (fun q2 => ?_)
  refine n_putF (ws' := (h, .inr (5, [.int 0, .ref q1, .ref q2])) :: ([(q1, .inl (cy 11, 10, .inl (fun _ => 0)))] ++ [(q2, .inl (cy 11, 100, .inl (fun _ => 0)))])) hX 0 trivial flX6_19 (fun C T NN h => by cases h; rfl) rfl ⟨rfl, rfl⟩ (Nat.le_of_ble_eq_true rfl) rfl dX6_init_22 ?_
  exact hR _ _ _ dX6_init_25 ⟨fun k => if k < 1 then h else if k < 2 then q1 else if k < 3 then q2 else 0, rfl, rfl⟩
theorem kclX0_9 : Cond.classLink RX0 9 RX3 ∈ TB := tb 34 (by decide +kernel) (by decide)
theorem kinX3 : Cond.instantiable RX3 8 ∈ TB := tb 35 (by decide +kernel) (by decide)
theorem kiiX3 : Cond.initialized RX3 ∈ TB := tb 3 (by decide +kernel) (by decide)
theorem kimX3 : Cond.instanceMethod yX3_init ∈ TB := tb 37 (by decide +kernel) (by decide)
theorem kclX0_18 : Cond.classLink RX0 18 RX7 ∈ TB := tb 86 (by decide +kernel) (by decide)
theorem kinX7 : Cond.instantiable RX7 4 ∈ TB := tb 87 (by decide +kernel) (by decide)
theorem kiiX7 : Cond.initialized RX7 ∈ TB := tb 4 (by decide +kernel) (by decide)
theorem kimX7 : Cond.instanceMethod yX7_init ∈ TB := tb 89 (by decide +kernel) (by decide)
theorem kclX0_25 : Cond.classLink RX0 25 RX6 ∈ TB := tb 111 (by decide +kernel) (by decide)
theorem kinX6 : Cond.instantiable RX6 3 ∈ TB := tb 112 (by decide +kernel) (by decide)
theorem kiiX6 : Cond.initialized RX6 ∈ TB := tb 5 (by decide +kernel) (by decide)
theorem kimX6 : Cond.instanceMethod yX6_init ∈ TB := tb 114 (by decide +kernel) (by decide)
theorem dX0_init_0 : decode cX0_init 0 = .ok (.aload_n 0, 1) := by decide +kernel
theorem dX0_init_1 : decode cX0_init 1 = .ok (.invokespecial 3, 3) := by decide +kernel
theorem dX0_init_4 : decode cX0_init 4 = .ok (.aload_n 0, 1) := by decide +kernel
theorem dX0_init_5 : decode cX0_init 5 = .ok (.new 9, 3) := by decide +kernel
theorem dX0_init_8 : decode cX0_init 8 = .ok (.dup, 1) := by decide +kernel
theorem dX0_init_9 : decode cX0_init 9 = .ok (.invokespecial 11, 3) := by decide +kernel
theorem dX0_init_12 : decode cX0_init 12 = .ok (.putfield 12, 3) := by decide +kernel
theorem dX0_init_15 : decode cX0_init 15 = .ok (.aload_n 0, 1) := by decide +kernel
theorem dX0_init_16 : decode cX0_init 16 = .ok (.new 18, 3) := by decide +kernel
theorem dX0_init_19 : decode cX0_init 19 = .ok (.dup, 1) := by decide +kernel
theorem dX0_init_20 : decode cX0_init 20 = .ok (.invokespecial 20, 3) := by decide +kernel
theorem dX0_init_23 : decode cX0_init 23 = .ok (.putfield 21, 3) := by decide +kernel
theorem dX0_init_26 : decode cX0_init 26 = .ok (.aload_n 0, 1) := by decide +kernel
theorem dX0_init_27 : decode cX0_init 27 = .ok (.new 25, 3) := by decide +kernel
theorem dX0_init_30 : decode cX0_init 30 = .ok (.dup, 1) := by decide +kernel
theorem dX0_init_31 : decode cX0_init 31 = .ok (.invokespecial 27, 3) := by decide +kernel
theorem dX0_init_34 : decode cX0_init 34 = .ok (.putfield 28, 3) := by decide +kernel
theorem dX0_init_37 : decode cX0_init 37 = .ok (.aload_n 0, 1) := by decide +kernel
theorem dX0_init_38 : decode cX0_init 38 = .ok (.iconst 5, 1) := by decide +kernel
theorem dX0_init_39 : decode cX0_init 39 = .ok (.newarray .int, 2) := by decide +kernel
theorem dX0_init_41 : decode cX0_init 41 = .ok (.putfield 32, 3) := by decide +kernel
theorem dX0_init_44 : decode cX0_init 44 = .ok (.aload_n 0, 1) := by decide +kernel
theorem dX0_init_45 : decode cX0_init 45 = .ok (.iconst 3, 1) := by decide +kernel
theorem dX0_init_46 : decode cX0_init 46 = .ok (.newarray .int, 2) := by decide +kernel
theorem dX0_init_48 : decode cX0_init 48 = .ok (.putfield 36, 3) := by decide +kernel
theorem dX0_init_51 : decode cX0_init 51 = .ok (.return_, 1) := by decide +kernel
def countyW (cy : Nat → ClassId) (u : Nat → Nat) : va_W := (u 0, .inr (0, [.ref (u 1), .ref (u 6), .ref (u 9), .ref (u 12), .ref (u 13)])) :: (herdW cy (fun j => u (1 + j)) ++ roadsW cy (fun j => u (6 + j)) ++ pastW cy (fun j => u (9 + j)) ++ [((u 12), .inl (cy 11, 5, .inl (fun _ => 0)))] ++ [((u 13), .inl (cy 11, 3, .inl (fun _ => 0)))])
set_option maxHeartbeats 16000000 in
set_option maxRecDepth 100000 in
theorem cc_X0_init {l : Launch} {cy : Nat → ClassId} {D : va_G} : CC l cy D yX0_init cX0_init 1 2 13 188 (.inr (0, [.null, .null, .null, .null, .null])) (countyW cy) := by
  refine mk_c (by decide) rfl (by decide) ?_
  intro h A N hX hR
  have hX : CN l cy D A N cX0_init RX0 1 2 13 188 True := hX
  refine n_aload_n hX dX0_init_0 rfl 0 rfl ?_
  refine n_obj hX cvX0_3 (by decide) (Nat.le_of_ble_eq_true rfl) dX0_init_1 ?_
  refine n_aload_n hX dX0_init_4 rfl 0 rfl ?_
  refine n_new (fs := [(.int 0), (.int 0), (.int 0), (.int 0), .null, .null, .null, .null]) hX ck3 (fun j hj => match j, hj with | 0, _ => rfl | 1, _ => rfl | 2, _ => rfl | 3, _ => rfl | 4, _ => rfl | 5, _ => rfl | 6, _ => rfl | 7, _ => rfl | j + 8, h => absurd h (by omega)) kclX0_9 kinX3 kiiX3 (by decide) (by decide) dX0_init_5 (fun q1 => ?_)
  refine n_dup hX dX0_init_8 rfl ?_
  refine n_ctorN (host := "DragonTithe") hX cc_X3_init mkX3_init ⟨rfl, kimX3⟩ (by decide) ⟨by decide, by decide, Nat.le_of_ble_eq_true rfl⟩ (by decide) (by decide) dX0_init_9 (fun u2 hu2 => ?_)
  subst hu2
  refine n_putF (ws' := (h, .inr (0, [.ref (u2 0), .null, .null, .null, .null])) :: (herdW cy u2)) hX 0 trivial flX0_12 (fun C T NN h => by cases h; rfl) rfl ⟨rfl, rfl⟩ (Nat.le_of_ble_eq_true rfl) rfl dX0_init_12 ?_
  refine n_aload_n hX dX0_init_15 rfl 0 rfl ?_
  refine n_new (fs := [(.int 0), .null, .null, (.int 0)]) hX ck6 (fun j hj => match j, hj with | 0, _ => rfl | 1, _ => rfl | 2, _ => rfl | 3, _ => rfl | j + 4, h => absurd h (by omega)) kclX0_18 kinX7 kiiX7 (by decide) (by decide) dX0_init_16 (fun q3 => ?_)
  refine n_dup hX dX0_init_19 rfl ?_
  refine n_ctorN (host := "DragonTithe") hX cc_X7_init mkX7_init ⟨rfl, kimX7⟩ (by decide) ⟨by decide, by decide, Nat.le_of_ble_eq_true rfl⟩ (by decide) (by decide) dX0_init_20 (fun u4 hu4 => ?_)
  subst hu4
  refine n_putF (ws' := (h, .inr (0, [.ref (u2 0), .ref (u4 0), .null, .null, .null])) :: (herdW cy u2 ++ roadsW cy u4)) hX 0 trivial flX0_21 (fun C T NN h => by cases h; rfl) rfl ⟨rfl, rfl⟩ (Nat.le_of_ble_eq_true rfl) rfl dX0_init_23 ?_
  refine n_aload_n hX dX0_init_26 rfl 0 rfl ?_
  refine n_new (fs := [(.int 0), .null, .null]) hX ck5 (fun j hj => match j, hj with | 0, _ => rfl | 1, _ => rfl | 2, _ => rfl | j + 3, h => absurd h (by omega)) kclX0_25 kinX6 kiiX6 (by decide) (by decide) dX0_init_27 (fun q5 => ?_)
  refine n_dup hX dX0_init_30 rfl ?_
  refine n_ctorN (host := "DragonTithe") hX cc_X6_init mkX6_init ⟨rfl, kimX6⟩ (by decide) ⟨by decide, by decide, Nat.le_of_ble_eq_true rfl⟩ (by decide) (by decide) dX0_init_31 (fun u6 hu6 => ?_)
  subst hu6
  refine n_putF (ws' := (h, .inr (0, [.ref (u2 0), .ref (u4 0), .ref (u6 0), .null, .null])) :: (herdW cy u2 ++ roadsW cy u4 ++ pastW cy u6)) hX 0 trivial flX0_28 (fun C T NN h => by cases h; rfl) rfl ⟨rfl, rfl⟩ (Nat.le_of_ble_eq_true rfl) rfl dX0_init_34 ?_
  refine n_aload_n hX dX0_init_37 rfl 0 rfl ?_
  refine n_iconst (v := 5) hX dX0_init_38 (by decide) ?_
  refine n_newI (M := 5) hX kwI (by decide) (by decide) (by decide) (by decide) (by decide) dX0_init_39 (fun q7 => ?_)
  refine n_putF (ws' := (h, .inr (0, [.ref (u2 0), .ref (u4 0), .ref (u6 0), .ref q7, .null])) :: (herdW cy u2 ++ roadsW cy u4 ++ pastW cy u6 ++ [(q7, .inl (cy 11, 5, .inl (fun _ => 0)))])) hX 0 trivial flX0_32 (fun C T NN h => by cases h; rfl) rfl ⟨rfl, rfl⟩ (Nat.le_of_ble_eq_true rfl) rfl dX0_init_41 ?_
  refine n_aload_n hX dX0_init_44 rfl 0 rfl ?_
  refine n_iconst (v := 3) hX dX0_init_45 (by decide) ?_
  refine n_newI (M := 3) hX kwI (by decide) (by decide) (by decide) (by decide) (by decide) dX0_init_46 (fun q8 => ?_)
  refine n_putF (ws' := (h, .inr (0, [.ref (u2 0), .ref (u4 0), .ref (u6 0), .ref q7, .ref q8])) :: (herdW cy u2 ++ roadsW cy u4 ++ pastW cy u6 ++ [(q7, .inl (cy 11, 5, .inl (fun _ => 0)))] ++ [(q8, .inl (cy 11, 3, .inl (fun _ => 0)))])) hX 0 trivial flX0_36 (fun C T NN h => by cases h; rfl) rfl ⟨rfl, rfl⟩ (Nat.le_of_ble_eq_true rfl) rfl dX0_init_48 ?_
  exact hR _ _ _ dX0_init_51 ⟨fun k => if k < 1 then h else if k < 6 then u2 (k - 1) else if k < 9 then u4 (k - 6) else if k < 12 then u6 (k - 9) else if k < 13 then q7 else if k < 14 then q8 else 0, rfl, rfl⟩
theorem dX8_init_0 : decode cX8_init 0 = .ok (.aload_n 0, 1) := by decide +kernel
theorem dX8_init_1 : decode cX8_init 1 = .ok (.invokespecial 3, 3) := by decide +kernel
theorem dX8_init_4 : decode cX8_init 4 = .ok (.aload_n 0, 1) := by decide +kernel
theorem dX8_init_5 : decode cX8_init 5 = .ok (.sipush 150, 3) := by decide +kernel
theorem dX8_init_8 : decode cX8_init 8 = .ok (.newarray .char, 2) := by decide +kernel
theorem dX8_init_10 : decode cX8_init 10 = .ok (.putfield 9, 3) := by decide +kernel
theorem dX8_init_13 : decode cX8_init 13 = .ok (.aload_n 0, 1) := by decide +kernel
theorem dX8_init_14 : decode cX8_init 14 = .ok (.iconst 0, 1) := by decide +kernel
theorem dX8_init_15 : decode cX8_init 15 = .ok (.putfield 15, 3) := by decide +kernel
theorem dX8_init_18 : decode cX8_init 18 = .ok (.aload_n 0, 1) := by decide +kernel
theorem dX8_init_19 : decode cX8_init 19 = .ok (.iconst 0, 1) := by decide +kernel
theorem dX8_init_20 : decode cX8_init 20 = .ok (.putfield 19, 3) := by decide +kernel
theorem dX8_init_23 : decode cX8_init 23 = .ok (.aload_n 0, 1) := by decide +kernel
theorem dX8_init_24 : decode cX8_init 24 = .ok (.bipush 30, 2) := by decide +kernel
theorem dX8_init_26 : decode cX8_init 26 = .ok (.newarray .int, 2) := by decide +kernel
theorem dX8_init_28 : decode cX8_init 28 = .ok (.putfield 22, 3) := by decide +kernel
theorem dX8_init_31 : decode cX8_init 31 = .ok (.aload_n 0, 1) := by decide +kernel
theorem dX8_init_32 : decode cX8_init 32 = .ok (.bipush 90, 2) := by decide +kernel
theorem dX8_init_34 : decode cX8_init 34 = .ok (.newarray .int, 2) := by decide +kernel
theorem dX8_init_36 : decode cX8_init 36 = .ok (.putfield 26, 3) := by decide +kernel
theorem dX8_init_39 : decode cX8_init 39 = .ok (.aload_n 0, 1) := by decide +kernel
theorem dX8_init_40 : decode cX8_init 40 = .ok (.iconst 0, 1) := by decide +kernel
theorem dX8_init_41 : decode cX8_init 41 = .ok (.putfield 29, 3) := by decide +kernel
theorem dX8_init_44 : decode cX8_init 44 = .ok (.aload_n 0, 1) := by decide +kernel
theorem dX8_init_45 : decode cX8_init 45 = .ok (.iconst 0, 1) := by decide +kernel
theorem dX8_init_46 : decode cX8_init 46 = .ok (.putfield 32, 3) := by decide +kernel
theorem dX8_init_49 : decode cX8_init 49 = .ok (.aload_n 0, 1) := by decide +kernel
theorem dX8_init_50 : decode cX8_init 50 = .ok (.iconst 0, 1) := by decide +kernel
theorem dX8_init_51 : decode cX8_init 51 = .ok (.putfield 35, 3) := by decide +kernel
theorem dX8_init_54 : decode cX8_init 54 = .ok (.aload_n 0, 1) := by decide +kernel
theorem dX8_init_55 : decode cX8_init 55 = .ok (.iconst 0, 1) := by decide +kernel
theorem dX8_init_56 : decode cX8_init 56 = .ok (.putfield 38, 3) := by decide +kernel
theorem dX8_init_59 : decode cX8_init 59 = .ok (.return_, 1) := by decide +kernel
def scrollW (cy : Nat → ClassId) (u : Nat → Nat) : va_W := (u 0, .inr (7, [.ref (u 1), .int 0, .int 0, .ref (u 2), .ref (u 3), .int 0, .int 0, .int 0, .int 0])) :: ([((u 1), .inl (cy 12, 150, .inl (fun _ => 0)))] ++ [((u 2), .inl (cy 11, 30, .inl (fun _ => 0)))] ++ [((u 3), .inl (cy 11, 90, .inl (fun _ => 0)))])
set_option maxHeartbeats 16000000 in
set_option maxRecDepth 100000 in
theorem cc_X8_init {l : Launch} {cy : Nat → ClassId} {D : va_G} : CC l cy D yX8_init cX8_init 1 1 3 270 (.inr (7, [.null, (.int 0), (.int 0), .null, .null, (.int 0), (.int 0), (.int 0), (.int 0)])) (scrollW cy) := by
  refine mk_c (by decide) rfl (by decide) ?_
  intro h A N hX hR
  have hX : CN l cy D A N cX8_init RX8 1 1 3 270 True := hX
  refine n_aload_n hX dX8_init_0 rfl 0 rfl ?_
  refine n_obj hX cvX8_3 (by decide) (Nat.le_of_ble_eq_true rfl) dX8_init_1 ?_
  refine n_aload_n hX dX8_init_4 rfl 0 rfl ?_
  refine n_sipush (v := 150) hX dX8_init_5 (by decide) ?_
  refine n_newC (M := 150) hX kwC (by decide) (by decide) (by decide) (by decide) (by decide) dX8_init_8 (fun q1 => ?_)
  refine n_putF (ws' := (h, .inr (7, [.ref q1, .int 0, .int 0, .null, .null, .int 0, .int 0, .int 0, .int 0])) :: ([(q1, .inl (cy 12, 150, .inl (fun _ => 0)))])) hX 0 trivial flX8_9 (fun C T NN h => by cases h; rfl) rfl ⟨rfl, rfl⟩ (Nat.le_of_ble_eq_true rfl) rfl dX8_init_10 ?_
  refine n_aload_n hX dX8_init_13 rfl 0 rfl ?_
  refine n_iconst (v := 0) hX dX8_init_14 (by decide) ?_
  refine n_put (ws' := (h, .inr (7, [.ref q1, .int 0, .int 0, .null, .null, .int 0, .int 0, .int 0, .int 0])) :: ([(q1, .inl (cy 12, 150, .inl (fun _ => 0)))])) hX 0 flX8_15 rfl ⟨rfl, rfl⟩ (Nat.le_of_ble_eq_true rfl) rfl dX8_init_15 ?_
  refine n_aload_n hX dX8_init_18 rfl 0 rfl ?_
  refine n_iconst (v := 0) hX dX8_init_19 (by decide) ?_
  refine n_put (ws' := (h, .inr (7, [.ref q1, .int 0, .int 0, .null, .null, .int 0, .int 0, .int 0, .int 0])) :: ([(q1, .inl (cy 12, 150, .inl (fun _ => 0)))])) hX 0 flX8_19 rfl ⟨rfl, rfl⟩ (Nat.le_of_ble_eq_true rfl) rfl dX8_init_20 ?_
  refine n_aload_n hX dX8_init_23 rfl 0 rfl ?_
  refine n_bipush (v := 30) hX dX8_init_24 (by decide) ?_
  refine n_newI (M := 30) hX kwI (by decide) (by decide) (by decide) (by decide) (by decide) dX8_init_26 (fun q2 => ?_)
  refine n_putF (ws' := (h, .inr (7, [.ref q1, .int 0, .int 0, .ref q2, .null, .int 0, .int 0, .int 0, .int 0])) :: ([(q1, .inl (cy 12, 150, .inl (fun _ => 0)))] ++ [(q2, .inl (cy 11, 30, .inl (fun _ => 0)))])) hX 0 trivial flX8_22 (fun C T NN h => by cases h; rfl) rfl ⟨rfl, rfl⟩ (Nat.le_of_ble_eq_true rfl) rfl dX8_init_28 ?_
  refine n_aload_n hX dX8_init_31 rfl 0 rfl ?_
  refine n_bipush (v := 90) hX dX8_init_32 (by decide) ?_
  refine n_newI (M := 90) hX kwI (by decide) (by decide) (by decide) (by decide) (by decide) dX8_init_34 (fun q3 => ?_)
  refine n_putF (ws' := (h, .inr (7, [.ref q1, .int 0, .int 0, .ref q2, .ref q3, .int 0, .int 0, .int 0, .int 0])) :: ([(q1, .inl (cy 12, 150, .inl (fun _ => 0)))] ++ [(q2, .inl (cy 11, 30, .inl (fun _ => 0)))] ++ [(q3, .inl (cy 11, 90, .inl (fun _ => 0)))])) hX 0 trivial flX8_26 (fun C T NN h => by cases h; rfl) rfl ⟨rfl, rfl⟩ (Nat.le_of_ble_eq_true rfl) rfl dX8_init_36 ?_
  refine n_aload_n hX dX8_init_39 rfl 0 rfl ?_
  refine n_iconst (v := 0) hX dX8_init_40 (by decide) ?_
  refine n_put (ws' := (h, .inr (7, [.ref q1, .int 0, .int 0, .ref q2, .ref q3, .int 0, .int 0, .int 0, .int 0])) :: ([(q1, .inl (cy 12, 150, .inl (fun _ => 0)))] ++ [(q2, .inl (cy 11, 30, .inl (fun _ => 0)))] ++ [(q3, .inl (cy 11, 90, .inl (fun _ => 0)))])) hX 0 flX8_29 rfl ⟨rfl, rfl⟩ (Nat.le_of_ble_eq_true rfl) rfl dX8_init_41 ?_
  refine n_aload_n hX dX8_init_44 rfl 0 rfl ?_
  refine n_iconst (v := 0) hX dX8_init_45 (by decide) ?_
  refine n_put (ws' := (h, .inr (7, [.ref q1, .int 0, .int 0, .ref q2, .ref q3, .int 0, .int 0, .int 0, .int 0])) :: ([(q1, .inl (cy 12, 150, .inl (fun _ => 0)))] ++ [(q2, .inl (cy 11, 30, .inl (fun _ => 0)))] ++ [(q3, .inl (cy 11, 90, .inl (fun _ => 0)))])) hX 0 flX8_32 rfl ⟨rfl, rfl⟩ (Nat.le_of_ble_eq_true rfl) rfl dX8_init_46 ?_
  refine n_aload_n hX dX8_init_49 rfl 0 rfl ?_
  refine n_iconst (v := 0) hX dX8_init_50 (by decide) ?_
  refine n_put (ws' := (h, .inr (7, [.ref q1, .int 0, .int 0, .ref q2, .ref q3, .int 0, .int 0, .int 0, .int 0])) :: ([(q1, .inl (cy 12, 150, .inl (fun _ => 0)))] ++ [(q2, .inl (cy 11, 30, .inl (fun _ => 0)))] ++ [(q3, .inl (cy 11, 90, .inl (fun _ => 0)))])) hX 0 flX8_35 rfl ⟨rfl, rfl⟩ (Nat.le_of_ble_eq_true rfl) rfl dX8_init_51 ?_
  refine n_aload_n hX dX8_init_54 rfl 0 rfl ?_
  refine n_iconst (v := 0) hX dX8_init_55 (by decide) ?_
  refine n_put (ws' := (h, .inr (7, [.ref q1, .int 0, .int 0, .ref q2, .ref q3, .int 0, .int 0, .int 0, .int 0])) :: ([(q1, .inl (cy 12, 150, .inl (fun _ => 0)))] ++ [(q2, .inl (cy 11, 30, .inl (fun _ => 0)))] ++ [(q3, .inl (cy 11, 90, .inl (fun _ => 0)))])) hX 0 flX8_38 rfl ⟨rfl, rfl⟩ (Nat.le_of_ble_eq_true rfl) rfl dX8_init_56 ?_
  exact hR _ _ _ dX8_init_59 ⟨fun k => if k < 1 then h else if k < 2 then q1 else if k < 3 then q2 else if k < 4 then q3 else 0, rfl, rfl⟩
theorem dX9_init_0 : decode cX9_init 0 = .ok (.aload_n 0, 1) := by decide +kernel
theorem dX9_init_1 : decode cX9_init 1 = .ok (.invokespecial 3, 3) := by decide +kernel
theorem dX9_init_4 : decode cX9_init 4 = .ok (.aload_n 0, 1) := by decide +kernel
theorem dX9_init_5 : decode cX9_init 5 = .ok (.iconst 5, 1) := by decide +kernel
theorem dX9_init_6 : decode cX9_init 6 = .ok (.newarray .int, 2) := by decide +kernel
theorem dX9_init_8 : decode cX9_init 8 = .ok (.putfield 9, 3) := by decide +kernel
theorem dX9_init_11 : decode cX9_init 11 = .ok (.aload_n 0, 1) := by decide +kernel
theorem dX9_init_12 : decode cX9_init 12 = .ok (.iconst 5, 1) := by decide +kernel
theorem dX9_init_13 : decode cX9_init 13 = .ok (.newarray .int, 2) := by decide +kernel
theorem dX9_init_15 : decode cX9_init 15 = .ok (.putfield 15, 3) := by decide +kernel
theorem dX9_init_18 : decode cX9_init 18 = .ok (.aload_n 0, 1) := by decide +kernel
theorem dX9_init_19 : decode cX9_init 19 = .ok (.iconst 5, 1) := by decide +kernel
theorem dX9_init_20 : decode cX9_init 20 = .ok (.newarray .long, 2) := by decide +kernel
theorem dX9_init_22 : decode cX9_init 22 = .ok (.putfield 18, 3) := by decide +kernel
theorem dX9_init_25 : decode cX9_init 25 = .ok (.aload_n 0, 1) := by decide +kernel
theorem dX9_init_26 : decode cX9_init 26 = .ok (.lconst 1, 1) := by decide +kernel
theorem dX9_init_27 : decode cX9_init 27 = .ok (.putfield 22, 3) := by decide +kernel
theorem dX9_init_30 : decode cX9_init 30 = .ok (.aload_n 0, 1) := by decide +kernel
theorem dX9_init_31 : decode cX9_init 31 = .ok (.iconst 0, 1) := by decide +kernel
theorem dX9_init_32 : decode cX9_init 32 = .ok (.putfield 26, 3) := by decide +kernel
theorem dX9_init_35 : decode cX9_init 35 = .ok (.return_, 1) := by decide +kernel
def weatherW (cy : Nat → ClassId) (u : Nat → Nat) : va_W := (u 0, .inr (8, [.ref (u 1), .ref (u 2), .ref (u 3), .long 1, .int 0])) :: ([((u 1), .inl (cy 11, 5, .inl (fun _ => 0)))] ++ [((u 2), .inl (cy 11, 5, .inl (fun _ => 0)))] ++ [((u 3), .inl (cy 14, 5, .inr (.inl (fun _ => 0))))])
set_option maxHeartbeats 16000000 in
set_option maxRecDepth 100000 in
theorem cc_X9_init {l : Launch} {cy : Nat → ClassId} {D : va_G} : CC l cy D yX9_init cX9_init 1 1 3 15 (.inr (8, [.null, .null, .null, (.long 0), (.int 0)])) (weatherW cy) := by
  refine mk_c (by decide) rfl (by decide) ?_
  intro h A N hX hR
  have hX : CN l cy D A N cX9_init RX9 1 1 3 15 True := hX
  refine n_aload_n hX dX9_init_0 rfl 0 rfl ?_
  refine n_obj hX cvX9_3 (by decide) (Nat.le_of_ble_eq_true rfl) dX9_init_1 ?_
  refine n_aload_n hX dX9_init_4 rfl 0 rfl ?_
  refine n_iconst (v := 5) hX dX9_init_5 (by decide) ?_
  refine n_newI (M := 5) hX kwI (by decide) (by decide) (by decide) (by decide) (by decide) dX9_init_6 (fun q1 => ?_)
  refine n_putF (ws' := (h, .inr (8, [.ref q1, .null, .null, .long 0, .int 0])) :: ([(q1, .inl (cy 11, 5, .inl (fun _ => 0)))])) hX 0 trivial flX9_9 (fun C T NN h => by cases h; rfl) rfl ⟨rfl, rfl⟩ (Nat.le_of_ble_eq_true rfl) rfl dX9_init_8 ?_
  refine n_aload_n hX dX9_init_11 rfl 0 rfl ?_
  refine n_iconst (v := 5) hX dX9_init_12 (by decide) ?_
  refine n_newI (M := 5) hX kwI (by decide) (by decide) (by decide) (by decide) (by decide) dX9_init_13 (fun q2 => ?_)
  refine n_putF (ws' := (h, .inr (8, [.ref q1, .ref q2, .null, .long 0, .int 0])) :: ([(q1, .inl (cy 11, 5, .inl (fun _ => 0)))] ++ [(q2, .inl (cy 11, 5, .inl (fun _ => 0)))])) hX 0 trivial flX9_15 (fun C T NN h => by cases h; rfl) rfl ⟨rfl, rfl⟩ (Nat.le_of_ble_eq_true rfl) rfl dX9_init_15 ?_
  refine n_aload_n hX dX9_init_18 rfl 0 rfl ?_
  refine n_iconst (v := 5) hX dX9_init_19 (by decide) ?_
  refine n_newL (M := 5) hX kwL (by decide) (by decide) (by decide) (by decide) (by decide) dX9_init_20 (fun q3 => ?_)
  refine n_putF (ws' := (h, .inr (8, [.ref q1, .ref q2, .ref q3, .long 0, .int 0])) :: ([(q1, .inl (cy 11, 5, .inl (fun _ => 0)))] ++ [(q2, .inl (cy 11, 5, .inl (fun _ => 0)))] ++ [(q3, .inl (cy 14, 5, .inr (.inl (fun _ => 0))))])) hX 0 trivial flX9_18 (fun C T NN h => by cases h; rfl) rfl ⟨rfl, rfl⟩ (Nat.le_of_ble_eq_true rfl) rfl dX9_init_22 ?_
  refine n_aload_n hX dX9_init_25 rfl 0 rfl ?_
  refine n_lconst (v := 1) hX dX9_init_26 (by decide) ?_
  refine n_put (ws' := (h, .inr (8, [.ref q1, .ref q2, .ref q3, .long 1, .int 0])) :: ([(q1, .inl (cy 11, 5, .inl (fun _ => 0)))] ++ [(q2, .inl (cy 11, 5, .inl (fun _ => 0)))] ++ [(q3, .inl (cy 14, 5, .inr (.inl (fun _ => 0))))])) hX 0 flX9_22 rfl ⟨rfl, rfl⟩ (Nat.le_of_ble_eq_true rfl) rfl dX9_init_27 ?_
  refine n_aload_n hX dX9_init_30 rfl 0 rfl ?_
  refine n_iconst (v := 0) hX dX9_init_31 (by decide) ?_
  refine n_put (ws' := (h, .inr (8, [.ref q1, .ref q2, .ref q3, .long 1, .int 0])) :: ([(q1, .inl (cy 11, 5, .inl (fun _ => 0)))] ++ [(q2, .inl (cy 11, 5, .inl (fun _ => 0)))] ++ [(q3, .inl (cy 14, 5, .inr (.inl (fun _ => 0))))])) hX 0 flX9_26 rfl ⟨rfl, rfl⟩ (Nat.le_of_ble_eq_true rfl) rfl dX9_init_32 ?_
  exact hR _ _ _ dX9_init_35 ⟨fun k => if k < 1 then h else if k < 2 then q1 else if k < 3 then q2 else if k < 4 then q3 else 0, rfl, rfl⟩
theorem kclX5_9 : Cond.classLink RX5 9 RX3 ∈ TB := tb 226 (by decide +kernel) (by decide)
theorem dX5_init_0 : decode cX5_init 0 = .ok (.aload_n 0, 1) := by decide +kernel
theorem dX5_init_1 : decode cX5_init 1 = .ok (.invokespecial 3, 3) := by decide +kernel
theorem dX5_init_4 : decode cX5_init 4 = .ok (.aload_n 0, 1) := by decide +kernel
theorem dX5_init_5 : decode cX5_init 5 = .ok (.new 9, 3) := by decide +kernel
theorem dX5_init_8 : decode cX5_init 8 = .ok (.dup, 1) := by decide +kernel
theorem dX5_init_9 : decode cX5_init 9 = .ok (.invokespecial 11, 3) := by decide +kernel
theorem dX5_init_12 : decode cX5_init 12 = .ok (.putfield 12, 3) := by decide +kernel
theorem dX5_init_15 : decode cX5_init 15 = .ok (.aload_n 0, 1) := by decide +kernel
theorem dX5_init_16 : decode cX5_init 16 = .ok (.iconst 0, 1) := by decide +kernel
theorem dX5_init_17 : decode cX5_init 17 = .ok (.putfield 18, 3) := by decide +kernel
theorem dX5_init_20 : decode cX5_init 20 = .ok (.aload_n 0, 1) := by decide +kernel
theorem dX5_init_21 : decode cX5_init 21 = .ok (.iconst 5, 1) := by decide +kernel
theorem dX5_init_22 : decode cX5_init 22 = .ok (.newarray .int, 2) := by decide +kernel
theorem dX5_init_24 : decode cX5_init 24 = .ok (.putfield 22, 3) := by decide +kernel
theorem dX5_init_27 : decode cX5_init 27 = .ok (.aload_n 0, 1) := by decide +kernel
theorem dX5_init_28 : decode cX5_init 28 = .ok (.iconst 5, 1) := by decide +kernel
theorem dX5_init_29 : decode cX5_init 29 = .ok (.newarray .int, 2) := by decide +kernel
theorem dX5_init_31 : decode cX5_init 31 = .ok (.putfield 26, 3) := by decide +kernel
theorem dX5_init_34 : decode cX5_init 34 = .ok (.aload_n 0, 1) := by decide +kernel
theorem dX5_init_35 : decode cX5_init 35 = .ok (.iconst 0, 1) := by decide +kernel
theorem dX5_init_36 : decode cX5_init 36 = .ok (.putfield 29, 3) := by decide +kernel
theorem dX5_init_39 : decode cX5_init 39 = .ok (.aload_n 0, 1) := by decide +kernel
theorem dX5_init_40 : decode cX5_init 40 = .ok (.iconst (-1), 1) := by decide +kernel
theorem dX5_init_41 : decode cX5_init 41 = .ok (.putfield 32, 3) := by decide +kernel
theorem dX5_init_44 : decode cX5_init 44 = .ok (.aload_n 0, 1) := by decide +kernel
theorem dX5_init_45 : decode cX5_init 45 = .ok (.iconst (-1), 1) := by decide +kernel
theorem dX5_init_46 : decode cX5_init 46 = .ok (.putfield 35, 3) := by decide +kernel
theorem dX5_init_49 : decode cX5_init 49 = .ok (.return_, 1) := by decide +kernel
def movesW (cy : Nat → ClassId) (u : Nat → Nat) : va_W := (u 0, .inr (4, [.ref (u 1), .int 0, .ref (u 6), .ref (u 7), .int 0, .int (-1), .int (-1)])) :: (herdW cy (fun j => u (1 + j)) ++ [((u 6), .inl (cy 11, 5, .inl (fun _ => 0)))] ++ [((u 7), .inl (cy 11, 5, .inl (fun _ => 0)))])
set_option maxHeartbeats 16000000 in
set_option maxRecDepth 100000 in
theorem cc_X5_init {l : Launch} {cy : Nat → ClassId} {D : va_G} : CC l cy D yX5_init cX5_init 1 2 7 53 (.inr (4, [.null, (.int 0), .null, .null, (.int 0), (.int 0), (.int 0)])) (movesW cy) := by
  refine mk_c (by decide) rfl (by decide) ?_
  intro h A N hX hR
  have hX : CN l cy D A N cX5_init RX5 1 2 7 53 True := hX
  refine n_aload_n hX dX5_init_0 rfl 0 rfl ?_
  refine n_obj hX cvX5_3 (by decide) (Nat.le_of_ble_eq_true rfl) dX5_init_1 ?_
  refine n_aload_n hX dX5_init_4 rfl 0 rfl ?_
  refine n_new (fs := [(.int 0), (.int 0), (.int 0), (.int 0), .null, .null, .null, .null]) hX ck3 (fun j hj => match j, hj with | 0, _ => rfl | 1, _ => rfl | 2, _ => rfl | 3, _ => rfl | 4, _ => rfl | 5, _ => rfl | 6, _ => rfl | 7, _ => rfl | j + 8, h => absurd h (by omega)) kclX5_9 kinX3 kiiX3 (by decide) (by decide) dX5_init_5 (fun q1 => ?_)
  refine n_dup hX dX5_init_8 rfl ?_
  refine n_ctorN (host := "DragonTithe") hX cc_X3_init mkX3_init ⟨rfl, kimX3⟩ (by decide) ⟨by decide, by decide, Nat.le_of_ble_eq_true rfl⟩ (by decide) (by decide) dX5_init_9 (fun u2 hu2 => ?_)
  subst hu2
  refine n_putF (ws' := (h, .inr (4, [.ref (u2 0), .int 0, .null, .null, .int 0, .int 0, .int 0])) :: (herdW cy u2)) hX 0 trivial flX5_12 (fun C T NN h => by cases h; rfl) rfl ⟨rfl, rfl⟩ (Nat.le_of_ble_eq_true rfl) rfl dX5_init_12 ?_
  refine n_aload_n hX dX5_init_15 rfl 0 rfl ?_
  refine n_iconst (v := 0) hX dX5_init_16 (by decide) ?_
  refine n_put (ws' := (h, .inr (4, [.ref (u2 0), .int 0, .null, .null, .int 0, .int 0, .int 0])) :: (herdW cy u2)) hX 0 flX5_18 rfl ⟨rfl, rfl⟩ (Nat.le_of_ble_eq_true rfl) rfl dX5_init_17 ?_
  refine n_aload_n hX dX5_init_20 rfl 0 rfl ?_
  refine n_iconst (v := 5) hX dX5_init_21 (by decide) ?_
  refine n_newI (M := 5) hX kwI (by decide) (by decide) (by decide) (by decide) (by decide) dX5_init_22 (fun q3 => ?_)
  refine n_putF (ws' := (h, .inr (4, [.ref (u2 0), .int 0, .ref q3, .null, .int 0, .int 0, .int 0])) :: (herdW cy u2 ++ [(q3, .inl (cy 11, 5, .inl (fun _ => 0)))])) hX 0 trivial flX5_22 (fun C T NN h => by cases h; rfl) rfl ⟨rfl, rfl⟩ (Nat.le_of_ble_eq_true rfl) rfl dX5_init_24 ?_
  refine n_aload_n hX dX5_init_27 rfl 0 rfl ?_
  refine n_iconst (v := 5) hX dX5_init_28 (by decide) ?_
  refine n_newI (M := 5) hX kwI (by decide) (by decide) (by decide) (by decide) (by decide) dX5_init_29 (fun q4 => ?_)
  refine n_putF (ws' := (h, .inr (4, [.ref (u2 0), .int 0, .ref q3, .ref q4, .int 0, .int 0, .int 0])) :: (herdW cy u2 ++ [(q3, .inl (cy 11, 5, .inl (fun _ => 0)))] ++ [(q4, .inl (cy 11, 5, .inl (fun _ => 0)))])) hX 0 trivial flX5_26 (fun C T NN h => by cases h; rfl) rfl ⟨rfl, rfl⟩ (Nat.le_of_ble_eq_true rfl) rfl dX5_init_31 ?_
  refine n_aload_n hX dX5_init_34 rfl 0 rfl ?_
  refine n_iconst (v := 0) hX dX5_init_35 (by decide) ?_
  refine n_put (ws' := (h, .inr (4, [.ref (u2 0), .int 0, .ref q3, .ref q4, .int 0, .int 0, .int 0])) :: (herdW cy u2 ++ [(q3, .inl (cy 11, 5, .inl (fun _ => 0)))] ++ [(q4, .inl (cy 11, 5, .inl (fun _ => 0)))])) hX 0 flX5_29 rfl ⟨rfl, rfl⟩ (Nat.le_of_ble_eq_true rfl) rfl dX5_init_36 ?_
  refine n_aload_n hX dX5_init_39 rfl 0 rfl ?_
  refine n_iconst (v := (-1)) hX dX5_init_40 (by decide) ?_
  refine n_put (ws' := (h, .inr (4, [.ref (u2 0), .int 0, .ref q3, .ref q4, .int 0, .int (-1), .int 0])) :: (herdW cy u2 ++ [(q3, .inl (cy 11, 5, .inl (fun _ => 0)))] ++ [(q4, .inl (cy 11, 5, .inl (fun _ => 0)))])) hX 0 flX5_32 rfl ⟨rfl, rfl⟩ (Nat.le_of_ble_eq_true rfl) rfl dX5_init_41 ?_
  refine n_aload_n hX dX5_init_44 rfl 0 rfl ?_
  refine n_iconst (v := (-1)) hX dX5_init_45 (by decide) ?_
  refine n_put (ws' := (h, .inr (4, [.ref (u2 0), .int 0, .ref q3, .ref q4, .int 0, .int (-1), .int (-1)])) :: (herdW cy u2 ++ [(q3, .inl (cy 11, 5, .inl (fun _ => 0)))] ++ [(q4, .inl (cy 11, 5, .inl (fun _ => 0)))])) hX 0 flX5_35 rfl ⟨rfl, rfl⟩ (Nat.le_of_ble_eq_true rfl) rfl dX5_init_46 ?_
  exact hR _ _ _ dX5_init_49 ⟨fun k => if k < 1 then h else if k < 6 then u2 (k - 1) else if k < 7 then q3 else if k < 8 then q4 else 0, rfl, rfl⟩
theorem dX2_init_0 : decode cX2_init 0 = .ok (.aload_n 0, 1) := by decide +kernel
theorem dX2_init_1 : decode cX2_init 1 = .ok (.invokespecial 3, 3) := by decide +kernel
theorem dX2_init_4 : decode cX2_init 4 = .ok (.aload_n 0, 1) := by decide +kernel
theorem dX2_init_5 : decode cX2_init 5 = .ok (.iconst 0, 1) := by decide +kernel
theorem dX2_init_6 : decode cX2_init 6 = .ok (.putfield 9, 3) := by decide +kernel
theorem dX2_init_9 : decode cX2_init 9 = .ok (.aload_n 0, 1) := by decide +kernel
theorem dX2_init_10 : decode cX2_init 10 = .ok (.iconst 0, 1) := by decide +kernel
theorem dX2_init_11 : decode cX2_init 11 = .ok (.putfield 15, 3) := by decide +kernel
theorem dX2_init_14 : decode cX2_init 14 = .ok (.aload_n 0, 1) := by decide +kernel
theorem dX2_init_15 : decode cX2_init 15 = .ok (.iconst 0, 1) := by decide +kernel
theorem dX2_init_16 : decode cX2_init 16 = .ok (.putfield 18, 3) := by decide +kernel
theorem dX2_init_19 : decode cX2_init 19 = .ok (.aload_n 0, 1) := by decide +kernel
theorem dX2_init_20 : decode cX2_init 20 = .ok (.iconst 0, 1) := by decide +kernel
theorem dX2_init_21 : decode cX2_init 21 = .ok (.putfield 22, 3) := by decide +kernel
theorem dX2_init_24 : decode cX2_init 24 = .ok (.aload_n 0, 1) := by decide +kernel
theorem dX2_init_25 : decode cX2_init 25 = .ok (.iconst (-1), 1) := by decide +kernel
theorem dX2_init_26 : decode cX2_init 26 = .ok (.putfield 25, 3) := by decide +kernel
theorem dX2_init_29 : decode cX2_init 29 = .ok (.return_, 1) := by decide +kernel
def gameW (cy : Nat → ClassId) (u : Nat → Nat) : va_W := [(u 0, .inr (2, [.int 0, .int 0, .int 0, .int 0, .int (-1)]))]
set_option maxHeartbeats 16000000 in
set_option maxRecDepth 100000 in
theorem cc_X2_init {l : Launch} {cy : Nat → ClassId} {D : va_G} : CC l cy D yX2_init cX2_init 1 1 0 0 (.inr (2, [(.int 0), (.int 0), (.int 0), (.int 0), (.int 0)])) (gameW cy) := by
  refine mk_c (by decide) rfl (by decide) ?_
  intro h A N hX hR
  have hX : CN l cy D A N cX2_init RX2 1 1 0 0 True := hX
  refine n_aload_n hX dX2_init_0 rfl 0 rfl ?_
  refine n_obj hX cvX2_3 (by decide) (Nat.le_of_ble_eq_true rfl) dX2_init_1 ?_
  refine n_aload_n hX dX2_init_4 rfl 0 rfl ?_
  refine n_iconst (v := 0) hX dX2_init_5 (by decide) ?_
  refine n_put (ws' := [(h, .inr (2, [.int 0, .int 0, .int 0, .int 0, .int 0]))]) hX 0 flX2_9 rfl ⟨rfl, rfl⟩ (Nat.le_of_ble_eq_true rfl) rfl dX2_init_6 ?_
  refine n_aload_n hX dX2_init_9 rfl 0 rfl ?_
  refine n_iconst (v := 0) hX dX2_init_10 (by decide) ?_
  refine n_put (ws' := [(h, .inr (2, [.int 0, .int 0, .int 0, .int 0, .int 0]))]) hX 0 flX2_15 rfl ⟨rfl, rfl⟩ (Nat.le_of_ble_eq_true rfl) rfl dX2_init_11 ?_
  refine n_aload_n hX dX2_init_14 rfl 0 rfl ?_
  refine n_iconst (v := 0) hX dX2_init_15 (by decide) ?_
  refine n_put (ws' := [(h, .inr (2, [.int 0, .int 0, .int 0, .int 0, .int 0]))]) hX 0 flX2_18 rfl ⟨rfl, rfl⟩ (Nat.le_of_ble_eq_true rfl) rfl dX2_init_16 ?_
  refine n_aload_n hX dX2_init_19 rfl 0 rfl ?_
  refine n_iconst (v := 0) hX dX2_init_20 (by decide) ?_
  refine n_put (ws' := [(h, .inr (2, [.int 0, .int 0, .int 0, .int 0, .int 0]))]) hX 0 flX2_22 rfl ⟨rfl, rfl⟩ (Nat.le_of_ble_eq_true rfl) rfl dX2_init_21 ?_
  refine n_aload_n hX dX2_init_24 rfl 0 rfl ?_
  refine n_iconst (v := (-1)) hX dX2_init_25 (by decide) ?_
  refine n_put (ws' := [(h, .inr (2, [.int 0, .int 0, .int 0, .int 0, .int (-1)]))]) hX 0 flX2_25 rfl ⟨rfl, rfl⟩ (Nat.le_of_ble_eq_true rfl) rfl dX2_init_26 ?_
  exact hR _ _ _ dX2_init_29 ⟨fun k => if k < 1 then h else 0, rfl, rfl⟩
theorem kclX1_9 : Cond.classLink RX1 9 RX3 ∈ TB := tb 283 (by decide +kernel) (by decide)
theorem kclX1_17 : Cond.classLink RX1 17 "[[I" ∈ TB := tb 285 (by decide +kernel) (by decide)
theorem dX1_init_0 : decode cX1_init 0 = .ok (.aload_n 0, 1) := by decide +kernel
theorem dX1_init_1 : decode cX1_init 1 = .ok (.invokespecial 3, 3) := by decide +kernel
theorem dX1_init_4 : decode cX1_init 4 = .ok (.aload_n 0, 1) := by decide +kernel
theorem dX1_init_5 : decode cX1_init 5 = .ok (.iconst 4, 1) := by decide +kernel
theorem dX1_init_6 : decode cX1_init 6 = .ok (.anewarray 9, 3) := by decide +kernel
theorem dX1_init_9 : decode cX1_init 9 = .ok (.putfield 11, 3) := by decide +kernel
theorem dX1_init_12 : decode cX1_init 12 = .ok (.aload_n 0, 1) := by decide +kernel
theorem dX1_init_13 : decode cX1_init 13 = .ok (.iconst 3, 1) := by decide +kernel
theorem dX1_init_14 : decode cX1_init 14 = .ok (.bipush 6, 2) := by decide +kernel
theorem dX1_init_16 : decode cX1_init 16 = .ok (.multianewarray 17 2, 4) := by decide +kernel
theorem dX1_init_20 : decode cX1_init 20 = .ok (.putfield 19, 3) := by decide +kernel
theorem dX1_init_23 : decode cX1_init 23 = .ok (.aload_n 0, 1) := by decide +kernel
theorem dX1_init_24 : decode cX1_init 24 = .ok (.iconst 3, 1) := by decide +kernel
theorem dX1_init_25 : decode cX1_init 25 = .ok (.bipush 6, 2) := by decide +kernel
theorem dX1_init_27 : decode cX1_init 27 = .ok (.multianewarray 17 2, 4) := by decide +kernel
theorem dX1_init_31 : decode cX1_init 31 = .ok (.putfield 22, 3) := by decide +kernel
theorem dX1_init_34 : decode cX1_init 34 = .ok (.aload_n 0, 1) := by decide +kernel
theorem dX1_init_35 : decode cX1_init 35 = .ok (.iconst 4, 1) := by decide +kernel
theorem dX1_init_36 : decode cX1_init 36 = .ok (.newarray .int, 2) := by decide +kernel
theorem dX1_init_38 : decode cX1_init 38 = .ok (.putfield 25, 3) := by decide +kernel
theorem dX1_init_41 : decode cX1_init 41 = .ok (.iconst 0, 1) := by decide +kernel
theorem dX1_init_42 : decode cX1_init 42 = .ok (.istore_n 1, 1) := by decide +kernel
theorem dX1_init_43 : decode cX1_init 43 = .ok (.iload_n 1, 1) := by decide +kernel
theorem dX1_init_44 : decode cX1_init 44 = .ok (.iconst 3, 1) := by decide +kernel
theorem dX1_init_45 : decode cX1_init 45 = .ok (.if_icmp .gt 22, 3) := by decide +kernel
theorem dX1_init_48 : decode cX1_init 48 = .ok (.aload_n 0, 1) := by decide +kernel
theorem dX1_init_49 : decode cX1_init 49 = .ok (.getfield 11, 3) := by decide +kernel
theorem dX1_init_52 : decode cX1_init 52 = .ok (.iload_n 1, 1) := by decide +kernel
theorem dX1_init_53 : decode cX1_init 53 = .ok (.new 9, 3) := by decide +kernel
theorem dX1_init_56 : decode cX1_init 56 = .ok (.dup, 1) := by decide +kernel
theorem dX1_init_57 : decode cX1_init 57 = .ok (.invokespecial 29, 3) := by decide +kernel
theorem dX1_init_60 : decode cX1_init 60 = .ok (.aastore, 1) := by decide +kernel
theorem dX1_init_61 : decode cX1_init 61 = .ok (.iinc 1 1, 3) := by decide +kernel
theorem dX1_init_64 : decode cX1_init 64 = .ok (.goto (-21), 3) := by decide +kernel
theorem dX1_init_67 : decode cX1_init 67 = .ok (.return_, 1) := by decide +kernel
def fitW (cy : Nat → ClassId) (u : Nat → Nat) : va_W := (u 0, .inr (1, [.ref (u 1), .ref (u 22), .ref (u 26), .ref (u 30)])) :: ([((u 1), .inl (cy 16, 4, .inr (.inr (.inr (.inr (va_up (va_up (va_up (va_up (fun _ => none) 0 (some (u 2))) 1 (some (u 7))) 2 (some (u 12))) 3 (some (u 17))))))))] ++ gridW cy (fun j => u (22 + j)) ++ gridW cy (fun j => u (26 + j)) ++ [((u 30), .inl (cy 11, 4, .inl (fun _ => 0)))] ++ herdW cy (fun j => u (2 + j)) ++ herdW cy (fun j => u (7 + j)) ++ herdW cy (fun j => u (12 + j)) ++ herdW cy (fun j => u (17 + j)))
set_option maxHeartbeats 16000000 in
set_option maxRecDepth 100000 in
theorem cc_X1_init {l : Launch} {cy : Nat → ClassId} {D : va_G} : CC l cy D yX1_init cX1_init 2 2 30 222 (.inr (1, [.null, .null, .null, .null])) (fitW cy) := by
  refine mk_c (by decide) rfl (by decide) ?_
  intro h A N hX hR
  have hX : CN l cy D A N cX1_init RX1 2 2 30 222 True := hX
  refine n_aload_n hX dX1_init_0 rfl 0 rfl ?_
  refine n_obj hX cvX1_3 (by decide) (Nat.le_of_ble_eq_true rfl) dX1_init_1 ?_
  refine n_aload_n hX dX1_init_4 rfl 0 rfl ?_
  refine n_iconst (v := 4) hX dX1_init_5 (by decide) ?_
  refine n_newq16 (M := 4) hX kclX1_9 (by decide) (by decide) (by decide) (by decide) (by decide) dX1_init_6 (fun q1 => ?_)
  refine n_putF (ws' := (h, .inr (1, [.ref q1, .null, .null, .null])) :: ([(q1, .inl (cy 16, 4, .inr (.inr (.inr (.inr (fun _ => none))))))])) hX 0 trivial flX1_11 (fun C T NN h => by cases h; rfl) rfl ⟨rfl, rfl⟩ (Nat.le_of_ble_eq_true rfl) rfl dX1_init_9 ?_
  refine n_aload_n hX dX1_init_12 rfl 0 rfl ?_
  refine n_iconst (v := 3) hX dX1_init_13 (by decide) ?_
  refine n_bipush (v := 6) hX dX1_init_14 (by decide) ?_
  refine n_multi hX kclX1_17 kwI (by decide) (by decide) dX1_init_16 (fun g2 => ?_)
  refine n_putF (ws' := (h, .inr (1, [.ref q1, .ref (g2 0), .null, .null])) :: ([(q1, .inl (cy 16, 4, .inr (.inr (.inr (.inr (fun _ => none))))))] ++ gridW cy g2)) hX 0 trivial flX1_19 (fun C T NN h => by cases h; rfl) rfl ⟨rfl, rfl⟩ (Nat.le_of_ble_eq_true rfl) rfl dX1_init_20 ?_
  refine n_aload_n hX dX1_init_23 rfl 0 rfl ?_
  refine n_iconst (v := 3) hX dX1_init_24 (by decide) ?_
  refine n_bipush (v := 6) hX dX1_init_25 (by decide) ?_
  refine n_multi hX kclX1_17 kwI (by decide) (by decide) dX1_init_27 (fun g3 => ?_)
  refine n_putF (ws' := (h, .inr (1, [.ref q1, .ref (g2 0), .ref (g3 0), .null])) :: ([(q1, .inl (cy 16, 4, .inr (.inr (.inr (.inr (fun _ => none))))))] ++ gridW cy g2 ++ gridW cy g3)) hX 0 trivial flX1_22 (fun C T NN h => by cases h; rfl) rfl ⟨rfl, rfl⟩ (Nat.le_of_ble_eq_true rfl) rfl dX1_init_31 ?_
  refine n_aload_n hX dX1_init_34 rfl 0 rfl ?_
  refine n_iconst (v := 4) hX dX1_init_35 (by decide) ?_
  refine n_newI (M := 4) hX kwI (by decide) (by decide) (by decide) (by decide) (by decide) dX1_init_36 (fun q4 => ?_)
  refine n_putF (ws' := (h, .inr (1, [.ref q1, .ref (g2 0), .ref (g3 0), .ref q4])) :: ([(q1, .inl (cy 16, 4, .inr (.inr (.inr (.inr (fun _ => none))))))] ++ gridW cy g2 ++ gridW cy g3 ++ [(q4, .inl (cy 11, 4, .inl (fun _ => 0)))])) hX 0 trivial flX1_25 (fun C T NN h => by cases h; rfl) rfl ⟨rfl, rfl⟩ (Nat.le_of_ble_eq_true rfl) rfl dX1_init_38 ?_
  refine n_iconst (v := 0) hX dX1_init_41 (by decide) ?_
  refine n_istore_n (lv' := [(1, .int 0), (0, .ref h)]) hX dX1_init_42 rfl (by decide) rfl ?_
  refine n_iload_n hX dX1_init_43 rfl 0 rfl ?_
  refine n_iconst (v := 3) hX dX1_init_44 (by decide) ?_
  refine n_icgt_f hX 67 dX1_init_45 (by decide) (by decide) ?_
  refine n_aload_n hX dX1_init_48 rfl 1 rfl ?_
  refine n_get hX 0 flX1_11 rfl rfl dX1_init_49 ?_
  refine n_iload_n hX dX1_init_52 rfl 0 rfl ?_
  refine n_new (fs := [(.int 0), (.int 0), (.int 0), (.int 0), .null, .null, .null, .null]) hX ck3 (fun j hj => match j, hj with | 0, _ => rfl | 1, _ => rfl | 2, _ => rfl | 3, _ => rfl | 4, _ => rfl | 5, _ => rfl | 6, _ => rfl | 7, _ => rfl | j + 8, h => absurd h (by omega)) kclX1_9 kinX3 kiiX3 (by decide) (by decide) dX1_init_53 (fun q5 => ?_)
  refine n_dup hX dX1_init_56 rfl ?_
  refine n_ctorN (host := "DragonTithe") hX cc_X3_init mkX3_init ⟨rfl, kimX3⟩ (by decide) ⟨by decide, by decide, Nat.le_of_ble_eq_true rfl⟩ (by decide) (by decide) dX1_init_57 (fun u6 hu6 => ?_)
  subst hu6
  refine n_aast16 (j := 0) (ws' := (h, .inr (1, [.ref q1, .ref (g2 0), .ref (g3 0), .ref q4])) :: ([(q1, .inl (cy 16, 4, .inr (.inr (.inr (.inr (va_up (fun _ => none) 0 (some (u6 0))))))))] ++ gridW cy g2 ++ gridW cy g3 ++ [(q4, .inl (cy 11, 4, .inl (fun _ => 0)))] ++ herdW cy u6)) hX 1 11 rfl rfl hc3 (by unfold vp_in; decide) (by decide) rfl dX1_init_60 ?_
  refine n_iinc (v := 1) (lv' := [(1, .int 1), (0, .ref h)]) hX dX1_init_61 0 rfl (by decide) (by decide) rfl ?_
  refine n_goto hX 43 dX1_init_64 (by decide) ?_
  refine n_iload_n hX dX1_init_43 rfl 0 rfl ?_
  refine n_iconst (v := 3) hX dX1_init_44 (by decide) ?_
  refine n_icgt_f hX 67 dX1_init_45 (by decide) (by decide) ?_
  refine n_aload_n hX dX1_init_48 rfl 1 rfl ?_
  refine n_get hX 0 flX1_11 rfl rfl dX1_init_49 ?_
  refine n_iload_n hX dX1_init_52 rfl 0 rfl ?_
  refine n_new (fs := [(.int 0), (.int 0), (.int 0), (.int 0), .null, .null, .null, .null]) hX ck3 (fun j hj => match j, hj with | 0, _ => rfl | 1, _ => rfl | 2, _ => rfl | 3, _ => rfl | 4, _ => rfl | 5, _ => rfl | 6, _ => rfl | 7, _ => rfl | j + 8, h => absurd h (by omega)) kclX1_9 kinX3 kiiX3 (by decide) (by decide) dX1_init_53 (fun q7 => ?_)
  refine n_dup hX dX1_init_56 rfl ?_
  refine n_ctorN (host := "DragonTithe") hX cc_X3_init mkX3_init ⟨rfl, kimX3⟩ (by decide) ⟨by decide, by decide, Nat.le_of_ble_eq_true rfl⟩ (by decide) (by decide) dX1_init_57 (fun u8 hu8 => ?_)
  subst hu8
  refine n_aast16 (j := 1) (ws' := (h, .inr (1, [.ref q1, .ref (g2 0), .ref (g3 0), .ref q4])) :: ([(q1, .inl (cy 16, 4, .inr (.inr (.inr (.inr (va_up (va_up (fun _ => none) 0 (some (u6 0))) 1 (some (u8 0))))))))] ++ gridW cy g2 ++ gridW cy g3 ++ [(q4, .inl (cy 11, 4, .inl (fun _ => 0)))] ++ herdW cy u6 ++ herdW cy u8)) hX 1 16 rfl rfl hc3 (by unfold vp_in; decide) (by decide) rfl dX1_init_60 ?_
  refine n_iinc (v := 2) (lv' := [(1, .int 2), (0, .ref h)]) hX dX1_init_61 0 rfl (by decide) (by decide) rfl ?_
  refine n_goto hX 43 dX1_init_64 (by decide) ?_
  refine n_iload_n hX dX1_init_43 rfl 0 rfl ?_
  refine n_iconst (v := 3) hX dX1_init_44 (by decide) ?_
  refine n_icgt_f hX 67 dX1_init_45 (by decide) (by decide) ?_
  refine n_aload_n hX dX1_init_48 rfl 1 rfl ?_
  refine n_get hX 0 flX1_11 rfl rfl dX1_init_49 ?_
  refine n_iload_n hX dX1_init_52 rfl 0 rfl ?_
  refine n_new (fs := [(.int 0), (.int 0), (.int 0), (.int 0), .null, .null, .null, .null]) hX ck3 (fun j hj => match j, hj with | 0, _ => rfl | 1, _ => rfl | 2, _ => rfl | 3, _ => rfl | 4, _ => rfl | 5, _ => rfl | 6, _ => rfl | 7, _ => rfl | j + 8, h => absurd h (by omega)) kclX1_9 kinX3 kiiX3 (by decide) (by decide) dX1_init_53 (fun q9 => ?_)
  refine n_dup hX dX1_init_56 rfl ?_
  refine n_ctorN (host := "DragonTithe") hX cc_X3_init mkX3_init ⟨rfl, kimX3⟩ (by decide) ⟨by decide, by decide, Nat.le_of_ble_eq_true rfl⟩ (by decide) (by decide) dX1_init_57 (fun u10 hu10 => ?_)
  subst hu10
  refine n_aast16 (j := 2) (ws' := (h, .inr (1, [.ref q1, .ref (g2 0), .ref (g3 0), .ref q4])) :: ([(q1, .inl (cy 16, 4, .inr (.inr (.inr (.inr (va_up (va_up (va_up (fun _ => none) 0 (some (u6 0))) 1 (some (u8 0))) 2 (some (u10 0))))))))] ++ gridW cy g2 ++ gridW cy g3 ++ [(q4, .inl (cy 11, 4, .inl (fun _ => 0)))] ++ herdW cy u6 ++ herdW cy u8 ++ herdW cy u10)) hX 1 21 rfl rfl hc3 (by unfold vp_in; decide) (by decide) rfl dX1_init_60 ?_
  refine n_iinc (v := 3) (lv' := [(1, .int 3), (0, .ref h)]) hX dX1_init_61 0 rfl (by decide) (by decide) rfl ?_
  refine n_goto hX 43 dX1_init_64 (by decide) ?_
  refine n_iload_n hX dX1_init_43 rfl 0 rfl ?_
  refine n_iconst (v := 3) hX dX1_init_44 (by decide) ?_
  refine n_icgt_f hX 67 dX1_init_45 (by decide) (by decide) ?_
  refine n_aload_n hX dX1_init_48 rfl 1 rfl ?_
  refine n_get hX 0 flX1_11 rfl rfl dX1_init_49 ?_
  refine n_iload_n hX dX1_init_52 rfl 0 rfl ?_
  refine n_new (fs := [(.int 0), (.int 0), (.int 0), (.int 0), .null, .null, .null, .null]) hX ck3 (fun j hj => match j, hj with | 0, _ => rfl | 1, _ => rfl | 2, _ => rfl | 3, _ => rfl | 4, _ => rfl | 5, _ => rfl | 6, _ => rfl | 7, _ => rfl | j + 8, h => absurd h (by omega)) kclX1_9 kinX3 kiiX3 (by decide) (by decide) dX1_init_53 (fun q11 => ?_)
  refine n_dup hX dX1_init_56 rfl ?_
  refine n_ctorN (host := "DragonTithe") hX cc_X3_init mkX3_init ⟨rfl, kimX3⟩ (by decide) ⟨by decide, by decide, Nat.le_of_ble_eq_true rfl⟩ (by decide) (by decide) dX1_init_57 (fun u12 hu12 => ?_)
  subst hu12
  refine n_aast16 (j := 3) (ws' := (h, .inr (1, [.ref q1, .ref (g2 0), .ref (g3 0), .ref q4])) :: ([(q1, .inl (cy 16, 4, .inr (.inr (.inr (.inr (va_up (va_up (va_up (va_up (fun _ => none) 0 (some (u6 0))) 1 (some (u8 0))) 2 (some (u10 0))) 3 (some (u12 0))))))))] ++ gridW cy g2 ++ gridW cy g3 ++ [(q4, .inl (cy 11, 4, .inl (fun _ => 0)))] ++ herdW cy u6 ++ herdW cy u8 ++ herdW cy u10 ++ herdW cy u12)) hX 1 26 rfl rfl hc3 (by unfold vp_in; decide) (by decide) rfl dX1_init_60 ?_
  refine n_iinc (v := 4) (lv' := [(1, .int 4), (0, .ref h)]) hX dX1_init_61 0 rfl (by decide) (by decide) rfl ?_
  refine n_goto hX 43 dX1_init_64 (by decide) ?_
  refine n_iload_n hX dX1_init_43 rfl 0 rfl ?_
  refine n_iconst (v := 3) hX dX1_init_44 (by decide) ?_
  refine n_icgt_t hX 67 dX1_init_45 (by decide) (by decide) ?_
  exact hR _ _ _ dX1_init_67 ⟨fun k => if k < 1 then h else if k < 2 then q1 else if k < 7 then u6 (k - 2) else if k < 12 then u8 (k - 7) else if k < 17 then u10 (k - 12) else if k < 22 then u12 (k - 17) else if k < 26 then g2 (k - 22) else if k < 30 then g3 (k - 26) else if k < 31 then q4 else 0, rfl, rfl⟩
