theorem dJ0_coder_7d493_0 : decode cJ0_coder_7d493 0 = .ok (.getstatic 38, 3) := by decide +kernel
theorem dJ0_coder_7d493_3 : decode cJ0_coder_7d493 3 = .ok (.ifCond .eq 10, 3) := by decide +kernel
theorem dJ0_coder_7d493_6 : decode cJ0_coder_7d493 6 = .ok (.aload_n 0, 1) := by decide +kernel
theorem dJ0_coder_7d493_7 : decode cJ0_coder_7d493 7 = .ok (.getfield 15, 3) := by decide +kernel
theorem dJ0_coder_7d493_10 : decode cJ0_coder_7d493 10 = .ok (.goto 4, 3) := by decide +kernel
theorem dJ0_coder_7d493_13 : decode cJ0_coder_7d493 13 = .ok (.iconst 1, 1) := by decide +kernel
theorem dJ0_coder_7d493_14 : decode cJ0_coder_7d493 14 = .ok (.ireturn, 1) := by decide +kernel
noncomputable def f_J0_coder_7d493 (w0 : Nat) : Option Int32 :=
  jn (fun (y1 : Int32) =>
    ckB y1 (
      some y1
      )
    ) fun j2 =>
  if (1 : Int32) = 0 then
    j2 1
  else
    j2 0
set_option maxHeartbeats 4000000 in
set_option maxRecDepth 100000 in
theorem c_J0_coder_7d493 {g : GT} {w0 : Nat} {μ : Mem} {r0 : Int32} (hw0 : w0 < 6) (hf : f_J0_coder_7d493 w0 = some r0) : CI g yJ0_coder_7d493 cJ0_coder_7d493 1 (some .byte) 1 [rfS g w0] μ r0 μ := by
  refine mk_n (by decide) (Nat.le_of_ble_eq_true rfl) ?_
  intro G hX hR
  have hX : CX g G cJ0_coder_7d493 RJ0 1 1 := hX
  suffices S : ∀ K : Int32 → Prop, (∀ a, K a → a = r0) → Sim G (f_J0_coder_7d493 w0) K 0 [(0, rfS g w0)] [] μ from S (fun a => a = r0) (fun a h => h) _ hf rfl
  intro K hK
  unfold f_J0_coder_7d493
  refine s_getsC hX kfJ0_38 dJ0_coder_7d493_0 ?_
  refine s_jn (C := fun j => ∀ (y1 : Int32), Sim G (j y1) K 14 [] [.int y1] μ) ?_ (fun j2 hj2 => ?_)
  · intro y1
    show Sim G _ _ 14 [] [.int y1] μ
    refine s_ckB (fun hzb => ?_)
    exact s_nretr (nByte hzb) hK hR dJ0_coder_7d493_14
  refine s_if_eq hX 13 dJ0_coder_7d493_3 (by decide) ?_ ?_
  · refine s_iconst (v := 1) hX dJ0_coder_7d493_13 (by decide) ?_
    exact s_to hX [] rfl (hj2 1)
  · refine s_Sload_n hX dJ0_coder_7d493_6 rfl 0 rfl ?_
    refine s_getSc hX hw0 kfJ0_15 dJ0_coder_7d493_7 ?_
    refine s_goto hX 14 dJ0_coder_7d493_10 (by decide) ?_
    exact s_to hX [] rfl (hj2 0)
theorem dJ0_isLatin1_aae02_0 : decode cJ0_isLatin1_aae02 0 = .ok (.getstatic 38, 3) := by decide +kernel
theorem dJ0_isLatin1_aae02_3 : decode cJ0_isLatin1_aae02 3 = .ok (.ifCond .eq 14, 3) := by decide +kernel
theorem dJ0_isLatin1_aae02_6 : decode cJ0_isLatin1_aae02 6 = .ok (.aload_n 0, 1) := by decide +kernel
theorem dJ0_isLatin1_aae02_7 : decode cJ0_isLatin1_aae02 7 = .ok (.getfield 15, 3) := by decide +kernel
theorem dJ0_isLatin1_aae02_10 : decode cJ0_isLatin1_aae02 10 = .ok (.ifCond .ne 7, 3) := by decide +kernel
theorem dJ0_isLatin1_aae02_13 : decode cJ0_isLatin1_aae02 13 = .ok (.iconst 1, 1) := by decide +kernel
theorem dJ0_isLatin1_aae02_14 : decode cJ0_isLatin1_aae02 14 = .ok (.goto 4, 3) := by decide +kernel
theorem dJ0_isLatin1_aae02_17 : decode cJ0_isLatin1_aae02 17 = .ok (.iconst 0, 1) := by decide +kernel
theorem dJ0_isLatin1_aae02_18 : decode cJ0_isLatin1_aae02 18 = .ok (.ireturn, 1) := by decide +kernel
noncomputable def f_J0_isLatin1_aae02 (w0 : Nat) : Option Int32 :=
  jn (fun (y1 : Int32) =>
    ckB y1 (
      some y1
      )
    ) fun j2 =>
  jn (
    j2 0
    ) fun j3 =>
  if (1 : Int32) = 0 then
    j3
  else
    if (0 : Int32) = 0 then
      j2 1
    else
      j3
set_option maxHeartbeats 4000000 in
set_option maxRecDepth 100000 in
theorem c_J0_isLatin1_aae02 {g : GT} {w0 : Nat} {μ : Mem} {r0 : Int32} (hw0 : w0 < 6) (hf : f_J0_isLatin1_aae02 w0 = some r0) : CI g yJ0_isLatin1_aae02 cJ0_isLatin1_aae02 1 (some .boolean) 1 [rfS g w0] μ r0 μ := by
  refine mk_z (by decide) (Nat.le_of_ble_eq_true rfl) ?_
  intro G hX hR
  have hX : CX g G cJ0_isLatin1_aae02 RJ0 1 1 := hX
  suffices S : ∀ K : Int32 → Prop, (∀ a, K a → a = r0) → Sim G (f_J0_isLatin1_aae02 w0) K 0 [(0, rfS g w0)] [] μ from S (fun a => a = r0) (fun a h => h) _ hf rfl
  intro K hK
  unfold f_J0_isLatin1_aae02
  refine s_getsC hX kfJ0_38 dJ0_isLatin1_aae02_0 ?_
  refine s_jn (C := fun j => ∀ (y1 : Int32), Sim G (j y1) K 18 [] [.int y1] μ) ?_ (fun j2 hj2 => ?_)
  · intro y1
    show Sim G _ _ 18 [] [.int y1] μ
    refine s_ckB (fun hzb => ?_)
    exact s_zretr hzb hK hR dJ0_isLatin1_aae02_18
  refine s_jn (C := fun j => Sim G (j) K 17 [] [] μ) ?_ (fun j3 hj3 => ?_)
  · skip
    show Sim G _ _ 17 [] [] μ
    refine s_iconst (v := 0) hX dJ0_isLatin1_aae02_17 (by decide) ?_
    exact s_to hX [] rfl (hj2 0)
  refine s_if_eq hX 17 dJ0_isLatin1_aae02_3 (by decide) ?_ ?_
  · exact s_to hX [] rfl (hj3)
  · refine s_Sload_n hX dJ0_isLatin1_aae02_6 rfl 0 rfl ?_
    refine s_getSc hX hw0 kfJ0_15 dJ0_isLatin1_aae02_7 ?_
    refine s_if_ne hX 17 dJ0_isLatin1_aae02_10 (by decide) ?_ ?_
    · exact s_to hX [] rfl (hj3)
    · refine s_iconst (v := 1) hX dJ0_isLatin1_aae02_13 (by decide) ?_
      refine s_goto hX 18 dJ0_isLatin1_aae02_14 (by decide) ?_
      exact s_to hX [] rfl (hj2 1)
theorem dJ3_checkIndex_8e157_0 : decode cJ3_checkIndex_8e157 0 = .ok (.iload_n 0, 1) := by decide +kernel
theorem dJ3_checkIndex_8e157_1 : decode cJ3_checkIndex_8e157 1 = .ok (.ifCond .lt 8, 3) := by decide +kernel
theorem dJ3_checkIndex_8e157_4 : decode cJ3_checkIndex_8e157 4 = .ok (.iload_n 0, 1) := by decide +kernel
theorem dJ3_checkIndex_8e157_5 : decode cJ3_checkIndex_8e157 5 = .ok (.iload_n 1, 1) := by decide +kernel
theorem dJ3_checkIndex_8e157_6 : decode cJ3_checkIndex_8e157 6 = .ok (.if_icmp .lt 10, 3) := by decide +kernel
theorem dJ3_checkIndex_8e157_16 : decode cJ3_checkIndex_8e157 16 = .ok (.iload_n 0, 1) := by decide +kernel
theorem dJ3_checkIndex_8e157_17 : decode cJ3_checkIndex_8e157 17 = .ok (.ireturn, 1) := by decide +kernel
noncomputable def f_J3_checkIndex_8e157 (x0 : Int32) (x1 : Int32) : Option Int32 :=
  if x0 < 0 then
    none
  else
    if x0 < x1 then
      some x0
    else
      none
set_option maxHeartbeats 4000000 in
set_option maxRecDepth 100000 in
theorem c_J3_checkIndex_8e157 {g : GT} {x0 : Int32} {x1 : Int32} {v2 : Value} {μ : Mem} {r0 : Int32} (hv2 : v2 = .null ∨ ∃ t, v2 = .ref t) (hf : f_J3_checkIndex_8e157 x0 x1 = some r0) : CI g yJ3_checkIndex_8e157 cJ3_checkIndex_8e157 3 (some .int) 1 [.int x0, .int x1, v2] μ r0 μ := by
  refine mk_i (by decide) (by rcases hv2 with rfl | ⟨t, rfl⟩ <;> exact Nat.le_of_ble_eq_true rfl) ?_
  intro G hX hR
  have hX : CX g G cJ3_checkIndex_8e157 RJ3 3 1 := hX
  suffices S : ∀ K : Int32 → Prop, (∀ a, K a → a = r0) → Sim G (f_J3_checkIndex_8e157 x0 x1) K 0 [(0, .int x0), (1, .int x1), (2, v2)] [] μ from S (fun a => a = r0) (fun a h => h) _ hf rfl
  intro K hK
  unfold f_J3_checkIndex_8e157
  refine s_iload_n hX dJ3_checkIndex_8e157_0 rfl 0 rfl ?_
  refine s_if_lt hX 9 dJ3_checkIndex_8e157_1 (by decide) ?_ ?_
  · exact s_none
  · refine s_iload_n hX dJ3_checkIndex_8e157_4 rfl 0 rfl ?_
    refine s_iload_n hX dJ3_checkIndex_8e157_5 rfl 1 rfl ?_
    refine s_icmp_lt hX 16 dJ3_checkIndex_8e157_6 (by decide) ?_ ?_
    · refine s_iload_n hX dJ3_checkIndex_8e157_16 rfl 0 rfl ?_
      exact s_iretr hK hR dJ3_checkIndex_8e157_17
    · exact s_none
theorem dJ6_bitCount_0f7a4_0 : decode cJ6_bitCount_0f7a4 0 = .ok (.iload_n 0, 1) := by decide +kernel
theorem dJ6_bitCount_0f7a4_1 : decode cJ6_bitCount_0f7a4 1 = .ok (.iload_n 0, 1) := by decide +kernel
theorem dJ6_bitCount_0f7a4_2 : decode cJ6_bitCount_0f7a4 2 = .ok (.iconst 1, 1) := by decide +kernel
theorem dJ6_bitCount_0f7a4_3 : decode cJ6_bitCount_0f7a4 3 = .ok (.iushr, 1) := by decide +kernel
theorem dJ6_bitCount_0f7a4_4 : decode cJ6_bitCount_0f7a4 4 = .ok (.ldc_w 265, 3) := by decide +kernel
theorem dJ6_bitCount_0f7a4_7 : decode cJ6_bitCount_0f7a4 7 = .ok (.iand, 1) := by decide +kernel
theorem dJ6_bitCount_0f7a4_8 : decode cJ6_bitCount_0f7a4 8 = .ok (.isub, 1) := by decide +kernel
theorem dJ6_bitCount_0f7a4_9 : decode cJ6_bitCount_0f7a4 9 = .ok (.istore_n 0, 1) := by decide +kernel
theorem dJ6_bitCount_0f7a4_10 : decode cJ6_bitCount_0f7a4 10 = .ok (.iload_n 0, 1) := by decide +kernel
theorem dJ6_bitCount_0f7a4_11 : decode cJ6_bitCount_0f7a4 11 = .ok (.ldc_w 266, 3) := by decide +kernel
theorem dJ6_bitCount_0f7a4_14 : decode cJ6_bitCount_0f7a4 14 = .ok (.iand, 1) := by decide +kernel
theorem dJ6_bitCount_0f7a4_15 : decode cJ6_bitCount_0f7a4 15 = .ok (.iload_n 0, 1) := by decide +kernel
theorem dJ6_bitCount_0f7a4_16 : decode cJ6_bitCount_0f7a4 16 = .ok (.iconst 2, 1) := by decide +kernel
theorem dJ6_bitCount_0f7a4_17 : decode cJ6_bitCount_0f7a4 17 = .ok (.iushr, 1) := by decide +kernel
theorem dJ6_bitCount_0f7a4_18 : decode cJ6_bitCount_0f7a4 18 = .ok (.ldc_w 266, 3) := by decide +kernel
theorem dJ6_bitCount_0f7a4_21 : decode cJ6_bitCount_0f7a4 21 = .ok (.iand, 1) := by decide +kernel
theorem dJ6_bitCount_0f7a4_22 : decode cJ6_bitCount_0f7a4 22 = .ok (.iadd, 1) := by decide +kernel
theorem dJ6_bitCount_0f7a4_23 : decode cJ6_bitCount_0f7a4 23 = .ok (.istore_n 0, 1) := by decide +kernel
theorem dJ6_bitCount_0f7a4_24 : decode cJ6_bitCount_0f7a4 24 = .ok (.iload_n 0, 1) := by decide +kernel
theorem dJ6_bitCount_0f7a4_25 : decode cJ6_bitCount_0f7a4 25 = .ok (.iload_n 0, 1) := by decide +kernel
theorem dJ6_bitCount_0f7a4_26 : decode cJ6_bitCount_0f7a4 26 = .ok (.iconst 4, 1) := by decide +kernel
theorem dJ6_bitCount_0f7a4_27 : decode cJ6_bitCount_0f7a4 27 = .ok (.iushr, 1) := by decide +kernel
theorem dJ6_bitCount_0f7a4_28 : decode cJ6_bitCount_0f7a4 28 = .ok (.iadd, 1) := by decide +kernel
theorem dJ6_bitCount_0f7a4_29 : decode cJ6_bitCount_0f7a4 29 = .ok (.ldc_w 267, 3) := by decide +kernel
theorem dJ6_bitCount_0f7a4_32 : decode cJ6_bitCount_0f7a4 32 = .ok (.iand, 1) := by decide +kernel
theorem dJ6_bitCount_0f7a4_33 : decode cJ6_bitCount_0f7a4 33 = .ok (.istore_n 0, 1) := by decide +kernel
theorem dJ6_bitCount_0f7a4_34 : decode cJ6_bitCount_0f7a4 34 = .ok (.iload_n 0, 1) := by decide +kernel
theorem dJ6_bitCount_0f7a4_35 : decode cJ6_bitCount_0f7a4 35 = .ok (.iload_n 0, 1) := by decide +kernel
theorem dJ6_bitCount_0f7a4_36 : decode cJ6_bitCount_0f7a4 36 = .ok (.bipush 8, 2) := by decide +kernel
theorem dJ6_bitCount_0f7a4_38 : decode cJ6_bitCount_0f7a4 38 = .ok (.iushr, 1) := by decide +kernel
theorem dJ6_bitCount_0f7a4_39 : decode cJ6_bitCount_0f7a4 39 = .ok (.iadd, 1) := by decide +kernel
theorem dJ6_bitCount_0f7a4_40 : decode cJ6_bitCount_0f7a4 40 = .ok (.istore_n 0, 1) := by decide +kernel
theorem dJ6_bitCount_0f7a4_41 : decode cJ6_bitCount_0f7a4 41 = .ok (.iload_n 0, 1) := by decide +kernel
theorem dJ6_bitCount_0f7a4_42 : decode cJ6_bitCount_0f7a4 42 = .ok (.iload_n 0, 1) := by decide +kernel
theorem dJ6_bitCount_0f7a4_43 : decode cJ6_bitCount_0f7a4 43 = .ok (.bipush 16, 2) := by decide +kernel
theorem dJ6_bitCount_0f7a4_45 : decode cJ6_bitCount_0f7a4 45 = .ok (.iushr, 1) := by decide +kernel
theorem dJ6_bitCount_0f7a4_46 : decode cJ6_bitCount_0f7a4 46 = .ok (.iadd, 1) := by decide +kernel
theorem dJ6_bitCount_0f7a4_47 : decode cJ6_bitCount_0f7a4 47 = .ok (.istore_n 0, 1) := by decide +kernel
theorem dJ6_bitCount_0f7a4_48 : decode cJ6_bitCount_0f7a4 48 = .ok (.iload_n 0, 1) := by decide +kernel
theorem dJ6_bitCount_0f7a4_49 : decode cJ6_bitCount_0f7a4 49 = .ok (.bipush 63, 2) := by decide +kernel
theorem dJ6_bitCount_0f7a4_51 : decode cJ6_bitCount_0f7a4 51 = .ok (.iand, 1) := by decide +kernel
theorem dJ6_bitCount_0f7a4_52 : decode cJ6_bitCount_0f7a4 52 = .ok (.ireturn, 1) := by decide +kernel
noncomputable def f_J6_bitCount_0f7a4 (x0 : Int32) : Option Int32 :=
  lt (x0 - (((x0).toUInt32 >>> ((1 : Int32).toUInt32 &&& Int32.toUInt32 31)).toInt32 &&& 1431655765)) fun x0_1 =>
  lt ((x0_1 &&& 858993459) + (((x0_1).toUInt32 >>> ((2 : Int32).toUInt32 &&& Int32.toUInt32 31)).toInt32 &&& 858993459)) fun x0_2 =>
  lt ((x0_2 + ((x0_2).toUInt32 >>> ((4 : Int32).toUInt32 &&& Int32.toUInt32 31)).toInt32) &&& 252645135) fun x0_3 =>
  lt (x0_3 + ((x0_3).toUInt32 >>> ((8 : Int32).toUInt32 &&& Int32.toUInt32 31)).toInt32) fun x0_4 =>
  lt (x0_4 + ((x0_4).toUInt32 >>> ((16 : Int32).toUInt32 &&& Int32.toUInt32 31)).toInt32) fun x0_5 =>
  some (x0_5 &&& 63)
set_option maxHeartbeats 4000000 in
set_option maxRecDepth 100000 in
theorem c_J6_bitCount_0f7a4 {g : GT} {x0 : Int32} {μ : Mem} {r0 : Int32} (hf : f_J6_bitCount_0f7a4 x0 = some r0) : CI g yJ6_bitCount_0f7a4 cJ6_bitCount_0f7a4 1 (some .int) 1 [.int x0] μ r0 μ := by
  refine mk_i (by decide) (Nat.le_of_ble_eq_true rfl) ?_
  intro G hX hR
  have hX : CX g G cJ6_bitCount_0f7a4 RJ6 1 1 := hX
  suffices S : ∀ K : Int32 → Prop, (∀ a, K a → a = r0) → Sim G (f_J6_bitCount_0f7a4 x0) K 0 [(0, .int x0)] [] μ from S (fun a => a = r0) (fun a h => h) _ hf rfl
  intro K hK
  unfold f_J6_bitCount_0f7a4
  refine s_iload_n hX dJ6_bitCount_0f7a4_0 rfl 0 rfl ?_
  refine s_iload_n hX dJ6_bitCount_0f7a4_1 rfl 0 rfl ?_
  refine s_iconst (v := 1) hX dJ6_bitCount_0f7a4_2 (by decide) ?_
  refine s_iushr hX dJ6_bitCount_0f7a4_3 ?_
  refine s_ldcw hX dJ6_bitCount_0f7a4_4 kcJ6_265 ?_
  refine s_iand hX dJ6_bitCount_0f7a4_7 ?_
  refine s_isub hX dJ6_bitCount_0f7a4_8 ?_
  refine s_lti (fun x0_1 => ?_)
  refine s_istore_n (lv' := [(0, .int x0_1)]) hX dJ6_bitCount_0f7a4_9 rfl (by decide) rfl ?_
  refine s_iload_n hX dJ6_bitCount_0f7a4_10 rfl 0 rfl ?_
  refine s_ldcw hX dJ6_bitCount_0f7a4_11 kcJ6_266 ?_
  refine s_iand hX dJ6_bitCount_0f7a4_14 ?_
  refine s_iload_n hX dJ6_bitCount_0f7a4_15 rfl 0 rfl ?_
  refine s_iconst (v := 2) hX dJ6_bitCount_0f7a4_16 (by decide) ?_
  refine s_iushr hX dJ6_bitCount_0f7a4_17 ?_
  refine s_ldcw hX dJ6_bitCount_0f7a4_18 kcJ6_266 ?_
  refine s_iand hX dJ6_bitCount_0f7a4_21 ?_
  refine s_iadd hX dJ6_bitCount_0f7a4_22 ?_
  refine s_lti (fun x0_2 => ?_)
  refine s_istore_n (lv' := [(0, .int x0_2)]) hX dJ6_bitCount_0f7a4_23 rfl (by decide) rfl ?_
  refine s_iload_n hX dJ6_bitCount_0f7a4_24 rfl 0 rfl ?_
  refine s_iload_n hX dJ6_bitCount_0f7a4_25 rfl 0 rfl ?_
  refine s_iconst (v := 4) hX dJ6_bitCount_0f7a4_26 (by decide) ?_
  refine s_iushr hX dJ6_bitCount_0f7a4_27 ?_
  refine s_iadd hX dJ6_bitCount_0f7a4_28 ?_
  refine s_ldcw hX dJ6_bitCount_0f7a4_29 kcJ6_267 ?_
  refine s_iand hX dJ6_bitCount_0f7a4_32 ?_
  refine s_lti (fun x0_3 => ?_)
  refine s_istore_n (lv' := [(0, .int x0_3)]) hX dJ6_bitCount_0f7a4_33 rfl (by decide) rfl ?_
  refine s_iload_n hX dJ6_bitCount_0f7a4_34 rfl 0 rfl ?_
  refine s_iload_n hX dJ6_bitCount_0f7a4_35 rfl 0 rfl ?_
  refine s_bipush (v := 8) hX dJ6_bitCount_0f7a4_36 (by decide) ?_
  refine s_iushr hX dJ6_bitCount_0f7a4_38 ?_
  refine s_iadd hX dJ6_bitCount_0f7a4_39 ?_
  refine s_lti (fun x0_4 => ?_)
  refine s_istore_n (lv' := [(0, .int x0_4)]) hX dJ6_bitCount_0f7a4_40 rfl (by decide) rfl ?_
  refine s_iload_n hX dJ6_bitCount_0f7a4_41 rfl 0 rfl ?_
  refine s_iload_n hX dJ6_bitCount_0f7a4_42 rfl 0 rfl ?_
  refine s_bipush (v := 16) hX dJ6_bitCount_0f7a4_43 (by decide) ?_
  refine s_iushr hX dJ6_bitCount_0f7a4_45 ?_
  refine s_iadd hX dJ6_bitCount_0f7a4_46 ?_
  refine s_lti (fun x0_5 => ?_)
  refine s_istore_n (lv' := [(0, .int x0_5)]) hX dJ6_bitCount_0f7a4_47 rfl (by decide) rfl ?_
  refine s_iload_n hX dJ6_bitCount_0f7a4_48 rfl 0 rfl ?_
  refine s_bipush (v := 63) hX dJ6_bitCount_0f7a4_49 (by decide) ?_
  refine s_iand hX dJ6_bitCount_0f7a4_51 ?_
  exact s_iretr hK hR dJ6_bitCount_0f7a4_52
theorem dX0_dropLot_0 : decode cX0_dropLot 0 = .ok (.aload_n 0, 1) := by decide +kernel
theorem dX0_dropLot_1 : decode cX0_dropLot 1 = .ok (.getfield 12, 3) := by decide +kernel
theorem dX0_dropLot_4 : decode cX0_dropLot 4 = .ok (.getfield 72, 3) := by decide +kernel
theorem dX0_dropLot_7 : decode cX0_dropLot 7 = .ok (.ifCond .gt 6, 3) := by decide +kernel
theorem dX0_dropLot_10 : decode cX0_dropLot 10 = .ok (.bipush (-3), 2) := by decide +kernel
theorem dX0_dropLot_12 : decode cX0_dropLot 12 = .ok (.ireturn, 1) := by decide +kernel
theorem dX0_dropLot_13 : decode cX0_dropLot 13 = .ok (.aload_n 0, 1) := by decide +kernel
theorem dX0_dropLot_14 : decode cX0_dropLot 14 = .ok (.getfield 12, 3) := by decide +kernel
theorem dX0_dropLot_17 : decode cX0_dropLot 17 = .ok (.dup, 1) := by decide +kernel
theorem dX0_dropLot_18 : decode cX0_dropLot 18 = .ok (.getfield 72, 3) := by decide +kernel
theorem dX0_dropLot_21 : decode cX0_dropLot 21 = .ok (.iconst 1, 1) := by decide +kernel
theorem dX0_dropLot_22 : decode cX0_dropLot 22 = .ok (.isub, 1) := by decide +kernel
theorem dX0_dropLot_23 : decode cX0_dropLot 23 = .ok (.putfield 72, 3) := by decide +kernel
theorem dX0_dropLot_26 : decode cX0_dropLot 26 = .ok (.aload_n 0, 1) := by decide +kernel
theorem dX0_dropLot_27 : decode cX0_dropLot 27 = .ok (.getfield 28, 3) := by decide +kernel
theorem dX0_dropLot_30 : decode cX0_dropLot 30 = .ok (.iconst 0, 1) := by decide +kernel
theorem dX0_dropLot_31 : decode cX0_dropLot 31 = .ok (.putfield 65, 3) := by decide +kernel
theorem dX0_dropLot_34 : decode cX0_dropLot 34 = .ok (.aload_n 0, 1) := by decide +kernel
theorem dX0_dropLot_35 : decode cX0_dropLot 35 = .ok (.getfield 12, 3) := by decide +kernel
theorem dX0_dropLot_38 : decode cX0_dropLot 38 = .ok (.getfield 72, 3) := by decide +kernel
theorem dX0_dropLot_41 : decode cX0_dropLot 41 = .ok (.ireturn, 1) := by decide +kernel
noncomputable def f_X0_dropLot (k0 : Nat) (μ : Mem) : Option (Int32 × Mem) :=
  if 0 < (μ.1 (k0 + 1) 1) then
    lt (setI μ (k0 + 1) 1 ((μ.1 (k0 + 1) 1) - 1)) fun ν1 =>
    lt (setI ν1 (k0 + 9) 0 0) fun ν2 =>
    some ((ν2.1 (k0 + 1) 1), ν2)
  else
    some ((-3), μ)
set_option maxHeartbeats 4000000 in
set_option maxRecDepth 100000 in
theorem c_X0_dropLot {g : GT} {k0 : Nat} {μ : Mem} {μ0 : Mem} {r0 : Int32} (hk0 : tyOf k0 = 0) (hf : f_X0_dropLot k0 μ = some (r0, μ0)) : CI g yX0_dropLot cX0_dropLot 1 (some .int) 1 [rf g k0] μ r0 μ0 := by
  refine mk_i (by decide) (Nat.le_of_ble_eq_true rfl) ?_
  intro G hX hR
  have hX : CX g G cX0_dropLot RX0 1 1 := hX
  suffices S : ∀ K : (Int32 × Mem) → Prop, (∀ a, K a → a = (r0, μ0)) → Sim G (f_X0_dropLot k0 μ) K 0 [(0, rf g k0)] [] μ from S (fun a => a = (r0, μ0)) (fun a h => h) _ hf rfl
  intro K hK
  unfold f_X0_dropLot
  refine s_aload_n hX dX0_dropLot_0 rfl 0 rfl ?_
  refine s_getR hX (d := 1) (k0 + 1) flX0_12 hk0 rfl dX0_dropLot_1 ?_
  refine s_getI hX flX0_72 (ty_0_1 hk0).1 dX0_dropLot_4 ?_
  refine s_if_gt hX 13 dX0_dropLot_7 (by decide) ?_ ?_
  · refine s_aload_n hX dX0_dropLot_13 rfl 0 rfl ?_
    refine s_getR hX (d := 1) (k0 + 1) flX0_12 hk0 rfl dX0_dropLot_14 ?_
    refine s_dup hX dX0_dropLot_17 rfl ?_
    refine s_getI hX flX0_72 (ty_0_1 hk0).1 dX0_dropLot_18 ?_
    refine s_iconst (v := 1) hX dX0_dropLot_21 (by decide) ?_
    refine s_isub hX dX0_dropLot_22 ?_
    refine s_putI hX flX0_72 (ty_0_1 hk0).1 ⟨rfl, rfl⟩ dX0_dropLot_23 (fun ν1 => ?_)
    refine s_aload_n hX dX0_dropLot_26 rfl 0 rfl ?_
    refine s_getR hX (d := 9) (k0 + 9) flX0_28 hk0 rfl dX0_dropLot_27 ?_
    refine s_iconst (v := 0) hX dX0_dropLot_30 (by decide) ?_
    refine s_putI hX flX0_65 (ty_0_9 hk0).1 ⟨rfl, rfl⟩ dX0_dropLot_31 (fun ν2 => ?_)
    refine s_aload_n hX dX0_dropLot_34 rfl 0 rfl ?_
    refine s_getR hX (d := 1) (k0 + 1) flX0_12 hk0 rfl dX0_dropLot_35 ?_
    refine s_getI hX flX0_72 (ty_0_1 hk0).1 dX0_dropLot_38 ?_
    exact s_ireti hK hR dX0_dropLot_41
  · refine s_bipush (v := (-3)) hX dX0_dropLot_10 (by decide) ?_
    exact s_ireti hK hR dX0_dropLot_12
theorem dX0_setGrowth_0 : decode cX0_setGrowth 0 = .ok (.iload_n 1, 1) := by decide +kernel
theorem dX0_setGrowth_1 : decode cX0_setGrowth 1 = .ok (.ifCond .lt 9, 3) := by decide +kernel
theorem dX0_setGrowth_4 : decode cX0_setGrowth 4 = .ok (.iload_n 1, 1) := by decide +kernel
theorem dX0_setGrowth_5 : decode cX0_setGrowth 5 = .ok (.bipush 9, 2) := by decide +kernel
theorem dX0_setGrowth_7 : decode cX0_setGrowth 7 = .ok (.if_icmp .le 6, 3) := by decide +kernel
theorem dX0_setGrowth_10 : decode cX0_setGrowth 10 = .ok (.bipush (-2), 2) := by decide +kernel
theorem dX0_setGrowth_12 : decode cX0_setGrowth 12 = .ok (.ireturn, 1) := by decide +kernel
theorem dX0_setGrowth_13 : decode cX0_setGrowth 13 = .ok (.aload_n 0, 1) := by decide +kernel
theorem dX0_setGrowth_14 : decode cX0_setGrowth 14 = .ok (.getfield 12, 3) := by decide +kernel
theorem dX0_setGrowth_17 : decode cX0_setGrowth 17 = .ok (.getfield 90, 3) := by decide +kernel
theorem dX0_setGrowth_20 : decode cX0_setGrowth 20 = .ok (.istore_n 2, 1) := by decide +kernel
theorem dX0_setGrowth_21 : decode cX0_setGrowth 21 = .ok (.aload_n 0, 1) := by decide +kernel
theorem dX0_setGrowth_22 : decode cX0_setGrowth 22 = .ok (.getfield 12, 3) := by decide +kernel
theorem dX0_setGrowth_25 : decode cX0_setGrowth 25 = .ok (.iload_n 1, 1) := by decide +kernel
theorem dX0_setGrowth_26 : decode cX0_setGrowth 26 = .ok (.putfield 90, 3) := by decide +kernel
theorem dX0_setGrowth_29 : decode cX0_setGrowth 29 = .ok (.iload_n 2, 1) := by decide +kernel
theorem dX0_setGrowth_30 : decode cX0_setGrowth 30 = .ok (.ireturn, 1) := by decide +kernel
noncomputable def f_X0_setGrowth (k0 : Nat) (x1 : Int32) (μ : Mem) : Option (Int32 × Mem) :=
  jn (
    some ((-2), μ)
    ) fun j1 =>
  if x1 < 0 then
    j1
  else
    if 9 < x1 then
      j1
    else
      lt (setI μ (k0 + 1) 3 x1) fun ν2 =>
      some ((μ.1 (k0 + 1) 3), ν2)
set_option maxHeartbeats 4000000 in
set_option maxRecDepth 100000 in
theorem c_X0_setGrowth {g : GT} {k0 : Nat} {x1 : Int32} {μ : Mem} {μ0 : Mem} {r0 : Int32} (hk0 : tyOf k0 = 0) (hf : f_X0_setGrowth k0 x1 μ = some (r0, μ0)) : CI g yX0_setGrowth cX0_setGrowth 3 (some .int) 1 [rf g k0, .int x1] μ r0 μ0 := by
  refine mk_i (by decide) (Nat.le_of_ble_eq_true rfl) ?_
  intro G hX hR
  have hX : CX g G cX0_setGrowth RX0 3 1 := hX
  suffices S : ∀ K : (Int32 × Mem) → Prop, (∀ a, K a → a = (r0, μ0)) → Sim G (f_X0_setGrowth k0 x1 μ) K 0 [(0, rf g k0), (1, .int x1)] [] μ from S (fun a => a = (r0, μ0)) (fun a h => h) _ hf rfl
  intro K hK
  unfold f_X0_setGrowth
  refine s_iload_n hX dX0_setGrowth_0 rfl 1 rfl ?_
  refine s_jn (C := fun j => Sim G (j) K 10 [] [] μ) ?_ (fun j1 hj1 => ?_)
  · skip
    show Sim G _ _ 10 [] [] μ
    refine s_bipush (v := (-2)) hX dX0_setGrowth_10 (by decide) ?_
    exact s_ireti hK hR dX0_setGrowth_12
  refine s_if_lt hX 10 dX0_setGrowth_1 (by decide) ?_ ?_
  · exact s_to hX [] rfl (hj1)
  · refine s_iload_n hX dX0_setGrowth_4 rfl 1 rfl ?_
    refine s_bipush (v := 9) hX dX0_setGrowth_5 (by decide) ?_
    refine s_icmp_le hX 13 dX0_setGrowth_7 (by decide) ?_ ?_
    · refine s_aload_n hX dX0_setGrowth_13 rfl 0 rfl ?_
      refine s_getR hX (d := 1) (k0 + 1) flX0_12 hk0 rfl dX0_setGrowth_14 ?_
      refine s_getI hX flX0_90 (ty_0_1 hk0).1 dX0_setGrowth_17 ?_
      refine s_istore_n (lv' := [(2, .int (μ.1 (k0 + 1) 3)), (0, rf g k0), (1, .int x1)]) hX dX0_setGrowth_20 rfl (by decide) rfl ?_
      refine s_aload_n hX dX0_setGrowth_21 rfl 1 rfl ?_
      refine s_getR hX (d := 1) (k0 + 1) flX0_12 hk0 rfl dX0_setGrowth_22 ?_
      refine s_iload_n hX dX0_setGrowth_25 rfl 2 rfl ?_
      refine s_putI hX flX0_90 (ty_0_1 hk0).1 ⟨rfl, rfl⟩ dX0_setGrowth_26 (fun ν2 => ?_)
      refine s_iload_n hX dX0_setGrowth_29 rfl 0 rfl ?_
      exact s_ireti hK hR dX0_setGrowth_30
    · exact s_to hX [] rfl (hj1)
theorem dX0_setTold_0 : decode cX0_setTold 0 = .ok (.iload_n 1, 1) := by decide +kernel
theorem dX0_setTold_1 : decode cX0_setTold 1 = .ok (.ifCond .lt 19, 3) := by decide +kernel
theorem dX0_setTold_4 : decode cX0_setTold 4 = .ok (.iload_n 1, 1) := by decide +kernel
theorem dX0_setTold_5 : decode cX0_setTold 5 = .ok (.iconst 3, 1) := by decide +kernel
theorem dX0_setTold_6 : decode cX0_setTold 6 = .ok (.if_icmp .ge 14, 3) := by decide +kernel
theorem dX0_setTold_9 : decode cX0_setTold 9 = .ok (.iload_n 2, 1) := by decide +kernel
theorem dX0_setTold_10 : decode cX0_setTold 10 = .ok (.ifCond .lt 10, 3) := by decide +kernel
theorem dX0_setTold_13 : decode cX0_setTold 13 = .ok (.iload_n 2, 1) := by decide +kernel
theorem dX0_setTold_14 : decode cX0_setTold 14 = .ok (.sipush 999, 3) := by decide +kernel
theorem dX0_setTold_17 : decode cX0_setTold 17 = .ok (.if_icmp .le 6, 3) := by decide +kernel
theorem dX0_setTold_20 : decode cX0_setTold 20 = .ok (.bipush (-2), 2) := by decide +kernel
theorem dX0_setTold_22 : decode cX0_setTold 22 = .ok (.ireturn, 1) := by decide +kernel
theorem dX0_setTold_23 : decode cX0_setTold 23 = .ok (.aload_n 0, 1) := by decide +kernel
theorem dX0_setTold_24 : decode cX0_setTold 24 = .ok (.getfield 36, 3) := by decide +kernel
theorem dX0_setTold_27 : decode cX0_setTold 27 = .ok (.iload_n 1, 1) := by decide +kernel
theorem dX0_setTold_28 : decode cX0_setTold 28 = .ok (.iaload, 1) := by decide +kernel
theorem dX0_setTold_29 : decode cX0_setTold 29 = .ok (.istore_n 3, 1) := by decide +kernel
theorem dX0_setTold_30 : decode cX0_setTold 30 = .ok (.aload_n 0, 1) := by decide +kernel
theorem dX0_setTold_31 : decode cX0_setTold 31 = .ok (.getfield 36, 3) := by decide +kernel
theorem dX0_setTold_34 : decode cX0_setTold 34 = .ok (.iload_n 1, 1) := by decide +kernel
theorem dX0_setTold_35 : decode cX0_setTold 35 = .ok (.iload_n 2, 1) := by decide +kernel
theorem dX0_setTold_36 : decode cX0_setTold 36 = .ok (.iastore, 1) := by decide +kernel
theorem dX0_setTold_37 : decode cX0_setTold 37 = .ok (.iload_n 3, 1) := by decide +kernel
theorem dX0_setTold_38 : decode cX0_setTold 38 = .ok (.ireturn, 1) := by decide +kernel
noncomputable def f_X0_setTold (k0 : Nat) (x1 : Int32) (x2 : Int32) (μ : Mem) : Option (Int32 × Mem) :=
  jn (
    some ((-2), μ)
    ) fun j1 =>
  if x1 < 0 then
    j1
  else
    if x1 < 3 then
      if x2 < 0 then
        j1
      else
        if 999 < x2 then
          j1
        else
          chk x1 3 (
            chk x1 3 (lt (setI μ (k0 + 13) (ix x1) x2) fun ν2 =>
              some ((μ.1 (k0 + 13) (ix x1)), ν2)
              )
            )
    else
      j1
set_option maxHeartbeats 4000000 in
set_option maxRecDepth 100000 in
theorem c_X0_setTold {g : GT} {k0 : Nat} {x1 : Int32} {x2 : Int32} {μ : Mem} {μ0 : Mem} {r0 : Int32} (hk0 : tyOf k0 = 0) (hf : f_X0_setTold k0 x1 x2 μ = some (r0, μ0)) : CI g yX0_setTold cX0_setTold 4 (some .int) 1 [rf g k0, .int x1, .int x2] μ r0 μ0 := by
  refine mk_i (by decide) (Nat.le_of_ble_eq_true rfl) ?_
  intro G hX hR
  have hX : CX g G cX0_setTold RX0 4 1 := hX
  suffices S : ∀ K : (Int32 × Mem) → Prop, (∀ a, K a → a = (r0, μ0)) → Sim G (f_X0_setTold k0 x1 x2 μ) K 0 [(0, rf g k0), (1, .int x1), (2, .int x2)] [] μ from S (fun a => a = (r0, μ0)) (fun a h => h) _ hf rfl
  intro K hK
  unfold f_X0_setTold
  refine s_iload_n hX dX0_setTold_0 rfl 1 rfl ?_
  refine s_jn (C := fun j => Sim G (j) K 20 [] [] μ) ?_ (fun j1 hj1 => ?_)
  · skip
    show Sim G _ _ 20 [] [] μ
    refine s_bipush (v := (-2)) hX dX0_setTold_20 (by decide) ?_
    exact s_ireti hK hR dX0_setTold_22
  refine s_if_lt hX 20 dX0_setTold_1 (by decide) ?_ ?_
  · exact s_to hX [] rfl (hj1)
  · refine s_iload_n hX dX0_setTold_4 rfl 1 rfl ?_
    refine s_iconst (v := 3) hX dX0_setTold_5 (by decide) ?_
    refine s_icmp_ge hX 20 dX0_setTold_6 (by decide) ?_ ?_
    · exact s_to hX [] rfl (hj1)
    · refine s_iload_n hX dX0_setTold_9 rfl 2 rfl ?_
      refine s_if_lt hX 20 dX0_setTold_10 (by decide) ?_ ?_
      · exact s_to hX [] rfl (hj1)
      · refine s_iload_n hX dX0_setTold_13 rfl 2 rfl ?_
        refine s_sipush (v := 999) hX dX0_setTold_14 (by decide) ?_
        refine s_icmp_le hX 23 dX0_setTold_17 (by decide) ?_ ?_
        · refine s_aload_n hX dX0_setTold_23 rfl 0 rfl ?_
          refine s_getR hX (d := 13) (k0 + 13) flX0_36 hk0 rfl dX0_setTold_24 ?_
          refine s_iload_n hX dX0_setTold_27 rfl 1 rfl ?_
          refine s_iald hX (ty_0_13 hk0).1 (ty_0_13 hk0).2 dX0_setTold_28 ?_
          refine s_istore_n (lv' := [(3, .int (μ.1 (k0 + 13) (ix x1))), (0, rf g k0), (1, .int x1), (2, .int x2)]) hX dX0_setTold_29 rfl (by decide) rfl ?_
          refine s_aload_n hX dX0_setTold_30 rfl 1 rfl ?_
          refine s_getR hX (d := 13) (k0 + 13) flX0_36 hk0 rfl dX0_setTold_31 ?_
          refine s_iload_n hX dX0_setTold_34 rfl 2 rfl ?_
          refine s_iload_n hX dX0_setTold_35 rfl 3 rfl ?_
          refine s_iast hX (ty_0_13 hk0).1 (ty_0_13 hk0).2 dX0_setTold_36 (fun ν2 => ?_)
          refine s_iload_n hX dX0_setTold_37 rfl 0 rfl ?_
          exact s_ireti hK hR dX0_setTold_38
        · exact s_to hX [] rfl (hj1)
theorem dX10_clear_0 : decode cX10_clear 0 = .ok (.aload_n 0, 1) := by decide +kernel
theorem dX10_clear_1 : decode cX10_clear 1 = .ok (.getfield 27, 3) := by decide +kernel
theorem dX10_clear_4 : decode cX10_clear 4 = .ok (.getfield 124, 3) := by decide +kernel
theorem dX10_clear_7 : decode cX10_clear 7 = .ok (.istore_n 1, 1) := by decide +kernel
theorem dX10_clear_8 : decode cX10_clear 8 = .ok (.aload_n 0, 1) := by decide +kernel
theorem dX10_clear_9 : decode cX10_clear 9 = .ok (.getfield 27, 3) := by decide +kernel
theorem dX10_clear_12 : decode cX10_clear 12 = .ok (.iconst 0, 1) := by decide +kernel
theorem dX10_clear_13 : decode cX10_clear 13 = .ok (.putfield 124, 3) := by decide +kernel
theorem dX10_clear_16 : decode cX10_clear 16 = .ok (.iload_n 1, 1) := by decide +kernel
theorem dX10_clear_17 : decode cX10_clear 17 = .ok (.ireturn, 1) := by decide +kernel
noncomputable def f_X10_clear  (μ : Mem) : Option (Int32 × Mem) :=
  lt (setI μ 45 1 0) fun ν1 =>
  some ((μ.1 45 1), ν1)
set_option maxHeartbeats 4000000 in
set_option maxRecDepth 100000 in
theorem c_X10_clear {g : GT}  {μ : Mem} {μ0 : Mem} {r0 : Int32} (hf : f_X10_clear  μ = some (r0, μ0)) : CI g yX10_clear cX10_clear 2 (some .int) 1 [rf g 0] μ r0 μ0 := by
  refine mk_i (by decide) (Nat.le_of_ble_eq_true rfl) ?_
  intro G hX hR
  have hX : CX g G cX10_clear RX10 2 1 := hX
  suffices S : ∀ K : (Int32 × Mem) → Prop, (∀ a, K a → a = (r0, μ0)) → Sim G (f_X10_clear  μ) K 0 [(0, rf g 0)] [] μ from S (fun a => a = (r0, μ0)) (fun a h => h) _ hf rfl
  intro K hK
  unfold f_X10_clear
  refine s_aload_n hX dX10_clear_0 rfl 0 rfl ?_
  refine s_getR hX (d := 45) 45 flX10_27 rfl rfl dX10_clear_1 ?_
  refine s_getI hX flX10_124 rfl dX10_clear_4 ?_
  refine s_istore_n (lv' := [(1, .int (μ.1 45 1)), (0, rf g 0)]) hX dX10_clear_7 rfl (by decide) rfl ?_
  refine s_aload_n hX dX10_clear_8 rfl 1 rfl ?_
  refine s_getR hX (d := 45) 45 flX10_27 rfl rfl dX10_clear_9 ?_
  refine s_iconst (v := 0) hX dX10_clear_12 (by decide) ?_
  refine s_putI hX flX10_124 rfl ⟨rfl, rfl⟩ dX10_clear_13 (fun ν1 => ?_)
  refine s_iload_n hX dX10_clear_16 rfl 0 rfl ?_
  exact s_ireti hK hR dX10_clear_17
theorem dX10_commonDivisor_0 : decode cX10_commonDivisor 0 = .ok (.iconst 0, 1) := by decide +kernel
theorem dX10_commonDivisor_1 : decode cX10_commonDivisor 1 = .ok (.istore 4, 2) := by decide +kernel
theorem dX10_commonDivisor_3 : decode cX10_commonDivisor 3 = .ok (.iload 4, 2) := by decide +kernel
theorem dX10_commonDivisor_5 : decode cX10_commonDivisor 5 = .ok (.sipush 200, 3) := by decide +kernel
theorem dX10_commonDivisor_8 : decode cX10_commonDivisor 8 = .ok (.if_icmp .ge 25, 3) := by decide +kernel
theorem dX10_commonDivisor_11 : decode cX10_commonDivisor 11 = .ok (.lload_n 2, 1) := by decide +kernel
theorem dX10_commonDivisor_12 : decode cX10_commonDivisor 12 = .ok (.lconst 0, 1) := by decide +kernel
theorem dX10_commonDivisor_13 : decode cX10_commonDivisor 13 = .ok (.lcmp, 1) := by decide +kernel
theorem dX10_commonDivisor_14 : decode cX10_commonDivisor 14 = .ok (.ifCond .eq 19, 3) := by decide +kernel
theorem dX10_commonDivisor_17 : decode cX10_commonDivisor 17 = .ok (.lload_n 0, 1) := by decide +kernel
theorem dX10_commonDivisor_18 : decode cX10_commonDivisor 18 = .ok (.lload_n 2, 1) := by decide +kernel
theorem dX10_commonDivisor_19 : decode cX10_commonDivisor 19 = .ok (.lrem, 1) := by decide +kernel
theorem dX10_commonDivisor_20 : decode cX10_commonDivisor 20 = .ok (.lstore 5, 2) := by decide +kernel
theorem dX10_commonDivisor_22 : decode cX10_commonDivisor 22 = .ok (.lload_n 2, 1) := by decide +kernel
theorem dX10_commonDivisor_23 : decode cX10_commonDivisor 23 = .ok (.lstore_n 0, 1) := by decide +kernel
theorem dX10_commonDivisor_24 : decode cX10_commonDivisor 24 = .ok (.lload 5, 2) := by decide +kernel
theorem dX10_commonDivisor_26 : decode cX10_commonDivisor 26 = .ok (.lstore_n 2, 1) := by decide +kernel
theorem dX10_commonDivisor_27 : decode cX10_commonDivisor 27 = .ok (.iinc 4 1, 3) := by decide +kernel
theorem dX10_commonDivisor_30 : decode cX10_commonDivisor 30 = .ok (.goto (-27), 3) := by decide +kernel
theorem dX10_commonDivisor_33 : decode cX10_commonDivisor 33 = .ok (.lload_n 0, 1) := by decide +kernel
theorem dX10_commonDivisor_34 : decode cX10_commonDivisor 34 = .ok (.lreturn, 1) := by decide +kernel
noncomputable def f_X10_commonDivisor (x0 : Int64) (x2 : Int64) : Option Int64 :=
  bd (lp (ε := Int64) (cu3 fun (x0_1 : Int64) (x2_2 : Int64) (x4_3 : Int32) =>
    if x4_3 < 200 then
      if x2_2 = 0 then
        some (.inr x0_1)
      else
        ckZ x2_2 (
          some (.inl (x2_2, (x0_1 - x0_1 / x2_2 * x2_2), (x4_3 + 1)))
          )
    else
      some (.inr x0_1)
    ) (x0, x2, 0)) (fun (x0_4 : Int64) =>
    some x0_4
    )
set_option maxHeartbeats 4000000 in
set_option maxRecDepth 100000 in
theorem c_X10_commonDivisor {g : GT} {x0 : Int64} {x2 : Int64} {μ : Mem} {r0 : Int64} (hf : f_X10_commonDivisor x0 x2 = some r0) : CL g yX10_commonDivisor cX10_commonDivisor 7 (some .long) 1 [.long x0, .long x2] μ r0 μ := by
  refine mk_l (by decide) (Nat.le_of_ble_eq_true rfl) ?_
  intro G hX hR
  have hX : CX g G cX10_commonDivisor RX10 7 1 := hX
  suffices S : ∀ K : Int64 → Prop, (∀ a, K a → a = r0) → Sim G (f_X10_commonDivisor x0 x2) K 0 [(0, .long x0), (2, .long x2)] [] μ from S (fun a => a = r0) (fun a h => h) _ hf rfl
  intro K hK
  unfold f_X10_commonDivisor
  refine s_iconst (v := 0) hX dX10_commonDivisor_0 (by decide) ?_
  refine s_istore (lv' := [(4, .int 0), (0, .long x0), (2, .long x2)]) hX dX10_commonDivisor_1 (by decide) rfl ?_
  refine s_loop hX 3 33 (fun s : Int64 × Int64 × Int32 => [(0, .long s.1), (2, .long s.2.1), (4, .int s.2.2)]) (fun s : Int64 × Int64 × Int32 => μ) (fun s : Int64 => [(0, .long s)]) (fun s : Int64 => μ) [1, 2, 0] rfl rfl rfl ?_ ?_
  · intro Kq5 hIq5 hJq5 sq
    obtain ⟨x0_1, x2_2, x4_3⟩ := sq
    refine s_cu3 ?_
    show Sim G _ _ 3 [(0, .long x0_1), (2, .long x2_2), (4, .int x4_3)] [] μ
    refine s_iload hX dX10_commonDivisor_3 2 rfl ?_
    refine s_sipush (v := 200) hX dX10_commonDivisor_5 (by decide) ?_
    refine s_icmp_ge hX 33 dX10_commonDivisor_8 (by decide) ?_ ?_
    · exact s_end hX (hJq5 x0_1) [0] rfl
    · refine s_lload_n hX dX10_commonDivisor_11 rfl 1 rfl ?_
      refine s_lconst (v := 0) hX dX10_commonDivisor_12 (by decide) ?_
      refine s_lcmp_eq hX 33 dX10_commonDivisor_13 dX10_commonDivisor_14 (by decide) ?_ ?_
      · exact s_end hX (hJq5 x0_1) [0] rfl
      · refine s_lload_n hX dX10_commonDivisor_17 rfl 0 rfl ?_
        refine s_lload_n hX dX10_commonDivisor_18 rfl 1 rfl ?_
        refine s_lremZ hX dX10_commonDivisor_19 ?_
        refine s_lstore (lv' := [(5, .long (x0_1 - x0_1 / x2_2 * x2_2)), (0, .long x0_1), (2, .long x2_2), (4, .int x4_3)]) hX dX10_commonDivisor_20 (by decide) rfl ?_
        refine s_lload_n hX dX10_commonDivisor_22 rfl 2 rfl ?_
        refine s_lstore_n (lv' := [(0, .long x2_2), (5, .long (x0_1 - x0_1 / x2_2 * x2_2)), (2, .long x2_2), (4, .int x4_3)]) hX dX10_commonDivisor_23 rfl (by decide) rfl ?_
        refine s_lload hX dX10_commonDivisor_24 1 rfl ?_
        refine s_lstore_n (lv' := [(2, .long (x0_1 - x0_1 / x2_2 * x2_2)), (0, .long x2_2), (5, .long (x0_1 - x0_1 / x2_2 * x2_2)), (4, .int x4_3)]) hX dX10_commonDivisor_26 rfl (by decide) rfl ?_
        refine s_iinc (v := (x4_3 + 1)) (lv' := [(4, .int (x4_3 + 1)), (2, .long (x0_1 - x0_1 / x2_2 * x2_2)), (0, .long x2_2), (5, .long (x0_1 - x0_1 / x2_2 * x2_2))]) hX dX10_commonDivisor_27 3 rfl rfl (by decide) rfl ?_
        refine s_goto hX 3 dX10_commonDivisor_30 (by decide) ?_
        exact s_end hX (hIq5 (x2_2, (x0_1 - x0_1 / x2_2 * x2_2), (x4_3 + 1))) [2, 1, 0] rfl
  · intro sq
    obtain ⟨x0_4, rfl⟩ : ∃ z, z = sq := ⟨_, rfl⟩
    show Sim G _ _ 33 [(0, .long x0_4)] [] μ
    refine s_lload_n hX dX10_commonDivisor_33 rfl 0 rfl ?_
    exact s_lretr hK hR dX10_commonDivisor_34
theorem dX10_howMany_0 : decode cX10_howMany 0 = .ok (.iload_n 1, 1) := by decide +kernel
theorem dX10_howMany_1 : decode cX10_howMany 1 = .ok (.tableswitch 102 0 5 #[39, 50, 61, 72, 83, 94], 39) := by decide +kernel
theorem dX10_howMany_40 : decode cX10_howMany 40 = .ok (.aload_n 0, 1) := by decide +kernel
theorem dX10_howMany_41 : decode cX10_howMany 41 = .ok (.getfield 10, 3) := by decide +kernel
theorem dX10_howMany_44 : decode cX10_howMany 44 = .ok (.getfield 146, 3) := by decide +kernel
theorem dX10_howMany_47 : decode cX10_howMany 47 = .ok (.getfield 265, 3) := by decide +kernel
theorem dX10_howMany_50 : decode cX10_howMany 50 = .ok (.ireturn, 1) := by decide +kernel
theorem dX10_howMany_51 : decode cX10_howMany 51 = .ok (.aload_n 0, 1) := by decide +kernel
theorem dX10_howMany_52 : decode cX10_howMany 52 = .ok (.getfield 10, 3) := by decide +kernel
theorem dX10_howMany_55 : decode cX10_howMany 55 = .ok (.getfield 146, 3) := by decide +kernel
theorem dX10_howMany_58 : decode cX10_howMany 58 = .ok (.getfield 319, 3) := by decide +kernel
theorem dX10_howMany_61 : decode cX10_howMany 61 = .ok (.ireturn, 1) := by decide +kernel
theorem dX10_howMany_62 : decode cX10_howMany 62 = .ok (.aload_n 0, 1) := by decide +kernel
theorem dX10_howMany_63 : decode cX10_howMany 63 = .ok (.getfield 10, 3) := by decide +kernel
theorem dX10_howMany_66 : decode cX10_howMany 66 = .ok (.getfield 234, 3) := by decide +kernel
theorem dX10_howMany_69 : decode cX10_howMany 69 = .ok (.getfield 322, 3) := by decide +kernel
theorem dX10_howMany_72 : decode cX10_howMany 72 = .ok (.ireturn, 1) := by decide +kernel
theorem dX10_howMany_73 : decode cX10_howMany 73 = .ok (.aload_n 0, 1) := by decide +kernel
theorem dX10_howMany_74 : decode cX10_howMany 74 = .ok (.getfield 10, 3) := by decide +kernel
theorem dX10_howMany_77 : decode cX10_howMany 77 = .ok (.getfield 146, 3) := by decide +kernel
theorem dX10_howMany_80 : decode cX10_howMany 80 = .ok (.getfield 325, 3) := by decide +kernel
theorem dX10_howMany_83 : decode cX10_howMany 83 = .ok (.ireturn, 1) := by decide +kernel
theorem dX10_howMany_84 : decode cX10_howMany 84 = .ok (.aload_n 0, 1) := by decide +kernel
theorem dX10_howMany_85 : decode cX10_howMany 85 = .ok (.getfield 10, 3) := by decide +kernel
theorem dX10_howMany_88 : decode cX10_howMany 88 = .ok (.getfield 328, 3) := by decide +kernel
theorem dX10_howMany_91 : decode cX10_howMany 91 = .ok (.getfield 332, 3) := by decide +kernel
theorem dX10_howMany_94 : decode cX10_howMany 94 = .ok (.ireturn, 1) := by decide +kernel
theorem dX10_howMany_95 : decode cX10_howMany 95 = .ok (.aload_n 0, 1) := by decide +kernel
theorem dX10_howMany_96 : decode cX10_howMany 96 = .ok (.getfield 27, 3) := by decide +kernel
theorem dX10_howMany_99 : decode cX10_howMany 99 = .ok (.getfield 124, 3) := by decide +kernel
theorem dX10_howMany_102 : decode cX10_howMany 102 = .ok (.ireturn, 1) := by decide +kernel
theorem dX10_howMany_103 : decode cX10_howMany 103 = .ok (.aload_n 0, 1) := by decide +kernel
theorem dX10_howMany_104 : decode cX10_howMany 104 = .ok (.getfield 10, 3) := by decide +kernel
theorem dX10_howMany_107 : decode cX10_howMany 107 = .ok (.getfield 146, 3) := by decide +kernel
theorem dX10_howMany_110 : decode cX10_howMany 110 = .ok (.getfield 278, 3) := by decide +kernel
theorem dX10_howMany_113 : decode cX10_howMany 113 = .ok (.ireturn, 1) := by decide +kernel
noncomputable def f_X10_howMany (x1 : Int32) (μ : Mem) : Option Int32 :=
  if x1 = 0 then
    some (μ.1 2 0)
  else
  if x1 = 1 then
    some (μ.1 2 1)
  else
  if x1 = 2 then
    some (μ.1 7 0)
  else
  if x1 = 3 then
    some (μ.1 2 2)
  else
  if x1 = 4 then
    some (μ.1 10 0)
  else
  if x1 = 5 then
    some (μ.1 45 1)
  else
  some (μ.1 2 3)
set_option maxHeartbeats 4000000 in
set_option maxRecDepth 100000 in
theorem c_X10_howMany {g : GT} {x1 : Int32} {μ : Mem} {r0 : Int32} (hf : f_X10_howMany x1 μ = some r0) : CI g yX10_howMany cX10_howMany 2 (some .int) 1 [rf g 0, .int x1] μ r0 μ := by
  refine mk_i (by decide) (Nat.le_of_ble_eq_true rfl) ?_
  intro G hX hR
  have hX : CX g G cX10_howMany RX10 2 1 := hX
  suffices S : ∀ K : Int32 → Prop, (∀ a, K a → a = r0) → Sim G (f_X10_howMany x1 μ) K 0 [(0, rf g 0), (1, .int x1)] [] μ from S (fun a => a = r0) (fun a h => h) _ hf rfl
  intro K hK
  unfold f_X10_howMany
  refine s_iload_n hX dX10_howMany_0 rfl 1 rfl ?_
  refine s_tabC (v := 0) (a := 0) hX 40 dX10_howMany_1 (by decide) (by decide) (by decide) rfl (by decide) ?_ (fun hne1 => ?_)
  · refine s_aload_n hX dX10_howMany_40 rfl 0 rfl ?_
    refine s_getR hX (d := 1) 1 flX10_10 rfl rfl dX10_howMany_41 ?_
    refine s_getR hX (d := 1) 2 flX10_146 rfl rfl dX10_howMany_44 ?_
    refine s_getI hX flX10_265 rfl dX10_howMany_47 ?_
    exact s_iretr hK hR dX10_howMany_50
  refine s_tabC (v := 1) (a := 1) hX 51 dX10_howMany_1 (by decide) (by decide) (by decide) rfl (by decide) ?_ (fun hne2 => ?_)
  · refine s_aload_n hX dX10_howMany_51 rfl 0 rfl ?_
    refine s_getR hX (d := 1) 1 flX10_10 rfl rfl dX10_howMany_52 ?_
    refine s_getR hX (d := 1) 2 flX10_146 rfl rfl dX10_howMany_55 ?_
    refine s_getI hX flX10_319 rfl dX10_howMany_58 ?_
    exact s_iretr hK hR dX10_howMany_61
  refine s_tabC (v := 2) (a := 2) hX 62 dX10_howMany_1 (by decide) (by decide) (by decide) rfl (by decide) ?_ (fun hne3 => ?_)
  · refine s_aload_n hX dX10_howMany_62 rfl 0 rfl ?_
    refine s_getR hX (d := 1) 1 flX10_10 rfl rfl dX10_howMany_63 ?_
    refine s_getR hX (d := 6) 7 flX10_234 rfl rfl dX10_howMany_66 ?_
    refine s_getI hX flX10_322 rfl dX10_howMany_69 ?_
    exact s_iretr hK hR dX10_howMany_72
  refine s_tabC (v := 3) (a := 3) hX 73 dX10_howMany_1 (by decide) (by decide) (by decide) rfl (by decide) ?_ (fun hne4 => ?_)
  · refine s_aload_n hX dX10_howMany_73 rfl 0 rfl ?_
    refine s_getR hX (d := 1) 1 flX10_10 rfl rfl dX10_howMany_74 ?_
    refine s_getR hX (d := 1) 2 flX10_146 rfl rfl dX10_howMany_77 ?_
    refine s_getI hX flX10_325 rfl dX10_howMany_80 ?_
    exact s_iretr hK hR dX10_howMany_83
  refine s_tabC (v := 4) (a := 4) hX 84 dX10_howMany_1 (by decide) (by decide) (by decide) rfl (by decide) ?_ (fun hne5 => ?_)
  · refine s_aload_n hX dX10_howMany_84 rfl 0 rfl ?_
    refine s_getR hX (d := 1) 1 flX10_10 rfl rfl dX10_howMany_85 ?_
    refine s_getR hX (d := 9) 10 flX10_328 rfl rfl dX10_howMany_88 ?_
    refine s_getI hX flX10_332 rfl dX10_howMany_91 ?_
    exact s_iretr hK hR dX10_howMany_94
  refine s_tabC (v := 5) (a := 5) hX 95 dX10_howMany_1 (by decide) (by decide) (by decide) rfl (by decide) ?_ (fun hne6 => ?_)
  · refine s_aload_n hX dX10_howMany_95 rfl 0 rfl ?_
    refine s_getR hX (d := 45) 45 flX10_27 rfl rfl dX10_howMany_96 ?_
    refine s_getI hX flX10_124 rfl dX10_howMany_99 ?_
    exact s_iretr hK hR dX10_howMany_102
  refine s_tabD hX 103 dX10_howMany_1 (by omega) (by decide) ?_
  refine s_aload_n hX dX10_howMany_103 rfl 0 rfl ?_
  refine s_getR hX (d := 1) 1 flX10_10 rfl rfl dX10_howMany_104 ?_
  refine s_getR hX (d := 1) 2 flX10_146 rfl rfl dX10_howMany_107 ?_
  refine s_getI hX flX10_278 rfl dX10_howMany_110 ?_
  exact s_iretr hK hR dX10_howMany_113
theorem dX10_ordersWith_0 : decode cX10_ordersWith 0 = .ok (.iload_n 1, 1) := by decide +kernel
theorem dX10_ordersWith_1 : decode cX10_ordersWith 1 = .ok (.iconst 1, 1) := by decide +kernel
theorem dX10_ordersWith_2 : decode cX10_ordersWith 2 = .ok (.isub, 1) := by decide +kernel
theorem dX10_ordersWith_3 : decode cX10_ordersWith 3 = .ok (.iload_n 0, 1) := by decide +kernel
theorem dX10_ordersWith_4 : decode cX10_ordersWith 4 = .ok (.isub, 1) := by decide +kernel
theorem dX10_ordersWith_5 : decode cX10_ordersWith 5 = .ok (.istore_n 2, 1) := by decide +kernel
theorem dX10_ordersWith_6 : decode cX10_ordersWith 6 = .ok (.iload_n 0, 1) := by decide +kernel
theorem dX10_ordersWith_7 : decode cX10_ordersWith 7 = .ok (.ifCond .lt 23, 3) := by decide +kernel
theorem dX10_ordersWith_10 : decode cX10_ordersWith 10 = .ok (.iload_n 2, 1) := by decide +kernel
theorem dX10_ordersWith_11 : decode cX10_ordersWith 11 = .ok (.ifCond .lt 19, 3) := by decide +kernel
theorem dX10_ordersWith_14 : decode cX10_ordersWith 14 = .ok (.iload_n 0, 1) := by decide +kernel
theorem dX10_ordersWith_15 : decode cX10_ordersWith 15 = .ok (.getstatic 272, 3) := by decide +kernel
theorem dX10_ordersWith_18 : decode cX10_ordersWith 18 = .ok (.arraylength, 1) := by decide +kernel
theorem dX10_ordersWith_19 : decode cX10_ordersWith 19 = .ok (.if_icmp .ge 11, 3) := by decide +kernel
theorem dX10_ordersWith_22 : decode cX10_ordersWith 22 = .ok (.iload_n 2, 1) := by decide +kernel
theorem dX10_ordersWith_23 : decode cX10_ordersWith 23 = .ok (.getstatic 272, 3) := by decide +kernel
theorem dX10_ordersWith_26 : decode cX10_ordersWith 26 = .ok (.arraylength, 1) := by decide +kernel
theorem dX10_ordersWith_27 : decode cX10_ordersWith 27 = .ok (.if_icmp .lt 5, 3) := by decide +kernel
theorem dX10_ordersWith_30 : decode cX10_ordersWith 30 = .ok (.lconst 0, 1) := by decide +kernel
theorem dX10_ordersWith_31 : decode cX10_ordersWith 31 = .ok (.lreturn, 1) := by decide +kernel
theorem dX10_ordersWith_32 : decode cX10_ordersWith 32 = .ok (.getstatic 272, 3) := by decide +kernel
theorem dX10_ordersWith_35 : decode cX10_ordersWith 35 = .ok (.iload_n 0, 1) := by decide +kernel
theorem dX10_ordersWith_36 : decode cX10_ordersWith 36 = .ok (.iaload, 1) := by decide +kernel
theorem dX10_ordersWith_37 : decode cX10_ordersWith 37 = .ok (.i2l, 1) := by decide +kernel
theorem dX10_ordersWith_38 : decode cX10_ordersWith 38 = .ok (.getstatic 272, 3) := by decide +kernel
theorem dX10_ordersWith_41 : decode cX10_ordersWith 41 = .ok (.iload_n 2, 1) := by decide +kernel
theorem dX10_ordersWith_42 : decode cX10_ordersWith 42 = .ok (.iaload, 1) := by decide +kernel
theorem dX10_ordersWith_43 : decode cX10_ordersWith 43 = .ok (.i2l, 1) := by decide +kernel
theorem dX10_ordersWith_44 : decode cX10_ordersWith 44 = .ok (.lmul, 1) := by decide +kernel
theorem dX10_ordersWith_45 : decode cX10_ordersWith 45 = .ok (.lreturn, 1) := by decide +kernel
noncomputable def f_X10_ordersWith (x0 : Int32) (x1 : Int32) (μ : Mem) : Option Int64 :=
  jn (
    some 0
    ) fun j1 =>
  if x0 < 0 then
    j1
  else
    if ((x1 - 1) - x0) < 0 then
      j1
    else
      if x0 < 6 then
        if ((x1 - 1) - x0) < 6 then
          chk x0 6 (
            chk ((x1 - 1) - x0) 6 (
              some (((FACT (ix x0)) : Int32).toInt64 * ((FACT (ix ((x1 - 1) - x0))) : Int32).toInt64)
              )
            )
        else
          j1
      else
        j1
set_option maxHeartbeats 4000000 in
set_option maxRecDepth 100000 in
theorem c_X10_ordersWith {g : GT} {x0 : Int32} {x1 : Int32} {μ : Mem} {r0 : Int64} (hf : f_X10_ordersWith x0 x1 μ = some r0) : CL g yX10_ordersWith cX10_ordersWith 3 (some .long) 1 [.int x0, .int x1] μ r0 μ := by
  refine mk_l (by decide) (Nat.le_of_ble_eq_true rfl) ?_
  intro G hX hR
  have hX : CX g G cX10_ordersWith RX10 3 1 := hX
  suffices S : ∀ K : Int64 → Prop, (∀ a, K a → a = r0) → Sim G (f_X10_ordersWith x0 x1 μ) K 0 [(0, .int x0), (1, .int x1)] [] μ from S (fun a => a = r0) (fun a h => h) _ hf rfl
  intro K hK
  unfold f_X10_ordersWith
  refine s_iload_n hX dX10_ordersWith_0 rfl 1 rfl ?_
  refine s_iconst (v := 1) hX dX10_ordersWith_1 (by decide) ?_
  refine s_isub hX dX10_ordersWith_2 ?_
  refine s_iload_n hX dX10_ordersWith_3 rfl 0 rfl ?_
  refine s_isub hX dX10_ordersWith_4 ?_
  refine s_istore_n (lv' := [(2, .int ((x1 - 1) - x0)), (0, .int x0), (1, .int x1)]) hX dX10_ordersWith_5 rfl (by decide) rfl ?_
  refine s_iload_n hX dX10_ordersWith_6 rfl 1 rfl ?_
  refine s_jn (C := fun j => Sim G (j) K 30 [] [] μ) ?_ (fun j1 hj1 => ?_)
  · skip
    show Sim G _ _ 30 [] [] μ
    refine s_lconst (v := 0) hX dX10_ordersWith_30 (by decide) ?_
    exact s_lretr hK hR dX10_ordersWith_31
  refine s_if_lt hX 30 dX10_ordersWith_7 (by decide) ?_ ?_
  · exact s_to hX [] rfl (hj1)
  · refine s_iload_n hX dX10_ordersWith_10 rfl 0 rfl ?_
    refine s_if_lt hX 30 dX10_ordersWith_11 (by decide) ?_ ?_
    · exact s_to hX [] rfl (hj1)
    · refine s_iload_n hX dX10_ordersWith_14 rfl 1 rfl ?_
      refine s_gets0 hX ksX10_272 dX10_ordersWith_15 ?_
      refine s_tlen0 (v := 6) hX (by decide) dX10_ordersWith_18 ?_
      refine s_icmp_ge hX 30 dX10_ordersWith_19 (by decide) ?_ ?_
      · exact s_to hX [] rfl (hj1)
      · refine s_iload_n hX dX10_ordersWith_22 rfl 0 rfl ?_
        refine s_gets0 hX ksX10_272 dX10_ordersWith_23 ?_
        refine s_tlen0 (v := 6) hX (by decide) dX10_ordersWith_26 ?_
        refine s_icmp_lt hX 32 dX10_ordersWith_27 (by decide) ?_ ?_
        · refine s_gets0 hX ksX10_272 dX10_ordersWith_32 ?_
          refine s_iload_n hX dX10_ordersWith_35 rfl 1 rfl ?_
          refine s_tald0 hX dX10_ordersWith_36 ?_
          refine s_i2l hX dX10_ordersWith_37 ?_
          refine s_gets0 hX ksX10_272 dX10_ordersWith_38 ?_
          refine s_iload_n hX dX10_ordersWith_41 rfl 0 rfl ?_
          refine s_tald0 hX dX10_ordersWith_42 ?_
          refine s_i2l hX dX10_ordersWith_43 ?_
          refine s_lmul hX dX10_ordersWith_44 ?_
          exact s_lretr hK hR dX10_ordersWith_45
        · exact s_to hX [] rfl (hj1)
theorem dX10_refuseAsBad_0 : decode cX10_refuseAsBad 0 = .ok (.aload_n 0, 1) := by decide +kernel
theorem dX10_refuseAsBad_1 : decode cX10_refuseAsBad 1 = .ok (.dup, 1) := by decide +kernel
theorem dX10_refuseAsBad_2 : decode cX10_refuseAsBad 2 = .ok (.getfield 76, 3) := by decide +kernel
theorem dX10_refuseAsBad_5 : decode cX10_refuseAsBad 5 = .ok (.iconst 1, 1) := by decide +kernel
theorem dX10_refuseAsBad_6 : decode cX10_refuseAsBad 6 = .ok (.iadd, 1) := by decide +kernel
theorem dX10_refuseAsBad_7 : decode cX10_refuseAsBad 7 = .ok (.putfield 76, 3) := by decide +kernel
theorem dX10_refuseAsBad_10 : decode cX10_refuseAsBad 10 = .ok (.iload_n 1, 1) := by decide +kernel
theorem dX10_refuseAsBad_11 : decode cX10_refuseAsBad 11 = .ok (.ireturn, 1) := by decide +kernel
noncomputable def f_X10_refuseAsBad (x1 : Int32) (μ : Mem) : Option (Int32 × Mem) :=
  lt (setI μ 0 12 ((μ.1 0 12) + 1)) fun ν1 =>
  some (x1, ν1)
set_option maxHeartbeats 4000000 in
set_option maxRecDepth 100000 in
theorem c_X10_refuseAsBad {g : GT} {x1 : Int32} {μ : Mem} {μ0 : Mem} {r0 : Int32} (hf : f_X10_refuseAsBad x1 μ = some (r0, μ0)) : CI g yX10_refuseAsBad cX10_refuseAsBad 2 (some .int) 1 [rf g 0, .int x1] μ r0 μ0 := by
  refine mk_i (by decide) (Nat.le_of_ble_eq_true rfl) ?_
  intro G hX hR
  have hX : CX g G cX10_refuseAsBad RX10 2 1 := hX
  suffices S : ∀ K : (Int32 × Mem) → Prop, (∀ a, K a → a = (r0, μ0)) → Sim G (f_X10_refuseAsBad x1 μ) K 0 [(0, rf g 0), (1, .int x1)] [] μ from S (fun a => a = (r0, μ0)) (fun a h => h) _ hf rfl
  intro K hK
  unfold f_X10_refuseAsBad
  refine s_aload_n hX dX10_refuseAsBad_0 rfl 0 rfl ?_
  refine s_dup hX dX10_refuseAsBad_1 rfl ?_
  refine s_getI hX flX10_76 rfl dX10_refuseAsBad_2 ?_
  refine s_iconst (v := 1) hX dX10_refuseAsBad_5 (by decide) ?_
  refine s_iadd hX dX10_refuseAsBad_6 ?_
  refine s_putI hX flX10_76 rfl ⟨rfl, rfl⟩ dX10_refuseAsBad_7 (fun ν1 => ?_)
  refine s_iload_n hX dX10_refuseAsBad_10 rfl 1 rfl ?_
  exact s_ireti hK hR dX10_refuseAsBad_11
theorem dX10_tally_0 : decode cX10_tally 0 = .ok (.iload_n 1, 1) := by decide +kernel
theorem dX10_tally_1 : decode cX10_tally 1 = .ok (.bipush (-2), 2) := by decide +kernel
theorem dX10_tally_3 : decode cX10_tally 3 = .ok (.if_icmp .ne 16, 3) := by decide +kernel
theorem dX10_tally_6 : decode cX10_tally 6 = .ok (.aload_n 0, 1) := by decide +kernel
theorem dX10_tally_7 : decode cX10_tally 7 = .ok (.dup, 1) := by decide +kernel
theorem dX10_tally_8 : decode cX10_tally 8 = .ok (.getfield 76, 3) := by decide +kernel
theorem dX10_tally_11 : decode cX10_tally 11 = .ok (.iconst 1, 1) := by decide +kernel
theorem dX10_tally_12 : decode cX10_tally 12 = .ok (.iadd, 1) := by decide +kernel
theorem dX10_tally_13 : decode cX10_tally 13 = .ok (.putfield 76, 3) := by decide +kernel
theorem dX10_tally_16 : decode cX10_tally 16 = .ok (.goto 38, 3) := by decide +kernel
theorem dX10_tally_19 : decode cX10_tally 19 = .ok (.iload_n 1, 1) := by decide +kernel
theorem dX10_tally_20 : decode cX10_tally 20 = .ok (.bipush (-3), 2) := by decide +kernel
theorem dX10_tally_22 : decode cX10_tally 22 = .ok (.if_icmp .ne 16, 3) := by decide +kernel
theorem dX10_tally_25 : decode cX10_tally 25 = .ok (.aload_n 0, 1) := by decide +kernel
theorem dX10_tally_26 : decode cX10_tally 26 = .ok (.dup, 1) := by decide +kernel
theorem dX10_tally_27 : decode cX10_tally 27 = .ok (.getfield 80, 3) := by decide +kernel
theorem dX10_tally_30 : decode cX10_tally 30 = .ok (.iconst 1, 1) := by decide +kernel
theorem dX10_tally_31 : decode cX10_tally 31 = .ok (.iadd, 1) := by decide +kernel
theorem dX10_tally_32 : decode cX10_tally 32 = .ok (.putfield 80, 3) := by decide +kernel
theorem dX10_tally_35 : decode cX10_tally 35 = .ok (.goto 19, 3) := by decide +kernel
theorem dX10_tally_38 : decode cX10_tally 38 = .ok (.iload_n 1, 1) := by decide +kernel
theorem dX10_tally_39 : decode cX10_tally 39 = .ok (.bipush (-4), 2) := by decide +kernel
theorem dX10_tally_41 : decode cX10_tally 41 = .ok (.if_icmp .ne 13, 3) := by decide +kernel
theorem dX10_tally_44 : decode cX10_tally 44 = .ok (.aload_n 0, 1) := by decide +kernel
theorem dX10_tally_45 : decode cX10_tally 45 = .ok (.dup, 1) := by decide +kernel
theorem dX10_tally_46 : decode cX10_tally 46 = .ok (.getfield 83, 3) := by decide +kernel
theorem dX10_tally_49 : decode cX10_tally 49 = .ok (.iconst 1, 1) := by decide +kernel
theorem dX10_tally_50 : decode cX10_tally 50 = .ok (.iadd, 1) := by decide +kernel
theorem dX10_tally_51 : decode cX10_tally 51 = .ok (.putfield 83, 3) := by decide +kernel
theorem dX10_tally_54 : decode cX10_tally 54 = .ok (.iload_n 1, 1) := by decide +kernel
theorem dX10_tally_55 : decode cX10_tally 55 = .ok (.ireturn, 1) := by decide +kernel
noncomputable def f_X10_tally (x1 : Int32) (μ : Mem) : Option (Int32 × Mem) :=
  jn (fun (ν1 : Mem) =>
    some (x1, ν1)
    ) fun j2 =>
  if x1 = (-2) then
    lt (setI μ 0 12 ((μ.1 0 12) + 1)) fun ν5 =>
    j2 ν5
  else
    if x1 = (-3) then
      lt (setI μ 0 13 ((μ.1 0 13) + 1)) fun ν4 =>
      j2 ν4
    else
      if x1 = (-4) then
        lt (setI μ 0 14 ((μ.1 0 14) + 1)) fun ν3 =>
        j2 ν3
      else
        j2 μ
set_option maxHeartbeats 4000000 in
set_option maxRecDepth 100000 in
theorem c_X10_tally {g : GT} {x1 : Int32} {μ : Mem} {μ0 : Mem} {r0 : Int32} (hf : f_X10_tally x1 μ = some (r0, μ0)) : CI g yX10_tally cX10_tally 2 (some .int) 1 [rf g 0, .int x1] μ r0 μ0 := by
  refine mk_i (by decide) (Nat.le_of_ble_eq_true rfl) ?_
  intro G hX hR
  have hX : CX g G cX10_tally RX10 2 1 := hX
  suffices S : ∀ K : (Int32 × Mem) → Prop, (∀ a, K a → a = (r0, μ0)) → Sim G (f_X10_tally x1 μ) K 0 [(0, rf g 0), (1, .int x1)] [] μ from S (fun a => a = (r0, μ0)) (fun a h => h) _ hf rfl
  intro K hK
  unfold f_X10_tally
  refine s_iload_n hX dX10_tally_0 rfl 1 rfl ?_
  refine s_bipush (v := (-2)) hX dX10_tally_1 (by decide) ?_
  refine s_jn (C := fun j => ∀ (ν1 : Mem), Sim G (j ν1) K 54 [(1, .int x1)] [] ν1) ?_ (fun j2 hj2 => ?_)
  · intro ν1
    show Sim G _ _ 54 [(1, .int x1)] [] ν1
    refine s_iload_n hX dX10_tally_54 rfl 0 rfl ?_
    exact s_ireti hK hR dX10_tally_55
  refine s_icmp_ne hX 19 dX10_tally_3 (by decide) ?_ ?_
  · refine s_iload_n hX dX10_tally_19 rfl 1 rfl ?_
    refine s_bipush (v := (-3)) hX dX10_tally_20 (by decide) ?_
    refine s_icmp_ne hX 38 dX10_tally_22 (by decide) ?_ ?_
    · refine s_iload_n hX dX10_tally_38 rfl 1 rfl ?_
      refine s_bipush (v := (-4)) hX dX10_tally_39 (by decide) ?_
      refine s_icmp_ne hX 54 dX10_tally_41 (by decide) ?_ ?_
      · exact s_to hX [1] rfl (hj2 μ)
      · refine s_aload_n hX dX10_tally_44 rfl 0 rfl ?_
        refine s_dup hX dX10_tally_45 rfl ?_
        refine s_getI hX flX10_83 rfl dX10_tally_46 ?_
        refine s_iconst (v := 1) hX dX10_tally_49 (by decide) ?_
        refine s_iadd hX dX10_tally_50 ?_
        refine s_putI hX flX10_83 rfl ⟨rfl, rfl⟩ dX10_tally_51 (fun ν3 => ?_)
        exact s_to hX [1] rfl (hj2 ν3)
    · refine s_aload_n hX dX10_tally_25 rfl 0 rfl ?_
      refine s_dup hX dX10_tally_26 rfl ?_
      refine s_getI hX flX10_80 rfl dX10_tally_27 ?_
      refine s_iconst (v := 1) hX dX10_tally_30 (by decide) ?_
      refine s_iadd hX dX10_tally_31 ?_
      refine s_putI hX flX10_80 rfl ⟨rfl, rfl⟩ dX10_tally_32 (fun ν4 => ?_)
      refine s_goto hX 54 dX10_tally_35 (by decide) ?_
      exact s_to hX [1] rfl (hj2 ν4)
  · refine s_aload_n hX dX10_tally_6 rfl 0 rfl ?_
    refine s_dup hX dX10_tally_7 rfl ?_
    refine s_getI hX flX10_76 rfl dX10_tally_8 ?_
    refine s_iconst (v := 1) hX dX10_tally_11 (by decide) ?_
    refine s_iadd hX dX10_tally_12 ?_
    refine s_putI hX flX10_76 rfl ⟨rfl, rfl⟩ dX10_tally_13 (fun ν5 => ?_)
    refine s_goto hX 54 dX10_tally_16 (by decide) ?_
    exact s_to hX [1] rfl (hj2 ν5)
theorem dX11_all_0 : decode cX11_all 0 = .ok (.iconst 1, 1) := by decide +kernel
theorem dX11_all_1 : decode cX11_all 1 = .ok (.aload_n 0, 1) := by decide +kernel
theorem dX11_all_2 : decode cX11_all 2 = .ok (.getfield 7, 3) := by decide +kernel
theorem dX11_all_5 : decode cX11_all 5 = .ok (.iconst 0, 1) := by decide +kernel
theorem dX11_all_6 : decode cX11_all 6 = .ok (.iaload, 1) := by decide +kernel
theorem dX11_all_7 : decode cX11_all 7 = .ok (.ishl, 1) := by decide +kernel
theorem dX11_all_8 : decode cX11_all 8 = .ok (.iconst 1, 1) := by decide +kernel
theorem dX11_all_9 : decode cX11_all 9 = .ok (.isub, 1) := by decide +kernel
theorem dX11_all_10 : decode cX11_all 10 = .ok (.ireturn, 1) := by decide +kernel
noncomputable def f_X11_all  (μ : Mem) : Option Int32 :=
  some (((1 : Int32) <<< ((μ.1 113 0) &&& 31)) - 1)
set_option maxHeartbeats 4000000 in
set_option maxRecDepth 100000 in
theorem c_X11_all {g : GT}  {μ : Mem} {r0 : Int32} (hf : f_X11_all  μ = some r0) : CI g yX11_all cX11_all 1 (some .int) 1 [rf g 112] μ r0 μ := by
  refine mk_i (by decide) (Nat.le_of_ble_eq_true rfl) ?_
  intro G hX hR
  have hX : CX g G cX11_all RX11 1 1 := hX
  suffices S : ∀ K : Int32 → Prop, (∀ a, K a → a = r0) → Sim G (f_X11_all  μ) K 0 [(0, rf g 112)] [] μ from S (fun a => a = r0) (fun a h => h) _ hf rfl
  intro K hK
  unfold f_X11_all
  refine s_iconst (v := 1) hX dX11_all_0 (by decide) ?_
  refine s_aload_n hX dX11_all_1 rfl 0 rfl ?_
  refine s_getR hX (d := 1) 113 flX11_7 rfl rfl dX11_all_2 ?_
  refine s_iconst (v := 0) hX dX11_all_5 (by decide) ?_
  refine s_ialdK hX rfl rfl (by decide) rfl dX11_all_6 ?_
  refine s_ishl hX dX11_all_7 ?_
  refine s_iconst (v := 1) hX dX11_all_8 (by decide) ?_
  refine s_isub hX dX11_all_9 ?_
  exact s_iretr hK hR dX11_all_10
theorem dX11_asNow_0 : decode cX11_asNow 0 = .ok (.iconst 0, 1) := by decide +kernel
theorem dX11_asNow_1 : decode cX11_asNow 1 = .ok (.istore_n 1, 1) := by decide +kernel
theorem dX11_asNow_2 : decode cX11_asNow 2 = .ok (.iload_n 1, 1) := by decide +kernel
theorem dX11_asNow_3 : decode cX11_asNow 3 = .ok (.bipush 10, 2) := by decide +kernel
theorem dX11_asNow_5 : decode cX11_asNow 5 = .ok (.if_icmp .ge 24, 3) := by decide +kernel
theorem dX11_asNow_8 : decode cX11_asNow 8 = .ok (.aload_n 0, 1) := by decide +kernel
theorem dX11_asNow_9 : decode cX11_asNow 9 = .ok (.getfield 32, 3) := by decide +kernel
theorem dX11_asNow_12 : decode cX11_asNow 12 = .ok (.iload_n 1, 1) := by decide +kernel
theorem dX11_asNow_13 : decode cX11_asNow 13 = .ok (.aload_n 0, 1) := by decide +kernel
theorem dX11_asNow_14 : decode cX11_asNow 14 = .ok (.getfield 7, 3) := by decide +kernel
theorem dX11_asNow_17 : decode cX11_asNow 17 = .ok (.bipush 26, 2) := by decide +kernel
theorem dX11_asNow_19 : decode cX11_asNow 19 = .ok (.iload_n 1, 1) := by decide +kernel
theorem dX11_asNow_20 : decode cX11_asNow 20 = .ok (.iadd, 1) := by decide +kernel
theorem dX11_asNow_21 : decode cX11_asNow 21 = .ok (.iaload, 1) := by decide +kernel
theorem dX11_asNow_22 : decode cX11_asNow 22 = .ok (.iastore, 1) := by decide +kernel
theorem dX11_asNow_23 : decode cX11_asNow 23 = .ok (.iinc 1 1, 3) := by decide +kernel
theorem dX11_asNow_26 : decode cX11_asNow 26 = .ok (.goto (-24), 3) := by decide +kernel
theorem dX11_asNow_29 : decode cX11_asNow 29 = .ok (.return_, 1) := by decide +kernel
noncomputable def f_X11_asNow  (μ : Mem) : Option Mem :=
  bd (lp (ε := Mem) (cu2 fun (x1_1 : Int32) (ν2 : Mem) =>
    if x1_1 < 10 then
      chk (26 + x1_1) 184 (
        chk x1_1 10 (lt (setI ν2 120 (ix x1_1) (ν2.1 113 (ix (26 + x1_1)))) fun ν5 =>
          some (.inl ((x1_1 + 1), ν5))
          )
        )
    else
      some (.inr ν2)
    ) (0, μ)) (fun (ν3 : Mem) =>
    some ν3
    )
set_option maxHeartbeats 4000000 in
set_option maxRecDepth 100000 in
theorem c_X11_asNow {g : GT}  {μ : Mem} {μ0 : Mem} (hf : f_X11_asNow  μ = some μ0) : CV g yX11_asNow cX11_asNow 2 (none) 1 [rf g 112] μ μ0 := by
  refine mk_v (by decide) (Nat.le_of_ble_eq_true rfl) ?_
  intro G hX hR
  have hX : CX g G cX11_asNow RX11 2 1 := hX
  suffices S : ∀ K : Mem → Prop, (∀ a, K a → a = μ0) → Sim G (f_X11_asNow  μ) K 0 [(0, rf g 112)] [] μ from S (fun a => a = μ0) (fun a h => h) _ hf rfl
  intro K hK
  unfold f_X11_asNow
  refine s_iconst (v := 0) hX dX11_asNow_0 (by decide) ?_
  refine s_istore_n (lv' := [(1, .int 0), (0, rf g 112)]) hX dX11_asNow_1 rfl (by decide) rfl ?_
  refine s_loop hX 2 29 (fun s : Int32 × Mem => [(0, rf g 112), (1, .int s.1)]) (fun s : Int32 × Mem => s.2) (fun s : Mem => []) (fun s : Mem => s) [1, 0] rfl rfl rfl ?_ ?_
  · intro Kq4 hIq4 hJq4 sq
    obtain ⟨x1_1, ν2⟩ := sq
    refine s_cu2 ?_
    show Sim G _ _ 2 [(0, rf g 112), (1, .int x1_1)] [] ν2
    refine s_iload_n hX dX11_asNow_2 rfl 1 rfl ?_
    refine s_bipush (v := 10) hX dX11_asNow_3 (by decide) ?_
    refine s_icmp_ge hX 29 dX11_asNow_5 (by decide) ?_ ?_
    · exact s_end hX (hJq4 ν2) [] rfl
    · refine s_aload_n hX dX11_asNow_8 rfl 0 rfl ?_
      refine s_getR hX (d := 8) 120 flX11_32 rfl rfl dX11_asNow_9 ?_
      refine s_iload_n hX dX11_asNow_12 rfl 1 rfl ?_
      refine s_aload_n hX dX11_asNow_13 rfl 0 rfl ?_
      refine s_getR hX (d := 1) 113 flX11_7 rfl rfl dX11_asNow_14 ?_
      refine s_bipush (v := 26) hX dX11_asNow_17 (by decide) ?_
      refine s_iload_n hX dX11_asNow_19 rfl 1 rfl ?_
      refine s_iadd hX dX11_asNow_20 ?_
      refine s_iald hX rfl rfl dX11_asNow_21 ?_
      refine s_iast hX rfl rfl dX11_asNow_22 (fun ν5 => ?_)
      refine s_iinc (v := (x1_1 + 1)) (lv' := [(1, .int (x1_1 + 1)), (0, rf g 112)]) hX dX11_asNow_23 1 rfl rfl (by decide) rfl ?_
      refine s_goto hX 2 dX11_asNow_26 (by decide) ?_
      exact s_end hX (hIq4 ((x1_1 + 1), ν5)) [1, 0] rfl
  · intro sq
    obtain ⟨ν3, rfl⟩ : ∃ z, z = sq := ⟨_, rfl⟩
    show Sim G _ _ 29 [] [] ν3
    exact s_vreti hK hR dX11_asNow_29
theorem dX11_begins_0 : decode cX11_begins 0 = .ok (.iconst 0, 1) := by decide +kernel
theorem dX11_begins_1 : decode cX11_begins 1 = .ok (.istore_n 2, 1) := by decide +kernel
theorem dX11_begins_2 : decode cX11_begins 2 = .ok (.iload_n 2, 1) := by decide +kernel
theorem dX11_begins_3 : decode cX11_begins 3 = .ok (.sipush 184, 3) := by decide +kernel
theorem dX11_begins_6 : decode cX11_begins 6 = .ok (.if_icmp .ge 16, 3) := by decide +kernel
theorem dX11_begins_9 : decode cX11_begins 9 = .ok (.aload_n 0, 1) := by decide +kernel
theorem dX11_begins_10 : decode cX11_begins 10 = .ok (.getfield 7, 3) := by decide +kernel
theorem dX11_begins_13 : decode cX11_begins 13 = .ok (.iload_n 2, 1) := by decide +kernel
theorem dX11_begins_14 : decode cX11_begins 14 = .ok (.iconst 0, 1) := by decide +kernel
theorem dX11_begins_15 : decode cX11_begins 15 = .ok (.iastore, 1) := by decide +kernel
theorem dX11_begins_16 : decode cX11_begins 16 = .ok (.iinc 2 1, 3) := by decide +kernel
theorem dX11_begins_19 : decode cX11_begins 19 = .ok (.goto (-17), 3) := by decide +kernel
theorem dX11_begins_22 : decode cX11_begins 22 = .ok (.aload_n 0, 1) := by decide +kernel
theorem dX11_begins_23 : decode cX11_begins 23 = .ok (.getfield 7, 3) := by decide +kernel
theorem dX11_begins_26 : decode cX11_begins 26 = .ok (.iconst 0, 1) := by decide +kernel
theorem dX11_begins_27 : decode cX11_begins 27 = .ok (.iload_n 1, 1) := by decide +kernel
theorem dX11_begins_28 : decode cX11_begins 28 = .ok (.iastore, 1) := by decide +kernel
theorem dX11_begins_29 : decode cX11_begins 29 = .ok (.return_, 1) := by decide +kernel
noncomputable def f_X11_begins (x1 : Int32) (μ : Mem) : Option Mem :=
  bd (lp (ε := Mem) (cu2 fun (x2_1 : Int32) (ν2 : Mem) =>
    if x2_1 < 184 then
      chk x2_1 184 (lt (setI ν2 113 (ix x2_1) 0) fun ν5 =>
        some (.inl ((x2_1 + 1), ν5))
        )
    else
      some (.inr ν2)
    ) (0, μ)) (fun (ν3 : Mem) =>
    lt (setI ν3 113 0 x1) fun ν6 =>
    some ν6
    )
set_option maxHeartbeats 4000000 in
set_option maxRecDepth 100000 in
theorem c_X11_begins {g : GT} {x1 : Int32} {μ : Mem} {μ0 : Mem} (hf : f_X11_begins x1 μ = some μ0) : CV g yX11_begins cX11_begins 3 (none) 1 [rf g 112, .int x1] μ μ0 := by
  refine mk_v (by decide) (Nat.le_of_ble_eq_true rfl) ?_
  intro G hX hR
  have hX : CX g G cX11_begins RX11 3 1 := hX
  suffices S : ∀ K : Mem → Prop, (∀ a, K a → a = μ0) → Sim G (f_X11_begins x1 μ) K 0 [(0, rf g 112), (1, .int x1)] [] μ from S (fun a => a = μ0) (fun a h => h) _ hf rfl
  intro K hK
  unfold f_X11_begins
  refine s_iconst (v := 0) hX dX11_begins_0 (by decide) ?_
  refine s_istore_n (lv' := [(2, .int 0), (0, rf g 112), (1, .int x1)]) hX dX11_begins_1 rfl (by decide) rfl ?_
  refine s_loop hX 2 22 (fun s : Int32 × Mem => [(0, rf g 112), (1, .int x1), (2, .int s.1)]) (fun s : Int32 × Mem => s.2) (fun s : Mem => [(0, rf g 112), (1, .int x1)]) (fun s : Mem => s) [1, 2, 0] rfl rfl rfl ?_ ?_
  · intro Kq4 hIq4 hJq4 sq
    obtain ⟨x2_1, ν2⟩ := sq
    refine s_cu2 ?_
    show Sim G _ _ 2 [(0, rf g 112), (1, .int x1), (2, .int x2_1)] [] ν2
    refine s_iload_n hX dX11_begins_2 rfl 2 rfl ?_
    refine s_sipush (v := 184) hX dX11_begins_3 (by decide) ?_
    refine s_icmp_ge hX 22 dX11_begins_6 (by decide) ?_ ?_
    · exact s_end hX (hJq4 ν2) [0, 1] rfl
    · refine s_aload_n hX dX11_begins_9 rfl 0 rfl ?_
      refine s_getR hX (d := 1) 113 flX11_7 rfl rfl dX11_begins_10 ?_
      refine s_iload_n hX dX11_begins_13 rfl 2 rfl ?_
      refine s_iconst (v := 0) hX dX11_begins_14 (by decide) ?_
      refine s_iast hX rfl rfl dX11_begins_15 (fun ν5 => ?_)
      refine s_iinc (v := (x2_1 + 1)) (lv' := [(2, .int (x2_1 + 1)), (0, rf g 112), (1, .int x1)]) hX dX11_begins_16 2 rfl rfl (by decide) rfl ?_
      refine s_goto hX 2 dX11_begins_19 (by decide) ?_
      exact s_end hX (hIq4 ((x2_1 + 1), ν5)) [1, 2, 0] rfl
  · intro sq
    obtain ⟨ν3, rfl⟩ : ∃ z, z = sq := ⟨_, rfl⟩
    show Sim G _ _ 22 [(0, rf g 112), (1, .int x1)] [] ν3
    refine s_aload_n hX dX11_begins_22 rfl 0 rfl ?_
    refine s_getR hX (d := 1) 113 flX11_7 rfl rfl dX11_begins_23 ?_
    refine s_iconst (v := 0) hX dX11_begins_26 (by decide) ?_
    refine s_iload_n hX dX11_begins_27 rfl 1 rfl ?_
    refine s_iastK hX rfl rfl (by decide) rfl dX11_begins_28 (fun ν6 => ?_)
    exact s_vreti hK hR dX11_begins_29
theorem dX11_bits_0 : decode cX11_bits 0 = .ok (.iconst 0, 1) := by decide +kernel
theorem dX11_bits_1 : decode cX11_bits 1 = .ok (.istore_n 1, 1) := by decide +kernel
theorem dX11_bits_2 : decode cX11_bits 2 = .ok (.iconst 0, 1) := by decide +kernel
theorem dX11_bits_3 : decode cX11_bits 3 = .ok (.istore_n 2, 1) := by decide +kernel
theorem dX11_bits_4 : decode cX11_bits 4 = .ok (.iload_n 2, 1) := by decide +kernel
theorem dX11_bits_5 : decode cX11_bits 5 = .ok (.bipush 10, 2) := by decide +kernel
theorem dX11_bits_7 : decode cX11_bits 7 = .ok (.if_icmp .ge 17, 3) := by decide +kernel
theorem dX11_bits_10 : decode cX11_bits 10 = .ok (.iload_n 1, 1) := by decide +kernel
theorem dX11_bits_11 : decode cX11_bits 11 = .ok (.iload_n 0, 1) := by decide +kernel
theorem dX11_bits_12 : decode cX11_bits 12 = .ok (.iload_n 2, 1) := by decide +kernel
theorem dX11_bits_13 : decode cX11_bits 13 = .ok (.ishr, 1) := by decide +kernel
theorem dX11_bits_14 : decode cX11_bits 14 = .ok (.iconst 1, 1) := by decide +kernel
theorem dX11_bits_15 : decode cX11_bits 15 = .ok (.iand, 1) := by decide +kernel
theorem dX11_bits_16 : decode cX11_bits 16 = .ok (.iadd, 1) := by decide +kernel
theorem dX11_bits_17 : decode cX11_bits 17 = .ok (.istore_n 1, 1) := by decide +kernel
theorem dX11_bits_18 : decode cX11_bits 18 = .ok (.iinc 2 1, 3) := by decide +kernel
theorem dX11_bits_21 : decode cX11_bits 21 = .ok (.goto (-17), 3) := by decide +kernel
theorem dX11_bits_24 : decode cX11_bits 24 = .ok (.iload_n 1, 1) := by decide +kernel
theorem dX11_bits_25 : decode cX11_bits 25 = .ok (.ireturn, 1) := by decide +kernel
noncomputable def f_X11_bits (x0 : Int32) : Option Int32 :=
  bd (lp (ε := Int32) (cu2 fun (x1_1 : Int32) (x2_2 : Int32) =>
    if x2_2 < 10 then
      lt (x1_1 + ((x0 >>> (x2_2 &&& 31)) &&& 1)) fun x1_5 =>
      some (.inl (x1_5, (x2_2 + 1)))
    else
      some (.inr x1_1)
    ) (0, 0)) (fun (x1_3 : Int32) =>
    some x1_3
    )
set_option maxHeartbeats 4000000 in
set_option maxRecDepth 100000 in
theorem c_X11_bits {g : GT} {x0 : Int32} {μ : Mem} {r0 : Int32} (hf : f_X11_bits x0 = some r0) : CI g yX11_bits cX11_bits 3 (some .int) 1 [.int x0] μ r0 μ := by
  refine mk_i (by decide) (Nat.le_of_ble_eq_true rfl) ?_
  intro G hX hR
  have hX : CX g G cX11_bits RX11 3 1 := hX
  suffices S : ∀ K : Int32 → Prop, (∀ a, K a → a = r0) → Sim G (f_X11_bits x0) K 0 [(0, .int x0)] [] μ from S (fun a => a = r0) (fun a h => h) _ hf rfl
  intro K hK
  unfold f_X11_bits
  refine s_iconst (v := 0) hX dX11_bits_0 (by decide) ?_
  refine s_istore_n (lv' := [(1, .int 0), (0, .int x0)]) hX dX11_bits_1 rfl (by decide) rfl ?_
  refine s_iconst (v := 0) hX dX11_bits_2 (by decide) ?_
  refine s_istore_n (lv' := [(2, .int 0), (1, .int 0), (0, .int x0)]) hX dX11_bits_3 rfl (by decide) rfl ?_
  refine s_loop hX 4 24 (fun s : Int32 × Int32 => [(0, .int x0), (1, .int s.1), (2, .int s.2)]) (fun s : Int32 × Int32 => μ) (fun s : Int32 => [(1, .int s)]) (fun s : Int32 => μ) [2, 1, 0] rfl rfl rfl ?_ ?_
  · intro Kq4 hIq4 hJq4 sq
    obtain ⟨x1_1, x2_2⟩ := sq
    refine s_cu2 ?_
    show Sim G _ _ 4 [(0, .int x0), (1, .int x1_1), (2, .int x2_2)] [] μ
    refine s_iload_n hX dX11_bits_4 rfl 2 rfl ?_
    refine s_bipush (v := 10) hX dX11_bits_5 (by decide) ?_
    refine s_icmp_ge hX 24 dX11_bits_7 (by decide) ?_ ?_
    · exact s_end hX (hJq4 x1_1) [1] rfl
    · refine s_iload_n hX dX11_bits_10 rfl 1 rfl ?_
      refine s_iload_n hX dX11_bits_11 rfl 0 rfl ?_
      refine s_iload_n hX dX11_bits_12 rfl 2 rfl ?_
      refine s_ishr hX dX11_bits_13 ?_
      refine s_iconst (v := 1) hX dX11_bits_14 (by decide) ?_
      refine s_iand hX dX11_bits_15 ?_
      refine s_iadd hX dX11_bits_16 ?_
      refine s_lti (fun x1_5 => ?_)
      refine s_istore_n (lv' := [(1, .int x1_5), (0, .int x0), (2, .int x2_2)]) hX dX11_bits_17 rfl (by decide) rfl ?_
      refine s_iinc (v := (x2_2 + 1)) (lv' := [(2, .int (x2_2 + 1)), (1, .int x1_5), (0, .int x0)]) hX dX11_bits_18 2 rfl rfl (by decide) rfl ?_
      refine s_goto hX 4 dX11_bits_21 (by decide) ?_
      exact s_end hX (hIq4 (x1_5, (x2_2 + 1))) [2, 1, 0] rfl
  · intro sq
    obtain ⟨x1_3, rfl⟩ : ∃ z, z = sq := ⟨_, rfl⟩
    show Sim G _ _ 24 [(1, .int x1_3)] [] μ
    refine s_iload_n hX dX11_bits_24 rfl 0 rfl ?_
    exact s_iretr hK hR dX11_bits_25
theorem dX11_clear_0 : decode cX11_clear 0 = .ok (.aload_n 0, 1) := by decide +kernel
theorem dX11_clear_1 : decode cX11_clear 1 = .ok (.getfield 92, 3) := by decide +kernel
theorem dX11_clear_4 : decode cX11_clear 4 = .ok (.istore_n 1, 1) := by decide +kernel
theorem dX11_clear_5 : decode cX11_clear 5 = .ok (.aload_n 0, 1) := by decide +kernel
theorem dX11_clear_6 : decode cX11_clear 6 = .ok (.iconst 0, 1) := by decide +kernel
theorem dX11_clear_7 : decode cX11_clear 7 = .ok (.putfield 92, 3) := by decide +kernel
theorem dX11_clear_10 : decode cX11_clear 10 = .ok (.iload_n 1, 1) := by decide +kernel
theorem dX11_clear_11 : decode cX11_clear 11 = .ok (.ireturn, 1) := by decide +kernel
noncomputable def f_X11_clear  (μ : Mem) : Option (Int32 × Mem) :=
  lt (setI μ 112 9 0) fun ν1 =>
  some ((μ.1 112 9), ν1)
set_option maxHeartbeats 4000000 in
set_option maxRecDepth 100000 in
theorem c_X11_clear {g : GT}  {μ : Mem} {μ0 : Mem} {r0 : Int32} (hf : f_X11_clear  μ = some (r0, μ0)) : CI g yX11_clear cX11_clear 2 (some .int) 1 [rf g 112] μ r0 μ0 := by
  refine mk_i (by decide) (Nat.le_of_ble_eq_true rfl) ?_
  intro G hX hR
  have hX : CX g G cX11_clear RX11 2 1 := hX
  suffices S : ∀ K : (Int32 × Mem) → Prop, (∀ a, K a → a = (r0, μ0)) → Sim G (f_X11_clear  μ) K 0 [(0, rf g 112)] [] μ from S (fun a => a = (r0, μ0)) (fun a h => h) _ hf rfl
  intro K hK
  unfold f_X11_clear
  refine s_aload_n hX dX11_clear_0 rfl 0 rfl ?_
  refine s_getI hX flX11_92 rfl dX11_clear_1 ?_
  refine s_istore_n (lv' := [(1, .int (μ.1 112 9)), (0, rf g 112)]) hX dX11_clear_4 rfl (by decide) rfl ?_
  refine s_aload_n hX dX11_clear_5 rfl 1 rfl ?_
  refine s_iconst (v := 0) hX dX11_clear_6 (by decide) ?_
  refine s_putI hX flX11_92 rfl ⟨rfl, rfl⟩ dX11_clear_7 (fun ν1 => ?_)
  refine s_iload_n hX dX11_clear_10 rfl 0 rfl ?_
  exact s_ireti hK hR dX11_clear_11
theorem dX11_countOf_0 : decode cX11_countOf 0 = .ok (.iload_n 1, 1) := by decide +kernel
theorem dX11_countOf_1 : decode cX11_countOf 1 = .ok (.iconst 5, 1) := by decide +kernel
theorem dX11_countOf_2 : decode cX11_countOf 2 = .ok (.if_icmp .ge 12, 3) := by decide +kernel
theorem dX11_countOf_5 : decode cX11_countOf 5 = .ok (.aload_n 0, 1) := by decide +kernel
theorem dX11_countOf_6 : decode cX11_countOf 6 = .ok (.getfield 7, 3) := by decide +kernel
theorem dX11_countOf_9 : decode cX11_countOf 9 = .ok (.iload_n 1, 1) := by decide +kernel
theorem dX11_countOf_10 : decode cX11_countOf 10 = .ok (.iaload, 1) := by decide +kernel
theorem dX11_countOf_11 : decode cX11_countOf 11 = .ok (.goto 21, 3) := by decide +kernel
theorem dX11_countOf_14 : decode cX11_countOf 14 = .ok (.iload_n 1, 1) := by decide +kernel
theorem dX11_countOf_15 : decode cX11_countOf 15 = .ok (.iconst 5, 1) := by decide +kernel
theorem dX11_countOf_16 : decode cX11_countOf 16 = .ok (.if_icmp .ne 10, 3) := by decide +kernel
theorem dX11_countOf_19 : decode cX11_countOf 19 = .ok (.aload_n 0, 1) := by decide +kernel
theorem dX11_countOf_20 : decode cX11_countOf 20 = .ok (.getfield 92, 3) := by decide +kernel
theorem dX11_countOf_23 : decode cX11_countOf 23 = .ok (.goto 9, 3) := by decide +kernel
theorem dX11_countOf_26 : decode cX11_countOf 26 = .ok (.aload_n 0, 1) := by decide +kernel
theorem dX11_countOf_27 : decode cX11_countOf 27 = .ok (.getfield 7, 3) := by decide +kernel
theorem dX11_countOf_30 : decode cX11_countOf 30 = .ok (.iconst 5, 1) := by decide +kernel
theorem dX11_countOf_31 : decode cX11_countOf 31 = .ok (.iaload, 1) := by decide +kernel
theorem dX11_countOf_32 : decode cX11_countOf 32 = .ok (.ireturn, 1) := by decide +kernel
noncomputable def f_X11_countOf (x1 : Int32) (μ : Mem) : Option Int32 :=
  jn (fun (y1 : Int32) =>
    some y1
    ) fun j2 =>
  if x1 < 5 then
    chk x1 184 (
      j2 (μ.1 113 (ix x1))
      )
  else
    if x1 = 5 then
      j2 (μ.1 112 9)
    else
      j2 (μ.1 113 5)
set_option maxHeartbeats 4000000 in
set_option maxRecDepth 100000 in
theorem c_X11_countOf {g : GT} {x1 : Int32} {μ : Mem} {r0 : Int32} (hf : f_X11_countOf x1 μ = some r0) : CI g yX11_countOf cX11_countOf 2 (some .int) 1 [rf g 112, .int x1] μ r0 μ := by
  refine mk_i (by decide) (Nat.le_of_ble_eq_true rfl) ?_
  intro G hX hR
  have hX : CX g G cX11_countOf RX11 2 1 := hX
  suffices S : ∀ K : Int32 → Prop, (∀ a, K a → a = r0) → Sim G (f_X11_countOf x1 μ) K 0 [(0, rf g 112), (1, .int x1)] [] μ from S (fun a => a = r0) (fun a h => h) _ hf rfl
  intro K hK
  unfold f_X11_countOf
  refine s_iload_n hX dX11_countOf_0 rfl 1 rfl ?_
  refine s_iconst (v := 5) hX dX11_countOf_1 (by decide) ?_
  refine s_jn (C := fun j => ∀ (y1 : Int32), Sim G (j y1) K 32 [] [.int y1] μ) ?_ (fun j2 hj2 => ?_)
  · intro y1
    show Sim G _ _ 32 [] [.int y1] μ
    exact s_iretr hK hR dX11_countOf_32
  refine s_icmp_ge hX 14 dX11_countOf_2 (by decide) ?_ ?_
  · refine s_iload_n hX dX11_countOf_14 rfl 1 rfl ?_
    refine s_iconst (v := 5) hX dX11_countOf_15 (by decide) ?_
    refine s_icmp_ne hX 26 dX11_countOf_16 (by decide) ?_ ?_
    · refine s_aload_n hX dX11_countOf_26 rfl 0 rfl ?_
      refine s_getR hX (d := 1) 113 flX11_7 rfl rfl dX11_countOf_27 ?_
      refine s_iconst (v := 5) hX dX11_countOf_30 (by decide) ?_
      refine s_ialdK hX rfl rfl (by decide) rfl dX11_countOf_31 ?_
      exact s_to hX [] rfl (hj2 (μ.1 113 5))
    · refine s_aload_n hX dX11_countOf_19 rfl 0 rfl ?_
      refine s_getI hX flX11_92 rfl dX11_countOf_20 ?_
      refine s_goto hX 32 dX11_countOf_23 (by decide) ?_
      exact s_to hX [] rfl (hj2 (μ.1 112 9))
  · refine s_aload_n hX dX11_countOf_5 rfl 0 rfl ?_
    refine s_getR hX (d := 1) 113 flX11_7 rfl rfl dX11_countOf_6 ?_
    refine s_iload_n hX dX11_countOf_9 rfl 1 rfl ?_
    refine s_iald hX rfl rfl dX11_countOf_10 ?_
    refine s_goto hX 32 dX11_countOf_11 (by decide) ?_
    exact s_to hX [] rfl (hj2 (μ.1 113 (ix x1)))
theorem dX11_divisor_0 : decode cX11_divisor 0 = .ok (.lload_n 0, 1) := by decide +kernel
theorem dX11_divisor_1 : decode cX11_divisor 1 = .ok (.lconst 0, 1) := by decide +kernel
theorem dX11_divisor_2 : decode cX11_divisor 2 = .ok (.lcmp, 1) := by decide +kernel
theorem dX11_divisor_3 : decode cX11_divisor 3 = .ok (.ifCond .ge 8, 3) := by decide +kernel
theorem dX11_divisor_6 : decode cX11_divisor 6 = .ok (.lload_n 0, 1) := by decide +kernel
theorem dX11_divisor_7 : decode cX11_divisor 7 = .ok (.lneg, 1) := by decide +kernel
theorem dX11_divisor_8 : decode cX11_divisor 8 = .ok (.goto 4, 3) := by decide +kernel
theorem dX11_divisor_11 : decode cX11_divisor 11 = .ok (.lload_n 0, 1) := by decide +kernel
theorem dX11_divisor_12 : decode cX11_divisor 12 = .ok (.lstore 4, 2) := by decide +kernel
theorem dX11_divisor_14 : decode cX11_divisor 14 = .ok (.lload_n 2, 1) := by decide +kernel
theorem dX11_divisor_15 : decode cX11_divisor 15 = .ok (.lstore 6, 2) := by decide +kernel
theorem dX11_divisor_17 : decode cX11_divisor 17 = .ok (.lload 6, 2) := by decide +kernel
theorem dX11_divisor_19 : decode cX11_divisor 19 = .ok (.lconst 0, 1) := by decide +kernel
theorem dX11_divisor_20 : decode cX11_divisor 20 = .ok (.lcmp, 1) := by decide +kernel
theorem dX11_divisor_21 : decode cX11_divisor 21 = .ok (.ifCond .eq 21, 3) := by decide +kernel
theorem dX11_divisor_24 : decode cX11_divisor 24 = .ok (.lload 4, 2) := by decide +kernel
theorem dX11_divisor_26 : decode cX11_divisor 26 = .ok (.lload 6, 2) := by decide +kernel
theorem dX11_divisor_28 : decode cX11_divisor 28 = .ok (.lrem, 1) := by decide +kernel
theorem dX11_divisor_29 : decode cX11_divisor 29 = .ok (.lstore 8, 2) := by decide +kernel
theorem dX11_divisor_31 : decode cX11_divisor 31 = .ok (.lload 6, 2) := by decide +kernel
theorem dX11_divisor_33 : decode cX11_divisor 33 = .ok (.lstore 4, 2) := by decide +kernel
theorem dX11_divisor_35 : decode cX11_divisor 35 = .ok (.lload 8, 2) := by decide +kernel
theorem dX11_divisor_37 : decode cX11_divisor 37 = .ok (.lstore 6, 2) := by decide +kernel
theorem dX11_divisor_39 : decode cX11_divisor 39 = .ok (.goto (-22), 3) := by decide +kernel
theorem dX11_divisor_42 : decode cX11_divisor 42 = .ok (.lload 4, 2) := by decide +kernel
theorem dX11_divisor_44 : decode cX11_divisor 44 = .ok (.lreturn, 1) := by decide +kernel
noncomputable def f_X11_divisor (x0 : Int64) (x2 : Int64) : Option Int64 :=
  jn (fun (y1 : Int64) =>
    bd (lp (ε := Int64) (cu2 fun (x4_3 : Int64) (x6_4 : Int64) =>
      if x6_4 = 0 then
        some (.inr x4_3)
      else
        ckZ x6_4 (
          some (.inl (x6_4, (x4_3 - x4_3 / x6_4 * x6_4)))
          )
      ) (y1, x2)) (fun (x4_5 : Int64) =>
      some x4_5
      )
    ) fun j2 =>
  if x0 < 0 then
    j2 (-x0)
  else
    j2 x0
set_option maxHeartbeats 4000000 in
set_option maxRecDepth 100000 in
theorem c_X11_divisor {g : GT} {x0 : Int64} {x2 : Int64} {μ : Mem} {r0 : Int64} (hf : f_X11_divisor x0 x2 = some r0) : CL g yX11_divisor cX11_divisor 10 (some .long) 1 [.long x0, .long x2] μ r0 μ := by
  refine mk_l (by decide) (Nat.le_of_ble_eq_true rfl) ?_
  intro G hX hR
  have hX : CX g G cX11_divisor RX11 10 1 := hX
  suffices S : ∀ K : Int64 → Prop, (∀ a, K a → a = r0) → Sim G (f_X11_divisor x0 x2) K 0 [(0, .long x0), (2, .long x2)] [] μ from S (fun a => a = r0) (fun a h => h) _ hf rfl
  intro K hK
  unfold f_X11_divisor
  refine s_lload_n hX dX11_divisor_0 rfl 0 rfl ?_
  refine s_lconst (v := 0) hX dX11_divisor_1 (by decide) ?_
  refine s_jn (C := fun j => ∀ (y1 : Int64), Sim G (j y1) K 12 [(2, .long x2)] [.long y1] μ) ?_ (fun j2 hj2 => ?_)
  · intro y1
    show Sim G _ _ 12 [(2, .long x2)] [.long y1] μ
    refine s_lstore (lv' := [(4, .long y1), (2, .long x2)]) hX dX11_divisor_12 (by decide) rfl ?_
    refine s_lload_n hX dX11_divisor_14 rfl 1 rfl ?_
    refine s_lstore (lv' := [(6, .long x2), (4, .long y1), (2, .long x2)]) hX dX11_divisor_15 (by decide) rfl ?_
    refine s_loop hX 17 42 (fun s : Int64 × Int64 => [(4, .long s.1), (6, .long s.2)]) (fun s : Int64 × Int64 => μ) (fun s : Int64 => [(4, .long s)]) (fun s : Int64 => μ) [1, 0] rfl rfl rfl ?_ ?_
    · intro Kq6 hIq6 hJq6 sq
      obtain ⟨x4_3, x6_4⟩ := sq
      refine s_cu2 ?_
      show Sim G _ _ 17 [(4, .long x4_3), (6, .long x6_4)] [] μ
      refine s_lload hX dX11_divisor_17 1 rfl ?_
      refine s_lconst (v := 0) hX dX11_divisor_19 (by decide) ?_
      refine s_lcmp_eq hX 42 dX11_divisor_20 dX11_divisor_21 (by decide) ?_ ?_
      · exact s_end hX (hJq6 x4_3) [0] rfl
      · refine s_lload hX dX11_divisor_24 0 rfl ?_
        refine s_lload hX dX11_divisor_26 1 rfl ?_
        refine s_lremZ hX dX11_divisor_28 ?_
        refine s_lstore (lv' := [(8, .long (x4_3 - x4_3 / x6_4 * x6_4)), (4, .long x4_3), (6, .long x6_4)]) hX dX11_divisor_29 (by decide) rfl ?_
        refine s_lload hX dX11_divisor_31 2 rfl ?_
        refine s_lstore (lv' := [(4, .long x6_4), (8, .long (x4_3 - x4_3 / x6_4 * x6_4)), (6, .long x6_4)]) hX dX11_divisor_33 (by decide) rfl ?_
        refine s_lload hX dX11_divisor_35 1 rfl ?_
        refine s_lstore (lv' := [(6, .long (x4_3 - x4_3 / x6_4 * x6_4)), (4, .long x6_4), (8, .long (x4_3 - x4_3 / x6_4 * x6_4))]) hX dX11_divisor_37 (by decide) rfl ?_
        refine s_goto hX 17 dX11_divisor_39 (by decide) ?_
        exact s_end hX (hIq6 (x6_4, (x4_3 - x4_3 / x6_4 * x6_4))) [1, 0] rfl
    · intro sq
      obtain ⟨x4_5, rfl⟩ : ∃ z, z = sq := ⟨_, rfl⟩
      show Sim G _ _ 42 [(4, .long x4_5)] [] μ
      refine s_lload hX dX11_divisor_42 0 rfl ?_
      exact s_lretr hK hR dX11_divisor_44
  refine s_lcmp_ge hX 11 dX11_divisor_2 dX11_divisor_3 (by decide) ?_ ?_
  · refine s_lload_n hX dX11_divisor_11 rfl 0 rfl ?_
    exact s_to hX [1] rfl (hj2 x0)
  · refine s_lload_n hX dX11_divisor_6 rfl 0 rfl ?_
    refine s_lneg hX dX11_divisor_7 ?_
    refine s_goto hX 12 dX11_divisor_8 (by decide) ?_
    exact s_to hX [1] rfl (hj2 (-x0))
theorem dX11_headsOf_0 : decode cX11_headsOf 0 = .ok (.iconst 0, 1) := by decide +kernel
theorem dX11_headsOf_1 : decode cX11_headsOf 1 = .ok (.istore_n 2, 1) := by decide +kernel
theorem dX11_headsOf_2 : decode cX11_headsOf 2 = .ok (.iconst 0, 1) := by decide +kernel
theorem dX11_headsOf_3 : decode cX11_headsOf 3 = .ok (.istore_n 3, 1) := by decide +kernel
theorem dX11_headsOf_4 : decode cX11_headsOf 4 = .ok (.iload_n 3, 1) := by decide +kernel
theorem dX11_headsOf_5 : decode cX11_headsOf 5 = .ok (.aload_n 0, 1) := by decide +kernel
theorem dX11_headsOf_6 : decode cX11_headsOf 6 = .ok (.getfield 7, 3) := by decide +kernel
theorem dX11_headsOf_9 : decode cX11_headsOf 9 = .ok (.iconst 1, 1) := by decide +kernel
theorem dX11_headsOf_10 : decode cX11_headsOf 10 = .ok (.iaload, 1) := by decide +kernel
theorem dX11_headsOf_11 : decode cX11_headsOf 11 = .ok (.if_icmp .ge 35, 3) := by decide +kernel
theorem dX11_headsOf_14 : decode cX11_headsOf 14 = .ok (.iload_n 2, 1) := by decide +kernel
theorem dX11_headsOf_15 : decode cX11_headsOf 15 = .ok (.aload_n 0, 1) := by decide +kernel
theorem dX11_headsOf_16 : decode cX11_headsOf 16 = .ok (.getfield 7, 3) := by decide +kernel
theorem dX11_headsOf_19 : decode cX11_headsOf 19 = .ok (.bipush 16, 2) := by decide +kernel
theorem dX11_headsOf_21 : decode cX11_headsOf 21 = .ok (.iload_n 3, 1) := by decide +kernel
theorem dX11_headsOf_22 : decode cX11_headsOf 22 = .ok (.iadd, 1) := by decide +kernel
theorem dX11_headsOf_23 : decode cX11_headsOf 23 = .ok (.iaload, 1) := by decide +kernel
theorem dX11_headsOf_24 : decode cX11_headsOf 24 = .ok (.iload_n 1, 1) := by decide +kernel
theorem dX11_headsOf_25 : decode cX11_headsOf 25 = .ok (.if_icmp .ne 12, 3) := by decide +kernel
theorem dX11_headsOf_28 : decode cX11_headsOf 28 = .ok (.aload_n 0, 1) := by decide +kernel
theorem dX11_headsOf_29 : decode cX11_headsOf 29 = .ok (.getfield 32, 3) := by decide +kernel
theorem dX11_headsOf_32 : decode cX11_headsOf 32 = .ok (.iload_n 3, 1) := by decide +kernel
theorem dX11_headsOf_33 : decode cX11_headsOf 33 = .ok (.iaload, 1) := by decide +kernel
theorem dX11_headsOf_34 : decode cX11_headsOf 34 = .ok (.goto 4, 3) := by decide +kernel
theorem dX11_headsOf_37 : decode cX11_headsOf 37 = .ok (.iconst 0, 1) := by decide +kernel
theorem dX11_headsOf_38 : decode cX11_headsOf 38 = .ok (.iadd, 1) := by decide +kernel
theorem dX11_headsOf_39 : decode cX11_headsOf 39 = .ok (.istore_n 2, 1) := by decide +kernel
theorem dX11_headsOf_40 : decode cX11_headsOf 40 = .ok (.iinc 3 1, 3) := by decide +kernel
theorem dX11_headsOf_43 : decode cX11_headsOf 43 = .ok (.goto (-39), 3) := by decide +kernel
theorem dX11_headsOf_46 : decode cX11_headsOf 46 = .ok (.iload_n 2, 1) := by decide +kernel
theorem dX11_headsOf_47 : decode cX11_headsOf 47 = .ok (.ireturn, 1) := by decide +kernel
noncomputable def f_X11_headsOf (x1 : Int32) (μ : Mem) : Option Int32 :=
  bd (lp (ε := Int32) (cu2 fun (x2_1 : Int32) (x3_2 : Int32) =>
    if x3_2 < (μ.1 113 1) then
      chk (16 + x3_2) 184 (
        jn (fun (y5 : Int32) =>
          some (.inl ((x2_1 + y5), (x3_2 + 1)))
          ) fun j6 =>
        if (μ.1 113 (ix (16 + x3_2))) = x1 then
          chk x3_2 10 (
            j6 (μ.1 120 (ix x3_2))
            )
        else
          j6 0
        )
    else
      some (.inr x2_1)
    ) (0, 0)) (fun (x2_3 : Int32) =>
    some x2_3
    )
set_option maxHeartbeats 4000000 in
set_option maxRecDepth 100000 in
theorem c_X11_headsOf {g : GT} {x1 : Int32} {μ : Mem} {r0 : Int32} (hf : f_X11_headsOf x1 μ = some r0) : CI g yX11_headsOf cX11_headsOf 4 (some .int) 1 [rf g 112, .int x1] μ r0 μ := by
  refine mk_i (by decide) (Nat.le_of_ble_eq_true rfl) ?_
  intro G hX hR
  have hX : CX g G cX11_headsOf RX11 4 1 := hX
  suffices S : ∀ K : Int32 → Prop, (∀ a, K a → a = r0) → Sim G (f_X11_headsOf x1 μ) K 0 [(0, rf g 112), (1, .int x1)] [] μ from S (fun a => a = r0) (fun a h => h) _ hf rfl
  intro K hK
  unfold f_X11_headsOf
  refine s_iconst (v := 0) hX dX11_headsOf_0 (by decide) ?_
  refine s_istore_n (lv' := [(2, .int 0), (0, rf g 112), (1, .int x1)]) hX dX11_headsOf_1 rfl (by decide) rfl ?_
  refine s_iconst (v := 0) hX dX11_headsOf_2 (by decide) ?_
  refine s_istore_n (lv' := [(3, .int 0), (2, .int 0), (0, rf g 112), (1, .int x1)]) hX dX11_headsOf_3 rfl (by decide) rfl ?_
  refine s_loop hX 4 46 (fun s : Int32 × Int32 => [(0, rf g 112), (1, .int x1), (2, .int s.1), (3, .int s.2)]) (fun s : Int32 × Int32 => μ) (fun s : Int32 => [(2, .int s)]) (fun s : Int32 => μ) [2, 3, 1, 0] rfl rfl rfl ?_ ?_
  · intro Kq4 hIq4 hJq4 sq
    obtain ⟨x2_1, x3_2⟩ := sq
    refine s_cu2 ?_
    show Sim G _ _ 4 [(0, rf g 112), (1, .int x1), (2, .int x2_1), (3, .int x3_2)] [] μ
    refine s_iload_n hX dX11_headsOf_4 rfl 3 rfl ?_
    refine s_aload_n hX dX11_headsOf_5 rfl 0 rfl ?_
    refine s_getR hX (d := 1) 113 flX11_7 rfl rfl dX11_headsOf_6 ?_
    refine s_iconst (v := 1) hX dX11_headsOf_9 (by decide) ?_
    refine s_ialdK hX rfl rfl (by decide) rfl dX11_headsOf_10 ?_
    refine s_icmp_ge hX 46 dX11_headsOf_11 (by decide) ?_ ?_
    · exact s_end hX (hJq4 x2_1) [2] rfl
    · refine s_iload_n hX dX11_headsOf_14 rfl 2 rfl ?_
      refine s_aload_n hX dX11_headsOf_15 rfl 0 rfl ?_
      refine s_getR hX (d := 1) 113 flX11_7 rfl rfl dX11_headsOf_16 ?_
      refine s_bipush (v := 16) hX dX11_headsOf_19 (by decide) ?_
      refine s_iload_n hX dX11_headsOf_21 rfl 3 rfl ?_
      refine s_iadd hX dX11_headsOf_22 ?_
      refine s_iald hX rfl rfl dX11_headsOf_23 ?_
      refine s_iload_n hX dX11_headsOf_24 rfl 1 rfl ?_
      refine s_jn (C := fun j => ∀ (y5 : Int32), Sim G (j y5) Kq4 38 [(0, rf g 112), (1, .int x1), (3, .int x3_2)] [.int y5, .int x2_1] μ) ?_ (fun j6 hj6 => ?_)
      · intro y5
        show Sim G _ _ 38 [(0, rf g 112), (1, .int x1), (3, .int x3_2)] [.int y5, .int x2_1] μ
        refine s_iadd hX dX11_headsOf_38 ?_
        refine s_istore_n (lv' := [(2, .int (x2_1 + y5)), (0, rf g 112), (1, .int x1), (3, .int x3_2)]) hX dX11_headsOf_39 rfl (by decide) rfl ?_
        refine s_iinc (v := (x3_2 + 1)) (lv' := [(3, .int (x3_2 + 1)), (2, .int (x2_1 + y5)), (0, rf g 112), (1, .int x1)]) hX dX11_headsOf_40 3 rfl rfl (by decide) rfl ?_
        refine s_goto hX 4 dX11_headsOf_43 (by decide) ?_
        exact s_end hX (hIq4 ((x2_1 + y5), (x3_2 + 1))) [2, 3, 1, 0] rfl
      refine s_icmp_ne hX 37 dX11_headsOf_25 (by decide) ?_ ?_
      · refine s_iconst (v := 0) hX dX11_headsOf_37 (by decide) ?_
        exact s_to hX [0, 1, 3] rfl (hj6 0)
      · refine s_aload_n hX dX11_headsOf_28 rfl 0 rfl ?_
        refine s_getR hX (d := 8) 120 flX11_32 rfl rfl dX11_headsOf_29 ?_
        refine s_iload_n hX dX11_headsOf_32 rfl 3 rfl ?_
        refine s_iald hX rfl rfl dX11_headsOf_33 ?_
        refine s_goto hX 38 dX11_headsOf_34 (by decide) ?_
        exact s_to hX [0, 1, 3] rfl (hj6 (μ.1 120 (ix x3_2)))
  · intro sq
    obtain ⟨x2_3, rfl⟩ : ∃ z, z = sq := ⟨_, rfl⟩
    show Sim G _ _ 46 [(2, .int x2_3)] [] μ
    refine s_iload_n hX dX11_headsOf_46 rfl 0 rfl ?_
    exact s_iretr hK hR dX11_headsOf_47
theorem dX11_in_0 : decode cX11_in 0 = .ok (.lload_n 0, 1) := by decide +kernel
theorem dX11_in_1 : decode cX11_in 1 = .ok (.lload_n 2, 1) := by decide +kernel
theorem dX11_in_2 : decode cX11_in 2 = .ok (.lcmp, 1) := by decide +kernel
theorem dX11_in_3 : decode cX11_in 3 = .ok (.ifCond .lt 14, 3) := by decide +kernel
theorem dX11_in_6 : decode cX11_in 6 = .ok (.lload_n 0, 1) := by decide +kernel
theorem dX11_in_7 : decode cX11_in 7 = .ok (.lload 4, 2) := by decide +kernel
theorem dX11_in_9 : decode cX11_in 9 = .ok (.lcmp, 1) := by decide +kernel
theorem dX11_in_10 : decode cX11_in 10 = .ok (.ifCond .gt 7, 3) := by decide +kernel
theorem dX11_in_13 : decode cX11_in 13 = .ok (.iconst 1, 1) := by decide +kernel
theorem dX11_in_14 : decode cX11_in 14 = .ok (.goto 4, 3) := by decide +kernel
theorem dX11_in_17 : decode cX11_in 17 = .ok (.iconst 0, 1) := by decide +kernel
theorem dX11_in_18 : decode cX11_in 18 = .ok (.ireturn, 1) := by decide +kernel
noncomputable def f_X11_in (x0 : Int64) (x2 : Int64) (x4 : Int64) : Option Int32 :=
  jn (fun (y1 : Int32) =>
    ckB y1 (
      some y1
      )
    ) fun j2 =>
  jn (
    j2 0
    ) fun j3 =>
  if x0 < x2 then
    j3
  else
    if x4 < x0 then
      j3
    else
      j2 1
set_option maxHeartbeats 4000000 in
set_option maxRecDepth 100000 in
theorem c_X11_in {g : GT} {x0 : Int64} {x2 : Int64} {x4 : Int64} {μ : Mem} {r0 : Int32} (hf : f_X11_in x0 x2 x4 = some r0) : CI g yX11_in cX11_in 6 (some .boolean) 1 [.long x0, .long x2, .long x4] μ r0 μ := by
  refine mk_z (by decide) (Nat.le_of_ble_eq_true rfl) ?_
  intro G hX hR
  have hX : CX g G cX11_in RX11 6 1 := hX
  suffices S : ∀ K : Int32 → Prop, (∀ a, K a → a = r0) → Sim G (f_X11_in x0 x2 x4) K 0 [(0, .long x0), (2, .long x2), (4, .long x4)] [] μ from S (fun a => a = r0) (fun a h => h) _ hf rfl
  intro K hK
  unfold f_X11_in
  refine s_lload_n hX dX11_in_0 rfl 0 rfl ?_
  refine s_lload_n hX dX11_in_1 rfl 1 rfl ?_
  refine s_jn (C := fun j => ∀ (y1 : Int32), Sim G (j y1) K 18 [] [.int y1] μ) ?_ (fun j2 hj2 => ?_)
  · intro y1
    show Sim G _ _ 18 [] [.int y1] μ
    refine s_ckB (fun hzb => ?_)
    exact s_zretr hzb hK hR dX11_in_18
  refine s_jn (C := fun j => Sim G (j) K 17 [] [] μ) ?_ (fun j3 hj3 => ?_)
  · skip
    show Sim G _ _ 17 [] [] μ
    refine s_iconst (v := 0) hX dX11_in_17 (by decide) ?_
    exact s_to hX [] rfl (hj2 0)
  refine s_lcmp_lt hX 17 dX11_in_2 dX11_in_3 (by decide) ?_ ?_
  · exact s_to hX [] rfl (hj3)
  · refine s_lload_n hX dX11_in_6 rfl 0 rfl ?_
    refine s_lload hX dX11_in_7 2 rfl ?_
    refine s_lcmp_gt hX 17 dX11_in_9 dX11_in_10 (by decide) ?_ ?_
    · exact s_to hX [] rfl (hj3)
    · refine s_iconst (v := 1) hX dX11_in_13 (by decide) ?_
      refine s_goto hX 18 dX11_in_14 (by decide) ?_
      exact s_to hX [] rfl (hj2 1)
theorem dX11_loss_0 : decode cX11_loss 0 = .ok (.iload_n 0, 1) := by decide +kernel
theorem dX11_loss_1 : decode cX11_loss 1 = .ok (.bipush 10, 2) := by decide +kernel
theorem dX11_loss_3 : decode cX11_loss 3 = .ok (.iadd, 1) := by decide +kernel
theorem dX11_loss_4 : decode cX11_loss 4 = .ok (.iload_n 2, 1) := by decide +kernel
theorem dX11_loss_5 : decode cX11_loss 5 = .ok (.isub, 1) := by decide +kernel
theorem dX11_loss_6 : decode cX11_loss 6 = .ok (.iload_n 2, 1) := by decide +kernel
theorem dX11_loss_7 : decode cX11_loss 7 = .ok (.iconst 2, 1) := by decide +kernel
theorem dX11_loss_8 : decode cX11_loss 8 = .ok (.idiv, 1) := by decide +kernel
theorem dX11_loss_9 : decode cX11_loss 9 = .ok (.iadd, 1) := by decide +kernel
theorem dX11_loss_10 : decode cX11_loss 10 = .ok (.istore 5, 2) := by decide +kernel
theorem dX11_loss_12 : decode cX11_loss 12 = .ok (.iload_n 1, 1) := by decide +kernel
theorem dX11_loss_13 : decode cX11_loss 13 = .ok (.bipush 10, 2) := by decide +kernel
theorem dX11_loss_15 : decode cX11_loss 15 = .ok (.iadd, 1) := by decide +kernel
theorem dX11_loss_16 : decode cX11_loss 16 = .ok (.iload_n 3, 1) := by decide +kernel
theorem dX11_loss_17 : decode cX11_loss 17 = .ok (.isub, 1) := by decide +kernel
theorem dX11_loss_18 : decode cX11_loss 18 = .ok (.iload_n 3, 1) := by decide +kernel
theorem dX11_loss_19 : decode cX11_loss 19 = .ok (.iconst 2, 1) := by decide +kernel
theorem dX11_loss_20 : decode cX11_loss 20 = .ok (.idiv, 1) := by decide +kernel
theorem dX11_loss_21 : decode cX11_loss 21 = .ok (.iadd, 1) := by decide +kernel
theorem dX11_loss_22 : decode cX11_loss 22 = .ok (.istore 6, 2) := by decide +kernel
theorem dX11_loss_24 : decode cX11_loss 24 = .ok (.iload_n 2, 1) := by decide +kernel
theorem dX11_loss_25 : decode cX11_loss 25 = .ok (.iconst 4, 1) := by decide +kernel
theorem dX11_loss_26 : decode cX11_loss 26 = .ok (.idiv, 1) := by decide +kernel
theorem dX11_loss_27 : decode cX11_loss 27 = .ok (.iload 5, 2) := by decide +kernel
theorem dX11_loss_29 : decode cX11_loss 29 = .ok (.iload 6, 2) := by decide +kernel
theorem dX11_loss_31 : decode cX11_loss 31 = .ok (.if_icmp .gt 15, 3) := by decide +kernel
theorem dX11_loss_34 : decode cX11_loss 34 = .ok (.iload 5, 2) := by decide +kernel
theorem dX11_loss_36 : decode cX11_loss 36 = .ok (.iload 6, 2) := by decide +kernel
theorem dX11_loss_38 : decode cX11_loss 38 = .ok (.if_icmp .ne 12, 3) := by decide +kernel
theorem dX11_loss_41 : decode cX11_loss 41 = .ok (.iload 4, 2) := by decide +kernel
theorem dX11_loss_43 : decode cX11_loss 43 = .ok (.ifCond .eq 7, 3) := by decide +kernel
theorem dX11_loss_46 : decode cX11_loss 46 = .ok (.iconst 5, 1) := by decide +kernel
theorem dX11_loss_47 : decode cX11_loss 47 = .ok (.goto 4, 3) := by decide +kernel
theorem dX11_loss_50 : decode cX11_loss 50 = .ok (.iconst 0, 1) := by decide +kernel
theorem dX11_loss_51 : decode cX11_loss 51 = .ok (.iadd, 1) := by decide +kernel
theorem dX11_loss_52 : decode cX11_loss 52 = .ok (.ireturn, 1) := by decide +kernel
noncomputable def f_X11_loss (x0 : Int32) (x1 : Int32) (x2 : Int32) (x3 : Int32) (x4 : Int32) : Option Int32 :=
  jn (fun (y1 : Int32) =>
    some ((x2 / 4) + y1)
    ) fun j2 =>
  jn (
    j2 5
    ) fun j3 =>
  if (((x1 + 10) - x3) + (x3 / 2)) < (((x0 + 10) - x2) + (x2 / 2)) then
    j3
  else
    jn (
      j2 0
      ) fun j4 =>
    if (((x0 + 10) - x2) + (x2 / 2)) = (((x1 + 10) - x3) + (x3 / 2)) then
      if x4 = 0 then
        j4
      else
        j3
    else
      j4
set_option maxHeartbeats 4000000 in
set_option maxRecDepth 100000 in
theorem c_X11_loss {g : GT} {x0 : Int32} {x1 : Int32} {x2 : Int32} {x3 : Int32} {x4 : Int32} {μ : Mem} {r0 : Int32} (hf : f_X11_loss x0 x1 x2 x3 x4 = some r0) : CI g yX11_loss cX11_loss 7 (some .int) 1 [.int x0, .int x1, .int x2, .int x3, .int x4] μ r0 μ := by
  refine mk_i (by decide) (Nat.le_of_ble_eq_true rfl) ?_
  intro G hX hR
  have hX : CX g G cX11_loss RX11 7 1 := hX
  suffices S : ∀ K : Int32 → Prop, (∀ a, K a → a = r0) → Sim G (f_X11_loss x0 x1 x2 x3 x4) K 0 [(0, .int x0), (1, .int x1), (2, .int x2), (3, .int x3), (4, .int x4)] [] μ from S (fun a => a = r0) (fun a h => h) _ hf rfl
  intro K hK
  unfold f_X11_loss
  refine s_iload_n hX dX11_loss_0 rfl 0 rfl ?_
  refine s_bipush (v := 10) hX dX11_loss_1 (by decide) ?_
  refine s_iadd hX dX11_loss_3 ?_
  refine s_iload_n hX dX11_loss_4 rfl 2 rfl ?_
  refine s_isub hX dX11_loss_5 ?_
  refine s_iload_n hX dX11_loss_6 rfl 2 rfl ?_
  refine s_iconst (v := 2) hX dX11_loss_7 (by decide) ?_
  refine s_idiv hX dX11_loss_8 (by decide) ?_
  refine s_iadd hX dX11_loss_9 ?_
  refine s_istore (lv' := [(5, .int (((x0 + 10) - x2) + (x2 / 2))), (0, .int x0), (1, .int x1), (2, .int x2), (3, .int x3), (4, .int x4)]) hX dX11_loss_10 (by decide) rfl ?_
  refine s_iload_n hX dX11_loss_12 rfl 2 rfl ?_
  refine s_bipush (v := 10) hX dX11_loss_13 (by decide) ?_
  refine s_iadd hX dX11_loss_15 ?_
  refine s_iload_n hX dX11_loss_16 rfl 4 rfl ?_
  refine s_isub hX dX11_loss_17 ?_
  refine s_iload_n hX dX11_loss_18 rfl 4 rfl ?_
  refine s_iconst (v := 2) hX dX11_loss_19 (by decide) ?_
  refine s_idiv hX dX11_loss_20 (by decide) ?_
  refine s_iadd hX dX11_loss_21 ?_
  refine s_istore (lv' := [(6, .int (((x1 + 10) - x3) + (x3 / 2))), (5, .int (((x0 + 10) - x2) + (x2 / 2))), (0, .int x0), (1, .int x1), (2, .int x2), (3, .int x3), (4, .int x4)]) hX dX11_loss_22 (by decide) rfl ?_
  refine s_iload_n hX dX11_loss_24 rfl 4 rfl ?_
  refine s_iconst (v := 4) hX dX11_loss_25 (by decide) ?_
  refine s_idiv hX dX11_loss_26 (by decide) ?_
  refine s_iload hX dX11_loss_27 1 rfl ?_
  refine s_iload hX dX11_loss_29 0 rfl ?_
  refine s_jn (C := fun j => ∀ (y1 : Int32), Sim G (j y1) K 51 [] [.int y1, .int (x2 / 4)] μ) ?_ (fun j2 hj2 => ?_)
  · intro y1
    show Sim G _ _ 51 [] [.int y1, .int (x2 / 4)] μ
    refine s_iadd hX dX11_loss_51 ?_
    exact s_iretr hK hR dX11_loss_52
  refine s_jn (C := fun j => Sim G (j) K 46 [] [.int (x2 / 4)] μ) ?_ (fun j3 hj3 => ?_)
  · skip
    show Sim G _ _ 46 [] [.int (x2 / 4)] μ
    refine s_iconst (v := 5) hX dX11_loss_46 (by decide) ?_
    refine s_goto hX 51 dX11_loss_47 (by decide) ?_
    exact s_to hX [] rfl (hj2 5)
  refine s_icmp_gt hX 46 dX11_loss_31 (by decide) ?_ ?_
  · exact s_to hX [] rfl (hj3)
  · refine s_iload hX dX11_loss_34 1 rfl ?_
    refine s_iload hX dX11_loss_36 0 rfl ?_
    refine s_jn (C := fun j => Sim G (j) K 50 [] [.int (x2 / 4)] μ) ?_ (fun j4 hj4 => ?_)
    · skip
      show Sim G _ _ 50 [] [.int (x2 / 4)] μ
      refine s_iconst (v := 0) hX dX11_loss_50 (by decide) ?_
      exact s_to hX [] rfl (hj2 0)
    refine s_icmp_ne hX 50 dX11_loss_38 (by decide) ?_ ?_
    · exact s_to hX [] rfl (hj4)
    · refine s_iload hX dX11_loss_41 6 rfl ?_
      refine s_if_eq hX 50 dX11_loss_43 (by decide) ?_ ?_
      · exact s_to hX [] rfl (hj4)
      · exact s_to hX [] rfl (hj3)
theorem dX11_mixed_0 : decode cX11_mixed 0 = .ok (.lload_n 1, 1) := by decide +kernel
theorem dX11_mixed_1 : decode cX11_mixed 1 = .ok (.lstore 5, 2) := by decide +kernel
theorem dX11_mixed_3 : decode cX11_mixed 3 = .ok (.iconst 0, 1) := by decide +kernel
theorem dX11_mixed_4 : decode cX11_mixed 4 = .ok (.istore 7, 2) := by decide +kernel
theorem dX11_mixed_6 : decode cX11_mixed 6 = .ok (.iload 7, 2) := by decide +kernel
theorem dX11_mixed_8 : decode cX11_mixed 8 = .ok (.iload 4, 2) := by decide +kernel
theorem dX11_mixed_10 : decode cX11_mixed 10 = .ok (.if_icmp .ge 28, 3) := by decide +kernel
theorem dX11_mixed_13 : decode cX11_mixed 13 = .ok (.ldc2_w 287, 3) := by decide +kernel
theorem dX11_mixed_16 : decode cX11_mixed 16 = .ok (.lload 5, 2) := by decide +kernel
theorem dX11_mixed_18 : decode cX11_mixed 18 = .ok (.lmul, 1) := by decide +kernel
theorem dX11_mixed_19 : decode cX11_mixed 19 = .ok (.aload_n 0, 1) := by decide +kernel
theorem dX11_mixed_20 : decode cX11_mixed 20 = .ok (.getfield 7, 3) := by decide +kernel
theorem dX11_mixed_23 : decode cX11_mixed 23 = .ok (.iload_n 3, 1) := by decide +kernel
theorem dX11_mixed_24 : decode cX11_mixed 24 = .ok (.iload 7, 2) := by decide +kernel
theorem dX11_mixed_26 : decode cX11_mixed 26 = .ok (.iadd, 1) := by decide +kernel
theorem dX11_mixed_27 : decode cX11_mixed 27 = .ok (.iaload, 1) := by decide +kernel
theorem dX11_mixed_28 : decode cX11_mixed 28 = .ok (.i2l, 1) := by decide +kernel
theorem dX11_mixed_29 : decode cX11_mixed 29 = .ok (.ladd, 1) := by decide +kernel
theorem dX11_mixed_30 : decode cX11_mixed 30 = .ok (.lstore 5, 2) := by decide +kernel
theorem dX11_mixed_32 : decode cX11_mixed 32 = .ok (.iinc 7 1, 3) := by decide +kernel
theorem dX11_mixed_35 : decode cX11_mixed 35 = .ok (.goto (-29), 3) := by decide +kernel
theorem dX11_mixed_38 : decode cX11_mixed 38 = .ok (.lload 5, 2) := by decide +kernel
theorem dX11_mixed_40 : decode cX11_mixed 40 = .ok (.lreturn, 1) := by decide +kernel
noncomputable def f_X11_mixed (x1 : Int64) (x3 : Int32) (x4 : Int32) (μ : Mem) : Option Int64 :=
  bd (lp (ε := Int64) (cu2 fun (x5_1 : Int64) (x7_2 : Int32) =>
    if x7_2 < x4 then
      chk (x3 + x7_2) 184 (
        lt ((31 * x5_1) + ((μ.1 113 (ix (x3 + x7_2))) : Int32).toInt64) fun x5_5 =>
        some (.inl (x5_5, (x7_2 + 1)))
        )
    else
      some (.inr x5_1)
    ) (x1, 0)) (fun (x5_3 : Int64) =>
    some x5_3
    )
set_option maxHeartbeats 4000000 in
set_option maxRecDepth 100000 in
theorem c_X11_mixed {g : GT} {x1 : Int64} {x3 : Int32} {x4 : Int32} {μ : Mem} {r0 : Int64} (hf : f_X11_mixed x1 x3 x4 μ = some r0) : CL g yX11_mixed cX11_mixed 8 (some .long) 1 [rf g 112, .long x1, .int x3, .int x4] μ r0 μ := by
  refine mk_l (by decide) (Nat.le_of_ble_eq_true rfl) ?_
  intro G hX hR
  have hX : CX g G cX11_mixed RX11 8 1 := hX
  suffices S : ∀ K : Int64 → Prop, (∀ a, K a → a = r0) → Sim G (f_X11_mixed x1 x3 x4 μ) K 0 [(0, rf g 112), (1, .long x1), (3, .int x3), (4, .int x4)] [] μ from S (fun a => a = r0) (fun a h => h) _ hf rfl
  intro K hK
  unfold f_X11_mixed
  refine s_lload_n hX dX11_mixed_0 rfl 1 rfl ?_
  refine s_lstore (lv' := [(5, .long x1), (0, rf g 112), (1, .long x1), (3, .int x3), (4, .int x4)]) hX dX11_mixed_1 (by decide) rfl ?_
  refine s_iconst (v := 0) hX dX11_mixed_3 (by decide) ?_
  refine s_istore (lv' := [(7, .int 0), (5, .long x1), (0, rf g 112), (1, .long x1), (3, .int x3), (4, .int x4)]) hX dX11_mixed_4 (by decide) rfl ?_
  refine s_loop hX 6 38 (fun s : Int64 × Int32 => [(0, rf g 112), (3, .int x3), (4, .int x4), (5, .long s.1), (7, .int s.2)]) (fun s : Int64 × Int32 => μ) (fun s : Int64 => [(5, .long s)]) (fun s : Int64 => μ) [2, 4, 5, 1, 0] rfl rfl rfl ?_ ?_
  · intro Kq4 hIq4 hJq4 sq
    obtain ⟨x5_1, x7_2⟩ := sq
    refine s_cu2 ?_
    show Sim G _ _ 6 [(0, rf g 112), (3, .int x3), (4, .int x4), (5, .long x5_1), (7, .int x7_2)] [] μ
    refine s_iload hX dX11_mixed_6 4 rfl ?_
    refine s_iload hX dX11_mixed_8 2 rfl ?_
    refine s_icmp_ge hX 38 dX11_mixed_10 (by decide) ?_ ?_
    · exact s_end hX (hJq4 x5_1) [3] rfl
    · refine s_ldc2 hX dX11_mixed_13 klX11_287 ?_
      refine s_lload hX dX11_mixed_16 3 rfl ?_
      refine s_lmul hX dX11_mixed_18 ?_
      refine s_aload_n hX dX11_mixed_19 rfl 0 rfl ?_
      refine s_getR hX (d := 1) 113 flX11_7 rfl rfl dX11_mixed_20 ?_
      refine s_iload_n hX dX11_mixed_23 rfl 1 rfl ?_
      refine s_iload hX dX11_mixed_24 4 rfl ?_
      refine s_iadd hX dX11_mixed_26 ?_
      refine s_iald hX rfl rfl dX11_mixed_27 ?_
      refine s_i2l hX dX11_mixed_28 ?_
      refine s_ladd hX dX11_mixed_29 ?_
      refine s_ltl (fun x5_5 => ?_)
      refine s_lstore (lv' := [(5, .long x5_5), (0, rf g 112), (3, .int x3), (4, .int x4), (7, .int x7_2)]) hX dX11_mixed_30 (by decide) rfl ?_
      refine s_iinc (v := (x7_2 + 1)) (lv' := [(7, .int (x7_2 + 1)), (5, .long x5_5), (0, rf g 112), (3, .int x3), (4, .int x4)]) hX dX11_mixed_32 4 rfl rfl (by decide) rfl ?_
      refine s_goto hX 6 dX11_mixed_35 (by decide) ?_
      exact s_end hX (hIq4 (x5_5, (x7_2 + 1))) [2, 3, 4, 1, 0] rfl
  · intro sq
    obtain ⟨x5_3, rfl⟩ : ∃ z, z = sq := ⟨_, rfl⟩
    show Sim G _ _ 38 [(5, .long x5_3)] [] μ
    refine s_lload hX dX11_mixed_38 0 rfl ?_
    exact s_lretr hK hR dX11_mixed_40
theorem dX11_numbers_0 : decode cX11_numbers 0 = .ok (.iload_n 0, 1) := by decide +kernel
theorem dX11_numbers_1 : decode cX11_numbers 1 = .ok (.iconst 1, 1) := by decide +kernel
theorem dX11_numbers_2 : decode cX11_numbers 2 = .ok (.if_icmp .ne 7, 3) := by decide +kernel
theorem dX11_numbers_5 : decode cX11_numbers 5 = .ok (.iconst 3, 1) := by decide +kernel
theorem dX11_numbers_6 : decode cX11_numbers 6 = .ok (.goto 18, 3) := by decide +kernel
theorem dX11_numbers_9 : decode cX11_numbers 9 = .ok (.iload_n 0, 1) := by decide +kernel
theorem dX11_numbers_10 : decode cX11_numbers 10 = .ok (.iconst 3, 1) := by decide +kernel
theorem dX11_numbers_11 : decode cX11_numbers 11 = .ok (.if_icmp .eq 8, 3) := by decide +kernel
theorem dX11_numbers_14 : decode cX11_numbers 14 = .ok (.iload_n 0, 1) := by decide +kernel
theorem dX11_numbers_15 : decode cX11_numbers 15 = .ok (.iconst 4, 1) := by decide +kernel
theorem dX11_numbers_16 : decode cX11_numbers 16 = .ok (.if_icmp .ne 7, 3) := by decide +kernel
theorem dX11_numbers_19 : decode cX11_numbers 19 = .ok (.iconst 2, 1) := by decide +kernel
theorem dX11_numbers_20 : decode cX11_numbers 20 = .ok (.goto 4, 3) := by decide +kernel
theorem dX11_numbers_23 : decode cX11_numbers 23 = .ok (.iconst 1, 1) := by decide +kernel
theorem dX11_numbers_24 : decode cX11_numbers 24 = .ok (.ireturn, 1) := by decide +kernel
noncomputable def f_X11_numbers (x0 : Int32) : Option Int32 :=
  jn (fun (y1 : Int32) =>
    some y1
    ) fun j2 =>
  if x0 = 1 then
    j2 3
  else
    jn (
      j2 2
      ) fun j3 =>
    if x0 = 3 then
      j3
    else
      if x0 = 4 then
        j3
      else
        j2 1
set_option maxHeartbeats 4000000 in
set_option maxRecDepth 100000 in
theorem c_X11_numbers {g : GT} {x0 : Int32} {μ : Mem} {r0 : Int32} (hf : f_X11_numbers x0 = some r0) : CI g yX11_numbers cX11_numbers 1 (some .int) 1 [.int x0] μ r0 μ := by
  refine mk_i (by decide) (Nat.le_of_ble_eq_true rfl) ?_
  intro G hX hR
  have hX : CX g G cX11_numbers RX11 1 1 := hX
  suffices S : ∀ K : Int32 → Prop, (∀ a, K a → a = r0) → Sim G (f_X11_numbers x0) K 0 [(0, .int x0)] [] μ from S (fun a => a = r0) (fun a h => h) _ hf rfl
  intro K hK
  unfold f_X11_numbers
  refine s_iload_n hX dX11_numbers_0 rfl 0 rfl ?_
  refine s_iconst (v := 1) hX dX11_numbers_1 (by decide) ?_
  refine s_jn (C := fun j => ∀ (y1 : Int32), Sim G (j y1) K 24 [] [.int y1] μ) ?_ (fun j2 hj2 => ?_)
  · intro y1
    show Sim G _ _ 24 [] [.int y1] μ
    exact s_iretr hK hR dX11_numbers_24
  refine s_icmp_ne hX 9 dX11_numbers_2 (by decide) ?_ ?_
  · refine s_iload_n hX dX11_numbers_9 rfl 0 rfl ?_
    refine s_iconst (v := 3) hX dX11_numbers_10 (by decide) ?_
    refine s_jn (C := fun j => Sim G (j) K 19 [] [] μ) ?_ (fun j3 hj3 => ?_)
    · skip
      show Sim G _ _ 19 [] [] μ
      refine s_iconst (v := 2) hX dX11_numbers_19 (by decide) ?_
      refine s_goto hX 24 dX11_numbers_20 (by decide) ?_
      exact s_to hX [] rfl (hj2 2)
    refine s_icmp_eq hX 19 dX11_numbers_11 (by decide) ?_ ?_
    · exact s_to hX [] rfl (hj3)
    · refine s_iload_n hX dX11_numbers_14 rfl 0 rfl ?_
      refine s_iconst (v := 4) hX dX11_numbers_15 (by decide) ?_
      refine s_icmp_ne hX 23 dX11_numbers_16 (by decide) ?_ ?_
      · refine s_iconst (v := 1) hX dX11_numbers_23 (by decide) ?_
        exact s_to hX [] rfl (hj2 1)
      · exact s_to hX [] rfl (hj3)
  · refine s_iconst (v := 3) hX dX11_numbers_5 (by decide) ?_
    refine s_goto hX 24 dX11_numbers_6 (by decide) ?_
    exact s_to hX [] rfl (hj2 3)
theorem dX11_openRoads_0 : decode cX11_openRoads 0 = .ok (.iconst 0, 1) := by decide +kernel
theorem dX11_openRoads_1 : decode cX11_openRoads 1 = .ok (.istore_n 1, 1) := by decide +kernel
theorem dX11_openRoads_2 : decode cX11_openRoads 2 = .ok (.iconst 0, 1) := by decide +kernel
theorem dX11_openRoads_3 : decode cX11_openRoads 3 = .ok (.istore_n 2, 1) := by decide +kernel
theorem dX11_openRoads_4 : decode cX11_openRoads 4 = .ok (.iload_n 2, 1) := by decide +kernel
theorem dX11_openRoads_5 : decode cX11_openRoads 5 = .ok (.aload_n 0, 1) := by decide +kernel
theorem dX11_openRoads_6 : decode cX11_openRoads 6 = .ok (.getfield 7, 3) := by decide +kernel
theorem dX11_openRoads_9 : decode cX11_openRoads 9 = .ok (.iconst 2, 1) := by decide +kernel
theorem dX11_openRoads_10 : decode cX11_openRoads 10 = .ok (.iaload, 1) := by decide +kernel
theorem dX11_openRoads_11 : decode cX11_openRoads 11 = .ok (.if_icmp .ge 35, 3) := by decide +kernel
theorem dX11_openRoads_14 : decode cX11_openRoads 14 = .ok (.iload_n 1, 1) := by decide +kernel
theorem dX11_openRoads_15 : decode cX11_openRoads 15 = .ok (.aload_n 0, 1) := by decide +kernel
theorem dX11_openRoads_16 : decode cX11_openRoads 16 = .ok (.getfield 7, 3) := by decide +kernel
theorem dX11_openRoads_19 : decode cX11_openRoads 19 = .ok (.bipush 41, 2) := by decide +kernel
theorem dX11_openRoads_21 : decode cX11_openRoads 21 = .ok (.iconst 3, 1) := by decide +kernel
theorem dX11_openRoads_22 : decode cX11_openRoads 22 = .ok (.iload_n 2, 1) := by decide +kernel
theorem dX11_openRoads_23 : decode cX11_openRoads 23 = .ok (.imul, 1) := by decide +kernel
theorem dX11_openRoads_24 : decode cX11_openRoads 24 = .ok (.iadd, 1) := by decide +kernel
theorem dX11_openRoads_25 : decode cX11_openRoads 25 = .ok (.iconst 2, 1) := by decide +kernel
theorem dX11_openRoads_26 : decode cX11_openRoads 26 = .ok (.iadd, 1) := by decide +kernel
theorem dX11_openRoads_27 : decode cX11_openRoads 27 = .ok (.iaload, 1) := by decide +kernel
theorem dX11_openRoads_28 : decode cX11_openRoads 28 = .ok (.ifCond .ne 9, 3) := by decide +kernel
theorem dX11_openRoads_31 : decode cX11_openRoads 31 = .ok (.iconst 1, 1) := by decide +kernel
theorem dX11_openRoads_32 : decode cX11_openRoads 32 = .ok (.iload_n 2, 1) := by decide +kernel
theorem dX11_openRoads_33 : decode cX11_openRoads 33 = .ok (.ishl, 1) := by decide +kernel
theorem dX11_openRoads_34 : decode cX11_openRoads 34 = .ok (.goto 4, 3) := by decide +kernel
theorem dX11_openRoads_37 : decode cX11_openRoads 37 = .ok (.iconst 0, 1) := by decide +kernel
theorem dX11_openRoads_38 : decode cX11_openRoads 38 = .ok (.ior, 1) := by decide +kernel
theorem dX11_openRoads_39 : decode cX11_openRoads 39 = .ok (.istore_n 1, 1) := by decide +kernel
theorem dX11_openRoads_40 : decode cX11_openRoads 40 = .ok (.iinc 2 1, 3) := by decide +kernel
theorem dX11_openRoads_43 : decode cX11_openRoads 43 = .ok (.goto (-39), 3) := by decide +kernel
theorem dX11_openRoads_46 : decode cX11_openRoads 46 = .ok (.iload_n 1, 1) := by decide +kernel
theorem dX11_openRoads_47 : decode cX11_openRoads 47 = .ok (.ireturn, 1) := by decide +kernel
noncomputable def f_X11_openRoads  (μ : Mem) : Option Int32 :=
  bd (lp (ε := Int32) (cu2 fun (x1_1 : Int32) (x2_2 : Int32) =>
    if x2_2 < (μ.1 113 2) then
      chk ((41 + (3 * x2_2)) + 2) 184 (
        jn (fun (y5 : Int32) =>
          some (.inl ((x1_1 ||| y5), (x2_2 + 1)))
          ) fun j6 =>
        if (μ.1 113 (ix ((41 + (3 * x2_2)) + 2))) = 0 then
          j6 ((1 : Int32) <<< (x2_2 &&& 31))
        else
          j6 0
        )
    else
      some (.inr x1_1)
    ) (0, 0)) (fun (x1_3 : Int32) =>
    some x1_3
    )
set_option maxHeartbeats 4000000 in
set_option maxRecDepth 100000 in
theorem c_X11_openRoads {g : GT}  {μ : Mem} {r0 : Int32} (hf : f_X11_openRoads  μ = some r0) : CI g yX11_openRoads cX11_openRoads 3 (some .int) 1 [rf g 112] μ r0 μ := by
  refine mk_i (by decide) (Nat.le_of_ble_eq_true rfl) ?_
  intro G hX hR
  have hX : CX g G cX11_openRoads RX11 3 1 := hX
  suffices S : ∀ K : Int32 → Prop, (∀ a, K a → a = r0) → Sim G (f_X11_openRoads  μ) K 0 [(0, rf g 112)] [] μ from S (fun a => a = r0) (fun a h => h) _ hf rfl
  intro K hK
  unfold f_X11_openRoads
  refine s_iconst (v := 0) hX dX11_openRoads_0 (by decide) ?_
  refine s_istore_n (lv' := [(1, .int 0), (0, rf g 112)]) hX dX11_openRoads_1 rfl (by decide) rfl ?_
  refine s_iconst (v := 0) hX dX11_openRoads_2 (by decide) ?_
  refine s_istore_n (lv' := [(2, .int 0), (1, .int 0), (0, rf g 112)]) hX dX11_openRoads_3 rfl (by decide) rfl ?_
  refine s_loop hX 4 46 (fun s : Int32 × Int32 => [(0, rf g 112), (1, .int s.1), (2, .int s.2)]) (fun s : Int32 × Int32 => μ) (fun s : Int32 => [(1, .int s)]) (fun s : Int32 => μ) [2, 1, 0] rfl rfl rfl ?_ ?_
  · intro Kq4 hIq4 hJq4 sq
    obtain ⟨x1_1, x2_2⟩ := sq
    refine s_cu2 ?_
    show Sim G _ _ 4 [(0, rf g 112), (1, .int x1_1), (2, .int x2_2)] [] μ
    refine s_iload_n hX dX11_openRoads_4 rfl 2 rfl ?_
    refine s_aload_n hX dX11_openRoads_5 rfl 0 rfl ?_
    refine s_getR hX (d := 1) 113 flX11_7 rfl rfl dX11_openRoads_6 ?_
    refine s_iconst (v := 2) hX dX11_openRoads_9 (by decide) ?_
    refine s_ialdK hX rfl rfl (by decide) rfl dX11_openRoads_10 ?_
    refine s_icmp_ge hX 46 dX11_openRoads_11 (by decide) ?_ ?_
    · exact s_end hX (hJq4 x1_1) [1] rfl
    · refine s_iload_n hX dX11_openRoads_14 rfl 1 rfl ?_
      refine s_aload_n hX dX11_openRoads_15 rfl 0 rfl ?_
      refine s_getR hX (d := 1) 113 flX11_7 rfl rfl dX11_openRoads_16 ?_
      refine s_bipush (v := 41) hX dX11_openRoads_19 (by decide) ?_
      refine s_iconst (v := 3) hX dX11_openRoads_21 (by decide) ?_
      refine s_iload_n hX dX11_openRoads_22 rfl 2 rfl ?_
      refine s_imul hX dX11_openRoads_23 ?_
      refine s_iadd hX dX11_openRoads_24 ?_
      refine s_iconst (v := 2) hX dX11_openRoads_25 (by decide) ?_
      refine s_iadd hX dX11_openRoads_26 ?_
      refine s_iald hX rfl rfl dX11_openRoads_27 ?_
      refine s_jn (C := fun j => ∀ (y5 : Int32), Sim G (j y5) Kq4 38 [(0, rf g 112), (2, .int x2_2)] [.int y5, .int x1_1] μ) ?_ (fun j6 hj6 => ?_)
      · intro y5
        show Sim G _ _ 38 [(0, rf g 112), (2, .int x2_2)] [.int y5, .int x1_1] μ
        refine s_ior hX dX11_openRoads_38 ?_
        refine s_istore_n (lv' := [(1, .int (x1_1 ||| y5)), (0, rf g 112), (2, .int x2_2)]) hX dX11_openRoads_39 rfl (by decide) rfl ?_
        refine s_iinc (v := (x2_2 + 1)) (lv' := [(2, .int (x2_2 + 1)), (1, .int (x1_1 ||| y5)), (0, rf g 112)]) hX dX11_openRoads_40 2 rfl rfl (by decide) rfl ?_
        refine s_goto hX 4 dX11_openRoads_43 (by decide) ?_
        exact s_end hX (hIq4 ((x1_1 ||| y5), (x2_2 + 1))) [2, 1, 0] rfl
      refine s_if_ne hX 37 dX11_openRoads_28 (by decide) ?_ ?_
      · refine s_iconst (v := 0) hX dX11_openRoads_37 (by decide) ?_
        exact s_to hX [0, 2] rfl (hj6 0)
      · refine s_iconst (v := 1) hX dX11_openRoads_31 (by decide) ?_
        refine s_iload_n hX dX11_openRoads_32 rfl 2 rfl ?_
        refine s_ishl hX dX11_openRoads_33 ?_
        refine s_goto hX 38 dX11_openRoads_34 (by decide) ?_
        exact s_to hX [0, 2] rfl (hj6 ((1 : Int32) <<< (x2_2 &&& 31)))
  · intro sq
    obtain ⟨x1_3, rfl⟩ : ∃ z, z = sq := ⟨_, rfl⟩
    show Sim G _ _ 46 [(1, .int x1_3)] [] μ
    refine s_iload_n hX dX11_openRoads_46 rfl 0 rfl ?_
    exact s_iretr hK hR dX11_openRoads_47
theorem dX11_orders_0 : decode cX11_orders 0 = .ok (.iconst 1, 1) := by decide +kernel
theorem dX11_orders_1 : decode cX11_orders 1 = .ok (.istore_n 1, 1) := by decide +kernel
theorem dX11_orders_2 : decode cX11_orders 2 = .ok (.iconst 2, 1) := by decide +kernel
theorem dX11_orders_3 : decode cX11_orders 3 = .ok (.istore_n 2, 1) := by decide +kernel
theorem dX11_orders_4 : decode cX11_orders 4 = .ok (.iload_n 2, 1) := by decide +kernel
theorem dX11_orders_5 : decode cX11_orders 5 = .ok (.iload_n 0, 1) := by decide +kernel
theorem dX11_orders_6 : decode cX11_orders 6 = .ok (.if_icmp .gt 13, 3) := by decide +kernel
theorem dX11_orders_9 : decode cX11_orders 9 = .ok (.iload_n 1, 1) := by decide +kernel
theorem dX11_orders_10 : decode cX11_orders 10 = .ok (.iload_n 2, 1) := by decide +kernel
theorem dX11_orders_11 : decode cX11_orders 11 = .ok (.imul, 1) := by decide +kernel
theorem dX11_orders_12 : decode cX11_orders 12 = .ok (.istore_n 1, 1) := by decide +kernel
theorem dX11_orders_13 : decode cX11_orders 13 = .ok (.iinc 2 1, 3) := by decide +kernel
theorem dX11_orders_16 : decode cX11_orders 16 = .ok (.goto (-12), 3) := by decide +kernel
theorem dX11_orders_19 : decode cX11_orders 19 = .ok (.iload_n 1, 1) := by decide +kernel
theorem dX11_orders_20 : decode cX11_orders 20 = .ok (.ireturn, 1) := by decide +kernel
noncomputable def f_X11_orders (x0 : Int32) : Option Int32 :=
  bd (lp (ε := Int32) (cu2 fun (x1_1 : Int32) (x2_2 : Int32) =>
    if x0 < x2_2 then
      some (.inr x1_1)
    else
      some (.inl ((x1_1 * x2_2), (x2_2 + 1)))
    ) (1, 2)) (fun (x1_3 : Int32) =>
    some x1_3
    )
set_option maxHeartbeats 4000000 in
set_option maxRecDepth 100000 in
theorem c_X11_orders {g : GT} {x0 : Int32} {μ : Mem} {r0 : Int32} (hf : f_X11_orders x0 = some r0) : CI g yX11_orders cX11_orders 3 (some .int) 1 [.int x0] μ r0 μ := by
  refine mk_i (by decide) (Nat.le_of_ble_eq_true rfl) ?_
  intro G hX hR
  have hX : CX g G cX11_orders RX11 3 1 := hX
  suffices S : ∀ K : Int32 → Prop, (∀ a, K a → a = r0) → Sim G (f_X11_orders x0) K 0 [(0, .int x0)] [] μ from S (fun a => a = r0) (fun a h => h) _ hf rfl
  intro K hK
  unfold f_X11_orders
  refine s_iconst (v := 1) hX dX11_orders_0 (by decide) ?_
  refine s_istore_n (lv' := [(1, .int 1), (0, .int x0)]) hX dX11_orders_1 rfl (by decide) rfl ?_
  refine s_iconst (v := 2) hX dX11_orders_2 (by decide) ?_
  refine s_istore_n (lv' := [(2, .int 2), (1, .int 1), (0, .int x0)]) hX dX11_orders_3 rfl (by decide) rfl ?_
  refine s_loop hX 4 19 (fun s : Int32 × Int32 => [(0, .int x0), (1, .int s.1), (2, .int s.2)]) (fun s : Int32 × Int32 => μ) (fun s : Int32 => [(1, .int s)]) (fun s : Int32 => μ) [2, 1, 0] rfl rfl rfl ?_ ?_
  · intro Kq4 hIq4 hJq4 sq
    obtain ⟨x1_1, x2_2⟩ := sq
    refine s_cu2 ?_
    show Sim G _ _ 4 [(0, .int x0), (1, .int x1_1), (2, .int x2_2)] [] μ
    refine s_iload_n hX dX11_orders_4 rfl 2 rfl ?_
    refine s_iload_n hX dX11_orders_5 rfl 0 rfl ?_
    refine s_icmp_gt hX 19 dX11_orders_6 (by decide) ?_ ?_
    · exact s_end hX (hJq4 x1_1) [1] rfl
    · refine s_iload_n hX dX11_orders_9 rfl 1 rfl ?_
      refine s_iload_n hX dX11_orders_10 rfl 2 rfl ?_
      refine s_imul hX dX11_orders_11 ?_
      refine s_istore_n (lv' := [(1, .int (x1_1 * x2_2)), (0, .int x0), (2, .int x2_2)]) hX dX11_orders_12 rfl (by decide) rfl ?_
      refine s_iinc (v := (x2_2 + 1)) (lv' := [(2, .int (x2_2 + 1)), (1, .int (x1_1 * x2_2)), (0, .int x0)]) hX dX11_orders_13 2 rfl rfl (by decide) rfl ?_
      refine s_goto hX 4 dX11_orders_16 (by decide) ?_
      exact s_end hX (hIq4 ((x1_1 * x2_2), (x2_2 + 1))) [2, 1, 0] rfl
  · intro sq
    obtain ⟨x1_3, rfl⟩ : ∃ z, z = sq := ⟨_, rfl⟩
    show Sim G _ _ 19 [(1, .int x1_3)] [] μ
    refine s_iload_n hX dX11_orders_19 rfl 0 rfl ?_
    exact s_iretr hK hR dX11_orders_20
theorem dX11_puts_0 : decode cX11_puts 0 = .ok (.aload_n 0, 1) := by decide +kernel
theorem dX11_puts_1 : decode cX11_puts 1 = .ok (.getfield 7, 3) := by decide +kernel
theorem dX11_puts_4 : decode cX11_puts 4 = .ok (.iload_n 1, 1) := by decide +kernel
theorem dX11_puts_5 : decode cX11_puts 5 = .ok (.iaload, 1) := by decide +kernel
theorem dX11_puts_6 : decode cX11_puts 6 = .ok (.istore_n 3, 1) := by decide +kernel
theorem dX11_puts_7 : decode cX11_puts 7 = .ok (.aload_n 0, 1) := by decide +kernel
theorem dX11_puts_8 : decode cX11_puts 8 = .ok (.getfield 7, 3) := by decide +kernel
theorem dX11_puts_11 : decode cX11_puts 11 = .ok (.iload_n 1, 1) := by decide +kernel
theorem dX11_puts_12 : decode cX11_puts 12 = .ok (.iload_n 2, 1) := by decide +kernel
theorem dX11_puts_13 : decode cX11_puts 13 = .ok (.iastore, 1) := by decide +kernel
theorem dX11_puts_14 : decode cX11_puts 14 = .ok (.iload_n 3, 1) := by decide +kernel
theorem dX11_puts_15 : decode cX11_puts 15 = .ok (.ireturn, 1) := by decide +kernel
noncomputable def f_X11_puts (x1 : Int32) (x2 : Int32) (μ : Mem) : Option (Int32 × Mem) :=
  chk x1 184 (
    chk x1 184 (lt (setI μ 113 (ix x1) x2) fun ν1 =>
      some ((μ.1 113 (ix x1)), ν1)
      )
    )
set_option maxHeartbeats 4000000 in
set_option maxRecDepth 100000 in
theorem c_X11_puts {g : GT} {x1 : Int32} {x2 : Int32} {μ : Mem} {μ0 : Mem} {r0 : Int32} (hf : f_X11_puts x1 x2 μ = some (r0, μ0)) : CI g yX11_puts cX11_puts 4 (some .int) 1 [rf g 112, .int x1, .int x2] μ r0 μ0 := by
  refine mk_i (by decide) (Nat.le_of_ble_eq_true rfl) ?_
  intro G hX hR
  have hX : CX g G cX11_puts RX11 4 1 := hX
  suffices S : ∀ K : (Int32 × Mem) → Prop, (∀ a, K a → a = (r0, μ0)) → Sim G (f_X11_puts x1 x2 μ) K 0 [(0, rf g 112), (1, .int x1), (2, .int x2)] [] μ from S (fun a => a = (r0, μ0)) (fun a h => h) _ hf rfl
  intro K hK
  unfold f_X11_puts
  refine s_aload_n hX dX11_puts_0 rfl 0 rfl ?_
  refine s_getR hX (d := 1) 113 flX11_7 rfl rfl dX11_puts_1 ?_
  refine s_iload_n hX dX11_puts_4 rfl 1 rfl ?_
  refine s_iald hX rfl rfl dX11_puts_5 ?_
  refine s_istore_n (lv' := [(3, .int (μ.1 113 (ix x1))), (0, rf g 112), (1, .int x1), (2, .int x2)]) hX dX11_puts_6 rfl (by decide) rfl ?_
  refine s_aload_n hX dX11_puts_7 rfl 1 rfl ?_
  refine s_getR hX (d := 1) 113 flX11_7 rfl rfl dX11_puts_8 ?_
  refine s_iload_n hX dX11_puts_11 rfl 2 rfl ?_
  refine s_iload_n hX dX11_puts_12 rfl 3 rfl ?_
  refine s_iast hX rfl rfl dX11_puts_13 (fun ν1 => ?_)
  refine s_iload_n hX dX11_puts_14 rfl 0 rfl ?_
  exact s_ireti hK hR dX11_puts_15
theorem dX11_refuses_0 : decode cX11_refuses 0 = .ok (.aload_n 0, 1) := by decide +kernel
theorem dX11_refuses_1 : decode cX11_refuses 1 = .ok (.getfield 23, 3) := by decide +kernel
theorem dX11_refuses_4 : decode cX11_refuses 4 = .ok (.iload_n 1, 1) := by decide +kernel
theorem dX11_refuses_5 : decode cX11_refuses 5 = .ok (.dup2, 1) := by decide +kernel
theorem dX11_refuses_6 : decode cX11_refuses 6 = .ok (.iaload, 1) := by decide +kernel
theorem dX11_refuses_7 : decode cX11_refuses 7 = .ok (.aload_n 0, 1) := by decide +kernel
theorem dX11_refuses_8 : decode cX11_refuses 8 = .ok (.getfield 43, 3) := by decide +kernel
theorem dX11_refuses_11 : decode cX11_refuses 11 = .ok (.ifCond .eq 7, 3) := by decide +kernel
theorem dX11_refuses_14 : decode cX11_refuses 14 = .ok (.iconst 0, 1) := by decide +kernel
theorem dX11_refuses_15 : decode cX11_refuses 15 = .ok (.goto 4, 3) := by decide +kernel
theorem dX11_refuses_18 : decode cX11_refuses 18 = .ok (.iconst 1, 1) := by decide +kernel
theorem dX11_refuses_19 : decode cX11_refuses 19 = .ok (.iadd, 1) := by decide +kernel
theorem dX11_refuses_20 : decode cX11_refuses 20 = .ok (.iastore, 1) := by decide +kernel
theorem dX11_refuses_21 : decode cX11_refuses 21 = .ok (.iload_n 2, 1) := by decide +kernel
theorem dX11_refuses_22 : decode cX11_refuses 22 = .ok (.ireturn, 1) := by decide +kernel
noncomputable def f_X11_refuses (x1 : Int32) (x2 : Int32) (μ : Mem) : Option (Int32 × Mem) :=
  chk x1 3 (
    jn (fun (y1 : Int32) =>
      chk x1 3 (lt (setI μ 117 (ix x1) ((μ.1 117 (ix x1)) + y1)) fun ν3 =>
        some (x2, ν3)
        )
      ) fun j2 =>
    if (μ.1 112 5) = 0 then
      j2 1
    else
      j2 0
    )
set_option maxHeartbeats 4000000 in
set_option maxRecDepth 100000 in
theorem c_X11_refuses {g : GT} {x1 : Int32} {x2 : Int32} {μ : Mem} {μ0 : Mem} {r0 : Int32} (hf : f_X11_refuses x1 x2 μ = some (r0, μ0)) : CI g yX11_refuses cX11_refuses 3 (some .int) 1 [rf g 112, .int x1, .int x2] μ r0 μ0 := by
  refine mk_i (by decide) (Nat.le_of_ble_eq_true rfl) ?_
  intro G hX hR
  have hX : CX g G cX11_refuses RX11 3 1 := hX
  suffices S : ∀ K : (Int32 × Mem) → Prop, (∀ a, K a → a = (r0, μ0)) → Sim G (f_X11_refuses x1 x2 μ) K 0 [(0, rf g 112), (1, .int x1), (2, .int x2)] [] μ from S (fun a => a = (r0, μ0)) (fun a h => h) _ hf rfl
  intro K hK
  unfold f_X11_refuses
  refine s_aload_n hX dX11_refuses_0 rfl 0 rfl ?_
  refine s_getR hX (d := 5) 117 flX11_23 rfl rfl dX11_refuses_1 ?_
  refine s_iload_n hX dX11_refuses_4 rfl 1 rfl ?_
  refine s_dup2 hX dX11_refuses_5 rfl rfl ?_
  refine s_iald hX rfl rfl dX11_refuses_6 ?_
  refine s_aload_n hX dX11_refuses_7 rfl 0 rfl ?_
  refine s_getI hX flX11_43 rfl dX11_refuses_8 ?_
  refine s_jn (C := fun j => ∀ (y1 : Int32), Sim G (j y1) K 19 [(2, .int x2)] [.int y1, .int (μ.1 117 (ix x1)), .int x1, rf g 117] μ) ?_ (fun j2 hj2 => ?_)
  · intro y1
    show Sim G _ _ 19 [(2, .int x2)] [.int y1, .int (μ.1 117 (ix x1)), .int x1, rf g 117] μ
    refine s_iadd hX dX11_refuses_19 ?_
    refine s_iast hX rfl rfl dX11_refuses_20 (fun ν3 => ?_)
    refine s_iload_n hX dX11_refuses_21 rfl 0 rfl ?_
    exact s_ireti hK hR dX11_refuses_22
  refine s_if_eq hX 18 dX11_refuses_11 (by decide) ?_ ?_
  · refine s_iconst (v := 1) hX dX11_refuses_18 (by decide) ?_
    exact s_to hX [2] rfl (hj2 1)
  · refine s_iconst (v := 0) hX dX11_refuses_14 (by decide) ?_
    refine s_goto hX 19 dX11_refuses_15 (by decide) ?_
    exact s_to hX [2] rfl (hj2 0)
theorem dX11_remembers_0 : decode cX11_remembers 0 = .ok (.aload_n 0, 1) := by decide +kernel
theorem dX11_remembers_1 : decode cX11_remembers 1 = .ok (.getfield 7, 3) := by decide +kernel
theorem dX11_remembers_4 : decode cX11_remembers 4 = .ok (.iconst 4, 1) := by decide +kernel
theorem dX11_remembers_5 : decode cX11_remembers 5 = .ok (.iaload, 1) := by decide +kernel
theorem dX11_remembers_6 : decode cX11_remembers 6 = .ok (.bipush 10, 2) := by decide +kernel
theorem dX11_remembers_8 : decode cX11_remembers 8 = .ok (.if_icmp .ne 48, 3) := by decide +kernel
theorem dX11_remembers_11 : decode cX11_remembers 11 = .ok (.iconst 0, 1) := by decide +kernel
theorem dX11_remembers_12 : decode cX11_remembers 12 = .ok (.istore_n 1, 1) := by decide +kernel
theorem dX11_remembers_13 : decode cX11_remembers 13 = .ok (.iload_n 1, 1) := by decide +kernel
theorem dX11_remembers_14 : decode cX11_remembers 14 = .ok (.bipush 99, 2) := by decide +kernel
theorem dX11_remembers_16 : decode cX11_remembers 16 = .ok (.if_icmp .ge 30, 3) := by decide +kernel
theorem dX11_remembers_19 : decode cX11_remembers 19 = .ok (.aload_n 0, 1) := by decide +kernel
theorem dX11_remembers_20 : decode cX11_remembers 20 = .ok (.getfield 7, 3) := by decide +kernel
theorem dX11_remembers_23 : decode cX11_remembers 23 = .ok (.bipush 74, 2) := by decide +kernel
theorem dX11_remembers_25 : decode cX11_remembers 25 = .ok (.iload_n 1, 1) := by decide +kernel
theorem dX11_remembers_26 : decode cX11_remembers 26 = .ok (.iadd, 1) := by decide +kernel
theorem dX11_remembers_27 : decode cX11_remembers 27 = .ok (.aload_n 0, 1) := by decide +kernel
theorem dX11_remembers_28 : decode cX11_remembers 28 = .ok (.getfield 7, 3) := by decide +kernel
theorem dX11_remembers_31 : decode cX11_remembers 31 = .ok (.bipush 74, 2) := by decide +kernel
theorem dX11_remembers_33 : decode cX11_remembers 33 = .ok (.iload_n 1, 1) := by decide +kernel
theorem dX11_remembers_34 : decode cX11_remembers 34 = .ok (.iadd, 1) := by decide +kernel
theorem dX11_remembers_35 : decode cX11_remembers 35 = .ok (.bipush 11, 2) := by decide +kernel
theorem dX11_remembers_37 : decode cX11_remembers 37 = .ok (.iadd, 1) := by decide +kernel
theorem dX11_remembers_38 : decode cX11_remembers 38 = .ok (.iaload, 1) := by decide +kernel
theorem dX11_remembers_39 : decode cX11_remembers 39 = .ok (.iastore, 1) := by decide +kernel
theorem dX11_remembers_40 : decode cX11_remembers 40 = .ok (.iinc 1 1, 3) := by decide +kernel
theorem dX11_remembers_43 : decode cX11_remembers 43 = .ok (.goto (-30), 3) := by decide +kernel
theorem dX11_remembers_46 : decode cX11_remembers 46 = .ok (.aload_n 0, 1) := by decide +kernel
theorem dX11_remembers_47 : decode cX11_remembers 47 = .ok (.getfield 7, 3) := by decide +kernel
theorem dX11_remembers_50 : decode cX11_remembers 50 = .ok (.iconst 4, 1) := by decide +kernel
theorem dX11_remembers_51 : decode cX11_remembers 51 = .ok (.dup2, 1) := by decide +kernel
theorem dX11_remembers_52 : decode cX11_remembers 52 = .ok (.iaload, 1) := by decide +kernel
theorem dX11_remembers_53 : decode cX11_remembers 53 = .ok (.iconst 1, 1) := by decide +kernel
theorem dX11_remembers_54 : decode cX11_remembers 54 = .ok (.isub, 1) := by decide +kernel
theorem dX11_remembers_55 : decode cX11_remembers 55 = .ok (.iastore, 1) := by decide +kernel
theorem dX11_remembers_56 : decode cX11_remembers 56 = .ok (.bipush 74, 2) := by decide +kernel
theorem dX11_remembers_58 : decode cX11_remembers 58 = .ok (.bipush 11, 2) := by decide +kernel
theorem dX11_remembers_60 : decode cX11_remembers 60 = .ok (.aload_n 0, 1) := by decide +kernel
theorem dX11_remembers_61 : decode cX11_remembers 61 = .ok (.getfield 7, 3) := by decide +kernel
theorem dX11_remembers_64 : decode cX11_remembers 64 = .ok (.iconst 4, 1) := by decide +kernel
theorem dX11_remembers_65 : decode cX11_remembers 65 = .ok (.iaload, 1) := by decide +kernel
theorem dX11_remembers_66 : decode cX11_remembers 66 = .ok (.imul, 1) := by decide +kernel
theorem dX11_remembers_67 : decode cX11_remembers 67 = .ok (.iadd, 1) := by decide +kernel
theorem dX11_remembers_68 : decode cX11_remembers 68 = .ok (.istore_n 1, 1) := by decide +kernel
theorem dX11_remembers_69 : decode cX11_remembers 69 = .ok (.aload_n 0, 1) := by decide +kernel
theorem dX11_remembers_70 : decode cX11_remembers 70 = .ok (.getfield 7, 3) := by decide +kernel
theorem dX11_remembers_73 : decode cX11_remembers 73 = .ok (.iload_n 1, 1) := by decide +kernel
theorem dX11_remembers_74 : decode cX11_remembers 74 = .ok (.aload_n 0, 1) := by decide +kernel
theorem dX11_remembers_75 : decode cX11_remembers 75 = .ok (.getfield 7, 3) := by decide +kernel
theorem dX11_remembers_78 : decode cX11_remembers 78 = .ok (.iconst 3, 1) := by decide +kernel
theorem dX11_remembers_79 : decode cX11_remembers 79 = .ok (.iaload, 1) := by decide +kernel
theorem dX11_remembers_80 : decode cX11_remembers 80 = .ok (.iastore, 1) := by decide +kernel
theorem dX11_remembers_81 : decode cX11_remembers 81 = .ok (.iconst 0, 1) := by decide +kernel
theorem dX11_remembers_82 : decode cX11_remembers 82 = .ok (.istore_n 2, 1) := by decide +kernel
theorem dX11_remembers_83 : decode cX11_remembers 83 = .ok (.iload_n 2, 1) := by decide +kernel
theorem dX11_remembers_84 : decode cX11_remembers 84 = .ok (.bipush 10, 2) := by decide +kernel
theorem dX11_remembers_86 : decode cX11_remembers 86 = .ok (.if_icmp .ge 28, 3) := by decide +kernel
theorem dX11_remembers_89 : decode cX11_remembers 89 = .ok (.aload_n 0, 1) := by decide +kernel
theorem dX11_remembers_90 : decode cX11_remembers 90 = .ok (.getfield 7, 3) := by decide +kernel
theorem dX11_remembers_93 : decode cX11_remembers 93 = .ok (.iload_n 1, 1) := by decide +kernel
theorem dX11_remembers_94 : decode cX11_remembers 94 = .ok (.iconst 1, 1) := by decide +kernel
theorem dX11_remembers_95 : decode cX11_remembers 95 = .ok (.iadd, 1) := by decide +kernel
theorem dX11_remembers_96 : decode cX11_remembers 96 = .ok (.iload_n 2, 1) := by decide +kernel
theorem dX11_remembers_97 : decode cX11_remembers 97 = .ok (.iadd, 1) := by decide +kernel
theorem dX11_remembers_98 : decode cX11_remembers 98 = .ok (.aload_n 0, 1) := by decide +kernel
theorem dX11_remembers_99 : decode cX11_remembers 99 = .ok (.getfield 7, 3) := by decide +kernel
theorem dX11_remembers_102 : decode cX11_remembers 102 = .ok (.bipush 26, 2) := by decide +kernel
theorem dX11_remembers_104 : decode cX11_remembers 104 = .ok (.iload_n 2, 1) := by decide +kernel
theorem dX11_remembers_105 : decode cX11_remembers 105 = .ok (.iadd, 1) := by decide +kernel
theorem dX11_remembers_106 : decode cX11_remembers 106 = .ok (.iaload, 1) := by decide +kernel
theorem dX11_remembers_107 : decode cX11_remembers 107 = .ok (.iastore, 1) := by decide +kernel
theorem dX11_remembers_108 : decode cX11_remembers 108 = .ok (.iinc 2 1, 3) := by decide +kernel
theorem dX11_remembers_111 : decode cX11_remembers 111 = .ok (.goto (-28), 3) := by decide +kernel
theorem dX11_remembers_114 : decode cX11_remembers 114 = .ok (.aload_n 0, 1) := by decide +kernel
theorem dX11_remembers_115 : decode cX11_remembers 115 = .ok (.getfield 7, 3) := by decide +kernel
theorem dX11_remembers_118 : decode cX11_remembers 118 = .ok (.iconst 4, 1) := by decide +kernel
theorem dX11_remembers_119 : decode cX11_remembers 119 = .ok (.dup2, 1) := by decide +kernel
theorem dX11_remembers_120 : decode cX11_remembers 120 = .ok (.iaload, 1) := by decide +kernel
theorem dX11_remembers_121 : decode cX11_remembers 121 = .ok (.iconst 1, 1) := by decide +kernel
theorem dX11_remembers_122 : decode cX11_remembers 122 = .ok (.iadd, 1) := by decide +kernel
theorem dX11_remembers_123 : decode cX11_remembers 123 = .ok (.iastore, 1) := by decide +kernel
theorem dX11_remembers_124 : decode cX11_remembers 124 = .ok (.return_, 1) := by decide +kernel
noncomputable def f_X11_remembers  (μ : Mem) : Option Mem :=
  jn (fun (ν1 : Mem) =>
    chk (74 + (11 * (ν1.1 113 4))) 184 (lt (setI ν1 113 (ix (74 + (11 * (ν1.1 113 4)))) (ν1.1 113 3)) fun ν3 =>
      bd (lp (ε := Mem) (cu2 fun (x2_4 : Int32) (ν5 : Mem) =>
        if x2_4 < 10 then
          chk (26 + x2_4) 184 (
            chk (((74 + (11 * (ν1.1 113 4))) + 1) + x2_4) 184 (lt (setI ν5 113 (ix (((74 + (11 * (ν1.1 113 4))) + 1) + x2_4)) (ν5.1 113 (ix (26 + x2_4)))) fun ν8 =>
              some (.inl ((x2_4 + 1), ν8))
              )
            )
        else
          some (.inr ν5)
        ) (0, ν3)) (fun (ν6 : Mem) =>
        lt (setI ν6 113 4 ((ν6.1 113 4) + 1)) fun ν9 =>
        some ν9
        )
      )
    ) fun j2 =>
  if (μ.1 113 4) = 10 then
    bd (lp (ε := Mem) (cu2 fun (x1_10 : Int32) (ν11 : Mem) =>
      if x1_10 < 99 then
        chk ((74 + x1_10) + 11) 184 (
          chk (74 + x1_10) 184 (lt (setI ν11 113 (ix (74 + x1_10)) (ν11.1 113 (ix ((74 + x1_10) + 11)))) fun ν14 =>
            some (.inl ((x1_10 + 1), ν14))
            )
          )
      else
        some (.inr ν11)
      ) (0, μ)) (fun (ν12 : Mem) =>
      lt (setI ν12 113 4 ((ν12.1 113 4) - 1)) fun ν15 =>
      j2 ν15
      )
  else
    j2 μ
set_option maxHeartbeats 4000000 in
set_option maxRecDepth 100000 in
theorem c_X11_remembers {g : GT}  {μ : Mem} {μ0 : Mem} (hf : f_X11_remembers  μ = some μ0) : CV g yX11_remembers cX11_remembers 3 (none) 1 [rf g 112] μ μ0 := by
  refine mk_v (by decide) (Nat.le_of_ble_eq_true rfl) ?_
  intro G hX hR
  have hX : CX g G cX11_remembers RX11 3 1 := hX
  suffices S : ∀ K : Mem → Prop, (∀ a, K a → a = μ0) → Sim G (f_X11_remembers  μ) K 0 [(0, rf g 112)] [] μ from S (fun a => a = μ0) (fun a h => h) _ hf rfl
  intro K hK
  unfold f_X11_remembers
  refine s_aload_n hX dX11_remembers_0 rfl 0 rfl ?_
  refine s_getR hX (d := 1) 113 flX11_7 rfl rfl dX11_remembers_1 ?_
  refine s_iconst (v := 4) hX dX11_remembers_4 (by decide) ?_
  refine s_ialdK hX rfl rfl (by decide) rfl dX11_remembers_5 ?_
  refine s_bipush (v := 10) hX dX11_remembers_6 (by decide) ?_
  refine s_jn (C := fun j => ∀ (ν1 : Mem), Sim G (j ν1) K 56 [(0, rf g 112)] [] ν1) ?_ (fun j2 hj2 => ?_)
  · intro ν1
    show Sim G _ _ 56 [(0, rf g 112)] [] ν1
    refine s_bipush (v := 74) hX dX11_remembers_56 (by decide) ?_
    refine s_bipush (v := 11) hX dX11_remembers_58 (by decide) ?_
    refine s_aload_n hX dX11_remembers_60 rfl 0 rfl ?_
    refine s_getR hX (d := 1) 113 flX11_7 rfl rfl dX11_remembers_61 ?_
    refine s_iconst (v := 4) hX dX11_remembers_64 (by decide) ?_
    refine s_ialdK hX rfl rfl (by decide) rfl dX11_remembers_65 ?_
    refine s_imul hX dX11_remembers_66 ?_
    refine s_iadd hX dX11_remembers_67 ?_
    refine s_istore_n (lv' := [(1, .int (74 + (11 * (ν1.1 113 4)))), (0, rf g 112)]) hX dX11_remembers_68 rfl (by decide) rfl ?_
    refine s_aload_n hX dX11_remembers_69 rfl 1 rfl ?_
    refine s_getR hX (d := 1) 113 flX11_7 rfl rfl dX11_remembers_70 ?_
    refine s_iload_n hX dX11_remembers_73 rfl 0 rfl ?_
    refine s_aload_n hX dX11_remembers_74 rfl 1 rfl ?_
    refine s_getR hX (d := 1) 113 flX11_7 rfl rfl dX11_remembers_75 ?_
    refine s_iconst (v := 3) hX dX11_remembers_78 (by decide) ?_
    refine s_ialdK hX rfl rfl (by decide) rfl dX11_remembers_79 ?_
    refine s_iast hX rfl rfl dX11_remembers_80 (fun ν3 => ?_)
    refine s_iconst (v := 0) hX dX11_remembers_81 (by decide) ?_
    refine s_istore_n (lv' := [(2, .int 0), (1, .int (74 + (11 * (ν1.1 113 4)))), (0, rf g 112)]) hX dX11_remembers_82 rfl (by decide) rfl ?_
    refine s_loop hX 83 114 (fun s : Int32 × Mem => [(0, rf g 112), (1, .int (74 + (11 * (ν1.1 113 4)))), (2, .int s.1)]) (fun s : Int32 × Mem => s.2) (fun s : Mem => [(0, rf g 112)]) (fun s : Mem => s) [2, 1, 0] rfl rfl rfl ?_ ?_
    · intro Kq7 hIq7 hJq7 sq
      obtain ⟨x2_4, ν5⟩ := sq
      refine s_cu2 ?_
      show Sim G _ _ 83 [(0, rf g 112), (1, .int (74 + (11 * (ν1.1 113 4)))), (2, .int x2_4)] [] ν5
      refine s_iload_n hX dX11_remembers_83 rfl 2 rfl ?_
      refine s_bipush (v := 10) hX dX11_remembers_84 (by decide) ?_
      refine s_icmp_ge hX 114 dX11_remembers_86 (by decide) ?_ ?_
      · exact s_end hX (hJq7 ν5) [0] rfl
      · refine s_aload_n hX dX11_remembers_89 rfl 0 rfl ?_
        refine s_getR hX (d := 1) 113 flX11_7 rfl rfl dX11_remembers_90 ?_
        refine s_iload_n hX dX11_remembers_93 rfl 1 rfl ?_
        refine s_iconst (v := 1) hX dX11_remembers_94 (by decide) ?_
        refine s_iadd hX dX11_remembers_95 ?_
        refine s_iload_n hX dX11_remembers_96 rfl 2 rfl ?_
        refine s_iadd hX dX11_remembers_97 ?_
        refine s_aload_n hX dX11_remembers_98 rfl 0 rfl ?_
        refine s_getR hX (d := 1) 113 flX11_7 rfl rfl dX11_remembers_99 ?_
        refine s_bipush (v := 26) hX dX11_remembers_102 (by decide) ?_
        refine s_iload_n hX dX11_remembers_104 rfl 2 rfl ?_
        refine s_iadd hX dX11_remembers_105 ?_
        refine s_iald hX rfl rfl dX11_remembers_106 ?_
        refine s_iast hX rfl rfl dX11_remembers_107 (fun ν8 => ?_)
        refine s_iinc (v := (x2_4 + 1)) (lv' := [(2, .int (x2_4 + 1)), (0, rf g 112), (1, .int (74 + (11 * (ν1.1 113 4))))]) hX dX11_remembers_108 2 rfl rfl (by decide) rfl ?_
        refine s_goto hX 83 dX11_remembers_111 (by decide) ?_
        exact s_end hX (hIq7 ((x2_4 + 1), ν8)) [1, 2, 0] rfl
    · intro sq
      obtain ⟨ν6, rfl⟩ : ∃ z, z = sq := ⟨_, rfl⟩
      show Sim G _ _ 114 [(0, rf g 112)] [] ν6
      refine s_aload_n hX dX11_remembers_114 rfl 0 rfl ?_
      refine s_getR hX (d := 1) 113 flX11_7 rfl rfl dX11_remembers_115 ?_
      refine s_iconst (v := 4) hX dX11_remembers_118 (by decide) ?_
      refine s_dup2 hX dX11_remembers_119 rfl rfl ?_
      refine s_ialdK hX rfl rfl (by decide) rfl dX11_remembers_120 ?_
      refine s_iconst (v := 1) hX dX11_remembers_121 (by decide) ?_
      refine s_iadd hX dX11_remembers_122 ?_
      refine s_iastK hX rfl rfl (by decide) rfl dX11_remembers_123 (fun ν9 => ?_)
      exact s_vreti hK hR dX11_remembers_124
  refine s_icmp_ne hX 56 dX11_remembers_8 (by decide) ?_ ?_
  · exact s_to hX [0] rfl (hj2 μ)
  · refine s_iconst (v := 0) hX dX11_remembers_11 (by decide) ?_
    refine s_istore_n (lv' := [(1, .int 0), (0, rf g 112)]) hX dX11_remembers_12 rfl (by decide) rfl ?_
    refine s_loop hX 13 46 (fun s : Int32 × Mem => [(0, rf g 112), (1, .int s.1)]) (fun s : Int32 × Mem => s.2) (fun s : Mem => [(0, rf g 112)]) (fun s : Mem => s) [1, 0] rfl rfl rfl ?_ ?_
    · intro Kq13 hIq13 hJq13 sq
      obtain ⟨x1_10, ν11⟩ := sq
      refine s_cu2 ?_
      show Sim G _ _ 13 [(0, rf g 112), (1, .int x1_10)] [] ν11
      refine s_iload_n hX dX11_remembers_13 rfl 1 rfl ?_
      refine s_bipush (v := 99) hX dX11_remembers_14 (by decide) ?_
      refine s_icmp_ge hX 46 dX11_remembers_16 (by decide) ?_ ?_
      · exact s_end hX (hJq13 ν11) [0] rfl
      · refine s_aload_n hX dX11_remembers_19 rfl 0 rfl ?_
        refine s_getR hX (d := 1) 113 flX11_7 rfl rfl dX11_remembers_20 ?_
        refine s_bipush (v := 74) hX dX11_remembers_23 (by decide) ?_
        refine s_iload_n hX dX11_remembers_25 rfl 1 rfl ?_
        refine s_iadd hX dX11_remembers_26 ?_
        refine s_aload_n hX dX11_remembers_27 rfl 0 rfl ?_
        refine s_getR hX (d := 1) 113 flX11_7 rfl rfl dX11_remembers_28 ?_
        refine s_bipush (v := 74) hX dX11_remembers_31 (by decide) ?_
        refine s_iload_n hX dX11_remembers_33 rfl 1 rfl ?_
        refine s_iadd hX dX11_remembers_34 ?_
        refine s_bipush (v := 11) hX dX11_remembers_35 (by decide) ?_
        refine s_iadd hX dX11_remembers_37 ?_
        refine s_iald hX rfl rfl dX11_remembers_38 ?_
        refine s_iast hX rfl rfl dX11_remembers_39 (fun ν14 => ?_)
        refine s_iinc (v := (x1_10 + 1)) (lv' := [(1, .int (x1_10 + 1)), (0, rf g 112)]) hX dX11_remembers_40 1 rfl rfl (by decide) rfl ?_
        refine s_goto hX 13 dX11_remembers_43 (by decide) ?_
        exact s_end hX (hIq13 ((x1_10 + 1), ν14)) [1, 0] rfl
    · intro sq
      obtain ⟨ν12, rfl⟩ : ∃ z, z = sq := ⟨_, rfl⟩
      show Sim G _ _ 46 [(0, rf g 112)] [] ν12
      refine s_aload_n hX dX11_remembers_46 rfl 0 rfl ?_
      refine s_getR hX (d := 1) 113 flX11_7 rfl rfl dX11_remembers_47 ?_
      refine s_iconst (v := 4) hX dX11_remembers_50 (by decide) ?_
      refine s_dup2 hX dX11_remembers_51 rfl rfl ?_
      refine s_ialdK hX rfl rfl (by decide) rfl dX11_remembers_52 ?_
      refine s_iconst (v := 1) hX dX11_remembers_53 (by decide) ?_
      refine s_isub hX dX11_remembers_54 ?_
      refine s_iastK hX rfl rfl (by decide) rfl dX11_remembers_55 (fun ν15 => ?_)
      exact s_to hX [0] rfl (hj2 ν15)
theorem dX11_seenOf_0 : decode cX11_seenOf 0 = .ok (.iload_n 0, 1) := by decide +kernel
theorem dX11_seenOf_1 : decode cX11_seenOf 1 = .ok (.iconst 1, 1) := by decide +kernel
theorem dX11_seenOf_2 : decode cX11_seenOf 2 = .ok (.if_icmp .ne 9, 3) := by decide +kernel
theorem dX11_seenOf_5 : decode cX11_seenOf 5 = .ok (.iload_n 1, 1) := by decide +kernel
theorem dX11_seenOf_6 : decode cX11_seenOf 6 = .ok (.iconst 2, 1) := by decide +kernel
theorem dX11_seenOf_7 : decode cX11_seenOf 7 = .ok (.idiv, 1) := by decide +kernel
theorem dX11_seenOf_8 : decode cX11_seenOf 8 = .ok (.goto 16, 3) := by decide +kernel
theorem dX11_seenOf_11 : decode cX11_seenOf 11 = .ok (.iload_n 0, 1) := by decide +kernel
theorem dX11_seenOf_12 : decode cX11_seenOf 12 = .ok (.iconst 2, 1) := by decide +kernel
theorem dX11_seenOf_13 : decode cX11_seenOf 13 = .ok (.if_icmp .ne 10, 3) := by decide +kernel
theorem dX11_seenOf_16 : decode cX11_seenOf 16 = .ok (.iload_n 1, 1) := by decide +kernel
theorem dX11_seenOf_17 : decode cX11_seenOf 17 = .ok (.bipush 10, 2) := by decide +kernel
theorem dX11_seenOf_19 : decode cX11_seenOf 19 = .ok (.iadd, 1) := by decide +kernel
theorem dX11_seenOf_20 : decode cX11_seenOf 20 = .ok (.goto 4, 3) := by decide +kernel
theorem dX11_seenOf_23 : decode cX11_seenOf 23 = .ok (.iload_n 1, 1) := by decide +kernel
theorem dX11_seenOf_24 : decode cX11_seenOf 24 = .ok (.istore_n 3, 1) := by decide +kernel
theorem dX11_seenOf_25 : decode cX11_seenOf 25 = .ok (.iload_n 0, 1) := by decide +kernel
theorem dX11_seenOf_26 : decode cX11_seenOf 26 = .ok (.iconst 3, 1) := by decide +kernel
theorem dX11_seenOf_27 : decode cX11_seenOf 27 = .ok (.if_icmp .ne 17, 3) := by decide +kernel
theorem dX11_seenOf_30 : decode cX11_seenOf 30 = .ok (.iload_n 2, 1) := by decide +kernel
theorem dX11_seenOf_31 : decode cX11_seenOf 31 = .ok (.iconst 2, 1) := by decide +kernel
theorem dX11_seenOf_32 : decode cX11_seenOf 32 = .ok (.irem, 1) := by decide +kernel
theorem dX11_seenOf_33 : decode cX11_seenOf 33 = .ok (.ifCond .ne 7, 3) := by decide +kernel
theorem dX11_seenOf_36 : decode cX11_seenOf 36 = .ok (.iload_n 1, 1) := by decide +kernel
theorem dX11_seenOf_37 : decode cX11_seenOf 37 = .ok (.goto 26, 3) := by decide +kernel
theorem dX11_seenOf_40 : decode cX11_seenOf 40 = .ok (.iconst 0, 1) := by decide +kernel
theorem dX11_seenOf_41 : decode cX11_seenOf 41 = .ok (.goto 22, 3) := by decide +kernel
theorem dX11_seenOf_44 : decode cX11_seenOf 44 = .ok (.iload_n 0, 1) := by decide +kernel
theorem dX11_seenOf_45 : decode cX11_seenOf 45 = .ok (.iconst 4, 1) := by decide +kernel
theorem dX11_seenOf_46 : decode cX11_seenOf 46 = .ok (.if_icmp .ne 11, 3) := by decide +kernel
theorem dX11_seenOf_49 : decode cX11_seenOf 49 = .ok (.iload_n 1, 1) := by decide +kernel
theorem dX11_seenOf_50 : decode cX11_seenOf 50 = .ok (.iconst 2, 1) := by decide +kernel
theorem dX11_seenOf_51 : decode cX11_seenOf 51 = .ok (.idiv, 1) := by decide +kernel
theorem dX11_seenOf_52 : decode cX11_seenOf 52 = .ok (.iconst 2, 1) := by decide +kernel
theorem dX11_seenOf_53 : decode cX11_seenOf 53 = .ok (.idiv, 1) := by decide +kernel
theorem dX11_seenOf_54 : decode cX11_seenOf 54 = .ok (.goto 9, 3) := by decide +kernel
theorem dX11_seenOf_57 : decode cX11_seenOf 57 = .ok (.iconst 2, 1) := by decide +kernel
theorem dX11_seenOf_58 : decode cX11_seenOf 58 = .ok (.iload_n 1, 1) := by decide +kernel
theorem dX11_seenOf_59 : decode cX11_seenOf 59 = .ok (.bipush 10, 2) := by decide +kernel
theorem dX11_seenOf_61 : decode cX11_seenOf 61 = .ok (.iadd, 1) := by decide +kernel
theorem dX11_seenOf_62 : decode cX11_seenOf 62 = .ok (.imul, 1) := by decide +kernel
theorem dX11_seenOf_63 : decode cX11_seenOf 63 = .ok (.istore 4, 2) := by decide +kernel
theorem dX11_seenOf_65 : decode cX11_seenOf 65 = .ok (.iload_n 0, 1) := by decide +kernel
theorem dX11_seenOf_66 : decode cX11_seenOf 66 = .ok (.iconst 3, 1) := by decide +kernel
theorem dX11_seenOf_67 : decode cX11_seenOf 67 = .ok (.if_icmp .ge 7, 3) := by decide +kernel
theorem dX11_seenOf_70 : decode cX11_seenOf 70 = .ok (.iload_n 3, 1) := by decide +kernel
theorem dX11_seenOf_71 : decode cX11_seenOf 71 = .ok (.goto 5, 3) := by decide +kernel
theorem dX11_seenOf_74 : decode cX11_seenOf 74 = .ok (.iload 4, 2) := by decide +kernel
theorem dX11_seenOf_76 : decode cX11_seenOf 76 = .ok (.ireturn, 1) := by decide +kernel
noncomputable def f_X11_seenOf (x0 : Int32) (x1 : Int32) (x2 : Int32) : Option Int32 :=
  jn (fun (y1 : Int32) =>
    jn (fun (y3 : Int32) =>
      jn (fun (y5 : Int32) =>
        some y5
        ) fun j6 =>
      if x0 < 3 then
        j6 y1
      else
        j6 y3
      ) fun j4 =>
    if x0 = 3 then
      if (x2 - x2 / 2 * 2) = 0 then
        j4 x1
      else
        j4 0
    else
      if x0 = 4 then
        j4 ((x1 / 2) / 2)
      else
        j4 (2 * (x1 + 10))
    ) fun j2 =>
  if x0 = 1 then
    j2 (x1 / 2)
  else
    if x0 = 2 then
      j2 (x1 + 10)
    else
      j2 x1
set_option maxHeartbeats 4000000 in
set_option maxRecDepth 100000 in
theorem c_X11_seenOf {g : GT} {x0 : Int32} {x1 : Int32} {x2 : Int32} {μ : Mem} {r0 : Int32} (hf : f_X11_seenOf x0 x1 x2 = some r0) : CI g yX11_seenOf cX11_seenOf 5 (some .int) 1 [.int x0, .int x1, .int x2] μ r0 μ := by
  refine mk_i (by decide) (Nat.le_of_ble_eq_true rfl) ?_
  intro G hX hR
  have hX : CX g G cX11_seenOf RX11 5 1 := hX
  suffices S : ∀ K : Int32 → Prop, (∀ a, K a → a = r0) → Sim G (f_X11_seenOf x0 x1 x2) K 0 [(0, .int x0), (1, .int x1), (2, .int x2)] [] μ from S (fun a => a = r0) (fun a h => h) _ hf rfl
  intro K hK
  unfold f_X11_seenOf
  refine s_iload_n hX dX11_seenOf_0 rfl 0 rfl ?_
  refine s_iconst (v := 1) hX dX11_seenOf_1 (by decide) ?_
  refine s_jn (C := fun j => ∀ (y1 : Int32), Sim G (j y1) K 24 [(0, .int x0), (1, .int x1), (2, .int x2)] [.int y1] μ) ?_ (fun j2 hj2 => ?_)
  · intro y1
    show Sim G _ _ 24 [(0, .int x0), (1, .int x1), (2, .int x2)] [.int y1] μ
    refine s_istore_n (lv' := [(3, .int y1), (0, .int x0), (1, .int x1), (2, .int x2)]) hX dX11_seenOf_24 rfl (by decide) rfl ?_
    refine s_iload_n hX dX11_seenOf_25 rfl 1 rfl ?_
    refine s_iconst (v := 3) hX dX11_seenOf_26 (by decide) ?_
    refine s_jn (C := fun j => ∀ (y3 : Int32), Sim G (j y3) K 63 [(0, .int x0), (3, .int y1)] [.int y3] μ) ?_ (fun j4 hj4 => ?_)
    · intro y3
      show Sim G _ _ 63 [(0, .int x0), (3, .int y1)] [.int y3] μ
      refine s_istore (lv' := [(4, .int y3), (0, .int x0), (3, .int y1)]) hX dX11_seenOf_63 (by decide) rfl ?_
      refine s_iload_n hX dX11_seenOf_65 rfl 1 rfl ?_
      refine s_iconst (v := 3) hX dX11_seenOf_66 (by decide) ?_
      refine s_jn (C := fun j => ∀ (y5 : Int32), Sim G (j y5) K 76 [] [.int y5] μ) ?_ (fun j6 hj6 => ?_)
      · intro y5
        show Sim G _ _ 76 [] [.int y5] μ
        exact s_iretr hK hR dX11_seenOf_76
      refine s_icmp_ge hX 74 dX11_seenOf_67 (by decide) ?_ ?_
      · refine s_iload hX dX11_seenOf_74 0 rfl ?_
        exact s_to hX [] rfl (hj6 y3)
      · refine s_iload_n hX dX11_seenOf_70 rfl 2 rfl ?_
        refine s_goto hX 76 dX11_seenOf_71 (by decide) ?_
        exact s_to hX [] rfl (hj6 y1)
    refine s_icmp_ne hX 44 dX11_seenOf_27 (by decide) ?_ ?_
    · refine s_iload_n hX dX11_seenOf_44 rfl 1 rfl ?_
      refine s_iconst (v := 4) hX dX11_seenOf_45 (by decide) ?_
      refine s_icmp_ne hX 57 dX11_seenOf_46 (by decide) ?_ ?_
      · refine s_iconst (v := 2) hX dX11_seenOf_57 (by decide) ?_
        refine s_iload_n hX dX11_seenOf_58 rfl 2 rfl ?_
        refine s_bipush (v := 10) hX dX11_seenOf_59 (by decide) ?_
        refine s_iadd hX dX11_seenOf_61 ?_
        refine s_imul hX dX11_seenOf_62 ?_
        exact s_to hX [1, 0] rfl (hj4 (2 * (x1 + 10)))
      · refine s_iload_n hX dX11_seenOf_49 rfl 2 rfl ?_
        refine s_iconst (v := 2) hX dX11_seenOf_50 (by decide) ?_
        refine s_idiv hX dX11_seenOf_51 (by decide) ?_
        refine s_iconst (v := 2) hX dX11_seenOf_52 (by decide) ?_
        refine s_idiv hX dX11_seenOf_53 (by decide) ?_
        refine s_goto hX 63 dX11_seenOf_54 (by decide) ?_
        exact s_to hX [1, 0] rfl (hj4 ((x1 / 2) / 2))
    · refine s_iload_n hX dX11_seenOf_30 rfl 3 rfl ?_
      refine s_iconst (v := 2) hX dX11_seenOf_31 (by decide) ?_
      refine s_irem hX dX11_seenOf_32 (by decide) ?_
      refine s_if_ne hX 40 dX11_seenOf_33 (by decide) ?_ ?_
      · refine s_iconst (v := 0) hX dX11_seenOf_40 (by decide) ?_
        refine s_goto hX 63 dX11_seenOf_41 (by decide) ?_
        exact s_to hX [1, 0] rfl (hj4 0)
      · refine s_iload_n hX dX11_seenOf_36 rfl 2 rfl ?_
        refine s_goto hX 63 dX11_seenOf_37 (by decide) ?_
        exact s_to hX [1, 0] rfl (hj4 x1)
  refine s_icmp_ne hX 11 dX11_seenOf_2 (by decide) ?_ ?_
  · refine s_iload_n hX dX11_seenOf_11 rfl 0 rfl ?_
    refine s_iconst (v := 2) hX dX11_seenOf_12 (by decide) ?_
    refine s_icmp_ne hX 23 dX11_seenOf_13 (by decide) ?_ ?_
    · refine s_iload_n hX dX11_seenOf_23 rfl 1 rfl ?_
      exact s_to hX [0, 1, 2] rfl (hj2 x1)
    · refine s_iload_n hX dX11_seenOf_16 rfl 1 rfl ?_
      refine s_bipush (v := 10) hX dX11_seenOf_17 (by decide) ?_
      refine s_iadd hX dX11_seenOf_19 ?_
      refine s_goto hX 24 dX11_seenOf_20 (by decide) ?_
      exact s_to hX [0, 1, 2] rfl (hj2 (x1 + 10))
  · refine s_iload_n hX dX11_seenOf_5 rfl 1 rfl ?_
    refine s_iconst (v := 2) hX dX11_seenOf_6 (by decide) ?_
    refine s_idiv hX dX11_seenOf_7 (by decide) ?_
    refine s_goto hX 24 dX11_seenOf_8 (by decide) ?_
    exact s_to hX [0, 1, 2] rfl (hj2 (x1 / 2))
theorem dX11_steps_0 : decode cX11_steps 0 = .ok (.iload_n 1, 1) := by decide +kernel
theorem dX11_steps_1 : decode cX11_steps 1 = .ok (.istore_n 3, 1) := by decide +kernel
theorem dX11_steps_2 : decode cX11_steps 2 = .ok (.iconst 0, 1) := by decide +kernel
theorem dX11_steps_3 : decode cX11_steps 3 = .ok (.istore 4, 2) := by decide +kernel
theorem dX11_steps_5 : decode cX11_steps 5 = .ok (.iload 4, 2) := by decide +kernel
theorem dX11_steps_7 : decode cX11_steps 7 = .ok (.aload_n 0, 1) := by decide +kernel
theorem dX11_steps_8 : decode cX11_steps 8 = .ok (.getfield 7, 3) := by decide +kernel
theorem dX11_steps_11 : decode cX11_steps 11 = .ok (.iconst 2, 1) := by decide +kernel
theorem dX11_steps_12 : decode cX11_steps 12 = .ok (.iaload, 1) := by decide +kernel
theorem dX11_steps_13 : decode cX11_steps 13 = .ok (.if_icmp .ge 108, 3) := by decide +kernel
theorem dX11_steps_16 : decode cX11_steps 16 = .ok (.aload_n 0, 1) := by decide +kernel
theorem dX11_steps_17 : decode cX11_steps 17 = .ok (.getfield 7, 3) := by decide +kernel
theorem dX11_steps_20 : decode cX11_steps 20 = .ok (.bipush 41, 2) := by decide +kernel
theorem dX11_steps_22 : decode cX11_steps 22 = .ok (.iconst 3, 1) := by decide +kernel
theorem dX11_steps_23 : decode cX11_steps 23 = .ok (.iload 4, 2) := by decide +kernel
theorem dX11_steps_25 : decode cX11_steps 25 = .ok (.imul, 1) := by decide +kernel
theorem dX11_steps_26 : decode cX11_steps 26 = .ok (.iadd, 1) := by decide +kernel
theorem dX11_steps_27 : decode cX11_steps 27 = .ok (.iaload, 1) := by decide +kernel
theorem dX11_steps_28 : decode cX11_steps 28 = .ok (.istore 5, 2) := by decide +kernel
theorem dX11_steps_30 : decode cX11_steps 30 = .ok (.aload_n 0, 1) := by decide +kernel
theorem dX11_steps_31 : decode cX11_steps 31 = .ok (.getfield 7, 3) := by decide +kernel
theorem dX11_steps_34 : decode cX11_steps 34 = .ok (.bipush 41, 2) := by decide +kernel
theorem dX11_steps_36 : decode cX11_steps 36 = .ok (.iconst 3, 1) := by decide +kernel
theorem dX11_steps_37 : decode cX11_steps 37 = .ok (.iload 4, 2) := by decide +kernel
theorem dX11_steps_39 : decode cX11_steps 39 = .ok (.imul, 1) := by decide +kernel
theorem dX11_steps_40 : decode cX11_steps 40 = .ok (.iadd, 1) := by decide +kernel
theorem dX11_steps_41 : decode cX11_steps 41 = .ok (.iconst 1, 1) := by decide +kernel
theorem dX11_steps_42 : decode cX11_steps 42 = .ok (.iadd, 1) := by decide +kernel
theorem dX11_steps_43 : decode cX11_steps 43 = .ok (.iaload, 1) := by decide +kernel
theorem dX11_steps_44 : decode cX11_steps 44 = .ok (.istore 6, 2) := by decide +kernel
theorem dX11_steps_46 : decode cX11_steps 46 = .ok (.iload_n 2, 1) := by decide +kernel
theorem dX11_steps_47 : decode cX11_steps 47 = .ok (.iload 4, 2) := by decide +kernel
theorem dX11_steps_49 : decode cX11_steps 49 = .ok (.ishr, 1) := by decide +kernel
theorem dX11_steps_50 : decode cX11_steps 50 = .ok (.iconst 1, 1) := by decide +kernel
theorem dX11_steps_51 : decode cX11_steps 51 = .ok (.iand, 1) := by decide +kernel
theorem dX11_steps_52 : decode cX11_steps 52 = .ok (.iconst 1, 1) := by decide +kernel
theorem dX11_steps_53 : decode cX11_steps 53 = .ok (.if_icmp .ne 7, 3) := by decide +kernel
theorem dX11_steps_56 : decode cX11_steps 56 = .ok (.iconst 1, 1) := by decide +kernel
theorem dX11_steps_57 : decode cX11_steps 57 = .ok (.goto 4, 3) := by decide +kernel
theorem dX11_steps_60 : decode cX11_steps 60 = .ok (.iconst 0, 1) := by decide +kernel
theorem dX11_steps_61 : decode cX11_steps 61 = .ok (.istore 7, 2) := by decide +kernel
theorem dX11_steps_63 : decode cX11_steps 63 = .ok (.iload_n 3, 1) := by decide +kernel
theorem dX11_steps_64 : decode cX11_steps 64 = .ok (.iload 7, 2) := by decide +kernel
theorem dX11_steps_66 : decode cX11_steps 66 = .ok (.ifCond .eq 20, 3) := by decide +kernel
theorem dX11_steps_69 : decode cX11_steps 69 = .ok (.iload_n 1, 1) := by decide +kernel
theorem dX11_steps_70 : decode cX11_steps 70 = .ok (.iload 5, 2) := by decide +kernel
theorem dX11_steps_72 : decode cX11_steps 72 = .ok (.ishr, 1) := by decide +kernel
theorem dX11_steps_73 : decode cX11_steps 73 = .ok (.iconst 1, 1) := by decide +kernel
theorem dX11_steps_74 : decode cX11_steps 74 = .ok (.iand, 1) := by decide +kernel
theorem dX11_steps_75 : decode cX11_steps 75 = .ok (.iconst 1, 1) := by decide +kernel
theorem dX11_steps_76 : decode cX11_steps 76 = .ok (.if_icmp .ne 10, 3) := by decide +kernel
theorem dX11_steps_79 : decode cX11_steps 79 = .ok (.iconst 1, 1) := by decide +kernel
theorem dX11_steps_80 : decode cX11_steps 80 = .ok (.iload 6, 2) := by decide +kernel
theorem dX11_steps_82 : decode cX11_steps 82 = .ok (.ishl, 1) := by decide +kernel
theorem dX11_steps_83 : decode cX11_steps 83 = .ok (.goto 4, 3) := by decide +kernel
theorem dX11_steps_86 : decode cX11_steps 86 = .ok (.iconst 0, 1) := by decide +kernel
theorem dX11_steps_87 : decode cX11_steps 87 = .ok (.ior, 1) := by decide +kernel
theorem dX11_steps_88 : decode cX11_steps 88 = .ok (.istore_n 3, 1) := by decide +kernel
theorem dX11_steps_89 : decode cX11_steps 89 = .ok (.iload_n 3, 1) := by decide +kernel
theorem dX11_steps_90 : decode cX11_steps 90 = .ok (.iload 7, 2) := by decide +kernel
theorem dX11_steps_92 : decode cX11_steps 92 = .ok (.ifCond .eq 20, 3) := by decide +kernel
theorem dX11_steps_95 : decode cX11_steps 95 = .ok (.iload_n 1, 1) := by decide +kernel
theorem dX11_steps_96 : decode cX11_steps 96 = .ok (.iload 6, 2) := by decide +kernel
theorem dX11_steps_98 : decode cX11_steps 98 = .ok (.ishr, 1) := by decide +kernel
theorem dX11_steps_99 : decode cX11_steps 99 = .ok (.iconst 1, 1) := by decide +kernel
theorem dX11_steps_100 : decode cX11_steps 100 = .ok (.iand, 1) := by decide +kernel
theorem dX11_steps_101 : decode cX11_steps 101 = .ok (.iconst 1, 1) := by decide +kernel
theorem dX11_steps_102 : decode cX11_steps 102 = .ok (.if_icmp .ne 10, 3) := by decide +kernel
theorem dX11_steps_105 : decode cX11_steps 105 = .ok (.iconst 1, 1) := by decide +kernel
theorem dX11_steps_106 : decode cX11_steps 106 = .ok (.iload 5, 2) := by decide +kernel
theorem dX11_steps_108 : decode cX11_steps 108 = .ok (.ishl, 1) := by decide +kernel
theorem dX11_steps_109 : decode cX11_steps 109 = .ok (.goto 4, 3) := by decide +kernel
theorem dX11_steps_112 : decode cX11_steps 112 = .ok (.iconst 0, 1) := by decide +kernel
theorem dX11_steps_113 : decode cX11_steps 113 = .ok (.ior, 1) := by decide +kernel
theorem dX11_steps_114 : decode cX11_steps 114 = .ok (.istore_n 3, 1) := by decide +kernel
theorem dX11_steps_115 : decode cX11_steps 115 = .ok (.iinc 4 1, 3) := by decide +kernel
theorem dX11_steps_118 : decode cX11_steps 118 = .ok (.goto (-113), 3) := by decide +kernel
theorem dX11_steps_121 : decode cX11_steps 121 = .ok (.iload_n 3, 1) := by decide +kernel
theorem dX11_steps_122 : decode cX11_steps 122 = .ok (.ireturn, 1) := by decide +kernel
noncomputable def f_X11_steps (x1 : Int32) (x2 : Int32) (μ : Mem) : Option Int32 :=
  bd (lp (ε := Int32) (cu2 fun (x3_1 : Int32) (x4_2 : Int32) =>
    if x4_2 < (μ.1 113 2) then
      chk (41 + (3 * x4_2)) 184 (
        lt (μ.1 113 (ix (41 + (3 * x4_2)))) fun x5_5 =>
        chk ((41 + (3 * x4_2)) + 1) 184 (
          lt (μ.1 113 (ix ((41 + (3 * x4_2)) + 1))) fun x6_6 =>
          jn (fun (y7 : Int32) =>
            jn (fun (y9 : Int32) =>
              jn (fun (y11 : Int32) =>
                some (.inl (((x3_1 ||| y9) ||| y11), (x4_2 + 1)))
                ) fun j12 =>
              jn (
                j12 0
                ) fun j13 =>
              if y7 = 0 then
                j13
              else
                if ((x1 >>> (x6_6 &&& 31)) &&& 1) = 1 then
                  j12 ((1 : Int32) <<< (x5_5 &&& 31))
                else
                  j13
              ) fun j10 =>
            jn (
              j10 0
              ) fun j14 =>
            if y7 = 0 then
              j14
            else
              if ((x1 >>> (x5_5 &&& 31)) &&& 1) = 1 then
                j10 ((1 : Int32) <<< (x6_6 &&& 31))
              else
                j14
            ) fun j8 =>
          if ((x2 >>> (x4_2 &&& 31)) &&& 1) = 1 then
            j8 1
          else
            j8 0
          )
        )
    else
      some (.inr x3_1)
    ) (x1, 0)) (fun (x3_3 : Int32) =>
    some x3_3
    )
set_option maxHeartbeats 4000000 in
set_option maxRecDepth 100000 in
theorem c_X11_steps {g : GT} {x1 : Int32} {x2 : Int32} {μ : Mem} {r0 : Int32} (hf : f_X11_steps x1 x2 μ = some r0) : CI g yX11_steps cX11_steps 8 (some .int) 1 [rf g 112, .int x1, .int x2] μ r0 μ := by
  refine mk_i (by decide) (Nat.le_of_ble_eq_true rfl) ?_
  intro G hX hR
  have hX : CX g G cX11_steps RX11 8 1 := hX
  suffices S : ∀ K : Int32 → Prop, (∀ a, K a → a = r0) → Sim G (f_X11_steps x1 x2 μ) K 0 [(0, rf g 112), (1, .int x1), (2, .int x2)] [] μ from S (fun a => a = r0) (fun a h => h) _ hf rfl
  intro K hK
  unfold f_X11_steps
  refine s_iload_n hX dX11_steps_0 rfl 1 rfl ?_
  refine s_istore_n (lv' := [(3, .int x1), (0, rf g 112), (1, .int x1), (2, .int x2)]) hX dX11_steps_1 rfl (by decide) rfl ?_
  refine s_iconst (v := 0) hX dX11_steps_2 (by decide) ?_
  refine s_istore (lv' := [(4, .int 0), (3, .int x1), (0, rf g 112), (1, .int x1), (2, .int x2)]) hX dX11_steps_3 (by decide) rfl ?_
  refine s_loop hX 5 121 (fun s : Int32 × Int32 => [(0, rf g 112), (1, .int x1), (2, .int x2), (3, .int s.1), (4, .int s.2)]) (fun s : Int32 × Int32 => μ) (fun s : Int32 => [(3, .int s)]) (fun s : Int32 => μ) [2, 3, 4, 1, 0] rfl rfl rfl ?_ ?_
  · intro Kq4 hIq4 hJq4 sq
    obtain ⟨x3_1, x4_2⟩ := sq
    refine s_cu2 ?_
    show Sim G _ _ 5 [(0, rf g 112), (1, .int x1), (2, .int x2), (3, .int x3_1), (4, .int x4_2)] [] μ
    refine s_iload hX dX11_steps_5 4 rfl ?_
    refine s_aload_n hX dX11_steps_7 rfl 0 rfl ?_
    refine s_getR hX (d := 1) 113 flX11_7 rfl rfl dX11_steps_8 ?_
    refine s_iconst (v := 2) hX dX11_steps_11 (by decide) ?_
    refine s_ialdK hX rfl rfl (by decide) rfl dX11_steps_12 ?_
    refine s_icmp_ge hX 121 dX11_steps_13 (by decide) ?_ ?_
    · exact s_end hX (hJq4 x3_1) [3] rfl
    · refine s_aload_n hX dX11_steps_16 rfl 0 rfl ?_
      refine s_getR hX (d := 1) 113 flX11_7 rfl rfl dX11_steps_17 ?_
      refine s_bipush (v := 41) hX dX11_steps_20 (by decide) ?_
      refine s_iconst (v := 3) hX dX11_steps_22 (by decide) ?_
      refine s_iload hX dX11_steps_23 4 rfl ?_
      refine s_imul hX dX11_steps_25 ?_
      refine s_iadd hX dX11_steps_26 ?_
      refine s_iald hX rfl rfl dX11_steps_27 ?_
      refine s_lti (fun x5_5 => ?_)
      refine s_istore (lv' := [(5, .int x5_5), (0, rf g 112), (1, .int x1), (2, .int x2), (3, .int x3_1), (4, .int x4_2)]) hX dX11_steps_28 (by decide) rfl ?_
      refine s_aload_n hX dX11_steps_30 rfl 1 rfl ?_
      refine s_getR hX (d := 1) 113 flX11_7 rfl rfl dX11_steps_31 ?_
      refine s_bipush (v := 41) hX dX11_steps_34 (by decide) ?_
      refine s_iconst (v := 3) hX dX11_steps_36 (by decide) ?_
      refine s_iload hX dX11_steps_37 5 rfl ?_
      refine s_imul hX dX11_steps_39 ?_
      refine s_iadd hX dX11_steps_40 ?_
      refine s_iconst (v := 1) hX dX11_steps_41 (by decide) ?_
      refine s_iadd hX dX11_steps_42 ?_
      refine s_iald hX rfl rfl dX11_steps_43 ?_
      refine s_lti (fun x6_6 => ?_)
      refine s_istore (lv' := [(6, .int x6_6), (5, .int x5_5), (0, rf g 112), (1, .int x1), (2, .int x2), (3, .int x3_1), (4, .int x4_2)]) hX dX11_steps_44 (by decide) rfl ?_
      refine s_iload_n hX dX11_steps_46 rfl 4 rfl ?_
      refine s_iload hX dX11_steps_47 6 rfl ?_
      refine s_ishr hX dX11_steps_49 ?_
      refine s_iconst (v := 1) hX dX11_steps_50 (by decide) ?_
      refine s_iand hX dX11_steps_51 ?_
      refine s_iconst (v := 1) hX dX11_steps_52 (by decide) ?_
      refine s_jn (C := fun j => ∀ (y7 : Int32), Sim G (j y7) Kq4 61 [(0, rf g 112), (1, .int x1), (2, .int x2), (3, .int x3_1), (4, .int x4_2), (5, .int x5_5), (6, .int x6_6)] [.int y7] μ) ?_ (fun j8 hj8 => ?_)
      · intro y7
        show Sim G _ _ 61 [(0, rf g 112), (1, .int x1), (2, .int x2), (3, .int x3_1), (4, .int x4_2), (5, .int x5_5), (6, .int x6_6)] [.int y7] μ
        refine s_istore (lv' := [(7, .int y7), (0, rf g 112), (1, .int x1), (2, .int x2), (3, .int x3_1), (4, .int x4_2), (5, .int x5_5), (6, .int x6_6)]) hX dX11_steps_61 (by decide) rfl ?_
        refine s_iload_n hX dX11_steps_63 rfl 4 rfl ?_
        refine s_iload hX dX11_steps_64 0 rfl ?_
        refine s_jn (C := fun j => ∀ (y9 : Int32), Sim G (j y9) Kq4 87 [(0, rf g 112), (1, .int x1), (2, .int x2), (4, .int x4_2), (5, .int x5_5), (6, .int x6_6), (7, .int y7)] [.int y9, .int x3_1] μ) ?_ (fun j10 hj10 => ?_)
        · intro y9
          show Sim G _ _ 87 [(0, rf g 112), (1, .int x1), (2, .int x2), (4, .int x4_2), (5, .int x5_5), (6, .int x6_6), (7, .int y7)] [.int y9, .int x3_1] μ
          refine s_ior hX dX11_steps_87 ?_
          refine s_istore_n (lv' := [(3, .int (x3_1 ||| y9)), (0, rf g 112), (1, .int x1), (2, .int x2), (4, .int x4_2), (5, .int x5_5), (6, .int x6_6), (7, .int y7)]) hX dX11_steps_88 rfl (by decide) rfl ?_
          refine s_iload_n hX dX11_steps_89 rfl 0 rfl ?_
          refine s_iload hX dX11_steps_90 7 rfl ?_
          refine s_jn (C := fun j => ∀ (y11 : Int32), Sim G (j y11) Kq4 113 [(0, rf g 112), (1, .int x1), (2, .int x2), (4, .int x4_2)] [.int y11, .int (x3_1 ||| y9)] μ) ?_ (fun j12 hj12 => ?_)
          · intro y11
            show Sim G _ _ 113 [(0, rf g 112), (1, .int x1), (2, .int x2), (4, .int x4_2)] [.int y11, .int (x3_1 ||| y9)] μ
            refine s_ior hX dX11_steps_113 ?_
            refine s_istore_n (lv' := [(3, .int ((x3_1 ||| y9) ||| y11)), (0, rf g 112), (1, .int x1), (2, .int x2), (4, .int x4_2)]) hX dX11_steps_114 rfl (by decide) rfl ?_
            refine s_iinc (v := (x4_2 + 1)) (lv' := [(4, .int (x4_2 + 1)), (3, .int ((x3_1 ||| y9) ||| y11)), (0, rf g 112), (1, .int x1), (2, .int x2)]) hX dX11_steps_115 4 rfl rfl (by decide) rfl ?_
            refine s_goto hX 5 dX11_steps_118 (by decide) ?_
            exact s_end hX (hIq4 (((x3_1 ||| y9) ||| y11), (x4_2 + 1))) [2, 3, 4, 1, 0] rfl
          refine s_jn (C := fun j => Sim G (j) Kq4 112 [(0, rf g 112), (1, .int x1), (2, .int x2), (4, .int x4_2)] [.int (x3_1 ||| y9)] μ) ?_ (fun j13 hj13 => ?_)
          · skip
            show Sim G _ _ 112 [(0, rf g 112), (1, .int x1), (2, .int x2), (4, .int x4_2)] [.int (x3_1 ||| y9)] μ
            refine s_iconst (v := 0) hX dX11_steps_112 (by decide) ?_
            exact s_to hX [0, 1, 2, 3] rfl (hj12 0)
          refine s_if_eq hX 112 dX11_steps_92 (by decide) ?_ ?_
          · exact s_to hX [1, 2, 3, 4] rfl (hj13)
          · refine s_iload_n hX dX11_steps_95 rfl 2 rfl ?_
            refine s_iload hX dX11_steps_96 6 rfl ?_
            refine s_ishr hX dX11_steps_98 ?_
            refine s_iconst (v := 1) hX dX11_steps_99 (by decide) ?_
            refine s_iand hX dX11_steps_100 ?_
            refine s_iconst (v := 1) hX dX11_steps_101 (by decide) ?_
            refine s_icmp_ne hX 112 dX11_steps_102 (by decide) ?_ ?_
            · exact s_to hX [1, 2, 3, 4] rfl (hj13)
            · refine s_iconst (v := 1) hX dX11_steps_105 (by decide) ?_
              refine s_iload hX dX11_steps_106 5 rfl ?_
              refine s_ishl hX dX11_steps_108 ?_
              refine s_goto hX 113 dX11_steps_109 (by decide) ?_
              exact s_to hX [1, 2, 3, 4] rfl (hj12 ((1 : Int32) <<< (x5_5 &&& 31)))
        refine s_jn (C := fun j => Sim G (j) Kq4 86 [(0, rf g 112), (1, .int x1), (2, .int x2), (4, .int x4_2), (5, .int x5_5), (6, .int x6_6), (7, .int y7)] [.int x3_1] μ) ?_ (fun j14 hj14 => ?_)
        · skip
          show Sim G _ _ 86 [(0, rf g 112), (1, .int x1), (2, .int x2), (4, .int x4_2), (5, .int x5_5), (6, .int x6_6), (7, .int y7)] [.int x3_1] μ
          refine s_iconst (v := 0) hX dX11_steps_86 (by decide) ?_
          exact s_to hX [0, 1, 2, 3, 4, 5, 6] rfl (hj10 0)
        refine s_if_eq hX 86 dX11_steps_66 (by decide) ?_ ?_
        · exact s_to hX [1, 2, 3, 5, 6, 7, 0] rfl (hj14)
        · refine s_iload_n hX dX11_steps_69 rfl 2 rfl ?_
          refine s_iload hX dX11_steps_70 6 rfl ?_
          refine s_ishr hX dX11_steps_72 ?_
          refine s_iconst (v := 1) hX dX11_steps_73 (by decide) ?_
          refine s_iand hX dX11_steps_74 ?_
          refine s_iconst (v := 1) hX dX11_steps_75 (by decide) ?_
          refine s_icmp_ne hX 86 dX11_steps_76 (by decide) ?_ ?_
          · exact s_to hX [1, 2, 3, 5, 6, 7, 0] rfl (hj14)
          · refine s_iconst (v := 1) hX dX11_steps_79 (by decide) ?_
            refine s_iload hX dX11_steps_80 7 rfl ?_
            refine s_ishl hX dX11_steps_82 ?_
            refine s_goto hX 87 dX11_steps_83 (by decide) ?_
            exact s_to hX [1, 2, 3, 5, 6, 7, 0] rfl (hj10 ((1 : Int32) <<< (x6_6 &&& 31)))
      refine s_icmp_ne hX 60 dX11_steps_53 (by decide) ?_ ?_
      · refine s_iconst (v := 0) hX dX11_steps_60 (by decide) ?_
        exact s_to hX [2, 3, 4, 5, 6, 1, 0] rfl (hj8 0)
      · refine s_iconst (v := 1) hX dX11_steps_56 (by decide) ?_
        refine s_goto hX 61 dX11_steps_57 (by decide) ?_
        exact s_to hX [2, 3, 4, 5, 6, 1, 0] rfl (hj8 1)
  · intro sq
    obtain ⟨x3_3, rfl⟩ : ∃ z, z = sq := ⟨_, rfl⟩
    show Sim G _ _ 121 [(3, .int x3_3)] [] μ
    refine s_iload_n hX dX11_steps_121 rfl 0 rfl ?_
    exact s_iretr hK hR dX11_steps_122
theorem dX11_takenOf_0 : decode cX11_takenOf 0 = .ok (.iload_n 1, 1) := by decide +kernel
theorem dX11_takenOf_1 : decode cX11_takenOf 1 = .ok (.bipush 9, 2) := by decide +kernel
theorem dX11_takenOf_3 : decode cX11_takenOf 3 = .ok (.iadd, 1) := by decide +kernel
theorem dX11_takenOf_4 : decode cX11_takenOf 4 = .ok (.bipush 10, 2) := by decide +kernel
theorem dX11_takenOf_6 : decode cX11_takenOf 6 = .ok (.idiv, 1) := by decide +kernel
theorem dX11_takenOf_7 : decode cX11_takenOf 7 = .ok (.istore_n 2, 1) := by decide +kernel
theorem dX11_takenOf_8 : decode cX11_takenOf 8 = .ok (.iload_n 0, 1) := by decide +kernel
theorem dX11_takenOf_9 : decode cX11_takenOf 9 = .ok (.iconst 2, 1) := by decide +kernel
theorem dX11_takenOf_10 : decode cX11_takenOf 10 = .ok (.if_icmp .ne 7, 3) := by decide +kernel
theorem dX11_takenOf_13 : decode cX11_takenOf 13 = .ok (.iconst 0, 1) := by decide +kernel
theorem dX11_takenOf_14 : decode cX11_takenOf 14 = .ok (.goto 32, 3) := by decide +kernel
theorem dX11_takenOf_17 : decode cX11_takenOf 17 = .ok (.iload_n 0, 1) := by decide +kernel
theorem dX11_takenOf_18 : decode cX11_takenOf 18 = .ok (.iconst 4, 1) := by decide +kernel
theorem dX11_takenOf_19 : decode cX11_takenOf 19 = .ok (.if_icmp .ne 9, 3) := by decide +kernel
theorem dX11_takenOf_22 : decode cX11_takenOf 22 = .ok (.iload_n 2, 1) := by decide +kernel
theorem dX11_takenOf_23 : decode cX11_takenOf 23 = .ok (.iconst 2, 1) := by decide +kernel
theorem dX11_takenOf_24 : decode cX11_takenOf 24 = .ok (.idiv, 1) := by decide +kernel
theorem dX11_takenOf_25 : decode cX11_takenOf 25 = .ok (.goto 21, 3) := by decide +kernel
theorem dX11_takenOf_28 : decode cX11_takenOf 28 = .ok (.iload_n 0, 1) := by decide +kernel
theorem dX11_takenOf_29 : decode cX11_takenOf 29 = .ok (.iconst 5, 1) := by decide +kernel
theorem dX11_takenOf_30 : decode cX11_takenOf 30 = .ok (.if_icmp .ne 15, 3) := by decide +kernel
theorem dX11_takenOf_33 : decode cX11_takenOf 33 = .ok (.iload_n 1, 1) := by decide +kernel
theorem dX11_takenOf_34 : decode cX11_takenOf 34 = .ok (.ifCond .le 7, 3) := by decide +kernel
theorem dX11_takenOf_37 : decode cX11_takenOf 37 = .ok (.iconst 1, 1) := by decide +kernel
theorem dX11_takenOf_38 : decode cX11_takenOf 38 = .ok (.goto 8, 3) := by decide +kernel
theorem dX11_takenOf_41 : decode cX11_takenOf 41 = .ok (.iconst 0, 1) := by decide +kernel
theorem dX11_takenOf_42 : decode cX11_takenOf 42 = .ok (.goto 4, 3) := by decide +kernel
theorem dX11_takenOf_45 : decode cX11_takenOf 45 = .ok (.iload_n 2, 1) := by decide +kernel
theorem dX11_takenOf_46 : decode cX11_takenOf 46 = .ok (.ireturn, 1) := by decide +kernel
noncomputable def f_X11_takenOf (x0 : Int32) (x1 : Int32) : Option Int32 :=
  jn (fun (y1 : Int32) =>
    some y1
    ) fun j2 =>
  if x0 = 2 then
    j2 0
  else
    if x0 = 4 then
      j2 (((x1 + 9) / 10) / 2)
    else
      if x0 = 5 then
        if 0 < x1 then
          j2 1
        else
          j2 0
      else
        j2 ((x1 + 9) / 10)
set_option maxHeartbeats 4000000 in
set_option maxRecDepth 100000 in
theorem c_X11_takenOf {g : GT} {x0 : Int32} {x1 : Int32} {μ : Mem} {r0 : Int32} (hf : f_X11_takenOf x0 x1 = some r0) : CI g yX11_takenOf cX11_takenOf 3 (some .int) 1 [.int x0, .int x1] μ r0 μ := by
  refine mk_i (by decide) (Nat.le_of_ble_eq_true rfl) ?_
  intro G hX hR
  have hX : CX g G cX11_takenOf RX11 3 1 := hX
  suffices S : ∀ K : Int32 → Prop, (∀ a, K a → a = r0) → Sim G (f_X11_takenOf x0 x1) K 0 [(0, .int x0), (1, .int x1)] [] μ from S (fun a => a = r0) (fun a h => h) _ hf rfl
  intro K hK
  unfold f_X11_takenOf
  refine s_iload_n hX dX11_takenOf_0 rfl 1 rfl ?_
  refine s_bipush (v := 9) hX dX11_takenOf_1 (by decide) ?_
  refine s_iadd hX dX11_takenOf_3 ?_
  refine s_bipush (v := 10) hX dX11_takenOf_4 (by decide) ?_
  refine s_idiv hX dX11_takenOf_6 (by decide) ?_
  refine s_istore_n (lv' := [(2, .int ((x1 + 9) / 10)), (0, .int x0), (1, .int x1)]) hX dX11_takenOf_7 rfl (by decide) rfl ?_
  refine s_iload_n hX dX11_takenOf_8 rfl 1 rfl ?_
  refine s_iconst (v := 2) hX dX11_takenOf_9 (by decide) ?_
  refine s_jn (C := fun j => ∀ (y1 : Int32), Sim G (j y1) K 46 [] [.int y1] μ) ?_ (fun j2 hj2 => ?_)
  · intro y1
    show Sim G _ _ 46 [] [.int y1] μ
    exact s_iretr hK hR dX11_takenOf_46
  refine s_icmp_ne hX 17 dX11_takenOf_10 (by decide) ?_ ?_
  · refine s_iload_n hX dX11_takenOf_17 rfl 1 rfl ?_
    refine s_iconst (v := 4) hX dX11_takenOf_18 (by decide) ?_
    refine s_icmp_ne hX 28 dX11_takenOf_19 (by decide) ?_ ?_
    · refine s_iload_n hX dX11_takenOf_28 rfl 1 rfl ?_
      refine s_iconst (v := 5) hX dX11_takenOf_29 (by decide) ?_
      refine s_icmp_ne hX 45 dX11_takenOf_30 (by decide) ?_ ?_
      · refine s_iload_n hX dX11_takenOf_45 rfl 0 rfl ?_
        exact s_to hX [] rfl (hj2 ((x1 + 9) / 10))
      · refine s_iload_n hX dX11_takenOf_33 rfl 2 rfl ?_
        refine s_if_le hX 41 dX11_takenOf_34 (by decide) ?_ ?_
        · refine s_iconst (v := 0) hX dX11_takenOf_41 (by decide) ?_
          refine s_goto hX 46 dX11_takenOf_42 (by decide) ?_
          exact s_to hX [] rfl (hj2 0)
        · refine s_iconst (v := 1) hX dX11_takenOf_37 (by decide) ?_
          refine s_goto hX 46 dX11_takenOf_38 (by decide) ?_
          exact s_to hX [] rfl (hj2 1)
    · refine s_iload_n hX dX11_takenOf_22 rfl 0 rfl ?_
      refine s_iconst (v := 2) hX dX11_takenOf_23 (by decide) ?_
      refine s_idiv hX dX11_takenOf_24 (by decide) ?_
      refine s_goto hX 46 dX11_takenOf_25 (by decide) ?_
      exact s_to hX [] rfl (hj2 (((x1 + 9) / 10) / 2))
  · refine s_iconst (v := 0) hX dX11_takenOf_13 (by decide) ?_
    refine s_goto hX 46 dX11_takenOf_14 (by decide) ?_
    exact s_to hX [] rfl (hj2 0)
theorem dX11_verbOf_0 : decode cX11_verbOf 0 = .ok (.lload_n 0, 1) := by decide +kernel
theorem dX11_verbOf_1 : decode cX11_verbOf 1 = .ok (.ldc2_w 99, 3) := by decide +kernel
theorem dX11_verbOf_4 : decode cX11_verbOf 4 = .ok (.lcmp, 1) := by decide +kernel
theorem dX11_verbOf_5 : decode cX11_verbOf 5 = .ok (.ifCond .ne 7, 3) := by decide +kernel
theorem dX11_verbOf_8 : decode cX11_verbOf 8 = .ok (.iconst 0, 1) := by decide +kernel
theorem dX11_verbOf_9 : decode cX11_verbOf 9 = .ok (.goto 28, 3) := by decide +kernel
theorem dX11_verbOf_12 : decode cX11_verbOf 12 = .ok (.lload_n 0, 1) := by decide +kernel
theorem dX11_verbOf_13 : decode cX11_verbOf 13 = .ok (.ldc2_w 101, 3) := by decide +kernel
theorem dX11_verbOf_16 : decode cX11_verbOf 16 = .ok (.lcmp, 1) := by decide +kernel
theorem dX11_verbOf_17 : decode cX11_verbOf 17 = .ok (.ifCond .ne 7, 3) := by decide +kernel
theorem dX11_verbOf_20 : decode cX11_verbOf 20 = .ok (.iconst 1, 1) := by decide +kernel
theorem dX11_verbOf_21 : decode cX11_verbOf 21 = .ok (.goto 16, 3) := by decide +kernel
theorem dX11_verbOf_24 : decode cX11_verbOf 24 = .ok (.lload_n 0, 1) := by decide +kernel
theorem dX11_verbOf_25 : decode cX11_verbOf 25 = .ok (.ldc2_w 103, 3) := by decide +kernel
theorem dX11_verbOf_28 : decode cX11_verbOf 28 = .ok (.lcmp, 1) := by decide +kernel
theorem dX11_verbOf_29 : decode cX11_verbOf 29 = .ok (.ifCond .ne 7, 3) := by decide +kernel
theorem dX11_verbOf_32 : decode cX11_verbOf 32 = .ok (.iconst 2, 1) := by decide +kernel
theorem dX11_verbOf_33 : decode cX11_verbOf 33 = .ok (.goto 4, 3) := by decide +kernel
theorem dX11_verbOf_36 : decode cX11_verbOf 36 = .ok (.iconst (-1), 1) := by decide +kernel
theorem dX11_verbOf_37 : decode cX11_verbOf 37 = .ok (.istore_n 2, 1) := by decide +kernel
theorem dX11_verbOf_38 : decode cX11_verbOf 38 = .ok (.lload_n 0, 1) := by decide +kernel
theorem dX11_verbOf_39 : decode cX11_verbOf 39 = .ok (.ldc2_w 105, 3) := by decide +kernel
theorem dX11_verbOf_42 : decode cX11_verbOf 42 = .ok (.lcmp, 1) := by decide +kernel
theorem dX11_verbOf_43 : decode cX11_verbOf 43 = .ok (.ifCond .ne 7, 3) := by decide +kernel
theorem dX11_verbOf_46 : decode cX11_verbOf 46 = .ok (.iconst 3, 1) := by decide +kernel
theorem dX11_verbOf_47 : decode cX11_verbOf 47 = .ok (.goto 28, 3) := by decide +kernel
theorem dX11_verbOf_50 : decode cX11_verbOf 50 = .ok (.lload_n 0, 1) := by decide +kernel
theorem dX11_verbOf_51 : decode cX11_verbOf 51 = .ok (.ldc2_w 107, 3) := by decide +kernel
theorem dX11_verbOf_54 : decode cX11_verbOf 54 = .ok (.lcmp, 1) := by decide +kernel
theorem dX11_verbOf_55 : decode cX11_verbOf 55 = .ok (.ifCond .ne 7, 3) := by decide +kernel
theorem dX11_verbOf_58 : decode cX11_verbOf 58 = .ok (.iconst 4, 1) := by decide +kernel
theorem dX11_verbOf_59 : decode cX11_verbOf 59 = .ok (.goto 16, 3) := by decide +kernel
theorem dX11_verbOf_62 : decode cX11_verbOf 62 = .ok (.lload_n 0, 1) := by decide +kernel
theorem dX11_verbOf_63 : decode cX11_verbOf 63 = .ok (.ldc2_w 109, 3) := by decide +kernel
theorem dX11_verbOf_66 : decode cX11_verbOf 66 = .ok (.lcmp, 1) := by decide +kernel
theorem dX11_verbOf_67 : decode cX11_verbOf 67 = .ok (.ifCond .ne 7, 3) := by decide +kernel
theorem dX11_verbOf_70 : decode cX11_verbOf 70 = .ok (.iconst 5, 1) := by decide +kernel
theorem dX11_verbOf_71 : decode cX11_verbOf 71 = .ok (.goto 4, 3) := by decide +kernel
theorem dX11_verbOf_74 : decode cX11_verbOf 74 = .ok (.iconst (-1), 1) := by decide +kernel
theorem dX11_verbOf_75 : decode cX11_verbOf 75 = .ok (.istore_n 3, 1) := by decide +kernel
theorem dX11_verbOf_76 : decode cX11_verbOf 76 = .ok (.iload_n 2, 1) := by decide +kernel
theorem dX11_verbOf_77 : decode cX11_verbOf 77 = .ok (.iconst (-1), 1) := by decide +kernel
theorem dX11_verbOf_78 : decode cX11_verbOf 78 = .ok (.if_icmp .eq 7, 3) := by decide +kernel
theorem dX11_verbOf_81 : decode cX11_verbOf 81 = .ok (.iload_n 2, 1) := by decide +kernel
theorem dX11_verbOf_82 : decode cX11_verbOf 82 = .ok (.goto 4, 3) := by decide +kernel
theorem dX11_verbOf_85 : decode cX11_verbOf 85 = .ok (.iload_n 3, 1) := by decide +kernel
theorem dX11_verbOf_86 : decode cX11_verbOf 86 = .ok (.ireturn, 1) := by decide +kernel
noncomputable def f_X11_verbOf (x0 : Int64) : Option Int32 :=
  jn (fun (y1 : Int32) =>
    jn (fun (y3 : Int32) =>
      jn (fun (y5 : Int32) =>
        some y5
        ) fun j6 =>
      if y1 = (-1) then
        j6 y3
      else
        j6 y1
      ) fun j4 =>
    if x0 = 3554980 then
      j4 3
    else
      if x0 = 605220 then
        j4 4
      else
        if x0 = 8029764 then
          j4 5
        else
          j4 (-1)
    ) fun j2 =>
  if x0 = 117095065 then
    j2 0
  else
    if x0 = 12788 then
      j2 1
    else
      if x0 = 254271112 then
        j2 2
      else
        j2 (-1)
set_option maxHeartbeats 4000000 in
set_option maxRecDepth 100000 in
theorem c_X11_verbOf {g : GT} {x0 : Int64} {μ : Mem} {r0 : Int32} (hf : f_X11_verbOf x0 = some r0) : CI g yX11_verbOf cX11_verbOf 4 (some .int) 1 [.long x0] μ r0 μ := by
  refine mk_i (by decide) (Nat.le_of_ble_eq_true rfl) ?_
  intro G hX hR
  have hX : CX g G cX11_verbOf RX11 4 1 := hX
  suffices S : ∀ K : Int32 → Prop, (∀ a, K a → a = r0) → Sim G (f_X11_verbOf x0) K 0 [(0, .long x0)] [] μ from S (fun a => a = r0) (fun a h => h) _ hf rfl
  intro K hK
  unfold f_X11_verbOf
  refine s_lload_n hX dX11_verbOf_0 rfl 0 rfl ?_
  refine s_ldc2 hX dX11_verbOf_1 klX11_99 ?_
  refine s_jn (C := fun j => ∀ (y1 : Int32), Sim G (j y1) K 37 [(0, .long x0)] [.int y1] μ) ?_ (fun j2 hj2 => ?_)
  · intro y1
    show Sim G _ _ 37 [(0, .long x0)] [.int y1] μ
    refine s_istore_n (lv' := [(2, .int y1), (0, .long x0)]) hX dX11_verbOf_37 rfl (by decide) rfl ?_
    refine s_lload_n hX dX11_verbOf_38 rfl 1 rfl ?_
    refine s_ldc2 hX dX11_verbOf_39 klX11_105 ?_
    refine s_jn (C := fun j => ∀ (y3 : Int32), Sim G (j y3) K 75 [(2, .int y1)] [.int y3] μ) ?_ (fun j4 hj4 => ?_)
    · intro y3
      show Sim G _ _ 75 [(2, .int y1)] [.int y3] μ
      refine s_istore_n (lv' := [(3, .int y3), (2, .int y1)]) hX dX11_verbOf_75 rfl (by decide) rfl ?_
      refine s_iload_n hX dX11_verbOf_76 rfl 1 rfl ?_
      refine s_iconst (v := (-1)) hX dX11_verbOf_77 (by decide) ?_
      refine s_jn (C := fun j => ∀ (y5 : Int32), Sim G (j y5) K 86 [] [.int y5] μ) ?_ (fun j6 hj6 => ?_)
      · intro y5
        show Sim G _ _ 86 [] [.int y5] μ
        exact s_iretr hK hR dX11_verbOf_86
      refine s_icmp_eq hX 85 dX11_verbOf_78 (by decide) ?_ ?_
      · refine s_iload_n hX dX11_verbOf_85 rfl 0 rfl ?_
        exact s_to hX [] rfl (hj6 y3)
      · refine s_iload_n hX dX11_verbOf_81 rfl 1 rfl ?_
        refine s_goto hX 86 dX11_verbOf_82 (by decide) ?_
        exact s_to hX [] rfl (hj6 y1)
    refine s_lcmp_ne hX 50 dX11_verbOf_42 dX11_verbOf_43 (by decide) ?_ ?_
    · refine s_lload_n hX dX11_verbOf_50 rfl 1 rfl ?_
      refine s_ldc2 hX dX11_verbOf_51 klX11_107 ?_
      refine s_lcmp_ne hX 62 dX11_verbOf_54 dX11_verbOf_55 (by decide) ?_ ?_
      · refine s_lload_n hX dX11_verbOf_62 rfl 1 rfl ?_
        refine s_ldc2 hX dX11_verbOf_63 klX11_109 ?_
        refine s_lcmp_ne hX 74 dX11_verbOf_66 dX11_verbOf_67 (by decide) ?_ ?_
        · refine s_iconst (v := (-1)) hX dX11_verbOf_74 (by decide) ?_
          exact s_to hX [0] rfl (hj4 (-1))
        · refine s_iconst (v := 5) hX dX11_verbOf_70 (by decide) ?_
          refine s_goto hX 75 dX11_verbOf_71 (by decide) ?_
          exact s_to hX [0] rfl (hj4 5)
      · refine s_iconst (v := 4) hX dX11_verbOf_58 (by decide) ?_
        refine s_goto hX 75 dX11_verbOf_59 (by decide) ?_
        exact s_to hX [0] rfl (hj4 4)
    · refine s_iconst (v := 3) hX dX11_verbOf_46 (by decide) ?_
      refine s_goto hX 75 dX11_verbOf_47 (by decide) ?_
      exact s_to hX [0] rfl (hj4 3)
  refine s_lcmp_ne hX 12 dX11_verbOf_4 dX11_verbOf_5 (by decide) ?_ ?_
  · refine s_lload_n hX dX11_verbOf_12 rfl 0 rfl ?_
    refine s_ldc2 hX dX11_verbOf_13 klX11_101 ?_
    refine s_lcmp_ne hX 24 dX11_verbOf_16 dX11_verbOf_17 (by decide) ?_ ?_
    · refine s_lload_n hX dX11_verbOf_24 rfl 0 rfl ?_
      refine s_ldc2 hX dX11_verbOf_25 klX11_103 ?_
      refine s_lcmp_ne hX 36 dX11_verbOf_28 dX11_verbOf_29 (by decide) ?_ ?_
      · refine s_iconst (v := (-1)) hX dX11_verbOf_36 (by decide) ?_
        exact s_to hX [0] rfl (hj2 (-1))
      · refine s_iconst (v := 2) hX dX11_verbOf_32 (by decide) ?_
        refine s_goto hX 37 dX11_verbOf_33 (by decide) ?_
        exact s_to hX [0] rfl (hj2 2)
    · refine s_iconst (v := 1) hX dX11_verbOf_20 (by decide) ?_
      refine s_goto hX 37 dX11_verbOf_21 (by decide) ?_
      exact s_to hX [0] rfl (hj2 1)
  · refine s_iconst (v := 0) hX dX11_verbOf_8 (by decide) ?_
    refine s_goto hX 37 dX11_verbOf_9 (by decide) ?_
    exact s_to hX [0] rfl (hj2 0)
theorem dX11_waysOf_0 : decode cX11_waysOf 0 = .ok (.lconst 1, 1) := by decide +kernel
theorem dX11_waysOf_1 : decode cX11_waysOf 1 = .ok (.lstore_n 2, 1) := by decide +kernel
theorem dX11_waysOf_2 : decode cX11_waysOf 2 = .ok (.iconst 0, 1) := by decide +kernel
theorem dX11_waysOf_3 : decode cX11_waysOf 3 = .ok (.istore 4, 2) := by decide +kernel
theorem dX11_waysOf_5 : decode cX11_waysOf 5 = .ok (.iload 4, 2) := by decide +kernel
theorem dX11_waysOf_7 : decode cX11_waysOf 7 = .ok (.aload_n 0, 1) := by decide +kernel
theorem dX11_waysOf_8 : decode cX11_waysOf 8 = .ok (.getfield 7, 3) := by decide +kernel
theorem dX11_waysOf_11 : decode cX11_waysOf 11 = .ok (.iconst 0, 1) := by decide +kernel
theorem dX11_waysOf_12 : decode cX11_waysOf 12 = .ok (.iaload, 1) := by decide +kernel
theorem dX11_waysOf_13 : decode cX11_waysOf 13 = .ok (.if_icmp .ge 50, 3) := by decide +kernel
theorem dX11_waysOf_16 : decode cX11_waysOf 16 = .ok (.lload_n 2, 1) := by decide +kernel
theorem dX11_waysOf_17 : decode cX11_waysOf 17 = .ok (.iload_n 1, 1) := by decide +kernel
theorem dX11_waysOf_18 : decode cX11_waysOf 18 = .ok (.iload 4, 2) := by decide +kernel
theorem dX11_waysOf_20 : decode cX11_waysOf 20 = .ok (.ishr, 1) := by decide +kernel
theorem dX11_waysOf_21 : decode cX11_waysOf 21 = .ok (.iconst 1, 1) := by decide +kernel
theorem dX11_waysOf_22 : decode cX11_waysOf 22 = .ok (.iand, 1) := by decide +kernel
theorem dX11_waysOf_23 : decode cX11_waysOf 23 = .ok (.iconst 1, 1) := by decide +kernel
theorem dX11_waysOf_24 : decode cX11_waysOf 24 = .ok (.if_icmp .ne 17, 3) := by decide +kernel
theorem dX11_waysOf_27 : decode cX11_waysOf 27 = .ok (.aload_n 0, 1) := by decide +kernel
theorem dX11_waysOf_28 : decode cX11_waysOf 28 = .ok (.getfield 7, 3) := by decide +kernel
theorem dX11_waysOf_31 : decode cX11_waysOf 31 = .ok (.bipush 36, 2) := by decide +kernel
theorem dX11_waysOf_33 : decode cX11_waysOf 33 = .ok (.iload 4, 2) := by decide +kernel
theorem dX11_waysOf_35 : decode cX11_waysOf 35 = .ok (.iadd, 1) := by decide +kernel
theorem dX11_waysOf_36 : decode cX11_waysOf 36 = .ok (.iaload, 1) := by decide +kernel
theorem dX11_waysOf_37 : decode cX11_waysOf 37 = .ok (.i2l, 1) := by decide +kernel
theorem dX11_waysOf_38 : decode cX11_waysOf 38 = .ok (.goto 17, 3) := by decide +kernel
theorem dX11_waysOf_41 : decode cX11_waysOf 41 = .ok (.bipush 10, 2) := by decide +kernel
theorem dX11_waysOf_43 : decode cX11_waysOf 43 = .ok (.aload_n 0, 1) := by decide +kernel
theorem dX11_waysOf_44 : decode cX11_waysOf 44 = .ok (.getfield 7, 3) := by decide +kernel
theorem dX11_waysOf_47 : decode cX11_waysOf 47 = .ok (.bipush 36, 2) := by decide +kernel
theorem dX11_waysOf_49 : decode cX11_waysOf 49 = .ok (.iload 4, 2) := by decide +kernel
theorem dX11_waysOf_51 : decode cX11_waysOf 51 = .ok (.iadd, 1) := by decide +kernel
theorem dX11_waysOf_52 : decode cX11_waysOf 52 = .ok (.iaload, 1) := by decide +kernel
theorem dX11_waysOf_53 : decode cX11_waysOf 53 = .ok (.isub, 1) := by decide +kernel
theorem dX11_waysOf_54 : decode cX11_waysOf 54 = .ok (.i2l, 1) := by decide +kernel
theorem dX11_waysOf_55 : decode cX11_waysOf 55 = .ok (.lmul, 1) := by decide +kernel
theorem dX11_waysOf_56 : decode cX11_waysOf 56 = .ok (.lstore_n 2, 1) := by decide +kernel
theorem dX11_waysOf_57 : decode cX11_waysOf 57 = .ok (.iinc 4 1, 3) := by decide +kernel
theorem dX11_waysOf_60 : decode cX11_waysOf 60 = .ok (.goto (-55), 3) := by decide +kernel
theorem dX11_waysOf_63 : decode cX11_waysOf 63 = .ok (.lload_n 2, 1) := by decide +kernel
theorem dX11_waysOf_64 : decode cX11_waysOf 64 = .ok (.lreturn, 1) := by decide +kernel
noncomputable def f_X11_waysOf (x1 : Int32) (μ : Mem) : Option Int64 :=
  bd (lp (ε := Int64) (cu2 fun (x2_1 : Int64) (x4_2 : Int32) =>
    if x4_2 < (μ.1 113 0) then
      jn (fun (y5 : Int64) =>
        some (.inl ((x2_1 * y5), (x4_2 + 1)))
        ) fun j6 =>
      if ((x1 >>> (x4_2 &&& 31)) &&& 1) = 1 then
        chk (36 + x4_2) 184 (
          j6 (((μ.1 113 (ix (36 + x4_2))) : Int32).toInt64)
          )
      else
        chk (36 + x4_2) 184 (
          j6 (((10 - (μ.1 113 (ix (36 + x4_2)))) : Int32).toInt64)
          )
    else
      some (.inr x2_1)
    ) (1, 0)) (fun (x2_3 : Int64) =>
    some x2_3
    )
set_option maxHeartbeats 4000000 in
set_option maxRecDepth 100000 in
theorem c_X11_waysOf {g : GT} {x1 : Int32} {μ : Mem} {r0 : Int64} (hf : f_X11_waysOf x1 μ = some r0) : CL g yX11_waysOf cX11_waysOf 5 (some .long) 1 [rf g 112, .int x1] μ r0 μ := by
  refine mk_l (by decide) (Nat.le_of_ble_eq_true rfl) ?_
  intro G hX hR
  have hX : CX g G cX11_waysOf RX11 5 1 := hX
  suffices S : ∀ K : Int64 → Prop, (∀ a, K a → a = r0) → Sim G (f_X11_waysOf x1 μ) K 0 [(0, rf g 112), (1, .int x1)] [] μ from S (fun a => a = r0) (fun a h => h) _ hf rfl
  intro K hK
  unfold f_X11_waysOf
  refine s_lconst (v := 1) hX dX11_waysOf_0 (by decide) ?_
  refine s_lstore_n (lv' := [(2, .long 1), (0, rf g 112), (1, .int x1)]) hX dX11_waysOf_1 rfl (by decide) rfl ?_
  refine s_iconst (v := 0) hX dX11_waysOf_2 (by decide) ?_
  refine s_istore (lv' := [(4, .int 0), (2, .long 1), (0, rf g 112), (1, .int x1)]) hX dX11_waysOf_3 (by decide) rfl ?_
  refine s_loop hX 5 63 (fun s : Int64 × Int32 => [(0, rf g 112), (1, .int x1), (2, .long s.1), (4, .int s.2)]) (fun s : Int64 × Int32 => μ) (fun s : Int64 => [(2, .long s)]) (fun s : Int64 => μ) [2, 3, 1, 0] rfl rfl rfl ?_ ?_
  · intro Kq4 hIq4 hJq4 sq
    obtain ⟨x2_1, x4_2⟩ := sq
    refine s_cu2 ?_
    show Sim G _ _ 5 [(0, rf g 112), (1, .int x1), (2, .long x2_1), (4, .int x4_2)] [] μ
    refine s_iload hX dX11_waysOf_5 3 rfl ?_
    refine s_aload_n hX dX11_waysOf_7 rfl 0 rfl ?_
    refine s_getR hX (d := 1) 113 flX11_7 rfl rfl dX11_waysOf_8 ?_
    refine s_iconst (v := 0) hX dX11_waysOf_11 (by decide) ?_
    refine s_ialdK hX rfl rfl (by decide) rfl dX11_waysOf_12 ?_
    refine s_icmp_ge hX 63 dX11_waysOf_13 (by decide) ?_ ?_
    · exact s_end hX (hJq4 x2_1) [2] rfl
    · refine s_lload_n hX dX11_waysOf_16 rfl 2 rfl ?_
      refine s_iload_n hX dX11_waysOf_17 rfl 1 rfl ?_
      refine s_iload hX dX11_waysOf_18 3 rfl ?_
      refine s_ishr hX dX11_waysOf_20 ?_
      refine s_iconst (v := 1) hX dX11_waysOf_21 (by decide) ?_
      refine s_iand hX dX11_waysOf_22 ?_
      refine s_iconst (v := 1) hX dX11_waysOf_23 (by decide) ?_
      refine s_jn (C := fun j => ∀ (y5 : Int64), Sim G (j y5) Kq4 55 [(0, rf g 112), (1, .int x1), (4, .int x4_2)] [.long y5, .long x2_1] μ) ?_ (fun j6 hj6 => ?_)
      · intro y5
        show Sim G _ _ 55 [(0, rf g 112), (1, .int x1), (4, .int x4_2)] [.long y5, .long x2_1] μ
        refine s_lmul hX dX11_waysOf_55 ?_
        refine s_lstore_n (lv' := [(2, .long (x2_1 * y5)), (0, rf g 112), (1, .int x1), (4, .int x4_2)]) hX dX11_waysOf_56 rfl (by decide) rfl ?_
        refine s_iinc (v := (x4_2 + 1)) (lv' := [(4, .int (x4_2 + 1)), (2, .long (x2_1 * y5)), (0, rf g 112), (1, .int x1)]) hX dX11_waysOf_57 3 rfl rfl (by decide) rfl ?_
        refine s_goto hX 5 dX11_waysOf_60 (by decide) ?_
        exact s_end hX (hIq4 ((x2_1 * y5), (x4_2 + 1))) [2, 3, 1, 0] rfl
      refine s_icmp_ne hX 41 dX11_waysOf_24 (by decide) ?_ ?_
      · refine s_bipush (v := 10) hX dX11_waysOf_41 (by decide) ?_
        refine s_aload_n hX dX11_waysOf_43 rfl 0 rfl ?_
        refine s_getR hX (d := 1) 113 flX11_7 rfl rfl dX11_waysOf_44 ?_
        refine s_bipush (v := 36) hX dX11_waysOf_47 (by decide) ?_
        refine s_iload hX dX11_waysOf_49 3 rfl ?_
        refine s_iadd hX dX11_waysOf_51 ?_
        refine s_iald hX rfl rfl dX11_waysOf_52 ?_
        refine s_isub hX dX11_waysOf_53 ?_
        refine s_i2l hX dX11_waysOf_54 ?_
        exact s_to hX [0, 1, 3] rfl (hj6 (((10 - (μ.1 113 (ix (36 + x4_2)))) : Int32).toInt64))
      · refine s_aload_n hX dX11_waysOf_27 rfl 0 rfl ?_
        refine s_getR hX (d := 1) 113 flX11_7 rfl rfl dX11_waysOf_28 ?_
        refine s_bipush (v := 36) hX dX11_waysOf_31 (by decide) ?_
        refine s_iload hX dX11_waysOf_33 3 rfl ?_
        refine s_iadd hX dX11_waysOf_35 ?_
        refine s_iald hX rfl rfl dX11_waysOf_36 ?_
        refine s_i2l hX dX11_waysOf_37 ?_
        refine s_goto hX 55 dX11_waysOf_38 (by decide) ?_
        exact s_to hX [0, 1, 3] rfl (hj6 (((μ.1 113 (ix (36 + x4_2))) : Int32).toInt64))
  · intro sq
    obtain ⟨x2_3, rfl⟩ : ∃ z, z = sq := ⟨_, rfl⟩
    show Sim G _ _ 63 [(2, .long x2_3)] [] μ
    refine s_lload_n hX dX11_waysOf_63 rfl 0 rfl ?_
    exact s_lretr hK hR dX11_waysOf_64
