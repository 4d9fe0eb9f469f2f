theorem dX10_digest_0 : decode cX10_digest 0 = .ok (.ldc2_w 311, 3) := by decide +kernel
theorem dX10_digest_3 : decode cX10_digest 3 = .ok (.lstore_n 1, 1) := by decide +kernel
theorem dX10_digest_4 : decode cX10_digest 4 = .ok (.iconst 0, 1) := by decide +kernel
theorem dX10_digest_5 : decode cX10_digest 5 = .ok (.istore_n 3, 1) := by decide +kernel
theorem dX10_digest_6 : decode cX10_digest 6 = .ok (.iload_n 3, 1) := by decide +kernel
theorem dX10_digest_7 : decode cX10_digest 7 = .ok (.bipush 7, 2) := by decide +kernel
theorem dX10_digest_9 : decode cX10_digest 9 = .ok (.if_icmp .ge 22, 3) := by decide +kernel
theorem dX10_digest_12 : decode cX10_digest 12 = .ok (.ldc2_w 313, 3) := by decide +kernel
theorem dX10_digest_15 : decode cX10_digest 15 = .ok (.lload_n 1, 1) := by decide +kernel
theorem dX10_digest_16 : decode cX10_digest 16 = .ok (.lmul, 1) := by decide +kernel
theorem dX10_digest_17 : decode cX10_digest 17 = .ok (.aload_n 0, 1) := by decide +kernel
theorem dX10_digest_18 : decode cX10_digest 18 = .ok (.iload_n 3, 1) := by decide +kernel
theorem dX10_digest_19 : decode cX10_digest 19 = .ok (.invokevirtual 308, 3) := by decide +kernel
theorem dX10_digest_22 : decode cX10_digest 22 = .ok (.i2l, 1) := by decide +kernel
theorem dX10_digest_23 : decode cX10_digest 23 = .ok (.ladd, 1) := by decide +kernel
theorem dX10_digest_24 : decode cX10_digest 24 = .ok (.lstore_n 1, 1) := by decide +kernel
theorem dX10_digest_25 : decode cX10_digest 25 = .ok (.iinc 3 1, 3) := by decide +kernel
theorem dX10_digest_28 : decode cX10_digest 28 = .ok (.goto (-22), 3) := by decide +kernel
theorem dX10_digest_31 : decode cX10_digest 31 = .ok (.aload_n 0, 1) := by decide +kernel
theorem dX10_digest_32 : decode cX10_digest 32 = .ok (.getfield 10, 3) := by decide +kernel
theorem dX10_digest_35 : decode cX10_digest 35 = .ok (.lload_n 1, 1) := by decide +kernel
theorem dX10_digest_36 : decode cX10_digest 36 = .ok (.invokevirtual 315, 3) := by decide +kernel
theorem dX10_digest_39 : decode cX10_digest 39 = .ok (.lstore_n 1, 1) := by decide +kernel
theorem dX10_digest_40 : decode cX10_digest 40 = .ok (.ldc2_w 313, 3) := by decide +kernel
theorem dX10_digest_43 : decode cX10_digest 43 = .ok (.lload_n 1, 1) := by decide +kernel
theorem dX10_digest_44 : decode cX10_digest 44 = .ok (.lmul, 1) := by decide +kernel
theorem dX10_digest_45 : decode cX10_digest 45 = .ok (.aload_n 0, 1) := by decide +kernel
theorem dX10_digest_46 : decode cX10_digest 46 = .ok (.getfield 69, 3) := by decide +kernel
theorem dX10_digest_49 : decode cX10_digest 49 = .ok (.ladd, 1) := by decide +kernel
theorem dX10_digest_50 : decode cX10_digest 50 = .ok (.lstore_n 1, 1) := by decide +kernel
theorem dX10_digest_51 : decode cX10_digest 51 = .ok (.ldc2_w 313, 3) := by decide +kernel
theorem dX10_digest_54 : decode cX10_digest 54 = .ok (.lload_n 1, 1) := by decide +kernel
theorem dX10_digest_55 : decode cX10_digest 55 = .ok (.lmul, 1) := by decide +kernel
theorem dX10_digest_56 : decode cX10_digest 56 = .ok (.aload_n 0, 1) := by decide +kernel
theorem dX10_digest_57 : decode cX10_digest 57 = .ok (.getfield 73, 3) := by decide +kernel
theorem dX10_digest_60 : decode cX10_digest 60 = .ok (.ladd, 1) := by decide +kernel
theorem dX10_digest_61 : decode cX10_digest 61 = .ok (.lreturn, 1) := by decide +kernel
noncomputable def f_X10_digest  (μ : Mem) : Option Int64 :=
  bd (lp (ε := Int64) (cu2 fun (x1_1 : Int64) (x3_2 : Int32) =>
    if x3_2 < 7 then
      bd (f_X10_howMany x3_2 μ) fun r5 =>
      lt ((31 * x1_1) + (r5 : Int32).toInt64) fun x1_6 =>
      some (.inl (x1_6, (x3_2 + 1)))
    else
      some (.inr x1_1)
    ) (853, 0)) (fun (x1_3 : Int64) =>
    bd (f_X0_digestOn 1 x1_3 μ) fun r7 =>
    some ((31 * ((31 * r7) + (μ.2 0 10))) + (μ.2 0 11))
    )
set_option maxHeartbeats 4000000 in
set_option maxRecDepth 100000 in
theorem c_X10_digest {g : GT}  {μ : Mem} {r0 : Int64} (hf : f_X10_digest  μ = some r0) : CL g yX10_digest cX10_digest 4 (some .long) 3 [rf g 0] μ r0 μ := by
  refine mk_l (by decide) (Nat.le_of_ble_eq_true rfl) ?_
  intro G hX hR
  have hX : CX g G cX10_digest RX10 4 3 := hX
  suffices S : ∀ K : Int64 → Prop, (∀ a, K a → a = r0) → Sim G (f_X10_digest  μ) K 0 [(0, rf g 0)] [] μ from S (fun a => a = r0) (fun a h => h) _ hf rfl
  intro K hK
  unfold f_X10_digest
  refine s_ldc2 hX dX10_digest_0 klX10_311 ?_
  refine s_lstore_n (lv' := [(1, .long 853), (0, rf g 0)]) hX dX10_digest_3 rfl (by decide) rfl ?_
  refine s_iconst (v := 0) hX dX10_digest_4 (by decide) ?_
  refine s_istore_n (lv' := [(3, .int 0), (1, .long 853), (0, rf g 0)]) hX dX10_digest_5 rfl (by decide) rfl ?_
  refine s_loop hX 6 31 (fun s : Int64 × Int32 => [(0, rf g 0), (1, .long s.1), (3, .int s.2)]) (fun s : Int64 × Int32 => μ) (fun s : Int64 => [(0, rf g 0), (1, .long s)]) (fun s : Int64 => μ) [2, 1, 0] rfl rfl rfl ?_ ?_
  · intro Kq4 hIq4 hJq4 sq
    obtain ⟨x1_1, x3_2⟩ := sq
    refine s_cu2 ?_
    show Sim G _ _ 6 [(0, rf g 0), (1, .long x1_1), (3, .int x3_2)] [] μ
    refine s_iload_n hX dX10_digest_6 rfl 2 rfl ?_
    refine s_bipush (v := 7) hX dX10_digest_7 (by decide) ?_
    refine s_icmp_ge hX 31 dX10_digest_9 (by decide) ?_ ?_
    · exact s_end hX (hJq4 x1_1) [0, 1] rfl
    · refine s_ldc2 hX dX10_digest_12 klX10_313 ?_
      refine s_lload_n hX dX10_digest_15 rfl 1 rfl ?_
      refine s_lmul hX dX10_digest_16 ?_
      refine s_aload_n hX dX10_digest_17 rfl 0 rfl ?_
      refine s_iload_n hX dX10_digest_18 rfl 2 rfl ?_
      refine s_callVir hX [.int x3_2] (k := 0) (ci := 9) rfl hc9 vkX10_howMany (fun r hF => c_X10_howMany  hF) mkX10_howMany cvX10_308 rfl rfl ⟨by omega, by decide, Nat.le_of_ble_eq_true rfl⟩ dX10_digest_19 (fun r5 => ?_)
      refine s_i2l hX dX10_digest_22 ?_
      refine s_ladd hX dX10_digest_23 ?_
      refine s_ltl (fun x1_6 => ?_)
      refine s_lstore_n (lv' := [(1, .long x1_6), (0, rf g 0), (3, .int x3_2)]) hX dX10_digest_24 rfl (by decide) rfl ?_
      refine s_iinc (v := (x3_2 + 1)) (lv' := [(3, .int (x3_2 + 1)), (1, .long x1_6), (0, rf g 0)]) hX dX10_digest_25 2 rfl rfl (by decide) rfl ?_
      refine s_goto hX 6 dX10_digest_28 (by decide) ?_
      exact s_end hX (hIq4 (x1_6, (x3_2 + 1))) [2, 1, 0] rfl
  · intro sq
    obtain ⟨x1_3, rfl⟩ : ∃ z, z = sq := ⟨_, rfl⟩
    show Sim G _ _ 31 [(0, rf g 0), (1, .long x1_3)] [] μ
    refine s_aload_n hX dX10_digest_31 rfl 0 rfl ?_
    refine s_getR hX (d := 1) 1 flX10_10 rfl rfl dX10_digest_32 ?_
    refine s_lload_n hX dX10_digest_35 rfl 1 rfl ?_
    refine s_callVlr hX [.long x1_3] (k := 1) (ci := 0) rfl hc0 vkX0_digestOn (fun r hF => c_X0_digestOn rfl hF) mkX0_digestOn cvX10_315 rfl rfl ⟨by omega, by decide, Nat.le_of_ble_eq_true rfl⟩ dX10_digest_36 (fun r7 => ?_)
    refine s_lstore_n (lv' := [(1, .long r7), (0, rf g 0)]) hX dX10_digest_39 rfl (by decide) rfl ?_
    refine s_ldc2 hX dX10_digest_40 klX10_313 ?_
    refine s_lload_n hX dX10_digest_43 rfl 0 rfl ?_
    refine s_lmul hX dX10_digest_44 ?_
    refine s_aload_n hX dX10_digest_45 rfl 1 rfl ?_
    refine s_getL hX flX10_69 rfl dX10_digest_46 ?_
    refine s_ladd hX dX10_digest_49 ?_
    refine s_lstore_n (lv' := [(1, .long ((31 * r7) + (μ.2 0 10))), (0, rf g 0)]) hX dX10_digest_50 rfl (by decide) rfl ?_
    refine s_ldc2 hX dX10_digest_51 klX10_313 ?_
    refine s_lload_n hX dX10_digest_54 rfl 0 rfl ?_
    refine s_lmul hX dX10_digest_55 ?_
    refine s_aload_n hX dX10_digest_56 rfl 1 rfl ?_
    refine s_getL hX flX10_73 rfl dX10_digest_57 ?_
    refine s_ladd hX dX10_digest_60 ?_
    exact s_lretr hK hR dX10_digest_61
theorem dX10_drive_0 : decode cX10_drive 0 = .ok (.aload_n 0, 1) := by decide +kernel
theorem dX10_drive_1 : decode cX10_drive 1 = .ok (.aload_n 0, 1) := by decide +kernel
theorem dX10_drive_2 : decode cX10_drive 2 = .ok (.getfield 10, 3) := by decide +kernel
theorem dX10_drive_5 : decode cX10_drive 5 = .ok (.iload_n 1, 1) := by decide +kernel
theorem dX10_drive_6 : decode cX10_drive 6 = .ok (.iload_n 2, 1) := by decide +kernel
theorem dX10_drive_7 : decode cX10_drive 7 = .ok (.iload_n 3, 1) := by decide +kernel
theorem dX10_drive_8 : decode cX10_drive 8 = .ok (.invokevirtual 101, 3) := by decide +kernel
theorem dX10_drive_11 : decode cX10_drive 11 = .ok (.invokevirtual 90, 3) := by decide +kernel
theorem dX10_drive_14 : decode cX10_drive 14 = .ok (.ireturn, 1) := by decide +kernel
noncomputable def f_X10_drive (x1 : Int32) (x2 : Int32) (x3 : Int32) (μ : Mem) : Option (Int32 × Mem) :=
  bd2 (f_X0_driveHeads 1 x1 x2 x3 μ) fun r1 ν2 =>
  bd2 (f_X10_tally r1 ν2) fun r3 ν4 =>
  some (r3, ν4)
set_option maxHeartbeats 4000000 in
set_option maxRecDepth 100000 in
theorem c_X10_drive {g : GT} {x1 : Int32} {x2 : Int32} {x3 : Int32} {μ : Mem} {μ0 : Mem} {r0 : Int32} (hf : f_X10_drive x1 x2 x3 μ = some (r0, μ0)) : CI g yX10_drive cX10_drive 4 (some .int) 3 [rf g 0, .int x1, .int x2, .int x3] μ r0 μ0 := by
  refine mk_i (by decide) (Nat.le_of_ble_eq_true rfl) ?_
  intro G hX hR
  have hX : CX g G cX10_drive RX10 4 3 := hX
  suffices S : ∀ K : (Int32 × Mem) → Prop, (∀ a, K a → a = (r0, μ0)) → Sim G (f_X10_drive x1 x2 x3 μ) K 0 [(0, rf g 0), (1, .int x1), (2, .int x2), (3, .int x3)] [] μ from S (fun a => a = (r0, μ0)) (fun a h => h) _ hf rfl
  intro K hK
  unfold f_X10_drive
  refine s_aload_n hX dX10_drive_0 rfl 0 rfl ?_
  refine s_aload_n hX dX10_drive_1 rfl 0 rfl ?_
  refine s_getR hX (d := 1) 1 flX10_10 rfl rfl dX10_drive_2 ?_
  refine s_iload_n hX dX10_drive_5 rfl 1 rfl ?_
  refine s_iload_n hX dX10_drive_6 rfl 2 rfl ?_
  refine s_iload_n hX dX10_drive_7 rfl 3 rfl ?_
  refine s_callViw hX [.int x1, .int x2, .int x3] (k := 1) (ci := 0) rfl hc0 vkX0_driveHeads (fun r ν hF => c_X0_driveHeads rfl hF) mkX0_driveHeads cvX10_101 rfl rfl ⟨by omega, by decide, Nat.le_of_ble_eq_true rfl⟩ dX10_drive_8 (fun r1 ν2 => ?_)
  refine s_callViw hX [.int r1] (k := 0) (ci := 9) rfl hc9 vkX10_tally (fun r ν hF => c_X10_tally  hF) mkX10_tally cvX10_90 rfl rfl ⟨by omega, by decide, Nat.le_of_ble_eq_true rfl⟩ dX10_drive_11 (fun r3 ν4 => ?_)
  exact s_ireti hK hR dX10_drive_14
theorem dX10_from_0 : decode cX10_from 0 = .ok (.iload_n 1, 1) := by decide +kernel
theorem dX10_from_1 : decode cX10_from 1 = .ok (.ifCond .lt 8, 3) := by decide +kernel
theorem dX10_from_4 : decode cX10_from 4 = .ok (.iload_n 1, 1) := by decide +kernel
theorem dX10_from_5 : decode cX10_from 5 = .ok (.iconst 2, 1) := by decide +kernel
theorem dX10_from_6 : decode cX10_from 6 = .ok (.if_icmp .lt 10, 3) := by decide +kernel
theorem dX10_from_9 : decode cX10_from 9 = .ok (.aload_n 0, 1) := by decide +kernel
theorem dX10_from_10 : decode cX10_from 10 = .ok (.bipush (-2), 2) := by decide +kernel
theorem dX10_from_12 : decode cX10_from 12 = .ok (.invokevirtual 90, 3) := by decide +kernel
theorem dX10_from_15 : decode cX10_from 15 = .ok (.ireturn, 1) := by decide +kernel
theorem dX10_from_16 : decode cX10_from 16 = .ok (.aload_n 0, 1) := by decide +kernel
theorem dX10_from_17 : decode cX10_from 17 = .ok (.getfield 20, 3) := by decide +kernel
theorem dX10_from_20 : decode cX10_from 20 = .ok (.iload_n 1, 1) := by decide +kernel
theorem dX10_from_21 : decode cX10_from 21 = .ok (.baload, 1) := by decide +kernel
theorem dX10_from_22 : decode cX10_from 22 = .ok (.ifCond .ne 10, 3) := by decide +kernel
theorem dX10_from_25 : decode cX10_from 25 = .ok (.aload_n 0, 1) := by decide +kernel
theorem dX10_from_26 : decode cX10_from 26 = .ok (.bipush (-3), 2) := by decide +kernel
theorem dX10_from_28 : decode cX10_from 28 = .ok (.invokevirtual 90, 3) := by decide +kernel
theorem dX10_from_31 : decode cX10_from 31 = .ok (.ireturn, 1) := by decide +kernel
theorem dX10_from_32 : decode cX10_from 32 = .ok (.aload_n 0, 1) := by decide +kernel
theorem dX10_from_33 : decode cX10_from 33 = .ok (.getfield 10, 3) := by decide +kernel
theorem dX10_from_36 : decode cX10_from 36 = .ok (.aload_n 0, 1) := by decide +kernel
theorem dX10_from_37 : decode cX10_from 37 = .ok (.getfield 16, 3) := by decide +kernel
theorem dX10_from_40 : decode cX10_from 40 = .ok (.iload_n 1, 1) := by decide +kernel
theorem dX10_from_41 : decode cX10_from 41 = .ok (.aaload, 1) := by decide +kernel
theorem dX10_from_42 : decode cX10_from 42 = .ok (.invokevirtual 136, 3) := by decide +kernel
theorem dX10_from_45 : decode cX10_from 45 = .ok (.iconst 1, 1) := by decide +kernel
theorem dX10_from_46 : decode cX10_from 46 = .ok (.ireturn, 1) := by decide +kernel
noncomputable def f_X10_from (x1 : Int32) (μ : Mem) : Option (Int32 × Mem) :=
  jn (
    bd2 (f_X10_tally (-2) μ) fun r2 ν3 =>
    some (r2, ν3)
    ) fun j1 =>
  if x1 < 0 then
    j1
  else
    if x1 < 2 then
      chk x1 2 (
        if (μ.1 44 (ix x1)) = 0 then
          bd2 (f_X10_tally (-3) μ) fun r6 ν7 =>
          some (r6, ν7)
        else
          chk x1 2 (lt (15 + 1 + 14 * ix x1) fun q4 =>
            bd (f_X0_become 1 q4 μ) fun ν5 =>
            some (1, ν5)
            )
        )
    else
      j1
set_option maxHeartbeats 4000000 in
set_option maxRecDepth 100000 in
theorem c_X10_from {g : GT} {x1 : Int32} {μ : Mem} {μ0 : Mem} {r0 : Int32} (hf : f_X10_from x1 μ = some (r0, μ0)) : CI g yX10_from cX10_from 2 (some .int) 3 [rf g 0, .int x1] μ r0 μ0 := by
  refine mk_i (by decide) (Nat.le_of_ble_eq_true rfl) ?_
  intro G hX hR
  have hX : CX g G cX10_from RX10 2 3 := hX
  suffices S : ∀ K : (Int32 × Mem) → Prop, (∀ a, K a → a = (r0, μ0)) → Sim G (f_X10_from x1 μ) K 0 [(0, rf g 0), (1, .int x1)] [] μ from S (fun a => a = (r0, μ0)) (fun a h => h) _ hf rfl
  intro K hK
  unfold f_X10_from
  refine s_iload_n hX dX10_from_0 rfl 1 rfl ?_
  refine s_jn (C := fun j => Sim G (j) K 9 [(0, rf g 0)] [] μ) ?_ (fun j1 hj1 => ?_)
  · skip
    show Sim G _ _ 9 [(0, rf g 0)] [] μ
    refine s_aload_n hX dX10_from_9 rfl 0 rfl ?_
    refine s_bipush (v := (-2)) hX dX10_from_10 (by decide) ?_
    refine s_callViw hX [.int (-2)] (k := 0) (ci := 9) rfl hc9 vkX10_tally (fun r ν hF => c_X10_tally  hF) mkX10_tally cvX10_90 rfl rfl ⟨by omega, by decide, Nat.le_of_ble_eq_true rfl⟩ dX10_from_12 (fun r2 ν3 => ?_)
    exact s_ireti hK hR dX10_from_15
  refine s_if_lt hX 9 dX10_from_1 (by decide) ?_ ?_
  · exact s_to hX [0] rfl (hj1)
  · refine s_iload_n hX dX10_from_4 rfl 1 rfl ?_
    refine s_iconst (v := 2) hX dX10_from_5 (by decide) ?_
    refine s_icmp_lt hX 16 dX10_from_6 (by decide) ?_ ?_
    · refine s_aload_n hX dX10_from_16 rfl 0 rfl ?_
      refine s_getR hX (d := 44) 44 flX10_20 rfl rfl dX10_from_17 ?_
      refine s_iload_n hX dX10_from_20 rfl 1 rfl ?_
      refine s_zald hX rfl rfl dX10_from_21 ?_
      refine s_if_ne hX 32 dX10_from_22 (by decide) ?_ ?_
      · refine s_aload_n hX dX10_from_32 rfl 0 rfl ?_
        refine s_getR hX (d := 1) 1 flX10_10 rfl rfl dX10_from_33 ?_
        refine s_aload_n hX dX10_from_36 rfl 0 rfl ?_
        refine s_getR hX (d := 15) 15 flX10_16 rfl rfl dX10_from_37 ?_
        refine s_iload_n hX dX10_from_40 rfl 1 rfl ?_
        refine s_aald15 (t := 0) (u := 0) hX rfl rfl (by decide) dX10_from_41 (fun q4 hq4 hq4n => ?_)
        refine s_callVvw hX [rf g q4] (k := 1) (ci := 0) rfl hc0 vkX0_become (fun ν hF => c_X0_become rfl hq4 hF) mkX0_become cvX10_136 rfl rfl ⟨by omega, by decide, Nat.le_of_ble_eq_true rfl⟩ dX10_from_42 (fun ν5 => ?_)
        refine s_iconst (v := 1) hX dX10_from_45 (by decide) ?_
        exact s_ireti hK hR dX10_from_46
      · refine s_aload_n hX dX10_from_25 rfl 0 rfl ?_
        refine s_bipush (v := (-3)) hX dX10_from_26 (by decide) ?_
        refine s_callViw hX [.int (-3)] (k := 0) (ci := 9) rfl hc9 vkX10_tally (fun r ν hF => c_X10_tally  hF) mkX10_tally cvX10_90 rfl rfl ⟨by omega, by decide, Nat.le_of_ble_eq_true rfl⟩ dX10_from_28 (fun r6 ν7 => ?_)
        exact s_ireti hK hR dX10_from_31
    · exact s_to hX [0] rfl (hj1)
theorem dX10_guard_0 : decode cX10_guard 0 = .ok (.aload_n 0, 1) := by decide +kernel
theorem dX10_guard_1 : decode cX10_guard 1 = .ok (.aload_n 0, 1) := by decide +kernel
theorem dX10_guard_2 : decode cX10_guard 2 = .ok (.getfield 10, 3) := by decide +kernel
theorem dX10_guard_5 : decode cX10_guard 5 = .ok (.iload_n 1, 1) := by decide +kernel
theorem dX10_guard_6 : decode cX10_guard 6 = .ok (.iload_n 2, 1) := by decide +kernel
theorem dX10_guard_7 : decode cX10_guard 7 = .ok (.invokevirtual 117, 3) := by decide +kernel
theorem dX10_guard_10 : decode cX10_guard 10 = .ok (.invokevirtual 90, 3) := by decide +kernel
theorem dX10_guard_13 : decode cX10_guard 13 = .ok (.ireturn, 1) := by decide +kernel
noncomputable def f_X10_guard (x1 : Int32) (x2 : Int32) (μ : Mem) : Option (Int32 × Mem) :=
  bd2 (f_X0_setGuard 1 x1 x2 μ) fun r1 ν2 =>
  bd2 (f_X10_tally r1 ν2) fun r3 ν4 =>
  some (r3, ν4)
set_option maxHeartbeats 4000000 in
set_option maxRecDepth 100000 in
theorem c_X10_guard {g : GT} {x1 : Int32} {x2 : Int32} {μ : Mem} {μ0 : Mem} {r0 : Int32} (hf : f_X10_guard x1 x2 μ = some (r0, μ0)) : CI g yX10_guard cX10_guard 3 (some .int) 3 [rf g 0, .int x1, .int x2] μ r0 μ0 := by
  refine mk_i (by decide) (Nat.le_of_ble_eq_true rfl) ?_
  intro G hX hR
  have hX : CX g G cX10_guard RX10 3 3 := hX
  suffices S : ∀ K : (Int32 × Mem) → Prop, (∀ a, K a → a = (r0, μ0)) → Sim G (f_X10_guard x1 x2 μ) K 0 [(0, rf g 0), (1, .int x1), (2, .int x2)] [] μ from S (fun a => a = (r0, μ0)) (fun a h => h) _ hf rfl
  intro K hK
  unfold f_X10_guard
  refine s_aload_n hX dX10_guard_0 rfl 0 rfl ?_
  refine s_aload_n hX dX10_guard_1 rfl 0 rfl ?_
  refine s_getR hX (d := 1) 1 flX10_10 rfl rfl dX10_guard_2 ?_
  refine s_iload_n hX dX10_guard_5 rfl 1 rfl ?_
  refine s_iload_n hX dX10_guard_6 rfl 2 rfl ?_
  refine s_callViw hX [.int x1, .int x2] (k := 1) (ci := 0) rfl hc0 vkX0_setGuard (fun r ν hF => c_X0_setGuard rfl hF) mkX0_setGuard cvX10_117 rfl rfl ⟨by omega, by decide, Nat.le_of_ble_eq_true rfl⟩ dX10_guard_7 (fun r1 ν2 => ?_)
  refine s_callViw hX [.int r1] (k := 0) (ci := 9) rfl hc9 vkX10_tally (fun r ν hF => c_X10_tally  hF) mkX10_tally cvX10_90 rfl rfl ⟨by omega, by decide, Nat.le_of_ble_eq_true rfl⟩ dX10_guard_10 (fun r3 ν4 => ?_)
  exact s_ireti hK hR dX10_guard_13
theorem dX10_image_0 : decode cX10_image 0 = .ok (.iload_n 1, 1) := by decide +kernel
theorem dX10_image_1 : decode cX10_image 1 = .ok (.ifCond .lt 8, 3) := by decide +kernel
theorem dX10_image_4 : decode cX10_image 4 = .ok (.iload_n 1, 1) := by decide +kernel
theorem dX10_image_5 : decode cX10_image 5 = .ok (.iconst 2, 1) := by decide +kernel
theorem dX10_image_6 : decode cX10_image 6 = .ok (.if_icmp .lt 10, 3) := by decide +kernel
theorem dX10_image_9 : decode cX10_image 9 = .ok (.aload_n 0, 1) := by decide +kernel
theorem dX10_image_10 : decode cX10_image 10 = .ok (.bipush (-2), 2) := by decide +kernel
theorem dX10_image_12 : decode cX10_image 12 = .ok (.invokevirtual 90, 3) := by decide +kernel
theorem dX10_image_15 : decode cX10_image 15 = .ok (.ireturn, 1) := by decide +kernel
theorem dX10_image_16 : decode cX10_image 16 = .ok (.aload_n 0, 1) := by decide +kernel
theorem dX10_image_17 : decode cX10_image 17 = .ok (.getfield 16, 3) := by decide +kernel
theorem dX10_image_20 : decode cX10_image 20 = .ok (.iload_n 1, 1) := by decide +kernel
theorem dX10_image_21 : decode cX10_image 21 = .ok (.aaload, 1) := by decide +kernel
theorem dX10_image_22 : decode cX10_image 22 = .ok (.aload_n 0, 1) := by decide +kernel
theorem dX10_image_23 : decode cX10_image 23 = .ok (.getfield 10, 3) := by decide +kernel
theorem dX10_image_26 : decode cX10_image 26 = .ok (.invokevirtual 136, 3) := by decide +kernel
theorem dX10_image_29 : decode cX10_image 29 = .ok (.aload_n 0, 1) := by decide +kernel
theorem dX10_image_30 : decode cX10_image 30 = .ok (.getfield 20, 3) := by decide +kernel
theorem dX10_image_33 : decode cX10_image 33 = .ok (.iload_n 1, 1) := by decide +kernel
theorem dX10_image_34 : decode cX10_image 34 = .ok (.iconst 1, 1) := by decide +kernel
theorem dX10_image_35 : decode cX10_image 35 = .ok (.bastore, 1) := by decide +kernel
theorem dX10_image_36 : decode cX10_image 36 = .ok (.iconst 1, 1) := by decide +kernel
theorem dX10_image_37 : decode cX10_image 37 = .ok (.ireturn, 1) := by decide +kernel
noncomputable def f_X10_image (x1 : Int32) (μ : Mem) : Option (Int32 × Mem) :=
  jn (
    bd2 (f_X10_tally (-2) μ) fun r2 ν3 =>
    some (r2, ν3)
    ) fun j1 =>
  if x1 < 0 then
    j1
  else
    if x1 < 2 then
      chk x1 2 (lt (15 + 1 + 14 * ix x1) fun q4 =>
        bd (f_X0_become q4 1 μ) fun ν5 =>
        chk x1 2 (lt (setI ν5 44 (ix x1) 1) fun ν6 =>
          some (1, ν6)
          )
        )
    else
      j1
set_option maxHeartbeats 4000000 in
set_option maxRecDepth 100000 in
theorem c_X10_image {g : GT} {x1 : Int32} {μ : Mem} {μ0 : Mem} {r0 : Int32} (hf : f_X10_image x1 μ = some (r0, μ0)) : CI g yX10_image cX10_image 2 (some .int) 3 [rf g 0, .int x1] μ r0 μ0 := by
  refine mk_i (by decide) (Nat.le_of_ble_eq_true rfl) ?_
  intro G hX hR
  have hX : CX g G cX10_image RX10 2 3 := hX
  suffices S : ∀ K : (Int32 × Mem) → Prop, (∀ a, K a → a = (r0, μ0)) → Sim G (f_X10_image x1 μ) K 0 [(0, rf g 0), (1, .int x1)] [] μ from S (fun a => a = (r0, μ0)) (fun a h => h) _ hf rfl
  intro K hK
  unfold f_X10_image
  refine s_iload_n hX dX10_image_0 rfl 1 rfl ?_
  refine s_jn (C := fun j => Sim G (j) K 9 [(0, rf g 0)] [] μ) ?_ (fun j1 hj1 => ?_)
  · skip
    show Sim G _ _ 9 [(0, rf g 0)] [] μ
    refine s_aload_n hX dX10_image_9 rfl 0 rfl ?_
    refine s_bipush (v := (-2)) hX dX10_image_10 (by decide) ?_
    refine s_callViw hX [.int (-2)] (k := 0) (ci := 9) rfl hc9 vkX10_tally (fun r ν hF => c_X10_tally  hF) mkX10_tally cvX10_90 rfl rfl ⟨by omega, by decide, Nat.le_of_ble_eq_true rfl⟩ dX10_image_12 (fun r2 ν3 => ?_)
    exact s_ireti hK hR dX10_image_15
  refine s_if_lt hX 9 dX10_image_1 (by decide) ?_ ?_
  · exact s_to hX [0] rfl (hj1)
  · refine s_iload_n hX dX10_image_4 rfl 1 rfl ?_
    refine s_iconst (v := 2) hX dX10_image_5 (by decide) ?_
    refine s_icmp_lt hX 16 dX10_image_6 (by decide) ?_ ?_
    · refine s_aload_n hX dX10_image_16 rfl 0 rfl ?_
      refine s_getR hX (d := 15) 15 flX10_16 rfl rfl dX10_image_17 ?_
      refine s_iload_n hX dX10_image_20 rfl 1 rfl ?_
      refine s_aald15 (t := 0) (u := 0) hX rfl rfl (by decide) dX10_image_21 (fun q4 hq4 hq4n => ?_)
      refine s_aload_n hX dX10_image_22 rfl 0 rfl ?_
      refine s_getR hX (d := 1) 1 flX10_10 rfl rfl dX10_image_23 ?_
      refine s_callVvw hX [rf g 1] (k := q4) (ci := 0) hq4 hc0 vkX0_become (fun ν hF => c_X0_become hq4 rfl hF) mkX0_become cvX10_136 rfl rfl ⟨by omega, by decide, Nat.le_of_ble_eq_true rfl⟩ dX10_image_26 (fun ν5 => ?_)
      refine s_aload_n hX dX10_image_29 rfl 0 rfl ?_
      refine s_getR hX (d := 44) 44 flX10_20 rfl rfl dX10_image_30 ?_
      refine s_iload_n hX dX10_image_33 rfl 1 rfl ?_
      refine s_iconst (v := 1) hX dX10_image_34 (by decide) ?_
      refine s_zast hX rfl rfl rfl dX10_image_35 (fun ν6 => ?_)
      refine s_iconst (v := 1) hX dX10_image_36 (by decide) ?_
      exact s_ireti hK hR dX10_image_37
    · exact s_to hX [0] rfl (hj1)
theorem dX10_lot_0 : decode cX10_lot 0 = .ok (.aload_n 0, 1) := by decide +kernel
theorem dX10_lot_1 : decode cX10_lot 1 = .ok (.aload_n 0, 1) := by decide +kernel
theorem dX10_lot_2 : decode cX10_lot 2 = .ok (.getfield 10, 3) := by decide +kernel
theorem dX10_lot_5 : decode cX10_lot 5 = .ok (.iload_n 1, 1) := by decide +kernel
theorem dX10_lot_6 : decode cX10_lot 6 = .ok (.iload_n 2, 1) := by decide +kernel
theorem dX10_lot_7 : decode cX10_lot 7 = .ok (.iload_n 3, 1) := by decide +kernel
theorem dX10_lot_8 : decode cX10_lot 8 = .ok (.invokevirtual 93, 3) := by decide +kernel
theorem dX10_lot_11 : decode cX10_lot 11 = .ok (.invokevirtual 90, 3) := by decide +kernel
theorem dX10_lot_14 : decode cX10_lot 14 = .ok (.ireturn, 1) := by decide +kernel
noncomputable def f_X10_lot (x1 : Int32) (x2 : Int32) (x3 : Int32) (μ : Mem) : Option (Int32 × Mem) :=
  bd2 (f_X0_addLot 1 x1 x2 x3 μ) fun r1 ν2 =>
  bd2 (f_X10_tally r1 ν2) fun r3 ν4 =>
  some (r3, ν4)
set_option maxHeartbeats 4000000 in
set_option maxRecDepth 100000 in
theorem c_X10_lot {g : GT} {x1 : Int32} {x2 : Int32} {x3 : Int32} {μ : Mem} {μ0 : Mem} {r0 : Int32} (hf : f_X10_lot x1 x2 x3 μ = some (r0, μ0)) : CI g yX10_lot cX10_lot 4 (some .int) 3 [rf g 0, .int x1, .int x2, .int x3] μ r0 μ0 := by
  refine mk_i (by decide) (Nat.le_of_ble_eq_true rfl) ?_
  intro G hX hR
  have hX : CX g G cX10_lot RX10 4 3 := hX
  suffices S : ∀ K : (Int32 × Mem) → Prop, (∀ a, K a → a = (r0, μ0)) → Sim G (f_X10_lot x1 x2 x3 μ) K 0 [(0, rf g 0), (1, .int x1), (2, .int x2), (3, .int x3)] [] μ from S (fun a => a = (r0, μ0)) (fun a h => h) _ hf rfl
  intro K hK
  unfold f_X10_lot
  refine s_aload_n hX dX10_lot_0 rfl 0 rfl ?_
  refine s_aload_n hX dX10_lot_1 rfl 0 rfl ?_
  refine s_getR hX (d := 1) 1 flX10_10 rfl rfl dX10_lot_2 ?_
  refine s_iload_n hX dX10_lot_5 rfl 1 rfl ?_
  refine s_iload_n hX dX10_lot_6 rfl 2 rfl ?_
  refine s_iload_n hX dX10_lot_7 rfl 3 rfl ?_
  refine s_callViw hX [.int x1, .int x2, .int x3] (k := 1) (ci := 0) rfl hc0 vkX0_addLot (fun r ν hF => c_X0_addLot rfl hF) mkX0_addLot cvX10_93 rfl rfl ⟨by omega, by decide, Nat.le_of_ble_eq_true rfl⟩ dX10_lot_8 (fun r1 ν2 => ?_)
  refine s_callViw hX [.int r1] (k := 0) (ci := 9) rfl hc9 vkX10_tally (fun r ν hF => c_X10_tally  hF) mkX10_tally cvX10_90 rfl rfl ⟨by omega, by decide, Nat.le_of_ble_eq_true rfl⟩ dX10_lot_11 (fun r3 ν4 => ?_)
  exact s_ireti hK hR dX10_lot_14
theorem dX10_move_0 : decode cX10_move 0 = .ok (.aload_n 0, 1) := by decide +kernel
theorem dX10_move_1 : decode cX10_move 1 = .ok (.aload_n 0, 1) := by decide +kernel
theorem dX10_move_2 : decode cX10_move 2 = .ok (.getfield 10, 3) := by decide +kernel
theorem dX10_move_5 : decode cX10_move 5 = .ok (.iload_n 1, 1) := by decide +kernel
theorem dX10_move_6 : decode cX10_move 6 = .ok (.iload_n 2, 1) := by decide +kernel
theorem dX10_move_7 : decode cX10_move 7 = .ok (.invokevirtual 97, 3) := by decide +kernel
theorem dX10_move_10 : decode cX10_move 10 = .ok (.invokevirtual 90, 3) := by decide +kernel
theorem dX10_move_13 : decode cX10_move 13 = .ok (.ireturn, 1) := by decide +kernel
noncomputable def f_X10_move (x1 : Int32) (x2 : Int32) (μ : Mem) : Option (Int32 × Mem) :=
  bd2 (f_X0_moveLot 1 x1 x2 μ) fun r1 ν2 =>
  bd2 (f_X10_tally r1 ν2) fun r3 ν4 =>
  some (r3, ν4)
set_option maxHeartbeats 4000000 in
set_option maxRecDepth 100000 in
theorem c_X10_move {g : GT} {x1 : Int32} {x2 : Int32} {μ : Mem} {μ0 : Mem} {r0 : Int32} (hf : f_X10_move x1 x2 μ = some (r0, μ0)) : CI g yX10_move cX10_move 3 (some .int) 3 [rf g 0, .int x1, .int x2] μ r0 μ0 := by
  refine mk_i (by decide) (Nat.le_of_ble_eq_true rfl) ?_
  intro G hX hR
  have hX : CX g G cX10_move RX10 3 3 := hX
  suffices S : ∀ K : (Int32 × Mem) → Prop, (∀ a, K a → a = (r0, μ0)) → Sim G (f_X10_move x1 x2 μ) K 0 [(0, rf g 0), (1, .int x1), (2, .int x2)] [] μ from S (fun a => a = (r0, μ0)) (fun a h => h) _ hf rfl
  intro K hK
  unfold f_X10_move
  refine s_aload_n hX dX10_move_0 rfl 0 rfl ?_
  refine s_aload_n hX dX10_move_1 rfl 0 rfl ?_
  refine s_getR hX (d := 1) 1 flX10_10 rfl rfl dX10_move_2 ?_
  refine s_iload_n hX dX10_move_5 rfl 1 rfl ?_
  refine s_iload_n hX dX10_move_6 rfl 2 rfl ?_
  refine s_callViw hX [.int x1, .int x2] (k := 1) (ci := 0) rfl hc0 vkX0_moveLot (fun r ν hF => c_X0_moveLot rfl hF) mkX0_moveLot cvX10_97 rfl rfl ⟨by omega, by decide, Nat.le_of_ble_eq_true rfl⟩ dX10_move_7 (fun r1 ν2 => ?_)
  refine s_callViw hX [.int r1] (k := 0) (ci := 9) rfl hc9 vkX10_tally (fun r ν hF => c_X10_tally  hF) mkX10_tally cvX10_90 rfl rfl ⟨by omega, by decide, Nat.le_of_ble_eq_true rfl⟩ dX10_move_10 (fun r3 ν4 => ?_)
  exact s_ireti hK hR dX10_move_13
theorem dX10_undo_0 : decode cX10_undo 0 = .ok (.aload_n 0, 1) := by decide +kernel
theorem dX10_undo_1 : decode cX10_undo 1 = .ok (.aload_n 0, 1) := by decide +kernel
theorem dX10_undo_2 : decode cX10_undo 2 = .ok (.getfield 10, 3) := by decide +kernel
theorem dX10_undo_5 : decode cX10_undo 5 = .ok (.invokevirtual 143, 3) := by decide +kernel
theorem dX10_undo_8 : decode cX10_undo 8 = .ok (.invokevirtual 90, 3) := by decide +kernel
theorem dX10_undo_11 : decode cX10_undo 11 = .ok (.ireturn, 1) := by decide +kernel
noncomputable def f_X10_undo  (μ : Mem) : Option (Int32 × Mem) :=
  bd2 (f_X0_undoLast 1 μ) fun r1 ν2 =>
  bd2 (f_X10_tally r1 ν2) fun r3 ν4 =>
  some (r3, ν4)
set_option maxHeartbeats 4000000 in
set_option maxRecDepth 100000 in
theorem c_X10_undo {g : GT}  {μ : Mem} {μ0 : Mem} {r0 : Int32} (hf : f_X10_undo  μ = some (r0, μ0)) : CI g yX10_undo cX10_undo 1 (some .int) 3 [rf g 0] μ r0 μ0 := by
  refine mk_i (by decide) (Nat.le_of_ble_eq_true rfl) ?_
  intro G hX hR
  have hX : CX g G cX10_undo RX10 1 3 := hX
  suffices S : ∀ K : (Int32 × Mem) → Prop, (∀ a, K a → a = (r0, μ0)) → Sim G (f_X10_undo  μ) K 0 [(0, rf g 0)] [] μ from S (fun a => a = (r0, μ0)) (fun a h => h) _ hf rfl
  intro K hK
  unfold f_X10_undo
  refine s_aload_n hX dX10_undo_0 rfl 0 rfl ?_
  refine s_aload_n hX dX10_undo_1 rfl 0 rfl ?_
  refine s_getR hX (d := 1) 1 flX10_10 rfl rfl dX10_undo_2 ?_
  refine s_callViw hX [] (k := 1) (ci := 0) rfl hc0 vkX0_undoLast (fun r ν hF => c_X0_undoLast rfl hF) mkX0_undoLast cvX10_143 rfl rfl ⟨by omega, by decide, Nat.le_of_ble_eq_true rfl⟩ dX10_undo_5 (fun r1 ν2 => ?_)
  refine s_callViw hX [.int r1] (k := 0) (ci := 9) rfl hc9 vkX10_tally (fun r ν hF => c_X10_tally  hF) mkX10_tally cvX10_90 rfl rfl ⟨by omega, by decide, Nat.le_of_ble_eq_true rfl⟩ dX10_undo_8 (fun r3 ν4 => ?_)
  exact s_ireti hK hR dX10_undo_11
theorem dX10_unseen_0 : decode cX10_unseen 0 = .ok (.aload_n 0, 1) := by decide +kernel
theorem dX10_unseen_1 : decode cX10_unseen 1 = .ok (.getfield 10, 3) := by decide +kernel
theorem dX10_unseen_4 : decode cX10_unseen 4 = .ok (.getfield 146, 3) := by decide +kernel
theorem dX10_unseen_7 : decode cX10_unseen 7 = .ok (.iload_n 1, 1) := by decide +kernel
theorem dX10_unseen_8 : decode cX10_unseen 8 = .ok (.iload_n 2, 1) := by decide +kernel
theorem dX10_unseen_9 : decode cX10_unseen 9 = .ok (.invokevirtual 230, 3) := by decide +kernel
theorem dX10_unseen_12 : decode cX10_unseen 12 = .ok (.ifCond .ne 10, 3) := by decide +kernel
theorem dX10_unseen_15 : decode cX10_unseen 15 = .ok (.aload_n 0, 1) := by decide +kernel
theorem dX10_unseen_16 : decode cX10_unseen 16 = .ok (.bipush (-2), 2) := by decide +kernel
theorem dX10_unseen_18 : decode cX10_unseen 18 = .ok (.invokevirtual 90, 3) := by decide +kernel
theorem dX10_unseen_21 : decode cX10_unseen 21 = .ok (.ireturn, 1) := by decide +kernel
theorem dX10_unseen_22 : decode cX10_unseen 22 = .ok (.aload_n 0, 1) := by decide +kernel
theorem dX10_unseen_23 : decode cX10_unseen 23 = .ok (.getfield 10, 3) := by decide +kernel
theorem dX10_unseen_26 : decode cX10_unseen 26 = .ok (.getfield 234, 3) := by decide +kernel
theorem dX10_unseen_29 : decode cX10_unseen 29 = .ok (.iload_n 1, 1) := by decide +kernel
theorem dX10_unseen_30 : decode cX10_unseen 30 = .ok (.iload_n 2, 1) := by decide +kernel
theorem dX10_unseen_31 : decode cX10_unseen 31 = .ok (.invokevirtual 238, 3) := by decide +kernel
theorem dX10_unseen_34 : decode cX10_unseen 34 = .ok (.ireturn, 1) := by decide +kernel
noncomputable def f_X10_unseen (x1 : Int32) (x2 : Int32) (μ : Mem) : Option (Int32 × Mem) :=
  bd (f_X3_hasPair 2 x1 x2 μ) fun r1 =>
  if r1 = 0 then
    bd2 (f_X10_tally (-2) μ) fun r3 ν4 =>
    some (r3, ν4)
  else
    bd (f_X7_shortestWay 7 x1 x2 μ) fun r2 =>
    some (r2, μ)
set_option maxHeartbeats 4000000 in
set_option maxRecDepth 100000 in
theorem c_X10_unseen {g : GT} {x1 : Int32} {x2 : Int32} {μ : Mem} {μ0 : Mem} {r0 : Int32} (hf : f_X10_unseen x1 x2 μ = some (r0, μ0)) : CI g yX10_unseen cX10_unseen 3 (some .int) 3 [rf g 0, .int x1, .int x2] μ r0 μ0 := by
  refine mk_i (by decide) (Nat.le_of_ble_eq_true rfl) ?_
  intro G hX hR
  have hX : CX g G cX10_unseen RX10 3 3 := hX
  suffices S : ∀ K : (Int32 × Mem) → Prop, (∀ a, K a → a = (r0, μ0)) → Sim G (f_X10_unseen x1 x2 μ) K 0 [(0, rf g 0), (1, .int x1), (2, .int x2)] [] μ from S (fun a => a = (r0, μ0)) (fun a h => h) _ hf rfl
  intro K hK
  unfold f_X10_unseen
  refine s_aload_n hX dX10_unseen_0 rfl 0 rfl ?_
  refine s_getR hX (d := 1) 1 flX10_10 rfl rfl dX10_unseen_1 ?_
  refine s_getR hX (d := 1) 2 flX10_146 rfl rfl dX10_unseen_4 ?_
  refine s_iload_n hX dX10_unseen_7 rfl 1 rfl ?_
  refine s_iload_n hX dX10_unseen_8 rfl 2 rfl ?_
  refine s_callVir hX [.int x1, .int x2] (k := 2) (ci := 3) rfl hc3 vkX3_hasPair (fun r hF => c_X3_hasPair rfl hF) mkX3_hasPair cvX10_230 rfl rfl ⟨by omega, by decide, Nat.le_of_ble_eq_true rfl⟩ dX10_unseen_9 (fun r1 => ?_)
  refine s_if_ne hX 22 dX10_unseen_12 (by decide) ?_ ?_
  · refine s_aload_n hX dX10_unseen_22 rfl 0 rfl ?_
    refine s_getR hX (d := 1) 1 flX10_10 rfl rfl dX10_unseen_23 ?_
    refine s_getR hX (d := 6) 7 flX10_234 rfl rfl dX10_unseen_26 ?_
    refine s_iload_n hX dX10_unseen_29 rfl 1 rfl ?_
    refine s_iload_n hX dX10_unseen_30 rfl 2 rfl ?_
    refine s_callVir hX [.int x1, .int x2] (k := 7) (ci := 6) rfl hc6 vkX7_shortestWay (fun r hF => c_X7_shortestWay rfl hF) mkX7_shortestWay cvX10_238 rfl rfl ⟨by omega, by decide, Nat.le_of_ble_eq_true rfl⟩ dX10_unseen_31 (fun r2 => ?_)
    exact s_ireti hK hR dX10_unseen_34
  · refine s_aload_n hX dX10_unseen_15 rfl 0 rfl ?_
    refine s_bipush (v := (-2)) hX dX10_unseen_16 (by decide) ?_
    refine s_callViw hX [.int (-2)] (k := 0) (ci := 9) rfl hc9 vkX10_tally (fun r ν hF => c_X10_tally  hF) mkX10_tally cvX10_90 rfl rfl ⟨by omega, by decide, Nat.le_of_ble_eq_true rfl⟩ dX10_unseen_18 (fun r3 ν4 => ?_)
    exact s_ireti hK hR dX10_unseen_21
theorem dX11_areTwo_0 : decode cX11_areTwo 0 = .ok (.aload_n 0, 1) := by decide +kernel
theorem dX11_areTwo_1 : decode cX11_areTwo 1 = .ok (.iload_n 1, 1) := by decide +kernel
theorem dX11_areTwo_2 : decode cX11_areTwo 2 = .ok (.invokevirtual 55, 3) := by decide +kernel
theorem dX11_areTwo_5 : decode cX11_areTwo 5 = .ok (.ifCond .eq 20, 3) := by decide +kernel
theorem dX11_areTwo_8 : decode cX11_areTwo 8 = .ok (.aload_n 0, 1) := by decide +kernel
theorem dX11_areTwo_9 : decode cX11_areTwo 9 = .ok (.iload_n 2, 1) := by decide +kernel
theorem dX11_areTwo_10 : decode cX11_areTwo 10 = .ok (.invokevirtual 55, 3) := by decide +kernel
theorem dX11_areTwo_13 : decode cX11_areTwo 13 = .ok (.ifCond .eq 12, 3) := by decide +kernel
theorem dX11_areTwo_16 : decode cX11_areTwo 16 = .ok (.iload_n 1, 1) := by decide +kernel
theorem dX11_areTwo_17 : decode cX11_areTwo 17 = .ok (.iload_n 2, 1) := by decide +kernel
theorem dX11_areTwo_18 : decode cX11_areTwo 18 = .ok (.if_icmp .eq 7, 3) := by decide +kernel
theorem dX11_areTwo_21 : decode cX11_areTwo 21 = .ok (.iconst 1, 1) := by decide +kernel
theorem dX11_areTwo_22 : decode cX11_areTwo 22 = .ok (.goto 4, 3) := by decide +kernel
theorem dX11_areTwo_25 : decode cX11_areTwo 25 = .ok (.iconst 0, 1) := by decide +kernel
theorem dX11_areTwo_26 : decode cX11_areTwo 26 = .ok (.ireturn, 1) := by decide +kernel
noncomputable def f_X11_areTwo (x1 : Int32) (x2 : Int32) (μ : Mem) : Option Int32 :=
  bd (f_X11_isVillage x1 μ) fun r1 =>
  jn (fun (y2 : Int32) =>
    ckB y2 (
      some y2
      )
    ) fun j3 =>
  jn (
    j3 0
    ) fun j4 =>
  if r1 = 0 then
    j4
  else
    bd (f_X11_isVillage x2 μ) fun r5 =>
    if r5 = 0 then
      j4
    else
      if x1 = x2 then
        j4
      else
        j3 1
set_option maxHeartbeats 4000000 in
set_option maxRecDepth 100000 in
theorem c_X11_areTwo {g : GT} {x1 : Int32} {x2 : Int32} {μ : Mem} {r0 : Int32} (hf : f_X11_areTwo x1 x2 μ = some r0) : CI g yX11_areTwo cX11_areTwo 3 (some .boolean) 3 [rf g 112, .int x1, .int x2] μ r0 μ := by
  refine mk_z (by decide) (Nat.le_of_ble_eq_true rfl) ?_
  intro G hX hR
  have hX : CX g G cX11_areTwo RX11 3 3 := hX
  suffices S : ∀ K : Int32 → Prop, (∀ a, K a → a = r0) → Sim G (f_X11_areTwo x1 x2 μ) K 0 [(0, rf g 112), (1, .int x1), (2, .int x2)] [] μ from S (fun a => a = r0) (fun a h => h) _ hf rfl
  intro K hK
  unfold f_X11_areTwo
  refine s_aload_n hX dX11_areTwo_0 rfl 0 rfl ?_
  refine s_iload_n hX dX11_areTwo_1 rfl 1 rfl ?_
  refine s_callVir hX [.int x1] (k := 112) (ci := 10) rfl hc10 vkX11_isVillage (fun r hF => c_X11_isVillage  hF) mkX11_isVillage cvX11_55 rfl rfl ⟨by omega, by decide, Nat.le_of_ble_eq_true rfl⟩ dX11_areTwo_2 (fun r1 => ?_)
  refine s_jn (C := fun j => ∀ (y2 : Int32), Sim G (j y2) K 26 [] [.int y2] μ) ?_ (fun j3 hj3 => ?_)
  · intro y2
    show Sim G _ _ 26 [] [.int y2] μ
    refine s_ckB (fun hzb => ?_)
    exact s_zretr hzb hK hR dX11_areTwo_26
  refine s_jn (C := fun j => Sim G (j) K 25 [] [] μ) ?_ (fun j4 hj4 => ?_)
  · skip
    show Sim G _ _ 25 [] [] μ
    refine s_iconst (v := 0) hX dX11_areTwo_25 (by decide) ?_
    exact s_to hX [] rfl (hj3 0)
  refine s_if_eq hX 25 dX11_areTwo_5 (by decide) ?_ ?_
  · exact s_to hX [] rfl (hj4)
  · refine s_aload_n hX dX11_areTwo_8 rfl 0 rfl ?_
    refine s_iload_n hX dX11_areTwo_9 rfl 2 rfl ?_
    refine s_callVir hX [.int x2] (k := 112) (ci := 10) rfl hc10 vkX11_isVillage (fun r hF => c_X11_isVillage  hF) mkX11_isVillage cvX11_55 rfl rfl ⟨by omega, by decide, Nat.le_of_ble_eq_true rfl⟩ dX11_areTwo_10 (fun r5 => ?_)
    refine s_if_eq hX 25 dX11_areTwo_13 (by decide) ?_ ?_
    · exact s_to hX [] rfl (hj4)
    · refine s_iload_n hX dX11_areTwo_16 rfl 1 rfl ?_
      refine s_iload_n hX dX11_areTwo_17 rfl 2 rfl ?_
      refine s_icmp_eq hX 25 dX11_areTwo_18 (by decide) ?_ ?_
      · exact s_to hX [] rfl (hj4)
      · refine s_iconst (v := 1) hX dX11_areTwo_21 (by decide) ?_
        refine s_goto hX 26 dX11_areTwo_22 (by decide) ?_
        exact s_to hX [] rfl (hj3 1)
theorem dX11_cloud_0 : decode cX11_cloud 0 = .ok (.aload_n 0, 1) := by decide +kernel
theorem dX11_cloud_1 : decode cX11_cloud 1 = .ok (.iload_n 1, 1) := by decide +kernel
theorem dX11_cloud_2 : decode cX11_cloud 2 = .ok (.invokevirtual 55, 3) := by decide +kernel
theorem dX11_cloud_5 : decode cX11_cloud 5 = .ok (.ifCond .eq 27, 3) := by decide +kernel
theorem dX11_cloud_8 : decode cX11_cloud 8 = .ok (.iload_n 2, 1) := by decide +kernel
theorem dX11_cloud_9 : decode cX11_cloud 9 = .ok (.i2l, 1) := by decide +kernel
theorem dX11_cloud_10 : decode cX11_cloud 10 = .ok (.lconst 0, 1) := by decide +kernel
theorem dX11_cloud_11 : decode cX11_cloud 11 = .ok (.ldc2_w 84, 3) := by decide +kernel
theorem dX11_cloud_14 : decode cX11_cloud 14 = .ok (.invokestatic 51, 3) := by decide +kernel
theorem dX11_cloud_17 : decode cX11_cloud 17 = .ok (.ifCond .eq 15, 3) := by decide +kernel
theorem dX11_cloud_20 : decode cX11_cloud 20 = .ok (.aload_n 0, 1) := by decide +kernel
theorem dX11_cloud_21 : decode cX11_cloud 21 = .ok (.bipush 36, 2) := by decide +kernel
theorem dX11_cloud_23 : decode cX11_cloud 23 = .ok (.iload_n 1, 1) := by decide +kernel
theorem dX11_cloud_24 : decode cX11_cloud 24 = .ok (.iadd, 1) := by decide +kernel
theorem dX11_cloud_25 : decode cX11_cloud 25 = .ok (.iload_n 2, 1) := by decide +kernel
theorem dX11_cloud_26 : decode cX11_cloud 26 = .ok (.invokevirtual 73, 3) := by decide +kernel
theorem dX11_cloud_29 : decode cX11_cloud 29 = .ok (.goto 7, 3) := by decide +kernel
theorem dX11_cloud_32 : decode cX11_cloud 32 = .ok (.aload_n 0, 1) := by decide +kernel
theorem dX11_cloud_33 : decode cX11_cloud 33 = .ok (.invokevirtual 61, 3) := by decide +kernel
theorem dX11_cloud_36 : decode cX11_cloud 36 = .ok (.ireturn, 1) := by decide +kernel
noncomputable def f_X11_cloud (x1 : Int32) (x2 : Int32) (μ : Mem) : Option (Int32 × Mem) :=
  bd (f_X11_isVillage x1 μ) fun r1 =>
  jn (fun (y2 : Int32) (ν3 : Mem) =>
    some (y2, ν3)
    ) fun j4 =>
  jn (
    bd2 (f_X11_bad  μ) fun r6 ν7 =>
    j4 r6 ν7
    ) fun j5 =>
  if r1 = 0 then
    j5
  else
    bd (f_X11_in ((x2 : Int32).toInt64) 0 10) fun r8 =>
    if r8 = 0 then
      j5
    else
      bd2 (f_X11_puts (36 + x1) x2 μ) fun r9 ν10 =>
      j4 r9 ν10
set_option maxHeartbeats 4000000 in
set_option maxRecDepth 100000 in
theorem c_X11_cloud {g : GT} {x1 : Int32} {x2 : Int32} {μ : Mem} {μ0 : Mem} {r0 : Int32} (hf : f_X11_cloud x1 x2 μ = some (r0, μ0)) : CI g yX11_cloud cX11_cloud 3 (some .int) 3 [rf g 112, .int x1, .int x2] μ r0 μ0 := by
  refine mk_i (by decide) (Nat.le_of_ble_eq_true rfl) ?_
  intro G hX hR
  have hX : CX g G cX11_cloud RX11 3 3 := hX
  suffices S : ∀ K : (Int32 × Mem) → Prop, (∀ a, K a → a = (r0, μ0)) → Sim G (f_X11_cloud x1 x2 μ) K 0 [(0, rf g 112), (1, .int x1), (2, .int x2)] [] μ from S (fun a => a = (r0, μ0)) (fun a h => h) _ hf rfl
  intro K hK
  unfold f_X11_cloud
  refine s_aload_n hX dX11_cloud_0 rfl 0 rfl ?_
  refine s_iload_n hX dX11_cloud_1 rfl 1 rfl ?_
  refine s_callVir hX [.int x1] (k := 112) (ci := 10) rfl hc10 vkX11_isVillage (fun r hF => c_X11_isVillage  hF) mkX11_isVillage cvX11_55 rfl rfl ⟨by omega, by decide, Nat.le_of_ble_eq_true rfl⟩ dX11_cloud_2 (fun r1 => ?_)
  refine s_jn (C := fun j => ∀ (y2 : Int32) (ν3 : Mem), Sim G (j y2 ν3) K 36 [] [.int y2] ν3) ?_ (fun j4 hj4 => ?_)
  · intro y2 ν3
    show Sim G _ _ 36 [] [.int y2] ν3
    exact s_ireti hK hR dX11_cloud_36
  refine s_jn (C := fun j => Sim G (j) K 32 [(0, rf g 112)] [] μ) ?_ (fun j5 hj5 => ?_)
  · skip
    show Sim G _ _ 32 [(0, rf g 112)] [] μ
    refine s_aload_n hX dX11_cloud_32 rfl 0 rfl ?_
    refine s_callViw hX [] (k := 112) (ci := 10) rfl hc10 vkX11_bad (fun r ν hF => c_X11_bad  hF) mkX11_bad cvX11_61 rfl rfl ⟨by omega, by decide, Nat.le_of_ble_eq_true rfl⟩ dX11_cloud_33 (fun r6 ν7 => ?_)
    exact s_to hX [] rfl (hj4 r6 ν7)
  refine s_if_eq hX 32 dX11_cloud_5 (by decide) ?_ ?_
  · exact s_to hX [0] rfl (hj5)
  · refine s_iload_n hX dX11_cloud_8 rfl 2 rfl ?_
    refine s_i2l hX dX11_cloud_9 ?_
    refine s_lconst (v := 0) hX dX11_cloud_10 (by decide) ?_
    refine s_ldc2 hX dX11_cloud_11 klX11_84 ?_
    refine s_callSir hX [.long (x2 : Int32).toInt64, .long 0, .long 10] skX11_in (fun r hF => c_X11_in  hF) mkX11_in cvX11_51 rfl rfl ⟨by omega, by decide, Nat.le_of_ble_eq_true rfl⟩ dX11_cloud_14 (fun r8 => ?_)
    refine s_if_eq hX 32 dX11_cloud_17 (by decide) ?_ ?_
    · exact s_to hX [0] rfl (hj5)
    · refine s_aload_n hX dX11_cloud_20 rfl 0 rfl ?_
      refine s_bipush (v := 36) hX dX11_cloud_21 (by decide) ?_
      refine s_iload_n hX dX11_cloud_23 rfl 1 rfl ?_
      refine s_iadd hX dX11_cloud_24 ?_
      refine s_iload_n hX dX11_cloud_25 rfl 2 rfl ?_
      refine s_callViw hX [.int (36 + x1), .int x2] (k := 112) (ci := 10) rfl hc10 vkX11_puts (fun r ν hF => c_X11_puts  hF) mkX11_puts cvX11_73 rfl rfl ⟨by omega, by decide, Nat.le_of_ble_eq_true rfl⟩ dX11_cloud_26 (fun r9 ν10 => ?_)
      refine s_goto hX 36 dX11_cloud_29 (by decide) ?_
      exact s_to hX [] rfl (hj4 r9 ν10)
theorem dX11_count_0 : decode cX11_count 0 = .ok (.iload_n 1, 1) := by decide +kernel
theorem dX11_count_1 : decode cX11_count 1 = .ok (.i2l, 1) := by decide +kernel
theorem dX11_count_2 : decode cX11_count 2 = .ok (.lconst 0, 1) := by decide +kernel
theorem dX11_count_3 : decode cX11_count 3 = .ok (.ldc2_w 282, 3) := by decide +kernel
theorem dX11_count_6 : decode cX11_count 6 = .ok (.invokestatic 51, 3) := by decide +kernel
theorem dX11_count_9 : decode cX11_count 9 = .ok (.ifCond .eq 11, 3) := by decide +kernel
theorem dX11_count_12 : decode cX11_count 12 = .ok (.aload_n 0, 1) := by decide +kernel
theorem dX11_count_13 : decode cX11_count 13 = .ok (.iload_n 1, 1) := by decide +kernel
theorem dX11_count_14 : decode cX11_count 14 = .ok (.invokevirtual 284, 3) := by decide +kernel
theorem dX11_count_17 : decode cX11_count 17 = .ok (.goto 7, 3) := by decide +kernel
theorem dX11_count_20 : decode cX11_count 20 = .ok (.aload_n 0, 1) := by decide +kernel
theorem dX11_count_21 : decode cX11_count 21 = .ok (.invokevirtual 61, 3) := by decide +kernel
theorem dX11_count_24 : decode cX11_count 24 = .ok (.ireturn, 1) := by decide +kernel
noncomputable def f_X11_count (x1 : Int32) (μ : Mem) : Option (Int32 × Mem) :=
  bd (f_X11_in ((x1 : Int32).toInt64) 0 6) fun r1 =>
  jn (fun (y2 : Int32) (ν3 : Mem) =>
    some (y2, ν3)
    ) fun j4 =>
  if r1 = 0 then
    bd2 (f_X11_bad  μ) fun r5 ν6 =>
    j4 r5 ν6
  else
    bd (f_X11_countOf x1 μ) fun r7 =>
    j4 r7 μ
set_option maxHeartbeats 4000000 in
set_option maxRecDepth 100000 in
theorem c_X11_count {g : GT} {x1 : Int32} {μ : Mem} {μ0 : Mem} {r0 : Int32} (hf : f_X11_count x1 μ = some (r0, μ0)) : CI g yX11_count cX11_count 2 (some .int) 3 [rf g 112, .int x1] μ r0 μ0 := by
  refine mk_i (by decide) (Nat.le_of_ble_eq_true rfl) ?_
  intro G hX hR
  have hX : CX g G cX11_count RX11 2 3 := hX
  suffices S : ∀ K : (Int32 × Mem) → Prop, (∀ a, K a → a = (r0, μ0)) → Sim G (f_X11_count x1 μ) K 0 [(0, rf g 112), (1, .int x1)] [] μ from S (fun a => a = (r0, μ0)) (fun a h => h) _ hf rfl
  intro K hK
  unfold f_X11_count
  refine s_iload_n hX dX11_count_0 rfl 1 rfl ?_
  refine s_i2l hX dX11_count_1 ?_
  refine s_lconst (v := 0) hX dX11_count_2 (by decide) ?_
  refine s_ldc2 hX dX11_count_3 klX11_282 ?_
  refine s_callSir hX [.long (x1 : Int32).toInt64, .long 0, .long 6] skX11_in (fun r hF => c_X11_in  hF) mkX11_in cvX11_51 rfl rfl ⟨by omega, by decide, Nat.le_of_ble_eq_true rfl⟩ dX11_count_6 (fun r1 => ?_)
  refine s_jn (C := fun j => ∀ (y2 : Int32) (ν3 : Mem), Sim G (j y2 ν3) K 24 [] [.int y2] ν3) ?_ (fun j4 hj4 => ?_)
  · intro y2 ν3
    show Sim G _ _ 24 [] [.int y2] ν3
    exact s_ireti hK hR dX11_count_24
  refine s_if_eq hX 20 dX11_count_9 (by decide) ?_ ?_
  · refine s_aload_n hX dX11_count_20 rfl 0 rfl ?_
    refine s_callViw hX [] (k := 112) (ci := 10) rfl hc10 vkX11_bad (fun r ν hF => c_X11_bad  hF) mkX11_bad cvX11_61 rfl rfl ⟨by omega, by decide, Nat.le_of_ble_eq_true rfl⟩ dX11_count_21 (fun r5 ν6 => ?_)
    exact s_to hX [] rfl (hj4 r5 ν6)
  · refine s_aload_n hX dX11_count_12 rfl 0 rfl ?_
    refine s_iload_n hX dX11_count_13 rfl 1 rfl ?_
    refine s_callVir hX [.int x1] (k := 112) (ci := 10) rfl hc10 vkX11_countOf (fun r hF => c_X11_countOf  hF) mkX11_countOf cvX11_284 rfl rfl ⟨by omega, by decide, Nat.le_of_ble_eq_true rfl⟩ dX11_count_14 (fun r7 => ?_)
    refine s_goto hX 24 dX11_count_17 (by decide) ?_
    exact s_to hX [] rfl (hj4 r7 μ)
theorem dX11_county_0 : decode cX11_county 0 = .ok (.iload_n 1, 1) := by decide +kernel
theorem dX11_county_1 : decode cX11_county 1 = .ok (.i2l, 1) := by decide +kernel
theorem dX11_county_2 : decode cX11_county 2 = .ok (.lconst 1, 1) := by decide +kernel
theorem dX11_county_3 : decode cX11_county 3 = .ok (.ldc2_w 59, 3) := by decide +kernel
theorem dX11_county_6 : decode cX11_county 6 = .ok (.invokestatic 51, 3) := by decide +kernel
theorem dX11_county_9 : decode cX11_county 9 = .ok (.ifCond .ne 8, 3) := by decide +kernel
theorem dX11_county_12 : decode cX11_county 12 = .ok (.aload_n 0, 1) := by decide +kernel
theorem dX11_county_13 : decode cX11_county 13 = .ok (.invokevirtual 61, 3) := by decide +kernel
theorem dX11_county_16 : decode cX11_county 16 = .ok (.ireturn, 1) := by decide +kernel
theorem dX11_county_17 : decode cX11_county 17 = .ok (.aload_n 0, 1) := by decide +kernel
theorem dX11_county_18 : decode cX11_county 18 = .ok (.getfield 7, 3) := by decide +kernel
theorem dX11_county_21 : decode cX11_county 21 = .ok (.iconst 0, 1) := by decide +kernel
theorem dX11_county_22 : decode cX11_county 22 = .ok (.iaload, 1) := by decide +kernel
theorem dX11_county_23 : decode cX11_county 23 = .ok (.istore_n 2, 1) := by decide +kernel
theorem dX11_county_24 : decode cX11_county 24 = .ok (.aload_n 0, 1) := by decide +kernel
theorem dX11_county_25 : decode cX11_county 25 = .ok (.iload_n 1, 1) := by decide +kernel
theorem dX11_county_26 : decode cX11_county 26 = .ok (.invokevirtual 39, 3) := by decide +kernel
theorem dX11_county_29 : decode cX11_county 29 = .ok (.iload_n 2, 1) := by decide +kernel
theorem dX11_county_30 : decode cX11_county 30 = .ok (.ireturn, 1) := by decide +kernel
noncomputable def f_X11_county (x1 : Int32) (μ : Mem) : Option (Int32 × Mem) :=
  bd (f_X11_in ((x1 : Int32).toInt64) 1 5) fun r1 =>
  if r1 = 0 then
    bd2 (f_X11_bad  μ) fun r3 ν4 =>
    some (r3, ν4)
  else
    bd (f_X11_begins x1 μ) fun ν2 =>
    some ((μ.1 113 0), ν2)
set_option maxHeartbeats 4000000 in
set_option maxRecDepth 100000 in
theorem c_X11_county {g : GT} {x1 : Int32} {μ : Mem} {μ0 : Mem} {r0 : Int32} (hf : f_X11_county x1 μ = some (r0, μ0)) : CI g yX11_county cX11_county 3 (some .int) 3 [rf g 112, .int x1] μ r0 μ0 := by
  refine mk_i (by decide) (Nat.le_of_ble_eq_true rfl) ?_
  intro G hX hR
  have hX : CX g G cX11_county RX11 3 3 := hX
  suffices S : ∀ K : (Int32 × Mem) → Prop, (∀ a, K a → a = (r0, μ0)) → Sim G (f_X11_county x1 μ) K 0 [(0, rf g 112), (1, .int x1)] [] μ from S (fun a => a = (r0, μ0)) (fun a h => h) _ hf rfl
  intro K hK
  unfold f_X11_county
  refine s_iload_n hX dX11_county_0 rfl 1 rfl ?_
  refine s_i2l hX dX11_county_1 ?_
  refine s_lconst (v := 1) hX dX11_county_2 (by decide) ?_
  refine s_ldc2 hX dX11_county_3 klX11_59 ?_
  refine s_callSir hX [.long (x1 : Int32).toInt64, .long 1, .long 5] skX11_in (fun r hF => c_X11_in  hF) mkX11_in cvX11_51 rfl rfl ⟨by omega, by decide, Nat.le_of_ble_eq_true rfl⟩ dX11_county_6 (fun r1 => ?_)
  refine s_if_ne hX 17 dX11_county_9 (by decide) ?_ ?_
  · refine s_aload_n hX dX11_county_17 rfl 0 rfl ?_
    refine s_getR hX (d := 1) 113 flX11_7 rfl rfl dX11_county_18 ?_
    refine s_iconst (v := 0) hX dX11_county_21 (by decide) ?_
    refine s_ialdK hX rfl rfl (by decide) rfl dX11_county_22 ?_
    refine s_istore_n (lv' := [(2, .int (μ.1 113 0)), (0, rf g 112), (1, .int x1)]) hX dX11_county_23 rfl (by decide) rfl ?_
    refine s_aload_n hX dX11_county_24 rfl 1 rfl ?_
    refine s_iload_n hX dX11_county_25 rfl 2 rfl ?_
    refine s_callVvw hX [.int x1] (k := 112) (ci := 10) rfl hc10 vkX11_begins (fun ν hF => c_X11_begins  hF) mkX11_begins cvX11_39 rfl rfl ⟨by omega, by decide, Nat.le_of_ble_eq_true rfl⟩ dX11_county_26 (fun ν2 => ?_)
    refine s_iload_n hX dX11_county_29 rfl 0 rfl ?_
    exact s_ireti hK hR dX11_county_30
  · refine s_aload_n hX dX11_county_12 rfl 0 rfl ?_
    refine s_callViw hX [] (k := 112) (ci := 10) rfl hc10 vkX11_bad (fun r ν hF => c_X11_bad  hF) mkX11_bad cvX11_61 rfl rfl ⟨by omega, by decide, Nat.le_of_ble_eq_true rfl⟩ dX11_county_13 (fun r3 ν4 => ?_)
    exact s_ireti hK hR dX11_county_16
theorem dX11_drive_0 : decode cX11_drive 0 = .ok (.aload_n 0, 1) := by decide +kernel
theorem dX11_drive_1 : decode cX11_drive 1 = .ok (.iload_n 1, 1) := by decide +kernel
theorem dX11_drive_2 : decode cX11_drive 2 = .ok (.invokevirtual 70, 3) := by decide +kernel
theorem dX11_drive_5 : decode cX11_drive 5 = .ok (.ifCond .eq 20, 3) := by decide +kernel
theorem dX11_drive_8 : decode cX11_drive 8 = .ok (.aload_n 0, 1) := by decide +kernel
theorem dX11_drive_9 : decode cX11_drive 9 = .ok (.iload_n 2, 1) := by decide +kernel
theorem dX11_drive_10 : decode cX11_drive 10 = .ok (.invokevirtual 70, 3) := by decide +kernel
theorem dX11_drive_13 : decode cX11_drive 13 = .ok (.ifCond .eq 12, 3) := by decide +kernel
theorem dX11_drive_16 : decode cX11_drive 16 = .ok (.iload_n 1, 1) := by decide +kernel
theorem dX11_drive_17 : decode cX11_drive 17 = .ok (.iload_n 2, 1) := by decide +kernel
theorem dX11_drive_18 : decode cX11_drive 18 = .ok (.if_icmp .eq 7, 3) := by decide +kernel
theorem dX11_drive_21 : decode cX11_drive 21 = .ok (.iload_n 3, 1) := by decide +kernel
theorem dX11_drive_22 : decode cX11_drive 22 = .ok (.ifCond .ge 8, 3) := by decide +kernel
theorem dX11_drive_25 : decode cX11_drive 25 = .ok (.aload_n 0, 1) := by decide +kernel
theorem dX11_drive_26 : decode cX11_drive 26 = .ok (.invokevirtual 61, 3) := by decide +kernel
theorem dX11_drive_29 : decode cX11_drive 29 = .ok (.ireturn, 1) := by decide +kernel
theorem dX11_drive_30 : decode cX11_drive 30 = .ok (.iload_n 3, 1) := by decide +kernel
theorem dX11_drive_31 : decode cX11_drive 31 = .ok (.aload_n 0, 1) := by decide +kernel
theorem dX11_drive_32 : decode cX11_drive 32 = .ok (.getfield 7, 3) := by decide +kernel
theorem dX11_drive_35 : decode cX11_drive 35 = .ok (.bipush 26, 2) := by decide +kernel
theorem dX11_drive_37 : decode cX11_drive 37 = .ok (.iload_n 1, 1) := by decide +kernel
theorem dX11_drive_38 : decode cX11_drive 38 = .ok (.iadd, 1) := by decide +kernel
theorem dX11_drive_39 : decode cX11_drive 39 = .ok (.iaload, 1) := by decide +kernel
theorem dX11_drive_40 : decode cX11_drive 40 = .ok (.if_icmp .gt 19, 3) := by decide +kernel
theorem dX11_drive_43 : decode cX11_drive 43 = .ok (.aload_n 0, 1) := by decide +kernel
theorem dX11_drive_44 : decode cX11_drive 44 = .ok (.getfield 7, 3) := by decide +kernel
theorem dX11_drive_47 : decode cX11_drive 47 = .ok (.bipush 26, 2) := by decide +kernel
theorem dX11_drive_49 : decode cX11_drive 49 = .ok (.iload_n 2, 1) := by decide +kernel
theorem dX11_drive_50 : decode cX11_drive 50 = .ok (.iadd, 1) := by decide +kernel
theorem dX11_drive_51 : decode cX11_drive 51 = .ok (.iaload, 1) := by decide +kernel
theorem dX11_drive_52 : decode cX11_drive 52 = .ok (.iload_n 3, 1) := by decide +kernel
theorem dX11_drive_53 : decode cX11_drive 53 = .ok (.iadd, 1) := by decide +kernel
theorem dX11_drive_54 : decode cX11_drive 54 = .ok (.bipush 99, 2) := by decide +kernel
theorem dX11_drive_56 : decode cX11_drive 56 = .ok (.if_icmp .le 8, 3) := by decide +kernel
theorem dX11_drive_59 : decode cX11_drive 59 = .ok (.aload_n 0, 1) := by decide +kernel
theorem dX11_drive_60 : decode cX11_drive 60 = .ok (.invokevirtual 76, 3) := by decide +kernel
theorem dX11_drive_63 : decode cX11_drive 63 = .ok (.ireturn, 1) := by decide +kernel
theorem dX11_drive_64 : decode cX11_drive 64 = .ok (.aload_n 0, 1) := by decide +kernel
theorem dX11_drive_65 : decode cX11_drive 65 = .ok (.invokevirtual 79, 3) := by decide +kernel
theorem dX11_drive_68 : decode cX11_drive 68 = .ok (.aload_n 0, 1) := by decide +kernel
theorem dX11_drive_69 : decode cX11_drive 69 = .ok (.getfield 7, 3) := by decide +kernel
theorem dX11_drive_72 : decode cX11_drive 72 = .ok (.bipush 26, 2) := by decide +kernel
theorem dX11_drive_74 : decode cX11_drive 74 = .ok (.iload_n 1, 1) := by decide +kernel
theorem dX11_drive_75 : decode cX11_drive 75 = .ok (.iadd, 1) := by decide +kernel
theorem dX11_drive_76 : decode cX11_drive 76 = .ok (.dup2, 1) := by decide +kernel
theorem dX11_drive_77 : decode cX11_drive 77 = .ok (.iaload, 1) := by decide +kernel
theorem dX11_drive_78 : decode cX11_drive 78 = .ok (.iload_n 3, 1) := by decide +kernel
theorem dX11_drive_79 : decode cX11_drive 79 = .ok (.isub, 1) := by decide +kernel
theorem dX11_drive_80 : decode cX11_drive 80 = .ok (.iastore, 1) := by decide +kernel
theorem dX11_drive_81 : decode cX11_drive 81 = .ok (.aload_n 0, 1) := by decide +kernel
theorem dX11_drive_82 : decode cX11_drive 82 = .ok (.getfield 7, 3) := by decide +kernel
theorem dX11_drive_85 : decode cX11_drive 85 = .ok (.bipush 26, 2) := by decide +kernel
theorem dX11_drive_87 : decode cX11_drive 87 = .ok (.iload_n 2, 1) := by decide +kernel
theorem dX11_drive_88 : decode cX11_drive 88 = .ok (.iadd, 1) := by decide +kernel
theorem dX11_drive_89 : decode cX11_drive 89 = .ok (.dup2, 1) := by decide +kernel
theorem dX11_drive_90 : decode cX11_drive 90 = .ok (.iaload, 1) := by decide +kernel
theorem dX11_drive_91 : decode cX11_drive 91 = .ok (.iload_n 3, 1) := by decide +kernel
theorem dX11_drive_92 : decode cX11_drive 92 = .ok (.iadd, 1) := by decide +kernel
theorem dX11_drive_93 : decode cX11_drive 93 = .ok (.iastore, 1) := by decide +kernel
theorem dX11_drive_94 : decode cX11_drive 94 = .ok (.aload_n 0, 1) := by decide +kernel
theorem dX11_drive_95 : decode cX11_drive 95 = .ok (.getfield 7, 3) := by decide +kernel
theorem dX11_drive_98 : decode cX11_drive 98 = .ok (.bipush 26, 2) := by decide +kernel
theorem dX11_drive_100 : decode cX11_drive 100 = .ok (.iload_n 2, 1) := by decide +kernel
theorem dX11_drive_101 : decode cX11_drive 101 = .ok (.iadd, 1) := by decide +kernel
theorem dX11_drive_102 : decode cX11_drive 102 = .ok (.iaload, 1) := by decide +kernel
theorem dX11_drive_103 : decode cX11_drive 103 = .ok (.ireturn, 1) := by decide +kernel
noncomputable def f_X11_drive (x1 : Int32) (x2 : Int32) (x3 : Int32) (μ : Mem) : Option (Int32 × Mem) :=
  bd (f_X11_isLot x1 μ) fun r1 =>
  jn (
    bd2 (f_X11_bad  μ) fun r3 ν4 =>
    some (r3, ν4)
    ) fun j2 =>
  if r1 = 0 then
    j2
  else
    bd (f_X11_isLot x2 μ) fun r5 =>
    if r5 = 0 then
      j2
    else
      if x1 = x2 then
        j2
      else
        if x3 < 0 then
          j2
        else
          chk (26 + x1) 184 (
            jn (
              bd2 (f_X11_no  μ) fun r7 ν8 =>
              some (r7, ν8)
              ) fun j6 =>
            if (μ.1 113 (ix (26 + x1))) < x3 then
              j6
            else
              chk (26 + x2) 184 (
                if 99 < ((μ.1 113 (ix (26 + x2))) + x3) then
                  j6
                else
                  bd (f_X11_remembers  μ) fun ν9 =>
                  chk (26 + x1) 184 (
                    chk (26 + x1) 184 (lt (setI ν9 113 (ix (26 + x1)) ((ν9.1 113 (ix (26 + x1))) - x3)) fun ν10 =>
                      chk (26 + x2) 184 (
                        chk (26 + x2) 184 (lt (setI ν10 113 (ix (26 + x2)) ((ν10.1 113 (ix (26 + x2))) + x3)) fun ν11 =>
                          chk (26 + x2) 184 (
                            some ((ν11.1 113 (ix (26 + x2))), ν11)
                            )
                          )
                        )
                      )
                    )
                )
            )
set_option maxHeartbeats 4000000 in
set_option maxRecDepth 100000 in
theorem c_X11_drive {g : GT} {x1 : Int32} {x2 : Int32} {x3 : Int32} {μ : Mem} {μ0 : Mem} {r0 : Int32} (hf : f_X11_drive x1 x2 x3 μ = some (r0, μ0)) : CI g yX11_drive cX11_drive 4 (some .int) 3 [rf g 112, .int x1, .int x2, .int x3] μ r0 μ0 := by
  refine mk_i (by decide) (Nat.le_of_ble_eq_true rfl) ?_
  intro G hX hR
  have hX : CX g G cX11_drive RX11 4 3 := hX
  suffices S : ∀ K : (Int32 × Mem) → Prop, (∀ a, K a → a = (r0, μ0)) → Sim G (f_X11_drive x1 x2 x3 μ) K 0 [(0, rf g 112), (1, .int x1), (2, .int x2), (3, .int x3)] [] μ from S (fun a => a = (r0, μ0)) (fun a h => h) _ hf rfl
  intro K hK
  unfold f_X11_drive
  refine s_aload_n hX dX11_drive_0 rfl 0 rfl ?_
  refine s_iload_n hX dX11_drive_1 rfl 1 rfl ?_
  refine s_callVir hX [.int x1] (k := 112) (ci := 10) rfl hc10 vkX11_isLot (fun r hF => c_X11_isLot  hF) mkX11_isLot cvX11_70 rfl rfl ⟨by omega, by decide, Nat.le_of_ble_eq_true rfl⟩ dX11_drive_2 (fun r1 => ?_)
  refine s_jn (C := fun j => Sim G (j) K 25 [(0, rf g 112)] [] μ) ?_ (fun j2 hj2 => ?_)
  · skip
    show Sim G _ _ 25 [(0, rf g 112)] [] μ
    refine s_aload_n hX dX11_drive_25 rfl 0 rfl ?_
    refine s_callViw hX [] (k := 112) (ci := 10) rfl hc10 vkX11_bad (fun r ν hF => c_X11_bad  hF) mkX11_bad cvX11_61 rfl rfl ⟨by omega, by decide, Nat.le_of_ble_eq_true rfl⟩ dX11_drive_26 (fun r3 ν4 => ?_)
    exact s_ireti hK hR dX11_drive_29
  refine s_if_eq hX 25 dX11_drive_5 (by decide) ?_ ?_
  · exact s_to hX [0] rfl (hj2)
  · refine s_aload_n hX dX11_drive_8 rfl 0 rfl ?_
    refine s_iload_n hX dX11_drive_9 rfl 2 rfl ?_
    refine s_callVir hX [.int x2] (k := 112) (ci := 10) rfl hc10 vkX11_isLot (fun r hF => c_X11_isLot  hF) mkX11_isLot cvX11_70 rfl rfl ⟨by omega, by decide, Nat.le_of_ble_eq_true rfl⟩ dX11_drive_10 (fun r5 => ?_)
    refine s_if_eq hX 25 dX11_drive_13 (by decide) ?_ ?_
    · exact s_to hX [0] rfl (hj2)
    · refine s_iload_n hX dX11_drive_16 rfl 1 rfl ?_
      refine s_iload_n hX dX11_drive_17 rfl 2 rfl ?_
      refine s_icmp_eq hX 25 dX11_drive_18 (by decide) ?_ ?_
      · exact s_to hX [0] rfl (hj2)
      · refine s_iload_n hX dX11_drive_21 rfl 3 rfl ?_
        refine s_if_ge hX 30 dX11_drive_22 (by decide) ?_ ?_
        · refine s_iload_n hX dX11_drive_30 rfl 3 rfl ?_
          refine s_aload_n hX dX11_drive_31 rfl 0 rfl ?_
          refine s_getR hX (d := 1) 113 flX11_7 rfl rfl dX11_drive_32 ?_
          refine s_bipush (v := 26) hX dX11_drive_35 (by decide) ?_
          refine s_iload_n hX dX11_drive_37 rfl 1 rfl ?_
          refine s_iadd hX dX11_drive_38 ?_
          refine s_iald hX rfl rfl dX11_drive_39 ?_
          refine s_jn (C := fun j => Sim G (j) K 59 [(0, rf g 112)] [] μ) ?_ (fun j6 hj6 => ?_)
          · skip
            show Sim G _ _ 59 [(0, rf g 112)] [] μ
            refine s_aload_n hX dX11_drive_59 rfl 0 rfl ?_
            refine s_callViw hX [] (k := 112) (ci := 10) rfl hc10 vkX11_no (fun r ν hF => c_X11_no  hF) mkX11_no cvX11_76 rfl rfl ⟨by omega, by decide, Nat.le_of_ble_eq_true rfl⟩ dX11_drive_60 (fun r7 ν8 => ?_)
            exact s_ireti hK hR dX11_drive_63
          refine s_icmp_gt hX 59 dX11_drive_40 (by decide) ?_ ?_
          · exact s_to hX [0] rfl (hj6)
          · refine s_aload_n hX dX11_drive_43 rfl 0 rfl ?_
            refine s_getR hX (d := 1) 113 flX11_7 rfl rfl dX11_drive_44 ?_
            refine s_bipush (v := 26) hX dX11_drive_47 (by decide) ?_
            refine s_iload_n hX dX11_drive_49 rfl 2 rfl ?_
            refine s_iadd hX dX11_drive_50 ?_
            refine s_iald hX rfl rfl dX11_drive_51 ?_
            refine s_iload_n hX dX11_drive_52 rfl 3 rfl ?_
            refine s_iadd hX dX11_drive_53 ?_
            refine s_bipush (v := 99) hX dX11_drive_54 (by decide) ?_
            refine s_icmp_le hX 64 dX11_drive_56 (by decide) ?_ ?_
            · refine s_aload_n hX dX11_drive_64 rfl 0 rfl ?_
              refine s_callVvw hX [] (k := 112) (ci := 10) rfl hc10 vkX11_remembers (fun ν hF => c_X11_remembers  hF) mkX11_remembers cvX11_79 rfl rfl ⟨by omega, by decide, Nat.le_of_ble_eq_true rfl⟩ dX11_drive_65 (fun ν9 => ?_)
              refine s_aload_n hX dX11_drive_68 rfl 0 rfl ?_
              refine s_getR hX (d := 1) 113 flX11_7 rfl rfl dX11_drive_69 ?_
              refine s_bipush (v := 26) hX dX11_drive_72 (by decide) ?_
              refine s_iload_n hX dX11_drive_74 rfl 1 rfl ?_
              refine s_iadd hX dX11_drive_75 ?_
              refine s_dup2 hX dX11_drive_76 rfl rfl ?_
              refine s_iald hX rfl rfl dX11_drive_77 ?_
              refine s_iload_n hX dX11_drive_78 rfl 3 rfl ?_
              refine s_isub hX dX11_drive_79 ?_
              refine s_iast hX rfl rfl dX11_drive_80 (fun ν10 => ?_)
              refine s_aload_n hX dX11_drive_81 rfl 0 rfl ?_
              refine s_getR hX (d := 1) 113 flX11_7 rfl rfl dX11_drive_82 ?_
              refine s_bipush (v := 26) hX dX11_drive_85 (by decide) ?_
              refine s_iload_n hX dX11_drive_87 rfl 2 rfl ?_
              refine s_iadd hX dX11_drive_88 ?_
              refine s_dup2 hX dX11_drive_89 rfl rfl ?_
              refine s_iald hX rfl rfl dX11_drive_90 ?_
              refine s_iload_n hX dX11_drive_91 rfl 3 rfl ?_
              refine s_iadd hX dX11_drive_92 ?_
              refine s_iast hX rfl rfl dX11_drive_93 (fun ν11 => ?_)
              refine s_aload_n hX dX11_drive_94 rfl 0 rfl ?_
              refine s_getR hX (d := 1) 113 flX11_7 rfl rfl dX11_drive_95 ?_
              refine s_bipush (v := 26) hX dX11_drive_98 (by decide) ?_
              refine s_iload_n hX dX11_drive_100 rfl 2 rfl ?_
              refine s_iadd hX dX11_drive_101 ?_
              refine s_iald hX rfl rfl dX11_drive_102 ?_
              exact s_ireti hK hR dX11_drive_103
            · exact s_to hX [0] rfl (hj6)
        · exact s_to hX [0] rfl (hj2)
theorem dX11_drop_0 : decode cX11_drop 0 = .ok (.aload_n 0, 1) := by decide +kernel
theorem dX11_drop_1 : decode cX11_drop 1 = .ok (.getfield 7, 3) := by decide +kernel
theorem dX11_drop_4 : decode cX11_drop 4 = .ok (.iconst 1, 1) := by decide +kernel
theorem dX11_drop_5 : decode cX11_drop 5 = .ok (.iaload, 1) := by decide +kernel
theorem dX11_drop_6 : decode cX11_drop 6 = .ok (.ifCond .ne 8, 3) := by decide +kernel
theorem dX11_drop_9 : decode cX11_drop 9 = .ok (.aload_n 0, 1) := by decide +kernel
theorem dX11_drop_10 : decode cX11_drop 10 = .ok (.invokevirtual 76, 3) := by decide +kernel
theorem dX11_drop_13 : decode cX11_drop 13 = .ok (.ireturn, 1) := by decide +kernel
theorem dX11_drop_14 : decode cX11_drop 14 = .ok (.aload_n 0, 1) := by decide +kernel
theorem dX11_drop_15 : decode cX11_drop 15 = .ok (.getfield 7, 3) := by decide +kernel
theorem dX11_drop_18 : decode cX11_drop 18 = .ok (.iconst 1, 1) := by decide +kernel
theorem dX11_drop_19 : decode cX11_drop 19 = .ok (.dup2, 1) := by decide +kernel
theorem dX11_drop_20 : decode cX11_drop 20 = .ok (.iaload, 1) := by decide +kernel
theorem dX11_drop_21 : decode cX11_drop 21 = .ok (.iconst 1, 1) := by decide +kernel
theorem dX11_drop_22 : decode cX11_drop 22 = .ok (.isub, 1) := by decide +kernel
theorem dX11_drop_23 : decode cX11_drop 23 = .ok (.iastore, 1) := by decide +kernel
theorem dX11_drop_24 : decode cX11_drop 24 = .ok (.aload_n 0, 1) := by decide +kernel
theorem dX11_drop_25 : decode cX11_drop 25 = .ok (.getfield 7, 3) := by decide +kernel
theorem dX11_drop_28 : decode cX11_drop 28 = .ok (.iconst 4, 1) := by decide +kernel
theorem dX11_drop_29 : decode cX11_drop 29 = .ok (.iconst 0, 1) := by decide +kernel
theorem dX11_drop_30 : decode cX11_drop 30 = .ok (.iastore, 1) := by decide +kernel
theorem dX11_drop_31 : decode cX11_drop 31 = .ok (.aload_n 0, 1) := by decide +kernel
theorem dX11_drop_32 : decode cX11_drop 32 = .ok (.getfield 7, 3) := by decide +kernel
theorem dX11_drop_35 : decode cX11_drop 35 = .ok (.iconst 1, 1) := by decide +kernel
theorem dX11_drop_36 : decode cX11_drop 36 = .ok (.iaload, 1) := by decide +kernel
theorem dX11_drop_37 : decode cX11_drop 37 = .ok (.ireturn, 1) := by decide +kernel
noncomputable def f_X11_drop  (μ : Mem) : Option (Int32 × Mem) :=
  if (μ.1 113 1) = 0 then
    bd2 (f_X11_no  μ) fun r3 ν4 =>
    some (r3, ν4)
  else
    lt (setI μ 113 1 ((μ.1 113 1) - 1)) fun ν1 =>
    lt (setI ν1 113 4 0) fun ν2 =>
    some ((ν2.1 113 1), ν2)
set_option maxHeartbeats 4000000 in
set_option maxRecDepth 100000 in
theorem c_X11_drop {g : GT}  {μ : Mem} {μ0 : Mem} {r0 : Int32} (hf : f_X11_drop  μ = some (r0, μ0)) : CI g yX11_drop cX11_drop 1 (some .int) 3 [rf g 112] μ r0 μ0 := by
  refine mk_i (by decide) (Nat.le_of_ble_eq_true rfl) ?_
  intro G hX hR
  have hX : CX g G cX11_drop RX11 1 3 := hX
  suffices S : ∀ K : (Int32 × Mem) → Prop, (∀ a, K a → a = (r0, μ0)) → Sim G (f_X11_drop  μ) K 0 [(0, rf g 112)] [] μ from S (fun a => a = (r0, μ0)) (fun a h => h) _ hf rfl
  intro K hK
  unfold f_X11_drop
  refine s_aload_n hX dX11_drop_0 rfl 0 rfl ?_
  refine s_getR hX (d := 1) 113 flX11_7 rfl rfl dX11_drop_1 ?_
  refine s_iconst (v := 1) hX dX11_drop_4 (by decide) ?_
  refine s_ialdK hX rfl rfl (by decide) rfl dX11_drop_5 ?_
  refine s_if_ne hX 14 dX11_drop_6 (by decide) ?_ ?_
  · refine s_aload_n hX dX11_drop_14 rfl 0 rfl ?_
    refine s_getR hX (d := 1) 113 flX11_7 rfl rfl dX11_drop_15 ?_
    refine s_iconst (v := 1) hX dX11_drop_18 (by decide) ?_
    refine s_dup2 hX dX11_drop_19 rfl rfl ?_
    refine s_ialdK hX rfl rfl (by decide) rfl dX11_drop_20 ?_
    refine s_iconst (v := 1) hX dX11_drop_21 (by decide) ?_
    refine s_isub hX dX11_drop_22 ?_
    refine s_iastK hX rfl rfl (by decide) rfl dX11_drop_23 (fun ν1 => ?_)
    refine s_aload_n hX dX11_drop_24 rfl 0 rfl ?_
    refine s_getR hX (d := 1) 113 flX11_7 rfl rfl dX11_drop_25 ?_
    refine s_iconst (v := 4) hX dX11_drop_28 (by decide) ?_
    refine s_iconst (v := 0) hX dX11_drop_29 (by decide) ?_
    refine s_iastK hX rfl rfl (by decide) rfl dX11_drop_30 (fun ν2 => ?_)
    refine s_aload_n hX dX11_drop_31 rfl 0 rfl ?_
    refine s_getR hX (d := 1) 113 flX11_7 rfl rfl dX11_drop_32 ?_
    refine s_iconst (v := 1) hX dX11_drop_35 (by decide) ?_
    refine s_ialdK hX rfl rfl (by decide) rfl dX11_drop_36 ?_
    exact s_ireti hK hR dX11_drop_37
  · refine s_aload_n hX dX11_drop_9 rfl 0 rfl ?_
    refine s_callViw hX [] (k := 112) (ci := 10) rfl hc10 vkX11_no (fun r ν hF => c_X11_no  hF) mkX11_no cvX11_76 rfl rfl ⟨by omega, by decide, Nat.le_of_ble_eq_true rfl⟩ dX11_drop_10 (fun r3 ν4 => ?_)
    exact s_ireti hK hR dX11_drop_13
theorem dX11_from_0 : decode cX11_from 0 = .ok (.iload_n 1, 1) := by decide +kernel
theorem dX11_from_1 : decode cX11_from 1 = .ok (.i2l, 1) := by decide +kernel
theorem dX11_from_2 : decode cX11_from 2 = .ok (.lconst 0, 1) := by decide +kernel
theorem dX11_from_3 : decode cX11_from 3 = .ok (.lconst 1, 1) := by decide +kernel
theorem dX11_from_4 : decode cX11_from 4 = .ok (.invokestatic 51, 3) := by decide +kernel
theorem dX11_from_7 : decode cX11_from 7 = .ok (.ifCond .ne 8, 3) := by decide +kernel
theorem dX11_from_10 : decode cX11_from 10 = .ok (.aload_n 0, 1) := by decide +kernel
theorem dX11_from_11 : decode cX11_from 11 = .ok (.invokevirtual 61, 3) := by decide +kernel
theorem dX11_from_14 : decode cX11_from 14 = .ok (.ireturn, 1) := by decide +kernel
theorem dX11_from_15 : decode cX11_from 15 = .ok (.aload_n 0, 1) := by decide +kernel
theorem dX11_from_16 : decode cX11_from 16 = .ok (.getfield 16, 3) := by decide +kernel
theorem dX11_from_19 : decode cX11_from 19 = .ok (.iload_n 1, 1) := by decide +kernel
theorem dX11_from_20 : decode cX11_from 20 = .ok (.baload, 1) := by decide +kernel
theorem dX11_from_21 : decode cX11_from 21 = .ok (.ifCond .ne 8, 3) := by decide +kernel
theorem dX11_from_24 : decode cX11_from 24 = .ok (.aload_n 0, 1) := by decide +kernel
theorem dX11_from_25 : decode cX11_from 25 = .ok (.invokevirtual 76, 3) := by decide +kernel
theorem dX11_from_28 : decode cX11_from 28 = .ok (.ireturn, 1) := by decide +kernel
theorem dX11_from_29 : decode cX11_from 29 = .ok (.iconst 0, 1) := by decide +kernel
theorem dX11_from_30 : decode cX11_from 30 = .ok (.istore_n 2, 1) := by decide +kernel
theorem dX11_from_31 : decode cX11_from 31 = .ok (.iload_n 2, 1) := by decide +kernel
theorem dX11_from_32 : decode cX11_from 32 = .ok (.sipush 184, 3) := by decide +kernel
theorem dX11_from_35 : decode cX11_from 35 = .ok (.if_icmp .ge 27, 3) := by decide +kernel
theorem dX11_from_38 : decode cX11_from 38 = .ok (.aload_n 0, 1) := by decide +kernel
theorem dX11_from_39 : decode cX11_from 39 = .ok (.getfield 7, 3) := by decide +kernel
theorem dX11_from_42 : decode cX11_from 42 = .ok (.iload_n 2, 1) := by decide +kernel
theorem dX11_from_43 : decode cX11_from 43 = .ok (.aload_n 0, 1) := by decide +kernel
theorem dX11_from_44 : decode cX11_from 44 = .ok (.getfield 13, 3) := by decide +kernel
theorem dX11_from_47 : decode cX11_from 47 = .ok (.sipush 184, 3) := by decide +kernel
theorem dX11_from_50 : decode cX11_from 50 = .ok (.iload_n 1, 1) := by decide +kernel
theorem dX11_from_51 : decode cX11_from 51 = .ok (.imul, 1) := by decide +kernel
theorem dX11_from_52 : decode cX11_from 52 = .ok (.iload_n 2, 1) := by decide +kernel
theorem dX11_from_53 : decode cX11_from 53 = .ok (.iadd, 1) := by decide +kernel
theorem dX11_from_54 : decode cX11_from 54 = .ok (.iaload, 1) := by decide +kernel
theorem dX11_from_55 : decode cX11_from 55 = .ok (.iastore, 1) := by decide +kernel
theorem dX11_from_56 : decode cX11_from 56 = .ok (.iinc 2 1, 3) := by decide +kernel
theorem dX11_from_59 : decode cX11_from 59 = .ok (.goto (-28), 3) := by decide +kernel
theorem dX11_from_62 : decode cX11_from 62 = .ok (.iconst 1, 1) := by decide +kernel
theorem dX11_from_63 : decode cX11_from 63 = .ok (.ireturn, 1) := by decide +kernel
noncomputable def f_X11_from (x1 : Int32) (μ : Mem) : Option (Int32 × Mem) :=
  bd (f_X11_in ((x1 : Int32).toInt64) 0 1) fun r1 =>
  if r1 = 0 then
    bd2 (f_X11_bad  μ) fun r9 ν10 =>
    some (r9, ν10)
  else
    chk x1 2 (
      if (μ.1 115 (ix x1)) = 0 then
        bd2 (f_X11_no  μ) fun r7 ν8 =>
        some (r7, ν8)
      else
        bd (lp (ε := Mem) (cu2 fun (x2_2 : Int32) (ν3 : Mem) =>
          if x2_2 < 184 then
            chk ((184 * x1) + x2_2) 368 (
              chk x2_2 184 (lt (setI ν3 113 (ix x2_2) (ν3.1 114 (ix ((184 * x1) + x2_2)))) fun ν6 =>
                some (.inl ((x2_2 + 1), ν6))
                )
              )
          else
            some (.inr ν3)
          ) (0, μ)) (fun (ν4 : Mem) =>
          some (1, ν4)
          )
      )
set_option maxHeartbeats 4000000 in
set_option maxRecDepth 100000 in
theorem c_X11_from {g : GT} {x1 : Int32} {μ : Mem} {μ0 : Mem} {r0 : Int32} (hf : f_X11_from x1 μ = some (r0, μ0)) : CI g yX11_from cX11_from 3 (some .int) 3 [rf g 112, .int x1] μ r0 μ0 := by
  refine mk_i (by decide) (Nat.le_of_ble_eq_true rfl) ?_
  intro G hX hR
  have hX : CX g G cX11_from RX11 3 3 := hX
  suffices S : ∀ K : (Int32 × Mem) → Prop, (∀ a, K a → a = (r0, μ0)) → Sim G (f_X11_from x1 μ) K 0 [(0, rf g 112), (1, .int x1)] [] μ from S (fun a => a = (r0, μ0)) (fun a h => h) _ hf rfl
  intro K hK
  unfold f_X11_from
  refine s_iload_n hX dX11_from_0 rfl 1 rfl ?_
  refine s_i2l hX dX11_from_1 ?_
  refine s_lconst (v := 0) hX dX11_from_2 (by decide) ?_
  refine s_lconst (v := 1) hX dX11_from_3 (by decide) ?_
  refine s_callSir hX [.long (x1 : Int32).toInt64, .long 0, .long 1] skX11_in (fun r hF => c_X11_in  hF) mkX11_in cvX11_51 rfl rfl ⟨by omega, by decide, Nat.le_of_ble_eq_true rfl⟩ dX11_from_4 (fun r1 => ?_)
  refine s_if_ne hX 15 dX11_from_7 (by decide) ?_ ?_
  · refine s_aload_n hX dX11_from_15 rfl 0 rfl ?_
    refine s_getR hX (d := 3) 115 flX11_16 rfl rfl dX11_from_16 ?_
    refine s_iload_n hX dX11_from_19 rfl 1 rfl ?_
    refine s_zald hX rfl rfl dX11_from_20 ?_
    refine s_if_ne hX 29 dX11_from_21 (by decide) ?_ ?_
    · refine s_iconst (v := 0) hX dX11_from_29 (by decide) ?_
      refine s_istore_n (lv' := [(2, .int 0), (0, rf g 112), (1, .int x1)]) hX dX11_from_30 rfl (by decide) rfl ?_
      refine s_loop hX 31 62 (fun s : Int32 × Mem => [(0, rf g 112), (1, .int x1), (2, .int s.1)]) (fun s : Int32 × Mem => s.2) (fun s : Mem => []) (fun s : Mem => s) [1, 2, 0] rfl rfl rfl ?_ ?_
      · intro Kq5 hIq5 hJq5 sq
        obtain ⟨x2_2, ν3⟩ := sq
        refine s_cu2 ?_
        show Sim G _ _ 31 [(0, rf g 112), (1, .int x1), (2, .int x2_2)] [] ν3
        refine s_iload_n hX dX11_from_31 rfl 2 rfl ?_
        refine s_sipush (v := 184) hX dX11_from_32 (by decide) ?_
        refine s_icmp_ge hX 62 dX11_from_35 (by decide) ?_ ?_
        · exact s_end hX (hJq5 ν3) [] rfl
        · refine s_aload_n hX dX11_from_38 rfl 0 rfl ?_
          refine s_getR hX (d := 1) 113 flX11_7 rfl rfl dX11_from_39 ?_
          refine s_iload_n hX dX11_from_42 rfl 2 rfl ?_
          refine s_aload_n hX dX11_from_43 rfl 0 rfl ?_
          refine s_getR hX (d := 2) 114 flX11_13 rfl rfl dX11_from_44 ?_
          refine s_sipush (v := 184) hX dX11_from_47 (by decide) ?_
          refine s_iload_n hX dX11_from_50 rfl 1 rfl ?_
          refine s_imul hX dX11_from_51 ?_
          refine s_iload_n hX dX11_from_52 rfl 2 rfl ?_
          refine s_iadd hX dX11_from_53 ?_
          refine s_iald hX rfl rfl dX11_from_54 ?_
          refine s_iast hX rfl rfl dX11_from_55 (fun ν6 => ?_)
          refine s_iinc (v := (x2_2 + 1)) (lv' := [(2, .int (x2_2 + 1)), (0, rf g 112), (1, .int x1)]) hX dX11_from_56 2 rfl rfl (by decide) rfl ?_
          refine s_goto hX 31 dX11_from_59 (by decide) ?_
          exact s_end hX (hIq5 ((x2_2 + 1), ν6)) [1, 2, 0] rfl
      · intro sq
        obtain ⟨ν4, rfl⟩ : ∃ z, z = sq := ⟨_, rfl⟩
        show Sim G _ _ 62 [] [] ν4
        refine s_iconst (v := 1) hX dX11_from_62 (by decide) ?_
        exact s_ireti hK hR dX11_from_63
    · refine s_aload_n hX dX11_from_24 rfl 0 rfl ?_
      refine s_callViw hX [] (k := 112) (ci := 10) rfl hc10 vkX11_no (fun r ν hF => c_X11_no  hF) mkX11_no cvX11_76 rfl rfl ⟨by omega, by decide, Nat.le_of_ble_eq_true rfl⟩ dX11_from_25 (fun r7 ν8 => ?_)
      exact s_ireti hK hR dX11_from_28
  · refine s_aload_n hX dX11_from_10 rfl 0 rfl ?_
    refine s_callViw hX [] (k := 112) (ci := 10) rfl hc10 vkX11_bad (fun r ν hF => c_X11_bad  hF) mkX11_bad cvX11_61 rfl rfl ⟨by omega, by decide, Nat.le_of_ble_eq_true rfl⟩ dX11_from_11 (fun r9 ν10 => ?_)
    exact s_ireti hK hR dX11_from_14
theorem dX11_greatestOf_0 : decode cX11_greatestOf 0 = .ok (.iconst (-1), 1) := by decide +kernel
theorem dX11_greatestOf_1 : decode cX11_greatestOf 1 = .ok (.istore 5, 2) := by decide +kernel
theorem dX11_greatestOf_3 : decode cX11_greatestOf 3 = .ok (.iconst 0, 1) := by decide +kernel
theorem dX11_greatestOf_4 : decode cX11_greatestOf 4 = .ok (.istore 6, 2) := by decide +kernel
theorem dX11_greatestOf_6 : decode cX11_greatestOf 6 = .ok (.iconst 0, 1) := by decide +kernel
theorem dX11_greatestOf_7 : decode cX11_greatestOf 7 = .ok (.istore 7, 2) := by decide +kernel
theorem dX11_greatestOf_9 : decode cX11_greatestOf 9 = .ok (.iload 7, 2) := by decide +kernel
theorem dX11_greatestOf_11 : decode cX11_greatestOf 11 = .ok (.aload_n 0, 1) := by decide +kernel
theorem dX11_greatestOf_12 : decode cX11_greatestOf 12 = .ok (.getfield 7, 3) := by decide +kernel
theorem dX11_greatestOf_15 : decode cX11_greatestOf 15 = .ok (.iconst 0, 1) := by decide +kernel
theorem dX11_greatestOf_16 : decode cX11_greatestOf 16 = .ok (.iaload, 1) := by decide +kernel
theorem dX11_greatestOf_17 : decode cX11_greatestOf 17 = .ok (.if_icmp .ge 77, 3) := by decide +kernel
theorem dX11_greatestOf_20 : decode cX11_greatestOf 20 = .ok (.iload_n 1, 1) := by decide +kernel
theorem dX11_greatestOf_21 : decode cX11_greatestOf 21 = .ok (.iload 7, 2) := by decide +kernel
theorem dX11_greatestOf_23 : decode cX11_greatestOf 23 = .ok (.ishr, 1) := by decide +kernel
theorem dX11_greatestOf_24 : decode cX11_greatestOf 24 = .ok (.iconst 1, 1) := by decide +kernel
theorem dX11_greatestOf_25 : decode cX11_greatestOf 25 = .ok (.iand, 1) := by decide +kernel
theorem dX11_greatestOf_26 : decode cX11_greatestOf 26 = .ok (.iconst 1, 1) := by decide +kernel
theorem dX11_greatestOf_27 : decode cX11_greatestOf 27 = .ok (.if_icmp .ne 26, 3) := by decide +kernel
theorem dX11_greatestOf_30 : decode cX11_greatestOf 30 = .ok (.aload_n 0, 1) := by decide +kernel
theorem dX11_greatestOf_31 : decode cX11_greatestOf 31 = .ok (.iload 7, 2) := by decide +kernel
theorem dX11_greatestOf_33 : decode cX11_greatestOf 33 = .ok (.iload_n 2, 1) := by decide +kernel
theorem dX11_greatestOf_34 : decode cX11_greatestOf 34 = .ok (.invokevirtual 171, 3) := by decide +kernel
theorem dX11_greatestOf_37 : decode cX11_greatestOf 37 = .ok (.iload 7, 2) := by decide +kernel
theorem dX11_greatestOf_39 : decode cX11_greatestOf 39 = .ok (.iload_n 3, 1) := by decide +kernel
theorem dX11_greatestOf_40 : decode cX11_greatestOf 40 = .ok (.if_icmp .ne 8, 3) := by decide +kernel
theorem dX11_greatestOf_43 : decode cX11_greatestOf 43 = .ok (.iload 4, 2) := by decide +kernel
theorem dX11_greatestOf_45 : decode cX11_greatestOf 45 = .ok (.goto 4, 3) := by decide +kernel
theorem dX11_greatestOf_48 : decode cX11_greatestOf 48 = .ok (.iconst 0, 1) := by decide +kernel
theorem dX11_greatestOf_49 : decode cX11_greatestOf 49 = .ok (.iadd, 1) := by decide +kernel
theorem dX11_greatestOf_50 : decode cX11_greatestOf 50 = .ok (.goto 4, 3) := by decide +kernel
theorem dX11_greatestOf_53 : decode cX11_greatestOf 53 = .ok (.iconst 0, 1) := by decide +kernel
theorem dX11_greatestOf_54 : decode cX11_greatestOf 54 = .ok (.istore 8, 2) := by decide +kernel
theorem dX11_greatestOf_56 : decode cX11_greatestOf 56 = .ok (.iload 8, 2) := by decide +kernel
theorem dX11_greatestOf_58 : decode cX11_greatestOf 58 = .ok (.iload 6, 2) := by decide +kernel
theorem dX11_greatestOf_60 : decode cX11_greatestOf 60 = .ok (.if_icmp .le 8, 3) := by decide +kernel
theorem dX11_greatestOf_63 : decode cX11_greatestOf 63 = .ok (.iload 7, 2) := by decide +kernel
theorem dX11_greatestOf_65 : decode cX11_greatestOf 65 = .ok (.goto 5, 3) := by decide +kernel
theorem dX11_greatestOf_68 : decode cX11_greatestOf 68 = .ok (.iload 5, 2) := by decide +kernel
theorem dX11_greatestOf_70 : decode cX11_greatestOf 70 = .ok (.istore 5, 2) := by decide +kernel
theorem dX11_greatestOf_72 : decode cX11_greatestOf 72 = .ok (.iload 8, 2) := by decide +kernel
theorem dX11_greatestOf_74 : decode cX11_greatestOf 74 = .ok (.iload 6, 2) := by decide +kernel
theorem dX11_greatestOf_76 : decode cX11_greatestOf 76 = .ok (.if_icmp .le 8, 3) := by decide +kernel
theorem dX11_greatestOf_79 : decode cX11_greatestOf 79 = .ok (.iload 8, 2) := by decide +kernel
theorem dX11_greatestOf_81 : decode cX11_greatestOf 81 = .ok (.goto 5, 3) := by decide +kernel
theorem dX11_greatestOf_84 : decode cX11_greatestOf 84 = .ok (.iload 6, 2) := by decide +kernel
theorem dX11_greatestOf_86 : decode cX11_greatestOf 86 = .ok (.istore 6, 2) := by decide +kernel
theorem dX11_greatestOf_88 : decode cX11_greatestOf 88 = .ok (.iinc 7 1, 3) := by decide +kernel
theorem dX11_greatestOf_91 : decode cX11_greatestOf 91 = .ok (.goto (-82), 3) := by decide +kernel
theorem dX11_greatestOf_94 : decode cX11_greatestOf 94 = .ok (.iload 5, 2) := by decide +kernel
theorem dX11_greatestOf_96 : decode cX11_greatestOf 96 = .ok (.ireturn, 1) := by decide +kernel
noncomputable def f_X11_greatestOf (x1 : Int32) (x2 : Int32) (x3 : Int32) (x4 : Int32) (μ : Mem) : Option Int32 :=
  bd (lp (ε := Int32) (cu3 fun (x5_1 : Int32) (x6_2 : Int32) (x7_3 : Int32) =>
    if x7_3 < (μ.1 113 0) then
      jn (fun (y6 : Int32) =>
        jn (fun (y8 : Int32) =>
          jn (fun (y10 : Int32) =>
            some (.inl (y8, y10, (x7_3 + 1)))
            ) fun j11 =>
          if x6_2 < y6 then
            j11 y6
          else
            j11 x6_2
          ) fun j9 =>
        if x6_2 < y6 then
          j9 x7_3
        else
          j9 x5_1
        ) fun j7 =>
      if ((x1 >>> (x7_3 &&& 31)) &&& 1) = 1 then
        bd (f_X11_sightOf x7_3 x2 μ) fun r12 =>
        jn (fun (y13 : Int32) =>
          j7 (r12 + y13)
          ) fun j14 =>
        if x7_3 = x3 then
          j14 x4
        else
          j14 0
      else
        j7 0
    else
      some (.inr x5_1)
    ) ((-1), 0, 0)) (fun (x5_4 : Int32) =>
    some x5_4
    )
set_option maxHeartbeats 4000000 in
set_option maxRecDepth 100000 in
theorem c_X11_greatestOf {g : GT} {x1 : Int32} {x2 : Int32} {x3 : Int32} {x4 : Int32} {μ : Mem} {r0 : Int32} (hf : f_X11_greatestOf x1 x2 x3 x4 μ = some r0) : CI g yX11_greatestOf cX11_greatestOf 9 (some .int) 3 [rf g 112, .int x1, .int x2, .int x3, .int x4] μ r0 μ := by
  refine mk_i (by decide) (Nat.le_of_ble_eq_true rfl) ?_
  intro G hX hR
  have hX : CX g G cX11_greatestOf RX11 9 3 := hX
  suffices S : ∀ K : Int32 → Prop, (∀ a, K a → a = r0) → Sim G (f_X11_greatestOf x1 x2 x3 x4 μ) K 0 [(0, rf g 112), (1, .int x1), (2, .int x2), (3, .int x3), (4, .int x4)] [] μ from S (fun a => a = r0) (fun a h => h) _ hf rfl
  intro K hK
  unfold f_X11_greatestOf
  refine s_iconst (v := (-1)) hX dX11_greatestOf_0 (by decide) ?_
  refine s_istore (lv' := [(5, .int (-1)), (0, rf g 112), (1, .int x1), (2, .int x2), (3, .int x3), (4, .int x4)]) hX dX11_greatestOf_1 (by decide) rfl ?_
  refine s_iconst (v := 0) hX dX11_greatestOf_3 (by decide) ?_
  refine s_istore (lv' := [(6, .int 0), (5, .int (-1)), (0, rf g 112), (1, .int x1), (2, .int x2), (3, .int x3), (4, .int x4)]) hX dX11_greatestOf_4 (by decide) rfl ?_
  refine s_iconst (v := 0) hX dX11_greatestOf_6 (by decide) ?_
  refine s_istore (lv' := [(7, .int 0), (6, .int 0), (5, .int (-1)), (0, rf g 112), (1, .int x1), (2, .int x2), (3, .int x3), (4, .int x4)]) hX dX11_greatestOf_7 (by decide) rfl ?_
  refine s_loop hX 9 94 (fun s : Int32 × Int32 × Int32 => [(0, rf g 112), (1, .int x1), (2, .int x2), (3, .int x3), (4, .int x4), (5, .int s.1), (6, .int s.2.1), (7, .int s.2.2)]) (fun s : Int32 × Int32 × Int32 => μ) (fun s : Int32 => [(5, .int s)]) (fun s : Int32 => μ) [3, 4, 5, 6, 7, 2, 1, 0] rfl rfl rfl ?_ ?_
  · intro Kq5 hIq5 hJq5 sq
    obtain ⟨x5_1, x6_2, x7_3⟩ := sq
    refine s_cu3 ?_
    show Sim G _ _ 9 [(0, rf g 112), (1, .int x1), (2, .int x2), (3, .int x3), (4, .int x4), (5, .int x5_1), (6, .int x6_2), (7, .int x7_3)] [] μ
    refine s_iload hX dX11_greatestOf_9 7 rfl ?_
    refine s_aload_n hX dX11_greatestOf_11 rfl 0 rfl ?_
    refine s_getR hX (d := 1) 113 flX11_7 rfl rfl dX11_greatestOf_12 ?_
    refine s_iconst (v := 0) hX dX11_greatestOf_15 (by decide) ?_
    refine s_ialdK hX rfl rfl (by decide) rfl dX11_greatestOf_16 ?_
    refine s_icmp_ge hX 94 dX11_greatestOf_17 (by decide) ?_ ?_
    · exact s_end hX (hJq5 x5_1) [5] rfl
    · refine s_iload_n hX dX11_greatestOf_20 rfl 1 rfl ?_
      refine s_iload hX dX11_greatestOf_21 7 rfl ?_
      refine s_ishr hX dX11_greatestOf_23 ?_
      refine s_iconst (v := 1) hX dX11_greatestOf_24 (by decide) ?_
      refine s_iand hX dX11_greatestOf_25 ?_
      refine s_iconst (v := 1) hX dX11_greatestOf_26 (by decide) ?_
      refine s_jn (C := fun j => ∀ (y6 : Int32), Sim G (j y6) Kq5 54 [(0, rf g 112), (1, .int x1), (2, .int x2), (3, .int x3), (4, .int x4), (5, .int x5_1), (6, .int x6_2), (7, .int x7_3)] [.int y6] μ) ?_ (fun j7 hj7 => ?_)
      · intro y6
        show Sim G _ _ 54 [(0, rf g 112), (1, .int x1), (2, .int x2), (3, .int x3), (4, .int x4), (5, .int x5_1), (6, .int x6_2), (7, .int x7_3)] [.int y6] μ
        refine s_istore (lv' := [(8, .int y6), (0, rf g 112), (1, .int x1), (2, .int x2), (3, .int x3), (4, .int x4), (5, .int x5_1), (6, .int x6_2), (7, .int x7_3)]) hX dX11_greatestOf_54 (by decide) rfl ?_
        refine s_iload hX dX11_greatestOf_56 0 rfl ?_
        refine s_iload hX dX11_greatestOf_58 7 rfl ?_
        refine s_jn (C := fun j => ∀ (y8 : Int32), Sim G (j y8) Kq5 70 [(0, rf g 112), (1, .int x1), (2, .int x2), (3, .int x3), (4, .int x4), (6, .int x6_2), (7, .int x7_3), (8, .int y6)] [.int y8] μ) ?_ (fun j9 hj9 => ?_)
        · intro y8
          show Sim G _ _ 70 [(0, rf g 112), (1, .int x1), (2, .int x2), (3, .int x3), (4, .int x4), (6, .int x6_2), (7, .int x7_3), (8, .int y6)] [.int y8] μ
          refine s_istore (lv' := [(5, .int y8), (0, rf g 112), (1, .int x1), (2, .int x2), (3, .int x3), (4, .int x4), (6, .int x6_2), (7, .int x7_3), (8, .int y6)]) hX dX11_greatestOf_70 (by decide) rfl ?_
          refine s_iload hX dX11_greatestOf_72 8 rfl ?_
          refine s_iload hX dX11_greatestOf_74 6 rfl ?_
          refine s_jn (C := fun j => ∀ (y10 : Int32), Sim G (j y10) Kq5 86 [(0, rf g 112), (1, .int x1), (2, .int x2), (3, .int x3), (4, .int x4), (5, .int y8), (7, .int x7_3)] [.int y10] μ) ?_ (fun j11 hj11 => ?_)
          · intro y10
            show Sim G _ _ 86 [(0, rf g 112), (1, .int x1), (2, .int x2), (3, .int x3), (4, .int x4), (5, .int y8), (7, .int x7_3)] [.int y10] μ
            refine s_istore (lv' := [(6, .int y10), (0, rf g 112), (1, .int x1), (2, .int x2), (3, .int x3), (4, .int x4), (5, .int y8), (7, .int x7_3)]) hX dX11_greatestOf_86 (by decide) rfl ?_
            refine s_iinc (v := (x7_3 + 1)) (lv' := [(7, .int (x7_3 + 1)), (6, .int y10), (0, rf g 112), (1, .int x1), (2, .int x2), (3, .int x3), (4, .int x4), (5, .int y8)]) hX dX11_greatestOf_88 7 rfl rfl (by decide) rfl ?_
            refine s_goto hX 9 dX11_greatestOf_91 (by decide) ?_
            exact s_end hX (hIq5 (y8, y10, (x7_3 + 1))) [2, 3, 4, 5, 6, 7, 1, 0] rfl
          refine s_icmp_le hX 84 dX11_greatestOf_76 (by decide) ?_ ?_
          · refine s_iload hX dX11_greatestOf_84 6 rfl ?_
            exact s_to hX [1, 2, 3, 4, 5, 0, 7] rfl (hj11 x6_2)
          · refine s_iload hX dX11_greatestOf_79 8 rfl ?_
            refine s_goto hX 86 dX11_greatestOf_81 (by decide) ?_
            exact s_to hX [1, 2, 3, 4, 5, 0, 7] rfl (hj11 y6)
        refine s_icmp_le hX 68 dX11_greatestOf_60 (by decide) ?_ ?_
        · refine s_iload hX dX11_greatestOf_68 6 rfl ?_
          exact s_to hX [1, 2, 3, 4, 5, 7, 8, 0] rfl (hj9 x5_1)
        · refine s_iload hX dX11_greatestOf_63 8 rfl ?_
          refine s_goto hX 70 dX11_greatestOf_65 (by decide) ?_
          exact s_to hX [1, 2, 3, 4, 5, 7, 8, 0] rfl (hj9 x7_3)
      refine s_icmp_ne hX 53 dX11_greatestOf_27 (by decide) ?_ ?_
      · refine s_iconst (v := 0) hX dX11_greatestOf_53 (by decide) ?_
        exact s_to hX [0, 1, 2, 3, 4, 5, 6, 7] rfl (hj7 0)
      · refine s_aload_n hX dX11_greatestOf_30 rfl 0 rfl ?_
        refine s_iload hX dX11_greatestOf_31 7 rfl ?_
        refine s_iload_n hX dX11_greatestOf_33 rfl 2 rfl ?_
        refine s_callVir hX [.int x7_3, .int x2] (k := 112) (ci := 10) rfl hc10 vkX11_sightOf (fun r hF => c_X11_sightOf  hF) mkX11_sightOf cvX11_171 rfl rfl ⟨by omega, by decide, Nat.le_of_ble_eq_true rfl⟩ dX11_greatestOf_34 (fun r12 => ?_)
        refine s_iload hX dX11_greatestOf_37 7 rfl ?_
        refine s_iload_n hX dX11_greatestOf_39 rfl 3 rfl ?_
        refine s_jn (C := fun j => ∀ (y13 : Int32), Sim G (j y13) Kq5 49 [(0, rf g 112), (1, .int x1), (2, .int x2), (3, .int x3), (4, .int x4), (5, .int x5_1), (6, .int x6_2), (7, .int x7_3)] [.int y13, .int r12] μ) ?_ (fun j14 hj14 => ?_)
        · intro y13
          show Sim G _ _ 49 [(0, rf g 112), (1, .int x1), (2, .int x2), (3, .int x3), (4, .int x4), (5, .int x5_1), (6, .int x6_2), (7, .int x7_3)] [.int y13, .int r12] μ
          refine s_iadd hX dX11_greatestOf_49 ?_
          refine s_goto hX 54 dX11_greatestOf_50 (by decide) ?_
          exact s_to hX [0, 1, 2, 3, 4, 5, 6, 7] rfl (hj7 (r12 + y13))
        refine s_icmp_ne hX 48 dX11_greatestOf_40 (by decide) ?_ ?_
        · refine s_iconst (v := 0) hX dX11_greatestOf_48 (by decide) ?_
          exact s_to hX [0, 1, 2, 3, 4, 5, 6, 7] rfl (hj14 0)
        · refine s_iload hX dX11_greatestOf_43 4 rfl ?_
          refine s_goto hX 49 dX11_greatestOf_45 (by decide) ?_
          exact s_to hX [0, 1, 2, 3, 4, 5, 6, 7] rfl (hj14 x4)
  · intro sq
    obtain ⟨x5_4, rfl⟩ : ∃ z, z = sq := ⟨_, rfl⟩
    show Sim G _ _ 94 [(5, .int x5_4)] [] μ
    refine s_iload hX dX11_greatestOf_94 0 rfl ?_
    exact s_iretr hK hR dX11_greatestOf_96
theorem dX11_growth_0 : decode cX11_growth 0 = .ok (.iload_n 1, 1) := by decide +kernel
theorem dX11_growth_1 : decode cX11_growth 1 = .ok (.i2l, 1) := by decide +kernel
theorem dX11_growth_2 : decode cX11_growth 2 = .ok (.lconst 0, 1) := by decide +kernel
theorem dX11_growth_3 : decode cX11_growth 3 = .ok (.ldc2_w 82, 3) := by decide +kernel
theorem dX11_growth_6 : decode cX11_growth 6 = .ok (.invokestatic 51, 3) := by decide +kernel
theorem dX11_growth_9 : decode cX11_growth 9 = .ok (.ifCond .eq 12, 3) := by decide +kernel
theorem dX11_growth_12 : decode cX11_growth 12 = .ok (.aload_n 0, 1) := by decide +kernel
theorem dX11_growth_13 : decode cX11_growth 13 = .ok (.iconst 5, 1) := by decide +kernel
theorem dX11_growth_14 : decode cX11_growth 14 = .ok (.iload_n 1, 1) := by decide +kernel
theorem dX11_growth_15 : decode cX11_growth 15 = .ok (.invokevirtual 73, 3) := by decide +kernel
theorem dX11_growth_18 : decode cX11_growth 18 = .ok (.goto 7, 3) := by decide +kernel
theorem dX11_growth_21 : decode cX11_growth 21 = .ok (.aload_n 0, 1) := by decide +kernel
theorem dX11_growth_22 : decode cX11_growth 22 = .ok (.invokevirtual 61, 3) := by decide +kernel
theorem dX11_growth_25 : decode cX11_growth 25 = .ok (.ireturn, 1) := by decide +kernel
noncomputable def f_X11_growth (x1 : Int32) (μ : Mem) : Option (Int32 × Mem) :=
  bd (f_X11_in ((x1 : Int32).toInt64) 0 9) fun r1 =>
  jn (fun (y2 : Int32) (ν3 : Mem) =>
    some (y2, ν3)
    ) fun j4 =>
  if r1 = 0 then
    bd2 (f_X11_bad  μ) fun r5 ν6 =>
    j4 r5 ν6
  else
    bd2 (f_X11_puts 5 x1 μ) fun r7 ν8 =>
    j4 r7 ν8
set_option maxHeartbeats 4000000 in
set_option maxRecDepth 100000 in
theorem c_X11_growth {g : GT} {x1 : Int32} {μ : Mem} {μ0 : Mem} {r0 : Int32} (hf : f_X11_growth x1 μ = some (r0, μ0)) : CI g yX11_growth cX11_growth 2 (some .int) 3 [rf g 112, .int x1] μ r0 μ0 := by
  refine mk_i (by decide) (Nat.le_of_ble_eq_true rfl) ?_
  intro G hX hR
  have hX : CX g G cX11_growth RX11 2 3 := hX
  suffices S : ∀ K : (Int32 × Mem) → Prop, (∀ a, K a → a = (r0, μ0)) → Sim G (f_X11_growth x1 μ) K 0 [(0, rf g 112), (1, .int x1)] [] μ from S (fun a => a = (r0, μ0)) (fun a h => h) _ hf rfl
  intro K hK
  unfold f_X11_growth
  refine s_iload_n hX dX11_growth_0 rfl 1 rfl ?_
  refine s_i2l hX dX11_growth_1 ?_
  refine s_lconst (v := 0) hX dX11_growth_2 (by decide) ?_
  refine s_ldc2 hX dX11_growth_3 klX11_82 ?_
  refine s_callSir hX [.long (x1 : Int32).toInt64, .long 0, .long 9] skX11_in (fun r hF => c_X11_in  hF) mkX11_in cvX11_51 rfl rfl ⟨by omega, by decide, Nat.le_of_ble_eq_true rfl⟩ dX11_growth_6 (fun r1 => ?_)
  refine s_jn (C := fun j => ∀ (y2 : Int32) (ν3 : Mem), Sim G (j y2 ν3) K 25 [] [.int y2] ν3) ?_ (fun j4 hj4 => ?_)
  · intro y2 ν3
    show Sim G _ _ 25 [] [.int y2] ν3
    exact s_ireti hK hR dX11_growth_25
  refine s_if_eq hX 21 dX11_growth_9 (by decide) ?_ ?_
  · refine s_aload_n hX dX11_growth_21 rfl 0 rfl ?_
    refine s_callViw hX [] (k := 112) (ci := 10) rfl hc10 vkX11_bad (fun r ν hF => c_X11_bad  hF) mkX11_bad cvX11_61 rfl rfl ⟨by omega, by decide, Nat.le_of_ble_eq_true rfl⟩ dX11_growth_22 (fun r5 ν6 => ?_)
    exact s_to hX [] rfl (hj4 r5 ν6)
  · refine s_aload_n hX dX11_growth_12 rfl 0 rfl ?_
    refine s_iconst (v := 5) hX dX11_growth_13 (by decide) ?_
    refine s_iload_n hX dX11_growth_14 rfl 1 rfl ?_
    refine s_callViw hX [.int 5, .int x1] (k := 112) (ci := 10) rfl hc10 vkX11_puts (fun r ν hF => c_X11_puts  hF) mkX11_puts cvX11_73 rfl rfl ⟨by omega, by decide, Nat.le_of_ble_eq_true rfl⟩ dX11_growth_15 (fun r7 ν8 => ?_)
    refine s_goto hX 25 dX11_growth_18 (by decide) ?_
    exact s_to hX [] rfl (hj4 r7 ν8)
theorem dX11_guard_0 : decode cX11_guard 0 = .ok (.iload_n 1, 1) := by decide +kernel
theorem dX11_guard_1 : decode cX11_guard 1 = .ok (.i2l, 1) := by decide +kernel
theorem dX11_guard_2 : decode cX11_guard 2 = .ok (.lconst 0, 1) := by decide +kernel
theorem dX11_guard_3 : decode cX11_guard 3 = .ok (.aload_n 0, 1) := by decide +kernel
theorem dX11_guard_4 : decode cX11_guard 4 = .ok (.getfield 7, 3) := by decide +kernel
theorem dX11_guard_7 : decode cX11_guard 7 = .ok (.iconst 2, 1) := by decide +kernel
theorem dX11_guard_8 : decode cX11_guard 8 = .ok (.iaload, 1) := by decide +kernel
theorem dX11_guard_9 : decode cX11_guard 9 = .ok (.iconst 1, 1) := by decide +kernel
theorem dX11_guard_10 : decode cX11_guard 10 = .ok (.isub, 1) := by decide +kernel
theorem dX11_guard_11 : decode cX11_guard 11 = .ok (.i2l, 1) := by decide +kernel
theorem dX11_guard_12 : decode cX11_guard 12 = .ok (.invokestatic 51, 3) := by decide +kernel
theorem dX11_guard_15 : decode cX11_guard 15 = .ok (.ifCond .ne 8, 3) := by decide +kernel
theorem dX11_guard_18 : decode cX11_guard 18 = .ok (.aload_n 0, 1) := by decide +kernel
theorem dX11_guard_19 : decode cX11_guard 19 = .ok (.invokevirtual 61, 3) := by decide +kernel
theorem dX11_guard_22 : decode cX11_guard 22 = .ok (.ireturn, 1) := by decide +kernel
theorem dX11_guard_23 : decode cX11_guard 23 = .ok (.iload_n 2, 1) := by decide +kernel
theorem dX11_guard_24 : decode cX11_guard 24 = .ok (.ifCond .eq 7, 3) := by decide +kernel
theorem dX11_guard_27 : decode cX11_guard 27 = .ok (.iconst 1, 1) := by decide +kernel
theorem dX11_guard_28 : decode cX11_guard 28 = .ok (.goto 4, 3) := by decide +kernel
theorem dX11_guard_31 : decode cX11_guard 31 = .ok (.iconst 0, 1) := by decide +kernel
theorem dX11_guard_32 : decode cX11_guard 32 = .ok (.istore_n 3, 1) := by decide +kernel
theorem dX11_guard_33 : decode cX11_guard 33 = .ok (.aload_n 0, 1) := by decide +kernel
theorem dX11_guard_34 : decode cX11_guard 34 = .ok (.getfield 7, 3) := by decide +kernel
theorem dX11_guard_37 : decode cX11_guard 37 = .ok (.bipush 41, 2) := by decide +kernel
theorem dX11_guard_39 : decode cX11_guard 39 = .ok (.iconst 3, 1) := by decide +kernel
theorem dX11_guard_40 : decode cX11_guard 40 = .ok (.iload_n 1, 1) := by decide +kernel
theorem dX11_guard_41 : decode cX11_guard 41 = .ok (.imul, 1) := by decide +kernel
theorem dX11_guard_42 : decode cX11_guard 42 = .ok (.iadd, 1) := by decide +kernel
theorem dX11_guard_43 : decode cX11_guard 43 = .ok (.iconst 2, 1) := by decide +kernel
theorem dX11_guard_44 : decode cX11_guard 44 = .ok (.iadd, 1) := by decide +kernel
theorem dX11_guard_45 : decode cX11_guard 45 = .ok (.iaload, 1) := by decide +kernel
theorem dX11_guard_46 : decode cX11_guard 46 = .ok (.iload_n 3, 1) := by decide +kernel
theorem dX11_guard_47 : decode cX11_guard 47 = .ok (.if_icmp .ne 8, 3) := by decide +kernel
theorem dX11_guard_50 : decode cX11_guard 50 = .ok (.aload_n 0, 1) := by decide +kernel
theorem dX11_guard_51 : decode cX11_guard 51 = .ok (.invokevirtual 76, 3) := by decide +kernel
theorem dX11_guard_54 : decode cX11_guard 54 = .ok (.ireturn, 1) := by decide +kernel
theorem dX11_guard_55 : decode cX11_guard 55 = .ok (.aload_n 0, 1) := by decide +kernel
theorem dX11_guard_56 : decode cX11_guard 56 = .ok (.getfield 7, 3) := by decide +kernel
theorem dX11_guard_59 : decode cX11_guard 59 = .ok (.bipush 41, 2) := by decide +kernel
theorem dX11_guard_61 : decode cX11_guard 61 = .ok (.iconst 3, 1) := by decide +kernel
theorem dX11_guard_62 : decode cX11_guard 62 = .ok (.iload_n 1, 1) := by decide +kernel
theorem dX11_guard_63 : decode cX11_guard 63 = .ok (.imul, 1) := by decide +kernel
theorem dX11_guard_64 : decode cX11_guard 64 = .ok (.iadd, 1) := by decide +kernel
theorem dX11_guard_65 : decode cX11_guard 65 = .ok (.iconst 2, 1) := by decide +kernel
theorem dX11_guard_66 : decode cX11_guard 66 = .ok (.iadd, 1) := by decide +kernel
theorem dX11_guard_67 : decode cX11_guard 67 = .ok (.iload_n 3, 1) := by decide +kernel
theorem dX11_guard_68 : decode cX11_guard 68 = .ok (.iastore, 1) := by decide +kernel
theorem dX11_guard_69 : decode cX11_guard 69 = .ok (.iconst 1, 1) := by decide +kernel
theorem dX11_guard_70 : decode cX11_guard 70 = .ok (.ireturn, 1) := by decide +kernel
noncomputable def f_X11_guard (x1 : Int32) (x2 : Int32) (μ : Mem) : Option (Int32 × Mem) :=
  bd (f_X11_in ((x1 : Int32).toInt64) 0 ((((μ.1 113 2) - 1) : Int32).toInt64)) fun r1 =>
  if r1 = 0 then
    bd2 (f_X11_bad  μ) fun r7 ν8 =>
    some (r7, ν8)
  else
    jn (fun (y2 : Int32) =>
      chk ((41 + (3 * x1)) + 2) 184 (
        if (μ.1 113 (ix ((41 + (3 * x1)) + 2))) = y2 then
          bd2 (f_X11_no  μ) fun r5 ν6 =>
          some (r5, ν6)
        else
          chk ((41 + (3 * x1)) + 2) 184 (lt (setI μ 113 (ix ((41 + (3 * x1)) + 2)) y2) fun ν4 =>
            some (1, ν4)
            )
        )
      ) fun j3 =>
    if x2 = 0 then
      j3 0
    else
      j3 1
set_option maxHeartbeats 4000000 in
set_option maxRecDepth 100000 in
theorem c_X11_guard {g : GT} {x1 : Int32} {x2 : Int32} {μ : Mem} {μ0 : Mem} {r0 : Int32} (hf : f_X11_guard x1 x2 μ = some (r0, μ0)) : CI g yX11_guard cX11_guard 4 (some .int) 3 [rf g 112, .int x1, .int x2] μ r0 μ0 := by
  refine mk_i (by decide) (Nat.le_of_ble_eq_true rfl) ?_
  intro G hX hR
  have hX : CX g G cX11_guard RX11 4 3 := hX
  suffices S : ∀ K : (Int32 × Mem) → Prop, (∀ a, K a → a = (r0, μ0)) → Sim G (f_X11_guard x1 x2 μ) K 0 [(0, rf g 112), (1, .int x1), (2, .int x2)] [] μ from S (fun a => a = (r0, μ0)) (fun a h => h) _ hf rfl
  intro K hK
  unfold f_X11_guard
  refine s_iload_n hX dX11_guard_0 rfl 1 rfl ?_
  refine s_i2l hX dX11_guard_1 ?_
  refine s_lconst (v := 0) hX dX11_guard_2 (by decide) ?_
  refine s_aload_n hX dX11_guard_3 rfl 0 rfl ?_
  refine s_getR hX (d := 1) 113 flX11_7 rfl rfl dX11_guard_4 ?_
  refine s_iconst (v := 2) hX dX11_guard_7 (by decide) ?_
  refine s_ialdK hX rfl rfl (by decide) rfl dX11_guard_8 ?_
  refine s_iconst (v := 1) hX dX11_guard_9 (by decide) ?_
  refine s_isub hX dX11_guard_10 ?_
  refine s_i2l hX dX11_guard_11 ?_
  refine s_callSir hX [.long (x1 : Int32).toInt64, .long 0, .long (((μ.1 113 2) - 1) : Int32).toInt64] skX11_in (fun r hF => c_X11_in  hF) mkX11_in cvX11_51 rfl rfl ⟨by omega, by decide, Nat.le_of_ble_eq_true rfl⟩ dX11_guard_12 (fun r1 => ?_)
  refine s_if_ne hX 23 dX11_guard_15 (by decide) ?_ ?_
  · refine s_iload_n hX dX11_guard_23 rfl 2 rfl ?_
    refine s_jn (C := fun j => ∀ (y2 : Int32), Sim G (j y2) K 32 [(0, rf g 112), (1, .int x1)] [.int y2] μ) ?_ (fun j3 hj3 => ?_)
    · intro y2
      show Sim G _ _ 32 [(0, rf g 112), (1, .int x1)] [.int y2] μ
      refine s_istore_n (lv' := [(3, .int y2), (0, rf g 112), (1, .int x1)]) hX dX11_guard_32 rfl (by decide) rfl ?_
      refine s_aload_n hX dX11_guard_33 rfl 1 rfl ?_
      refine s_getR hX (d := 1) 113 flX11_7 rfl rfl dX11_guard_34 ?_
      refine s_bipush (v := 41) hX dX11_guard_37 (by decide) ?_
      refine s_iconst (v := 3) hX dX11_guard_39 (by decide) ?_
      refine s_iload_n hX dX11_guard_40 rfl 2 rfl ?_
      refine s_imul hX dX11_guard_41 ?_
      refine s_iadd hX dX11_guard_42 ?_
      refine s_iconst (v := 2) hX dX11_guard_43 (by decide) ?_
      refine s_iadd hX dX11_guard_44 ?_
      refine s_iald hX rfl rfl dX11_guard_45 ?_
      refine s_iload_n hX dX11_guard_46 rfl 0 rfl ?_
      refine s_icmp_ne hX 55 dX11_guard_47 (by decide) ?_ ?_
      · refine s_aload_n hX dX11_guard_55 rfl 1 rfl ?_
        refine s_getR hX (d := 1) 113 flX11_7 rfl rfl dX11_guard_56 ?_
        refine s_bipush (v := 41) hX dX11_guard_59 (by decide) ?_
        refine s_iconst (v := 3) hX dX11_guard_61 (by decide) ?_
        refine s_iload_n hX dX11_guard_62 rfl 2 rfl ?_
        refine s_imul hX dX11_guard_63 ?_
        refine s_iadd hX dX11_guard_64 ?_
        refine s_iconst (v := 2) hX dX11_guard_65 (by decide) ?_
        refine s_iadd hX dX11_guard_66 ?_
        refine s_iload_n hX dX11_guard_67 rfl 0 rfl ?_
        refine s_iast hX rfl rfl dX11_guard_68 (fun ν4 => ?_)
        refine s_iconst (v := 1) hX dX11_guard_69 (by decide) ?_
        exact s_ireti hK hR dX11_guard_70
      · refine s_aload_n hX dX11_guard_50 rfl 1 rfl ?_
        refine s_callViw hX [] (k := 112) (ci := 10) rfl hc10 vkX11_no (fun r ν hF => c_X11_no  hF) mkX11_no cvX11_76 rfl rfl ⟨by omega, by decide, Nat.le_of_ble_eq_true rfl⟩ dX11_guard_51 (fun r5 ν6 => ?_)
        exact s_ireti hK hR dX11_guard_54
    refine s_if_eq hX 31 dX11_guard_24 (by decide) ?_ ?_
    · refine s_iconst (v := 0) hX dX11_guard_31 (by decide) ?_
      exact s_to hX [0, 1] rfl (hj3 0)
    · refine s_iconst (v := 1) hX dX11_guard_27 (by decide) ?_
      refine s_goto hX 32 dX11_guard_28 (by decide) ?_
      exact s_to hX [0, 1] rfl (hj3 1)
  · refine s_aload_n hX dX11_guard_18 rfl 0 rfl ?_
    refine s_callViw hX [] (k := 112) (ci := 10) rfl hc10 vkX11_bad (fun r ν hF => c_X11_bad  hF) mkX11_bad cvX11_61 rfl rfl ⟨by omega, by decide, Nat.le_of_ble_eq_true rfl⟩ dX11_guard_19 (fun r7 ν8 => ?_)
    exact s_ireti hK hR dX11_guard_22
theorem dX11_image_0 : decode cX11_image 0 = .ok (.iload_n 1, 1) := by decide +kernel
theorem dX11_image_1 : decode cX11_image 1 = .ok (.i2l, 1) := by decide +kernel
theorem dX11_image_2 : decode cX11_image 2 = .ok (.lconst 0, 1) := by decide +kernel
theorem dX11_image_3 : decode cX11_image 3 = .ok (.lconst 1, 1) := by decide +kernel
theorem dX11_image_4 : decode cX11_image 4 = .ok (.invokestatic 51, 3) := by decide +kernel
theorem dX11_image_7 : decode cX11_image 7 = .ok (.ifCond .ne 8, 3) := by decide +kernel
theorem dX11_image_10 : decode cX11_image 10 = .ok (.aload_n 0, 1) := by decide +kernel
theorem dX11_image_11 : decode cX11_image 11 = .ok (.invokevirtual 61, 3) := by decide +kernel
theorem dX11_image_14 : decode cX11_image 14 = .ok (.ireturn, 1) := by decide +kernel
theorem dX11_image_15 : decode cX11_image 15 = .ok (.iconst 0, 1) := by decide +kernel
theorem dX11_image_16 : decode cX11_image 16 = .ok (.istore_n 2, 1) := by decide +kernel
theorem dX11_image_17 : decode cX11_image 17 = .ok (.iload_n 2, 1) := by decide +kernel
theorem dX11_image_18 : decode cX11_image 18 = .ok (.sipush 184, 3) := by decide +kernel
theorem dX11_image_21 : decode cX11_image 21 = .ok (.if_icmp .ge 27, 3) := by decide +kernel
theorem dX11_image_24 : decode cX11_image 24 = .ok (.aload_n 0, 1) := by decide +kernel
theorem dX11_image_25 : decode cX11_image 25 = .ok (.getfield 13, 3) := by decide +kernel
theorem dX11_image_28 : decode cX11_image 28 = .ok (.sipush 184, 3) := by decide +kernel
theorem dX11_image_31 : decode cX11_image 31 = .ok (.iload_n 1, 1) := by decide +kernel
theorem dX11_image_32 : decode cX11_image 32 = .ok (.imul, 1) := by decide +kernel
theorem dX11_image_33 : decode cX11_image 33 = .ok (.iload_n 2, 1) := by decide +kernel
theorem dX11_image_34 : decode cX11_image 34 = .ok (.iadd, 1) := by decide +kernel
theorem dX11_image_35 : decode cX11_image 35 = .ok (.aload_n 0, 1) := by decide +kernel
theorem dX11_image_36 : decode cX11_image 36 = .ok (.getfield 7, 3) := by decide +kernel
theorem dX11_image_39 : decode cX11_image 39 = .ok (.iload_n 2, 1) := by decide +kernel
theorem dX11_image_40 : decode cX11_image 40 = .ok (.iaload, 1) := by decide +kernel
theorem dX11_image_41 : decode cX11_image 41 = .ok (.iastore, 1) := by decide +kernel
theorem dX11_image_42 : decode cX11_image 42 = .ok (.iinc 2 1, 3) := by decide +kernel
theorem dX11_image_45 : decode cX11_image 45 = .ok (.goto (-28), 3) := by decide +kernel
theorem dX11_image_48 : decode cX11_image 48 = .ok (.aload_n 0, 1) := by decide +kernel
theorem dX11_image_49 : decode cX11_image 49 = .ok (.getfield 16, 3) := by decide +kernel
theorem dX11_image_52 : decode cX11_image 52 = .ok (.iload_n 1, 1) := by decide +kernel
theorem dX11_image_53 : decode cX11_image 53 = .ok (.iconst 1, 1) := by decide +kernel
theorem dX11_image_54 : decode cX11_image 54 = .ok (.bastore, 1) := by decide +kernel
theorem dX11_image_55 : decode cX11_image 55 = .ok (.iconst 1, 1) := by decide +kernel
theorem dX11_image_56 : decode cX11_image 56 = .ok (.ireturn, 1) := by decide +kernel
noncomputable def f_X11_image (x1 : Int32) (μ : Mem) : Option (Int32 × Mem) :=
  bd (f_X11_in ((x1 : Int32).toInt64) 0 1) fun r1 =>
  if r1 = 0 then
    bd2 (f_X11_bad  μ) fun r8 ν9 =>
    some (r8, ν9)
  else
    bd (lp (ε := Mem) (cu2 fun (x2_2 : Int32) (ν3 : Mem) =>
      if x2_2 < 184 then
        chk x2_2 184 (
          chk ((184 * x1) + x2_2) 368 (lt (setI ν3 114 (ix ((184 * x1) + x2_2)) (ν3.1 113 (ix x2_2))) fun ν6 =>
            some (.inl ((x2_2 + 1), ν6))
            )
          )
      else
        some (.inr ν3)
      ) (0, μ)) (fun (ν4 : Mem) =>
      chk x1 2 (lt (setI ν4 115 (ix x1) 1) fun ν7 =>
        some (1, ν7)
        )
      )
set_option maxHeartbeats 4000000 in
set_option maxRecDepth 100000 in
theorem c_X11_image {g : GT} {x1 : Int32} {μ : Mem} {μ0 : Mem} {r0 : Int32} (hf : f_X11_image x1 μ = some (r0, μ0)) : CI g yX11_image cX11_image 3 (some .int) 3 [rf g 112, .int x1] μ r0 μ0 := by
  refine mk_i (by decide) (Nat.le_of_ble_eq_true rfl) ?_
  intro G hX hR
  have hX : CX g G cX11_image RX11 3 3 := hX
  suffices S : ∀ K : (Int32 × Mem) → Prop, (∀ a, K a → a = (r0, μ0)) → Sim G (f_X11_image x1 μ) K 0 [(0, rf g 112), (1, .int x1)] [] μ from S (fun a => a = (r0, μ0)) (fun a h => h) _ hf rfl
  intro K hK
  unfold f_X11_image
  refine s_iload_n hX dX11_image_0 rfl 1 rfl ?_
  refine s_i2l hX dX11_image_1 ?_
  refine s_lconst (v := 0) hX dX11_image_2 (by decide) ?_
  refine s_lconst (v := 1) hX dX11_image_3 (by decide) ?_
  refine s_callSir hX [.long (x1 : Int32).toInt64, .long 0, .long 1] skX11_in (fun r hF => c_X11_in  hF) mkX11_in cvX11_51 rfl rfl ⟨by omega, by decide, Nat.le_of_ble_eq_true rfl⟩ dX11_image_4 (fun r1 => ?_)
  refine s_if_ne hX 15 dX11_image_7 (by decide) ?_ ?_
  · refine s_iconst (v := 0) hX dX11_image_15 (by decide) ?_
    refine s_istore_n (lv' := [(2, .int 0), (0, rf g 112), (1, .int x1)]) hX dX11_image_16 rfl (by decide) rfl ?_
    refine s_loop hX 17 48 (fun s : Int32 × Mem => [(0, rf g 112), (1, .int x1), (2, .int s.1)]) (fun s : Int32 × Mem => s.2) (fun s : Mem => [(0, rf g 112), (1, .int x1)]) (fun s : Mem => s) [1, 2, 0] rfl rfl rfl ?_ ?_
    · intro Kq5 hIq5 hJq5 sq
      obtain ⟨x2_2, ν3⟩ := sq
      refine s_cu2 ?_
      show Sim G _ _ 17 [(0, rf g 112), (1, .int x1), (2, .int x2_2)] [] ν3
      refine s_iload_n hX dX11_image_17 rfl 2 rfl ?_
      refine s_sipush (v := 184) hX dX11_image_18 (by decide) ?_
      refine s_icmp_ge hX 48 dX11_image_21 (by decide) ?_ ?_
      · exact s_end hX (hJq5 ν3) [0, 1] rfl
      · refine s_aload_n hX dX11_image_24 rfl 0 rfl ?_
        refine s_getR hX (d := 2) 114 flX11_13 rfl rfl dX11_image_25 ?_
        refine s_sipush (v := 184) hX dX11_image_28 (by decide) ?_
        refine s_iload_n hX dX11_image_31 rfl 1 rfl ?_
        refine s_imul hX dX11_image_32 ?_
        refine s_iload_n hX dX11_image_33 rfl 2 rfl ?_
        refine s_iadd hX dX11_image_34 ?_
        refine s_aload_n hX dX11_image_35 rfl 0 rfl ?_
        refine s_getR hX (d := 1) 113 flX11_7 rfl rfl dX11_image_36 ?_
        refine s_iload_n hX dX11_image_39 rfl 2 rfl ?_
        refine s_iald hX rfl rfl dX11_image_40 ?_
        refine s_iast hX rfl rfl dX11_image_41 (fun ν6 => ?_)
        refine s_iinc (v := (x2_2 + 1)) (lv' := [(2, .int (x2_2 + 1)), (0, rf g 112), (1, .int x1)]) hX dX11_image_42 2 rfl rfl (by decide) rfl ?_
        refine s_goto hX 17 dX11_image_45 (by decide) ?_
        exact s_end hX (hIq5 ((x2_2 + 1), ν6)) [1, 2, 0] rfl
    · intro sq
      obtain ⟨ν4, rfl⟩ : ∃ z, z = sq := ⟨_, rfl⟩
      show Sim G _ _ 48 [(0, rf g 112), (1, .int x1)] [] ν4
      refine s_aload_n hX dX11_image_48 rfl 0 rfl ?_
      refine s_getR hX (d := 3) 115 flX11_16 rfl rfl dX11_image_49 ?_
      refine s_iload_n hX dX11_image_52 rfl 1 rfl ?_
      refine s_iconst (v := 1) hX dX11_image_53 (by decide) ?_
      refine s_zast hX rfl rfl rfl dX11_image_54 (fun ν7 => ?_)
      refine s_iconst (v := 1) hX dX11_image_55 (by decide) ?_
      exact s_ireti hK hR dX11_image_56
  · refine s_aload_n hX dX11_image_10 rfl 0 rfl ?_
    refine s_callViw hX [] (k := 112) (ci := 10) rfl hc10 vkX11_bad (fun r ν hF => c_X11_bad  hF) mkX11_bad cvX11_61 rfl rfl ⟨by omega, by decide, Nat.le_of_ble_eq_true rfl⟩ dX11_image_11 (fun r8 ν9 => ?_)
    exact s_ireti hK hR dX11_image_14
theorem dX11_lot_0 : decode cX11_lot 0 = .ok (.iload_n 1, 1) := by decide +kernel
theorem dX11_lot_1 : decode cX11_lot 1 = .ok (.i2l, 1) := by decide +kernel
theorem dX11_lot_2 : decode cX11_lot 2 = .ok (.lconst 0, 1) := by decide +kernel
theorem dX11_lot_3 : decode cX11_lot 3 = .ok (.ldc2_w 59, 3) := by decide +kernel
theorem dX11_lot_6 : decode cX11_lot 6 = .ok (.invokestatic 51, 3) := by decide +kernel
theorem dX11_lot_9 : decode cX11_lot 9 = .ok (.ifCond .eq 23, 3) := by decide +kernel
theorem dX11_lot_12 : decode cX11_lot 12 = .ok (.aload_n 0, 1) := by decide +kernel
theorem dX11_lot_13 : decode cX11_lot 13 = .ok (.iload_n 2, 1) := by decide +kernel
theorem dX11_lot_14 : decode cX11_lot 14 = .ok (.invokevirtual 55, 3) := by decide +kernel
theorem dX11_lot_17 : decode cX11_lot 17 = .ok (.ifCond .eq 15, 3) := by decide +kernel
theorem dX11_lot_20 : decode cX11_lot 20 = .ok (.iload_n 3, 1) := by decide +kernel
theorem dX11_lot_21 : decode cX11_lot 21 = .ok (.i2l, 1) := by decide +kernel
theorem dX11_lot_22 : decode cX11_lot 22 = .ok (.lconst 0, 1) := by decide +kernel
theorem dX11_lot_23 : decode cX11_lot 23 = .ok (.ldc2_w 65, 3) := by decide +kernel
theorem dX11_lot_26 : decode cX11_lot 26 = .ok (.invokestatic 51, 3) := by decide +kernel
theorem dX11_lot_29 : decode cX11_lot 29 = .ok (.ifCond .ne 8, 3) := by decide +kernel
theorem dX11_lot_32 : decode cX11_lot 32 = .ok (.aload_n 0, 1) := by decide +kernel
theorem dX11_lot_33 : decode cX11_lot 33 = .ok (.invokevirtual 61, 3) := by decide +kernel
theorem dX11_lot_36 : decode cX11_lot 36 = .ok (.ireturn, 1) := by decide +kernel
theorem dX11_lot_37 : decode cX11_lot 37 = .ok (.aload_n 0, 1) := by decide +kernel
theorem dX11_lot_38 : decode cX11_lot 38 = .ok (.getfield 7, 3) := by decide +kernel
theorem dX11_lot_41 : decode cX11_lot 41 = .ok (.iconst 1, 1) := by decide +kernel
theorem dX11_lot_42 : decode cX11_lot 42 = .ok (.iaload, 1) := by decide +kernel
theorem dX11_lot_43 : decode cX11_lot 43 = .ok (.bipush 10, 2) := by decide +kernel
theorem dX11_lot_45 : decode cX11_lot 45 = .ok (.if_icmp .ne 8, 3) := by decide +kernel
theorem dX11_lot_48 : decode cX11_lot 48 = .ok (.aload_n 0, 1) := by decide +kernel
theorem dX11_lot_49 : decode cX11_lot 49 = .ok (.invokevirtual 67, 3) := by decide +kernel
theorem dX11_lot_52 : decode cX11_lot 52 = .ok (.ireturn, 1) := by decide +kernel
theorem dX11_lot_53 : decode cX11_lot 53 = .ok (.aload_n 0, 1) := by decide +kernel
theorem dX11_lot_54 : decode cX11_lot 54 = .ok (.getfield 7, 3) := by decide +kernel
theorem dX11_lot_57 : decode cX11_lot 57 = .ok (.iconst 1, 1) := by decide +kernel
theorem dX11_lot_58 : decode cX11_lot 58 = .ok (.iaload, 1) := by decide +kernel
theorem dX11_lot_59 : decode cX11_lot 59 = .ok (.istore 4, 2) := by decide +kernel
theorem dX11_lot_61 : decode cX11_lot 61 = .ok (.aload_n 0, 1) := by decide +kernel
theorem dX11_lot_62 : decode cX11_lot 62 = .ok (.getfield 7, 3) := by decide +kernel
theorem dX11_lot_65 : decode cX11_lot 65 = .ok (.bipush 6, 2) := by decide +kernel
theorem dX11_lot_67 : decode cX11_lot 67 = .ok (.iload 4, 2) := by decide +kernel
theorem dX11_lot_69 : decode cX11_lot 69 = .ok (.iadd, 1) := by decide +kernel
theorem dX11_lot_70 : decode cX11_lot 70 = .ok (.iload_n 1, 1) := by decide +kernel
theorem dX11_lot_71 : decode cX11_lot 71 = .ok (.iastore, 1) := by decide +kernel
theorem dX11_lot_72 : decode cX11_lot 72 = .ok (.aload_n 0, 1) := by decide +kernel
theorem dX11_lot_73 : decode cX11_lot 73 = .ok (.getfield 7, 3) := by decide +kernel
theorem dX11_lot_76 : decode cX11_lot 76 = .ok (.bipush 16, 2) := by decide +kernel
theorem dX11_lot_78 : decode cX11_lot 78 = .ok (.iload 4, 2) := by decide +kernel
theorem dX11_lot_80 : decode cX11_lot 80 = .ok (.iadd, 1) := by decide +kernel
theorem dX11_lot_81 : decode cX11_lot 81 = .ok (.iload_n 2, 1) := by decide +kernel
theorem dX11_lot_82 : decode cX11_lot 82 = .ok (.iastore, 1) := by decide +kernel
theorem dX11_lot_83 : decode cX11_lot 83 = .ok (.aload_n 0, 1) := by decide +kernel
theorem dX11_lot_84 : decode cX11_lot 84 = .ok (.getfield 7, 3) := by decide +kernel
theorem dX11_lot_87 : decode cX11_lot 87 = .ok (.bipush 26, 2) := by decide +kernel
theorem dX11_lot_89 : decode cX11_lot 89 = .ok (.iload 4, 2) := by decide +kernel
theorem dX11_lot_91 : decode cX11_lot 91 = .ok (.iadd, 1) := by decide +kernel
theorem dX11_lot_92 : decode cX11_lot 92 = .ok (.iload_n 3, 1) := by decide +kernel
theorem dX11_lot_93 : decode cX11_lot 93 = .ok (.iastore, 1) := by decide +kernel
theorem dX11_lot_94 : decode cX11_lot 94 = .ok (.aload_n 0, 1) := by decide +kernel
theorem dX11_lot_95 : decode cX11_lot 95 = .ok (.getfield 7, 3) := by decide +kernel
theorem dX11_lot_98 : decode cX11_lot 98 = .ok (.iconst 1, 1) := by decide +kernel
theorem dX11_lot_99 : decode cX11_lot 99 = .ok (.dup2, 1) := by decide +kernel
theorem dX11_lot_100 : decode cX11_lot 100 = .ok (.iaload, 1) := by decide +kernel
theorem dX11_lot_101 : decode cX11_lot 101 = .ok (.iconst 1, 1) := by decide +kernel
theorem dX11_lot_102 : decode cX11_lot 102 = .ok (.iadd, 1) := by decide +kernel
theorem dX11_lot_103 : decode cX11_lot 103 = .ok (.iastore, 1) := by decide +kernel
theorem dX11_lot_104 : decode cX11_lot 104 = .ok (.aload_n 0, 1) := by decide +kernel
theorem dX11_lot_105 : decode cX11_lot 105 = .ok (.getfield 7, 3) := by decide +kernel
theorem dX11_lot_108 : decode cX11_lot 108 = .ok (.iconst 4, 1) := by decide +kernel
theorem dX11_lot_109 : decode cX11_lot 109 = .ok (.iconst 0, 1) := by decide +kernel
theorem dX11_lot_110 : decode cX11_lot 110 = .ok (.iastore, 1) := by decide +kernel
theorem dX11_lot_111 : decode cX11_lot 111 = .ok (.iload 4, 2) := by decide +kernel
theorem dX11_lot_113 : decode cX11_lot 113 = .ok (.ireturn, 1) := by decide +kernel
noncomputable def f_X11_lot (x1 : Int32) (x2 : Int32) (x3 : Int32) (μ : Mem) : Option (Int32 × Mem) :=
  bd (f_X11_in ((x1 : Int32).toInt64) 0 5) fun r1 =>
  jn (
    bd2 (f_X11_bad  μ) fun r3 ν4 =>
    some (r3, ν4)
    ) fun j2 =>
  if r1 = 0 then
    j2
  else
    bd (f_X11_isVillage x2 μ) fun r5 =>
    if r5 = 0 then
      j2
    else
      bd (f_X11_in ((x3 : Int32).toInt64) 0 99) fun r6 =>
      if r6 = 0 then
        j2
      else
        if (μ.1 113 1) = 10 then
          bd2 (f_X11_full  μ) fun r12 ν13 =>
          some (r12, ν13)
        else
          chk (6 + (μ.1 113 1)) 184 (lt (setI μ 113 (ix (6 + (μ.1 113 1))) x1) fun ν7 =>
            chk (16 + (μ.1 113 1)) 184 (lt (setI ν7 113 (ix (16 + (μ.1 113 1))) x2) fun ν8 =>
              chk (26 + (μ.1 113 1)) 184 (lt (setI ν8 113 (ix (26 + (μ.1 113 1))) x3) fun ν9 =>
                lt (setI ν9 113 1 ((ν9.1 113 1) + 1)) fun ν10 =>
                lt (setI ν10 113 4 0) fun ν11 =>
                some ((μ.1 113 1), ν11)
                )
              )
            )
set_option maxHeartbeats 4000000 in
set_option maxRecDepth 100000 in
theorem c_X11_lot {g : GT} {x1 : Int32} {x2 : Int32} {x3 : Int32} {μ : Mem} {μ0 : Mem} {r0 : Int32} (hf : f_X11_lot x1 x2 x3 μ = some (r0, μ0)) : CI g yX11_lot cX11_lot 5 (some .int) 3 [rf g 112, .int x1, .int x2, .int x3] μ r0 μ0 := by
  refine mk_i (by decide) (Nat.le_of_ble_eq_true rfl) ?_
  intro G hX hR
  have hX : CX g G cX11_lot RX11 5 3 := hX
  suffices S : ∀ K : (Int32 × Mem) → Prop, (∀ a, K a → a = (r0, μ0)) → Sim G (f_X11_lot x1 x2 x3 μ) K 0 [(0, rf g 112), (1, .int x1), (2, .int x2), (3, .int x3)] [] μ from S (fun a => a = (r0, μ0)) (fun a h => h) _ hf rfl
  intro K hK
  unfold f_X11_lot
  refine s_iload_n hX dX11_lot_0 rfl 1 rfl ?_
  refine s_i2l hX dX11_lot_1 ?_
  refine s_lconst (v := 0) hX dX11_lot_2 (by decide) ?_
  refine s_ldc2 hX dX11_lot_3 klX11_59 ?_
  refine s_callSir hX [.long (x1 : Int32).toInt64, .long 0, .long 5] skX11_in (fun r hF => c_X11_in  hF) mkX11_in cvX11_51 rfl rfl ⟨by omega, by decide, Nat.le_of_ble_eq_true rfl⟩ dX11_lot_6 (fun r1 => ?_)
  refine s_jn (C := fun j => Sim G (j) K 32 [(0, rf g 112)] [] μ) ?_ (fun j2 hj2 => ?_)
  · skip
    show Sim G _ _ 32 [(0, rf g 112)] [] μ
    refine s_aload_n hX dX11_lot_32 rfl 0 rfl ?_
    refine s_callViw hX [] (k := 112) (ci := 10) rfl hc10 vkX11_bad (fun r ν hF => c_X11_bad  hF) mkX11_bad cvX11_61 rfl rfl ⟨by omega, by decide, Nat.le_of_ble_eq_true rfl⟩ dX11_lot_33 (fun r3 ν4 => ?_)
    exact s_ireti hK hR dX11_lot_36
  refine s_if_eq hX 32 dX11_lot_9 (by decide) ?_ ?_
  · exact s_to hX [0] rfl (hj2)
  · refine s_aload_n hX dX11_lot_12 rfl 0 rfl ?_
    refine s_iload_n hX dX11_lot_13 rfl 2 rfl ?_
    refine s_callVir hX [.int x2] (k := 112) (ci := 10) rfl hc10 vkX11_isVillage (fun r hF => c_X11_isVillage  hF) mkX11_isVillage cvX11_55 rfl rfl ⟨by omega, by decide, Nat.le_of_ble_eq_true rfl⟩ dX11_lot_14 (fun r5 => ?_)
    refine s_if_eq hX 32 dX11_lot_17 (by decide) ?_ ?_
    · exact s_to hX [0] rfl (hj2)
    · refine s_iload_n hX dX11_lot_20 rfl 3 rfl ?_
      refine s_i2l hX dX11_lot_21 ?_
      refine s_lconst (v := 0) hX dX11_lot_22 (by decide) ?_
      refine s_ldc2 hX dX11_lot_23 klX11_65 ?_
      refine s_callSir hX [.long (x3 : Int32).toInt64, .long 0, .long 99] skX11_in (fun r hF => c_X11_in  hF) mkX11_in cvX11_51 rfl rfl ⟨by omega, by decide, Nat.le_of_ble_eq_true rfl⟩ dX11_lot_26 (fun r6 => ?_)
      refine s_if_ne hX 37 dX11_lot_29 (by decide) ?_ ?_
      · refine s_aload_n hX dX11_lot_37 rfl 0 rfl ?_
        refine s_getR hX (d := 1) 113 flX11_7 rfl rfl dX11_lot_38 ?_
        refine s_iconst (v := 1) hX dX11_lot_41 (by decide) ?_
        refine s_ialdK hX rfl rfl (by decide) rfl dX11_lot_42 ?_
        refine s_bipush (v := 10) hX dX11_lot_43 (by decide) ?_
        refine s_icmp_ne hX 53 dX11_lot_45 (by decide) ?_ ?_
        · refine s_aload_n hX dX11_lot_53 rfl 0 rfl ?_
          refine s_getR hX (d := 1) 113 flX11_7 rfl rfl dX11_lot_54 ?_
          refine s_iconst (v := 1) hX dX11_lot_57 (by decide) ?_
          refine s_ialdK hX rfl rfl (by decide) rfl dX11_lot_58 ?_
          refine s_istore (lv' := [(4, .int (μ.1 113 1)), (0, rf g 112), (1, .int x1), (2, .int x2), (3, .int x3)]) hX dX11_lot_59 (by decide) rfl ?_
          refine s_aload_n hX dX11_lot_61 rfl 1 rfl ?_
          refine s_getR hX (d := 1) 113 flX11_7 rfl rfl dX11_lot_62 ?_
          refine s_bipush (v := 6) hX dX11_lot_65 (by decide) ?_
          refine s_iload hX dX11_lot_67 0 rfl ?_
          refine s_iadd hX dX11_lot_69 ?_
          refine s_iload_n hX dX11_lot_70 rfl 2 rfl ?_
          refine s_iast hX rfl rfl dX11_lot_71 (fun ν7 => ?_)
          refine s_aload_n hX dX11_lot_72 rfl 1 rfl ?_
          refine s_getR hX (d := 1) 113 flX11_7 rfl rfl dX11_lot_73 ?_
          refine s_bipush (v := 16) hX dX11_lot_76 (by decide) ?_
          refine s_iload hX dX11_lot_78 0 rfl ?_
          refine s_iadd hX dX11_lot_80 ?_
          refine s_iload_n hX dX11_lot_81 rfl 3 rfl ?_
          refine s_iast hX rfl rfl dX11_lot_82 (fun ν8 => ?_)
          refine s_aload_n hX dX11_lot_83 rfl 1 rfl ?_
          refine s_getR hX (d := 1) 113 flX11_7 rfl rfl dX11_lot_84 ?_
          refine s_bipush (v := 26) hX dX11_lot_87 (by decide) ?_
          refine s_iload hX dX11_lot_89 0 rfl ?_
          refine s_iadd hX dX11_lot_91 ?_
          refine s_iload_n hX dX11_lot_92 rfl 4 rfl ?_
          refine s_iast hX rfl rfl dX11_lot_93 (fun ν9 => ?_)
          refine s_aload_n hX dX11_lot_94 rfl 1 rfl ?_
          refine s_getR hX (d := 1) 113 flX11_7 rfl rfl dX11_lot_95 ?_
          refine s_iconst (v := 1) hX dX11_lot_98 (by decide) ?_
          refine s_dup2 hX dX11_lot_99 rfl rfl ?_
          refine s_ialdK hX rfl rfl (by decide) rfl dX11_lot_100 ?_
          refine s_iconst (v := 1) hX dX11_lot_101 (by decide) ?_
          refine s_iadd hX dX11_lot_102 ?_
          refine s_iastK hX rfl rfl (by decide) rfl dX11_lot_103 (fun ν10 => ?_)
          refine s_aload_n hX dX11_lot_104 rfl 1 rfl ?_
          refine s_getR hX (d := 1) 113 flX11_7 rfl rfl dX11_lot_105 ?_
          refine s_iconst (v := 4) hX dX11_lot_108 (by decide) ?_
          refine s_iconst (v := 0) hX dX11_lot_109 (by decide) ?_
          refine s_iastK hX rfl rfl (by decide) rfl dX11_lot_110 (fun ν11 => ?_)
          refine s_iload hX dX11_lot_111 0 rfl ?_
          exact s_ireti hK hR dX11_lot_113
        · refine s_aload_n hX dX11_lot_48 rfl 0 rfl ?_
          refine s_callViw hX [] (k := 112) (ci := 10) rfl hc10 vkX11_full (fun r ν hF => c_X11_full  hF) mkX11_full cvX11_67 rfl rfl ⟨by omega, by decide, Nat.le_of_ble_eq_true rfl⟩ dX11_lot_49 (fun r12 ν13 => ?_)
          exact s_ireti hK hR dX11_lot_52
      · exact s_to hX [0] rfl (hj2)
theorem dX11_move_0 : decode cX11_move 0 = .ok (.aload_n 0, 1) := by decide +kernel
theorem dX11_move_1 : decode cX11_move 1 = .ok (.iload_n 1, 1) := by decide +kernel
theorem dX11_move_2 : decode cX11_move 2 = .ok (.invokevirtual 70, 3) := by decide +kernel
theorem dX11_move_5 : decode cX11_move 5 = .ok (.ifCond .eq 23, 3) := by decide +kernel
theorem dX11_move_8 : decode cX11_move 8 = .ok (.aload_n 0, 1) := by decide +kernel
theorem dX11_move_9 : decode cX11_move 9 = .ok (.iload_n 2, 1) := by decide +kernel
theorem dX11_move_10 : decode cX11_move 10 = .ok (.invokevirtual 55, 3) := by decide +kernel
theorem dX11_move_13 : decode cX11_move 13 = .ok (.ifCond .eq 15, 3) := by decide +kernel
theorem dX11_move_16 : decode cX11_move 16 = .ok (.aload_n 0, 1) := by decide +kernel
theorem dX11_move_17 : decode cX11_move 17 = .ok (.bipush 16, 2) := by decide +kernel
theorem dX11_move_19 : decode cX11_move 19 = .ok (.iload_n 1, 1) := by decide +kernel
theorem dX11_move_20 : decode cX11_move 20 = .ok (.iadd, 1) := by decide +kernel
theorem dX11_move_21 : decode cX11_move 21 = .ok (.iload_n 2, 1) := by decide +kernel
theorem dX11_move_22 : decode cX11_move 22 = .ok (.invokevirtual 73, 3) := by decide +kernel
theorem dX11_move_25 : decode cX11_move 25 = .ok (.goto 7, 3) := by decide +kernel
theorem dX11_move_28 : decode cX11_move 28 = .ok (.aload_n 0, 1) := by decide +kernel
theorem dX11_move_29 : decode cX11_move 29 = .ok (.invokevirtual 61, 3) := by decide +kernel
theorem dX11_move_32 : decode cX11_move 32 = .ok (.ireturn, 1) := by decide +kernel
noncomputable def f_X11_move (x1 : Int32) (x2 : Int32) (μ : Mem) : Option (Int32 × Mem) :=
  bd (f_X11_isLot x1 μ) fun r1 =>
  jn (fun (y2 : Int32) (ν3 : Mem) =>
    some (y2, ν3)
    ) fun j4 =>
  jn (
    bd2 (f_X11_bad  μ) fun r6 ν7 =>
    j4 r6 ν7
    ) fun j5 =>
  if r1 = 0 then
    j5
  else
    bd (f_X11_isVillage x2 μ) fun r8 =>
    if r8 = 0 then
      j5
    else
      bd2 (f_X11_puts (16 + x1) x2 μ) fun r9 ν10 =>
      j4 r9 ν10
set_option maxHeartbeats 4000000 in
set_option maxRecDepth 100000 in
theorem c_X11_move {g : GT} {x1 : Int32} {x2 : Int32} {μ : Mem} {μ0 : Mem} {r0 : Int32} (hf : f_X11_move x1 x2 μ = some (r0, μ0)) : CI g yX11_move cX11_move 3 (some .int) 3 [rf g 112, .int x1, .int x2] μ r0 μ0 := by
  refine mk_i (by decide) (Nat.le_of_ble_eq_true rfl) ?_
  intro G hX hR
  have hX : CX g G cX11_move RX11 3 3 := hX
  suffices S : ∀ K : (Int32 × Mem) → Prop, (∀ a, K a → a = (r0, μ0)) → Sim G (f_X11_move x1 x2 μ) K 0 [(0, rf g 112), (1, .int x1), (2, .int x2)] [] μ from S (fun a => a = (r0, μ0)) (fun a h => h) _ hf rfl
  intro K hK
  unfold f_X11_move
  refine s_aload_n hX dX11_move_0 rfl 0 rfl ?_
  refine s_iload_n hX dX11_move_1 rfl 1 rfl ?_
  refine s_callVir hX [.int x1] (k := 112) (ci := 10) rfl hc10 vkX11_isLot (fun r hF => c_X11_isLot  hF) mkX11_isLot cvX11_70 rfl rfl ⟨by omega, by decide, Nat.le_of_ble_eq_true rfl⟩ dX11_move_2 (fun r1 => ?_)
  refine s_jn (C := fun j => ∀ (y2 : Int32) (ν3 : Mem), Sim G (j y2 ν3) K 32 [] [.int y2] ν3) ?_ (fun j4 hj4 => ?_)
  · intro y2 ν3
    show Sim G _ _ 32 [] [.int y2] ν3
    exact s_ireti hK hR dX11_move_32
  refine s_jn (C := fun j => Sim G (j) K 28 [(0, rf g 112)] [] μ) ?_ (fun j5 hj5 => ?_)
  · skip
    show Sim G _ _ 28 [(0, rf g 112)] [] μ
    refine s_aload_n hX dX11_move_28 rfl 0 rfl ?_
    refine s_callViw hX [] (k := 112) (ci := 10) rfl hc10 vkX11_bad (fun r ν hF => c_X11_bad  hF) mkX11_bad cvX11_61 rfl rfl ⟨by omega, by decide, Nat.le_of_ble_eq_true rfl⟩ dX11_move_29 (fun r6 ν7 => ?_)
    exact s_to hX [] rfl (hj4 r6 ν7)
  refine s_if_eq hX 28 dX11_move_5 (by decide) ?_ ?_
  · exact s_to hX [0] rfl (hj5)
  · refine s_aload_n hX dX11_move_8 rfl 0 rfl ?_
    refine s_iload_n hX dX11_move_9 rfl 2 rfl ?_
    refine s_callVir hX [.int x2] (k := 112) (ci := 10) rfl hc10 vkX11_isVillage (fun r hF => c_X11_isVillage  hF) mkX11_isVillage cvX11_55 rfl rfl ⟨by omega, by decide, Nat.le_of_ble_eq_true rfl⟩ dX11_move_10 (fun r8 => ?_)
    refine s_if_eq hX 28 dX11_move_13 (by decide) ?_ ?_
    · exact s_to hX [0] rfl (hj5)
    · refine s_aload_n hX dX11_move_16 rfl 0 rfl ?_
      refine s_bipush (v := 16) hX dX11_move_17 (by decide) ?_
      refine s_iload_n hX dX11_move_19 rfl 1 rfl ?_
      refine s_iadd hX dX11_move_20 ?_
      refine s_iload_n hX dX11_move_21 rfl 2 rfl ?_
      refine s_callViw hX [.int (16 + x1), .int x2] (k := 112) (ci := 10) rfl hc10 vkX11_puts (fun r ν hF => c_X11_puts  hF) mkX11_puts cvX11_73 rfl rfl ⟨by omega, by decide, Nat.le_of_ble_eq_true rfl⟩ dX11_move_22 (fun r9 ν10 => ?_)
      refine s_goto hX 32 dX11_move_25 (by decide) ?_
      exact s_to hX [] rfl (hj4 r9 ν10)
theorem dX11_of_0 : decode cX11_of 0 = .ok (.aload_n 0, 1) := by decide +kernel
theorem dX11_of_1 : decode cX11_of 1 = .ok (.iload_n 1, 1) := by decide +kernel
theorem dX11_of_2 : decode cX11_of 2 = .ok (.invokevirtual 70, 3) := by decide +kernel
theorem dX11_of_5 : decode cX11_of 5 = .ok (.ifCond .eq 15, 3) := by decide +kernel
theorem dX11_of_8 : decode cX11_of 8 = .ok (.iload_n 2, 1) := by decide +kernel
theorem dX11_of_9 : decode cX11_of 9 = .ok (.i2l, 1) := by decide +kernel
theorem dX11_of_10 : decode cX11_of 10 = .ok (.lconst 0, 1) := by decide +kernel
theorem dX11_of_11 : decode cX11_of 11 = .ok (.ldc2_w 194, 3) := by decide +kernel
theorem dX11_of_14 : decode cX11_of 14 = .ok (.invokestatic 51, 3) := by decide +kernel
theorem dX11_of_17 : decode cX11_of 17 = .ok (.ifCond .ne 8, 3) := by decide +kernel
theorem dX11_of_20 : decode cX11_of 20 = .ok (.aload_n 0, 1) := by decide +kernel
theorem dX11_of_21 : decode cX11_of 21 = .ok (.invokevirtual 61, 3) := by decide +kernel
theorem dX11_of_24 : decode cX11_of 24 = .ok (.ireturn, 1) := by decide +kernel
theorem dX11_of_25 : decode cX11_of 25 = .ok (.aload_n 0, 1) := by decide +kernel
theorem dX11_of_26 : decode cX11_of 26 = .ok (.getfield 7, 3) := by decide +kernel
theorem dX11_of_29 : decode cX11_of 29 = .ok (.bipush 6, 2) := by decide +kernel
theorem dX11_of_31 : decode cX11_of 31 = .ok (.iload_n 1, 1) := by decide +kernel
theorem dX11_of_32 : decode cX11_of 32 = .ok (.iadd, 1) := by decide +kernel
theorem dX11_of_33 : decode cX11_of 33 = .ok (.iaload, 1) := by decide +kernel
theorem dX11_of_34 : decode cX11_of 34 = .ok (.istore_n 3, 1) := by decide +kernel
theorem dX11_of_35 : decode cX11_of 35 = .ok (.aload_n 0, 1) := by decide +kernel
theorem dX11_of_36 : decode cX11_of 36 = .ok (.getfield 7, 3) := by decide +kernel
theorem dX11_of_39 : decode cX11_of 39 = .ok (.bipush 26, 2) := by decide +kernel
theorem dX11_of_41 : decode cX11_of 41 = .ok (.iload_n 1, 1) := by decide +kernel
theorem dX11_of_42 : decode cX11_of 42 = .ok (.iadd, 1) := by decide +kernel
theorem dX11_of_43 : decode cX11_of 43 = .ok (.iaload, 1) := by decide +kernel
theorem dX11_of_44 : decode cX11_of 44 = .ok (.istore 4, 2) := by decide +kernel
theorem dX11_of_46 : decode cX11_of 46 = .ok (.iload_n 2, 1) := by decide +kernel
theorem dX11_of_47 : decode cX11_of 47 = .ok (.iconst 3, 1) := by decide +kernel
theorem dX11_of_48 : decode cX11_of 48 = .ok (.if_icmp .ne 18, 3) := by decide +kernel
theorem dX11_of_51 : decode cX11_of 51 = .ok (.iload_n 3, 1) := by decide +kernel
theorem dX11_of_52 : decode cX11_of 52 = .ok (.iload 4, 2) := by decide +kernel
theorem dX11_of_54 : decode cX11_of 54 = .ok (.aload_n 0, 1) := by decide +kernel
theorem dX11_of_55 : decode cX11_of 55 = .ok (.getfield 7, 3) := by decide +kernel
theorem dX11_of_58 : decode cX11_of 58 = .ok (.iconst 3, 1) := by decide +kernel
theorem dX11_of_59 : decode cX11_of 59 = .ok (.iaload, 1) := by decide +kernel
theorem dX11_of_60 : decode cX11_of 60 = .ok (.invokestatic 168, 3) := by decide +kernel
theorem dX11_of_63 : decode cX11_of 63 = .ok (.goto 9, 3) := by decide +kernel
theorem dX11_of_66 : decode cX11_of 66 = .ok (.iload_n 3, 1) := by decide +kernel
theorem dX11_of_67 : decode cX11_of 67 = .ok (.iload 4, 2) := by decide +kernel
theorem dX11_of_69 : decode cX11_of 69 = .ok (.invokestatic 174, 3) := by decide +kernel
theorem dX11_of_72 : decode cX11_of 72 = .ok (.istore 5, 2) := by decide +kernel
theorem dX11_of_74 : decode cX11_of 74 = .ok (.iload_n 2, 1) := by decide +kernel
theorem dX11_of_75 : decode cX11_of 75 = .ok (.ifCond .ne 7, 3) := by decide +kernel
theorem dX11_of_78 : decode cX11_of 78 = .ok (.iload_n 3, 1) := by decide +kernel
theorem dX11_of_79 : decode cX11_of 79 = .ok (.goto 32, 3) := by decide +kernel
theorem dX11_of_82 : decode cX11_of 82 = .ok (.iload_n 2, 1) := by decide +kernel
theorem dX11_of_83 : decode cX11_of 83 = .ok (.iconst 1, 1) := by decide +kernel
theorem dX11_of_84 : decode cX11_of 84 = .ok (.if_icmp .ne 15, 3) := by decide +kernel
theorem dX11_of_87 : decode cX11_of 87 = .ok (.aload_n 0, 1) := by decide +kernel
theorem dX11_of_88 : decode cX11_of 88 = .ok (.getfield 7, 3) := by decide +kernel
theorem dX11_of_91 : decode cX11_of 91 = .ok (.bipush 16, 2) := by decide +kernel
theorem dX11_of_93 : decode cX11_of 93 = .ok (.iload_n 1, 1) := by decide +kernel
theorem dX11_of_94 : decode cX11_of 94 = .ok (.iadd, 1) := by decide +kernel
theorem dX11_of_95 : decode cX11_of 95 = .ok (.iaload, 1) := by decide +kernel
theorem dX11_of_96 : decode cX11_of 96 = .ok (.goto 15, 3) := by decide +kernel
theorem dX11_of_99 : decode cX11_of 99 = .ok (.iload_n 2, 1) := by decide +kernel
theorem dX11_of_100 : decode cX11_of 100 = .ok (.iconst 2, 1) := by decide +kernel
theorem dX11_of_101 : decode cX11_of 101 = .ok (.if_icmp .ne 8, 3) := by decide +kernel
theorem dX11_of_104 : decode cX11_of 104 = .ok (.iload 4, 2) := by decide +kernel
theorem dX11_of_106 : decode cX11_of 106 = .ok (.goto 5, 3) := by decide +kernel
theorem dX11_of_109 : decode cX11_of 109 = .ok (.iload 5, 2) := by decide +kernel
theorem dX11_of_111 : decode cX11_of 111 = .ok (.ireturn, 1) := by decide +kernel
noncomputable def f_X11_of (x1 : Int32) (x2 : Int32) (μ : Mem) : Option (Int32 × Mem) :=
  bd (f_X11_isLot x1 μ) fun r1 =>
  jn (
    bd2 (f_X11_bad  μ) fun r3 ν4 =>
    some (r3, ν4)
    ) fun j2 =>
  if r1 = 0 then
    j2
  else
    bd (f_X11_in ((x2 : Int32).toInt64) 0 4) fun r5 =>
    if r5 = 0 then
      j2
    else
      chk (6 + x1) 184 (
        chk (26 + x1) 184 (
          jn (fun (y6 : Int32) =>
            jn (fun (y8 : Int32) =>
              some (y8, μ)
              ) fun j9 =>
            if x2 = 0 then
              j9 (μ.1 113 (ix (6 + x1)))
            else
              if x2 = 1 then
                chk (16 + x1) 184 (
                  j9 (μ.1 113 (ix (16 + x1)))
                  )
              else
                if x2 = 2 then
                  j9 (μ.1 113 (ix (26 + x1)))
                else
                  j9 y6
            ) fun j7 =>
          if x2 = 3 then
            bd (f_X11_seenOf (μ.1 113 (ix (6 + x1))) (μ.1 113 (ix (26 + x1))) (μ.1 113 3)) fun r11 =>
            j7 r11
          else
            bd (f_X11_takenOf (μ.1 113 (ix (6 + x1))) (μ.1 113 (ix (26 + x1)))) fun r10 =>
            j7 r10
          )
        )
set_option maxHeartbeats 4000000 in
set_option maxRecDepth 100000 in
theorem c_X11_of {g : GT} {x1 : Int32} {x2 : Int32} {μ : Mem} {μ0 : Mem} {r0 : Int32} (hf : f_X11_of x1 x2 μ = some (r0, μ0)) : CI g yX11_of cX11_of 6 (some .int) 3 [rf g 112, .int x1, .int x2] μ r0 μ0 := by
  refine mk_i (by decide) (Nat.le_of_ble_eq_true rfl) ?_
  intro G hX hR
  have hX : CX g G cX11_of RX11 6 3 := hX
  suffices S : ∀ K : (Int32 × Mem) → Prop, (∀ a, K a → a = (r0, μ0)) → Sim G (f_X11_of x1 x2 μ) K 0 [(0, rf g 112), (1, .int x1), (2, .int x2)] [] μ from S (fun a => a = (r0, μ0)) (fun a h => h) _ hf rfl
  intro K hK
  unfold f_X11_of
  refine s_aload_n hX dX11_of_0 rfl 0 rfl ?_
  refine s_iload_n hX dX11_of_1 rfl 1 rfl ?_
  refine s_callVir hX [.int x1] (k := 112) (ci := 10) rfl hc10 vkX11_isLot (fun r hF => c_X11_isLot  hF) mkX11_isLot cvX11_70 rfl rfl ⟨by omega, by decide, Nat.le_of_ble_eq_true rfl⟩ dX11_of_2 (fun r1 => ?_)
  refine s_jn (C := fun j => Sim G (j) K 20 [(0, rf g 112)] [] μ) ?_ (fun j2 hj2 => ?_)
  · skip
    show Sim G _ _ 20 [(0, rf g 112)] [] μ
    refine s_aload_n hX dX11_of_20 rfl 0 rfl ?_
    refine s_callViw hX [] (k := 112) (ci := 10) rfl hc10 vkX11_bad (fun r ν hF => c_X11_bad  hF) mkX11_bad cvX11_61 rfl rfl ⟨by omega, by decide, Nat.le_of_ble_eq_true rfl⟩ dX11_of_21 (fun r3 ν4 => ?_)
    exact s_ireti hK hR dX11_of_24
  refine s_if_eq hX 20 dX11_of_5 (by decide) ?_ ?_
  · exact s_to hX [0] rfl (hj2)
  · refine s_iload_n hX dX11_of_8 rfl 2 rfl ?_
    refine s_i2l hX dX11_of_9 ?_
    refine s_lconst (v := 0) hX dX11_of_10 (by decide) ?_
    refine s_ldc2 hX dX11_of_11 klX11_194 ?_
    refine s_callSir hX [.long (x2 : Int32).toInt64, .long 0, .long 4] skX11_in (fun r hF => c_X11_in  hF) mkX11_in cvX11_51 rfl rfl ⟨by omega, by decide, Nat.le_of_ble_eq_true rfl⟩ dX11_of_14 (fun r5 => ?_)
    refine s_if_ne hX 25 dX11_of_17 (by decide) ?_ ?_
    · refine s_aload_n hX dX11_of_25 rfl 0 rfl ?_
      refine s_getR hX (d := 1) 113 flX11_7 rfl rfl dX11_of_26 ?_
      refine s_bipush (v := 6) hX dX11_of_29 (by decide) ?_
      refine s_iload_n hX dX11_of_31 rfl 1 rfl ?_
      refine s_iadd hX dX11_of_32 ?_
      refine s_iald hX rfl rfl dX11_of_33 ?_
      refine s_istore_n (lv' := [(3, .int (μ.1 113 (ix (6 + x1)))), (0, rf g 112), (1, .int x1), (2, .int x2)]) hX dX11_of_34 rfl (by decide) rfl ?_
      refine s_aload_n hX dX11_of_35 rfl 1 rfl ?_
      refine s_getR hX (d := 1) 113 flX11_7 rfl rfl dX11_of_36 ?_
      refine s_bipush (v := 26) hX dX11_of_39 (by decide) ?_
      refine s_iload_n hX dX11_of_41 rfl 2 rfl ?_
      refine s_iadd hX dX11_of_42 ?_
      refine s_iald hX rfl rfl dX11_of_43 ?_
      refine s_istore (lv' := [(4, .int (μ.1 113 (ix (26 + x1)))), (3, .int (μ.1 113 (ix (6 + x1)))), (0, rf g 112), (1, .int x1), (2, .int x2)]) hX dX11_of_44 (by decide) rfl ?_
      refine s_iload_n hX dX11_of_46 rfl 4 rfl ?_
      refine s_iconst (v := 3) hX dX11_of_47 (by decide) ?_
      refine s_jn (C := fun j => ∀ (y6 : Int32), Sim G (j y6) K 72 [(0, rf g 112), (1, .int x1), (2, .int x2), (3, .int (μ.1 113 (ix (6 + x1)))), (4, .int (μ.1 113 (ix (26 + x1))))] [.int y6] μ) ?_ (fun j7 hj7 => ?_)
      · intro y6
        show Sim G _ _ 72 [(0, rf g 112), (1, .int x1), (2, .int x2), (3, .int (μ.1 113 (ix (6 + x1)))), (4, .int (μ.1 113 (ix (26 + x1))))] [.int y6] μ
        refine s_istore (lv' := [(5, .int y6), (0, rf g 112), (1, .int x1), (2, .int x2), (3, .int (μ.1 113 (ix (6 + x1)))), (4, .int (μ.1 113 (ix (26 + x1))))]) hX dX11_of_72 (by decide) rfl ?_
        refine s_iload_n hX dX11_of_74 rfl 3 rfl ?_
        refine s_jn (C := fun j => ∀ (y8 : Int32), Sim G (j y8) K 111 [] [.int y8] μ) ?_ (fun j9 hj9 => ?_)
        · intro y8
          show Sim G _ _ 111 [] [.int y8] μ
          exact s_ireti hK hR dX11_of_111
        refine s_if_ne hX 82 dX11_of_75 (by decide) ?_ ?_
        · refine s_iload_n hX dX11_of_82 rfl 3 rfl ?_
          refine s_iconst (v := 1) hX dX11_of_83 (by decide) ?_
          refine s_icmp_ne hX 99 dX11_of_84 (by decide) ?_ ?_
          · refine s_iload_n hX dX11_of_99 rfl 3 rfl ?_
            refine s_iconst (v := 2) hX dX11_of_100 (by decide) ?_
            refine s_icmp_ne hX 109 dX11_of_101 (by decide) ?_ ?_
            · refine s_iload hX dX11_of_109 0 rfl ?_
              exact s_to hX [] rfl (hj9 y6)
            · refine s_iload hX dX11_of_104 5 rfl ?_
              refine s_goto hX 111 dX11_of_106 (by decide) ?_
              exact s_to hX [] rfl (hj9 (μ.1 113 (ix (26 + x1))))
          · refine s_aload_n hX dX11_of_87 rfl 1 rfl ?_
            refine s_getR hX (d := 1) 113 flX11_7 rfl rfl dX11_of_88 ?_
            refine s_bipush (v := 16) hX dX11_of_91 (by decide) ?_
            refine s_iload_n hX dX11_of_93 rfl 2 rfl ?_
            refine s_iadd hX dX11_of_94 ?_
            refine s_iald hX rfl rfl dX11_of_95 ?_
            refine s_goto hX 111 dX11_of_96 (by decide) ?_
            exact s_to hX [] rfl (hj9 (μ.1 113 (ix (16 + x1))))
        · refine s_iload_n hX dX11_of_78 rfl 4 rfl ?_
          refine s_goto hX 111 dX11_of_79 (by decide) ?_
          exact s_to hX [] rfl (hj9 (μ.1 113 (ix (6 + x1))))
      refine s_icmp_ne hX 66 dX11_of_48 (by decide) ?_ ?_
      · refine s_iload_n hX dX11_of_66 rfl 1 rfl ?_
        refine s_iload hX dX11_of_67 0 rfl ?_
        refine s_callSir hX [.int (μ.1 113 (ix (6 + x1))), .int (μ.1 113 (ix (26 + x1)))] skX11_takenOf (fun r hF => c_X11_takenOf  hF) mkX11_takenOf cvX11_174 rfl rfl ⟨by omega, by decide, Nat.le_of_ble_eq_true rfl⟩ dX11_of_69 (fun r10 => ?_)
        exact s_to hX [2, 3, 4, 1, 0] rfl (hj7 r10)
      · refine s_iload_n hX dX11_of_51 rfl 1 rfl ?_
        refine s_iload hX dX11_of_52 0 rfl ?_
        refine s_aload_n hX dX11_of_54 rfl 2 rfl ?_
        refine s_getR hX (d := 1) 113 flX11_7 rfl rfl dX11_of_55 ?_
        refine s_iconst (v := 3) hX dX11_of_58 (by decide) ?_
        refine s_ialdK hX rfl rfl (by decide) rfl dX11_of_59 ?_
        refine s_callSir hX [.int (μ.1 113 (ix (6 + x1))), .int (μ.1 113 (ix (26 + x1))), .int (μ.1 113 3)] skX11_seenOf (fun r hF => c_X11_seenOf  hF) mkX11_seenOf cvX11_168 rfl rfl ⟨by omega, by decide, Nat.le_of_ble_eq_true rfl⟩ dX11_of_60 (fun r11 => ?_)
        refine s_goto hX 72 dX11_of_63 (by decide) ?_
        exact s_to hX [2, 3, 4, 1, 0] rfl (hj7 r11)
    · exact s_to hX [0] rfl (hj2)
theorem dX11_scans_0 : decode cX11_scans 0 = .ok (.aload_n 0, 1) := by decide +kernel
theorem dX11_scans_1 : decode cX11_scans 1 = .ok (.bipush 32, 2) := by decide +kernel
theorem dX11_scans_3 : decode cX11_scans 3 = .ok (.bipush 32, 2) := by decide +kernel
theorem dX11_scans_5 : decode cX11_scans 5 = .ok (.invokevirtual 111, 3) := by decide +kernel
theorem dX11_scans_8 : decode cX11_scans 8 = .ok (.ifCond .eq 16, 3) := by decide +kernel
theorem dX11_scans_11 : decode cX11_scans 11 = .ok (.aload_n 0, 1) := by decide +kernel
theorem dX11_scans_12 : decode cX11_scans 12 = .ok (.dup, 1) := by decide +kernel
theorem dX11_scans_13 : decode cX11_scans 13 = .ok (.getfield 96, 3) := by decide +kernel
theorem dX11_scans_16 : decode cX11_scans 16 = .ok (.iconst 1, 1) := by decide +kernel
theorem dX11_scans_17 : decode cX11_scans 17 = .ok (.iadd, 1) := by decide +kernel
theorem dX11_scans_18 : decode cX11_scans 18 = .ok (.putfield 96, 3) := by decide +kernel
theorem dX11_scans_21 : decode cX11_scans 21 = .ok (.goto (-21), 3) := by decide +kernel
theorem dX11_scans_24 : decode cX11_scans 24 = .ok (.aload_n 0, 1) := by decide +kernel
theorem dX11_scans_25 : decode cX11_scans 25 = .ok (.aload_n 0, 1) := by decide +kernel
theorem dX11_scans_26 : decode cX11_scans 26 = .ok (.getfield 96, 3) := by decide +kernel
theorem dX11_scans_29 : decode cX11_scans 29 = .ok (.putfield 114, 3) := by decide +kernel
theorem dX11_scans_32 : decode cX11_scans 32 = .ok (.aload_n 0, 1) := by decide +kernel
theorem dX11_scans_33 : decode cX11_scans 33 = .ok (.getfield 96, 3) := by decide +kernel
theorem dX11_scans_36 : decode cX11_scans 36 = .ok (.aload_n 0, 1) := by decide +kernel
theorem dX11_scans_37 : decode cX11_scans 37 = .ok (.getfield 92, 3) := by decide +kernel
theorem dX11_scans_40 : decode cX11_scans 40 = .ok (.if_icmp .ne 9, 3) := by decide +kernel
theorem dX11_scans_43 : decode cX11_scans 43 = .ok (.aload_n 0, 1) := by decide +kernel
theorem dX11_scans_44 : decode cX11_scans 44 = .ok (.iconst 0, 1) := by decide +kernel
theorem dX11_scans_45 : decode cX11_scans 45 = .ok (.putfield 117, 3) := by decide +kernel
theorem dX11_scans_48 : decode cX11_scans 48 = .ok (.return_, 1) := by decide +kernel
theorem dX11_scans_49 : decode cX11_scans 49 = .ok (.aload_n 0, 1) := by decide +kernel
theorem dX11_scans_50 : decode cX11_scans 50 = .ok (.bipush 97, 2) := by decide +kernel
theorem dX11_scans_52 : decode cX11_scans 52 = .ok (.bipush 122, 2) := by decide +kernel
theorem dX11_scans_54 : decode cX11_scans 54 = .ok (.invokevirtual 111, 3) := by decide +kernel
theorem dX11_scans_57 : decode cX11_scans 57 = .ok (.ifCond .eq 106, 3) := by decide +kernel
theorem dX11_scans_60 : decode cX11_scans 60 = .ok (.lconst 0, 1) := by decide +kernel
theorem dX11_scans_61 : decode cX11_scans 61 = .ok (.lstore_n 1, 1) := by decide +kernel
theorem dX11_scans_62 : decode cX11_scans 62 = .ok (.aload_n 0, 1) := by decide +kernel
theorem dX11_scans_63 : decode cX11_scans 63 = .ok (.bipush 97, 2) := by decide +kernel
theorem dX11_scans_65 : decode cX11_scans 65 = .ok (.bipush 122, 2) := by decide +kernel
theorem dX11_scans_67 : decode cX11_scans 67 = .ok (.invokevirtual 111, 3) := by decide +kernel
theorem dX11_scans_70 : decode cX11_scans 70 = .ok (.ifCond .eq 56, 3) := by decide +kernel
theorem dX11_scans_73 : decode cX11_scans 73 = .ok (.aload_n 0, 1) := by decide +kernel
theorem dX11_scans_74 : decode cX11_scans 74 = .ok (.getfield 96, 3) := by decide +kernel
theorem dX11_scans_77 : decode cX11_scans 77 = .ok (.aload_n 0, 1) := by decide +kernel
theorem dX11_scans_78 : decode cX11_scans 78 = .ok (.getfield 114, 3) := by decide +kernel
theorem dX11_scans_81 : decode cX11_scans 81 = .ok (.isub, 1) := by decide +kernel
theorem dX11_scans_82 : decode cX11_scans 82 = .ok (.iconst 5, 1) := by decide +kernel
theorem dX11_scans_83 : decode cX11_scans 83 = .ok (.if_icmp .le 7, 3) := by decide +kernel
theorem dX11_scans_86 : decode cX11_scans 86 = .ok (.lconst 0, 1) := by decide +kernel
theorem dX11_scans_87 : decode cX11_scans 87 = .ok (.goto 25, 3) := by decide +kernel
theorem dX11_scans_90 : decode cX11_scans 90 = .ok (.ldc2_w 120, 3) := by decide +kernel
theorem dX11_scans_93 : decode cX11_scans 93 = .ok (.lload_n 1, 1) := by decide +kernel
theorem dX11_scans_94 : decode cX11_scans 94 = .ok (.lmul, 1) := by decide +kernel
theorem dX11_scans_95 : decode cX11_scans 95 = .ok (.aload_n 0, 1) := by decide +kernel
theorem dX11_scans_96 : decode cX11_scans 96 = .ok (.getfield 26, 3) := by decide +kernel
theorem dX11_scans_99 : decode cX11_scans 99 = .ok (.aload_n 0, 1) := by decide +kernel
theorem dX11_scans_100 : decode cX11_scans 100 = .ok (.getfield 96, 3) := by decide +kernel
theorem dX11_scans_103 : decode cX11_scans 103 = .ok (.iaload, 1) := by decide +kernel
theorem dX11_scans_104 : decode cX11_scans 104 = .ok (.i2l, 1) := by decide +kernel
theorem dX11_scans_105 : decode cX11_scans 105 = .ok (.ladd, 1) := by decide +kernel
theorem dX11_scans_106 : decode cX11_scans 106 = .ok (.ldc2_w 122, 3) := by decide +kernel
theorem dX11_scans_109 : decode cX11_scans 109 = .ok (.lsub, 1) := by decide +kernel
theorem dX11_scans_110 : decode cX11_scans 110 = .ok (.lconst 1, 1) := by decide +kernel
theorem dX11_scans_111 : decode cX11_scans 111 = .ok (.ladd, 1) := by decide +kernel
theorem dX11_scans_112 : decode cX11_scans 112 = .ok (.lstore_n 1, 1) := by decide +kernel
theorem dX11_scans_113 : decode cX11_scans 113 = .ok (.aload_n 0, 1) := by decide +kernel
theorem dX11_scans_114 : decode cX11_scans 114 = .ok (.dup, 1) := by decide +kernel
theorem dX11_scans_115 : decode cX11_scans 115 = .ok (.getfield 96, 3) := by decide +kernel
theorem dX11_scans_118 : decode cX11_scans 118 = .ok (.iconst 1, 1) := by decide +kernel
theorem dX11_scans_119 : decode cX11_scans 119 = .ok (.iadd, 1) := by decide +kernel
theorem dX11_scans_120 : decode cX11_scans 120 = .ok (.putfield 96, 3) := by decide +kernel
theorem dX11_scans_123 : decode cX11_scans 123 = .ok (.goto (-61), 3) := by decide +kernel
theorem dX11_scans_126 : decode cX11_scans 126 = .ok (.aload_n 0, 1) := by decide +kernel
theorem dX11_scans_127 : decode cX11_scans 127 = .ok (.aload_n 0, 1) := by decide +kernel
theorem dX11_scans_128 : decode cX11_scans 128 = .ok (.getfield 96, 3) := by decide +kernel
theorem dX11_scans_131 : decode cX11_scans 131 = .ok (.aload_n 0, 1) := by decide +kernel
theorem dX11_scans_132 : decode cX11_scans 132 = .ok (.getfield 114, 3) := by decide +kernel
theorem dX11_scans_135 : decode cX11_scans 135 = .ok (.isub, 1) := by decide +kernel
theorem dX11_scans_136 : decode cX11_scans 136 = .ok (.bipush 6, 2) := by decide +kernel
theorem dX11_scans_138 : decode cX11_scans 138 = .ok (.if_icmp .gt 11, 3) := by decide +kernel
theorem dX11_scans_141 : decode cX11_scans 141 = .ok (.lload_n 1, 1) := by decide +kernel
theorem dX11_scans_142 : decode cX11_scans 142 = .ok (.invokestatic 124, 3) := by decide +kernel
theorem dX11_scans_145 : decode cX11_scans 145 = .ok (.iconst (-1), 1) := by decide +kernel
theorem dX11_scans_146 : decode cX11_scans 146 = .ok (.if_icmp .ne 7, 3) := by decide +kernel
theorem dX11_scans_149 : decode cX11_scans 149 = .ok (.iconst 1, 1) := by decide +kernel
theorem dX11_scans_150 : decode cX11_scans 150 = .ok (.goto 9, 3) := by decide +kernel
theorem dX11_scans_153 : decode cX11_scans 153 = .ok (.iconst 4, 1) := by decide +kernel
theorem dX11_scans_154 : decode cX11_scans 154 = .ok (.lload_n 1, 1) := by decide +kernel
theorem dX11_scans_155 : decode cX11_scans 155 = .ok (.invokestatic 124, 3) := by decide +kernel
theorem dX11_scans_158 : decode cX11_scans 158 = .ok (.iadd, 1) := by decide +kernel
theorem dX11_scans_159 : decode cX11_scans 159 = .ok (.putfield 117, 3) := by decide +kernel
theorem dX11_scans_162 : decode cX11_scans 162 = .ok (.return_, 1) := by decide +kernel
theorem dX11_scans_163 : decode cX11_scans 163 = .ok (.aload_n 0, 1) := by decide +kernel
theorem dX11_scans_164 : decode cX11_scans 164 = .ok (.bipush 48, 2) := by decide +kernel
theorem dX11_scans_166 : decode cX11_scans 166 = .ok (.bipush 57, 2) := by decide +kernel
theorem dX11_scans_168 : decode cX11_scans 168 = .ok (.invokevirtual 111, 3) := by decide +kernel
theorem dX11_scans_171 : decode cX11_scans 171 = .ok (.ifCond .eq 99, 3) := by decide +kernel
theorem dX11_scans_174 : decode cX11_scans 174 = .ok (.aload_n 0, 1) := by decide +kernel
theorem dX11_scans_175 : decode cX11_scans 175 = .ok (.iconst 0, 1) := by decide +kernel
theorem dX11_scans_176 : decode cX11_scans 176 = .ok (.putfield 128, 3) := by decide +kernel
theorem dX11_scans_179 : decode cX11_scans 179 = .ok (.aload_n 0, 1) := by decide +kernel
theorem dX11_scans_180 : decode cX11_scans 180 = .ok (.bipush 48, 2) := by decide +kernel
theorem dX11_scans_182 : decode cX11_scans 182 = .ok (.bipush 57, 2) := by decide +kernel
theorem dX11_scans_184 : decode cX11_scans 184 = .ok (.invokevirtual 111, 3) := by decide +kernel
theorem dX11_scans_187 : decode cX11_scans 187 = .ok (.ifCond .eq 60, 3) := by decide +kernel
theorem dX11_scans_190 : decode cX11_scans 190 = .ok (.aload_n 0, 1) := by decide +kernel
theorem dX11_scans_191 : decode cX11_scans 191 = .ok (.aload_n 0, 1) := by decide +kernel
theorem dX11_scans_192 : decode cX11_scans 192 = .ok (.getfield 96, 3) := by decide +kernel
theorem dX11_scans_195 : decode cX11_scans 195 = .ok (.aload_n 0, 1) := by decide +kernel
theorem dX11_scans_196 : decode cX11_scans 196 = .ok (.getfield 114, 3) := by decide +kernel
theorem dX11_scans_199 : decode cX11_scans 199 = .ok (.isub, 1) := by decide +kernel
theorem dX11_scans_200 : decode cX11_scans 200 = .ok (.iconst 2, 1) := by decide +kernel
theorem dX11_scans_201 : decode cX11_scans 201 = .ok (.if_icmp .ge 26, 3) := by decide +kernel
theorem dX11_scans_204 : decode cX11_scans 204 = .ok (.bipush 10, 2) := by decide +kernel
theorem dX11_scans_206 : decode cX11_scans 206 = .ok (.aload_n 0, 1) := by decide +kernel
theorem dX11_scans_207 : decode cX11_scans 207 = .ok (.getfield 128, 3) := by decide +kernel
theorem dX11_scans_210 : decode cX11_scans 210 = .ok (.imul, 1) := by decide +kernel
theorem dX11_scans_211 : decode cX11_scans 211 = .ok (.aload_n 0, 1) := by decide +kernel
theorem dX11_scans_212 : decode cX11_scans 212 = .ok (.getfield 26, 3) := by decide +kernel
theorem dX11_scans_215 : decode cX11_scans 215 = .ok (.aload_n 0, 1) := by decide +kernel
theorem dX11_scans_216 : decode cX11_scans 216 = .ok (.getfield 96, 3) := by decide +kernel
theorem dX11_scans_219 : decode cX11_scans 219 = .ok (.iaload, 1) := by decide +kernel
theorem dX11_scans_220 : decode cX11_scans 220 = .ok (.iadd, 1) := by decide +kernel
theorem dX11_scans_221 : decode cX11_scans 221 = .ok (.bipush 48, 2) := by decide +kernel
theorem dX11_scans_223 : decode cX11_scans 223 = .ok (.isub, 1) := by decide +kernel
theorem dX11_scans_224 : decode cX11_scans 224 = .ok (.goto 7, 3) := by decide +kernel
theorem dX11_scans_227 : decode cX11_scans 227 = .ok (.aload_n 0, 1) := by decide +kernel
theorem dX11_scans_228 : decode cX11_scans 228 = .ok (.getfield 128, 3) := by decide +kernel
theorem dX11_scans_231 : decode cX11_scans 231 = .ok (.putfield 128, 3) := by decide +kernel
theorem dX11_scans_234 : decode cX11_scans 234 = .ok (.aload_n 0, 1) := by decide +kernel
theorem dX11_scans_235 : decode cX11_scans 235 = .ok (.dup, 1) := by decide +kernel
theorem dX11_scans_236 : decode cX11_scans 236 = .ok (.getfield 96, 3) := by decide +kernel
theorem dX11_scans_239 : decode cX11_scans 239 = .ok (.iconst 1, 1) := by decide +kernel
theorem dX11_scans_240 : decode cX11_scans 240 = .ok (.iadd, 1) := by decide +kernel
theorem dX11_scans_241 : decode cX11_scans 241 = .ok (.putfield 96, 3) := by decide +kernel
theorem dX11_scans_244 : decode cX11_scans 244 = .ok (.goto (-65), 3) := by decide +kernel
theorem dX11_scans_247 : decode cX11_scans 247 = .ok (.aload_n 0, 1) := by decide +kernel
theorem dX11_scans_248 : decode cX11_scans 248 = .ok (.aload_n 0, 1) := by decide +kernel
theorem dX11_scans_249 : decode cX11_scans 249 = .ok (.getfield 96, 3) := by decide +kernel
theorem dX11_scans_252 : decode cX11_scans 252 = .ok (.aload_n 0, 1) := by decide +kernel
theorem dX11_scans_253 : decode cX11_scans 253 = .ok (.getfield 114, 3) := by decide +kernel
theorem dX11_scans_256 : decode cX11_scans 256 = .ok (.isub, 1) := by decide +kernel
theorem dX11_scans_257 : decode cX11_scans 257 = .ok (.iconst 2, 1) := by decide +kernel
theorem dX11_scans_258 : decode cX11_scans 258 = .ok (.if_icmp .le 7, 3) := by decide +kernel
theorem dX11_scans_261 : decode cX11_scans 261 = .ok (.iconst 1, 1) := by decide +kernel
theorem dX11_scans_262 : decode cX11_scans 262 = .ok (.goto 4, 3) := by decide +kernel
theorem dX11_scans_265 : decode cX11_scans 265 = .ok (.iconst 2, 1) := by decide +kernel
theorem dX11_scans_266 : decode cX11_scans 266 = .ok (.putfield 117, 3) := by decide +kernel
theorem dX11_scans_269 : decode cX11_scans 269 = .ok (.return_, 1) := by decide +kernel
theorem dX11_scans_270 : decode cX11_scans 270 = .ok (.aload_n 0, 1) := by decide +kernel
theorem dX11_scans_271 : decode cX11_scans 271 = .ok (.aload_n 0, 1) := by decide +kernel
theorem dX11_scans_272 : decode cX11_scans 272 = .ok (.bipush 59, 2) := by decide +kernel
theorem dX11_scans_274 : decode cX11_scans 274 = .ok (.bipush 59, 2) := by decide +kernel
theorem dX11_scans_276 : decode cX11_scans 276 = .ok (.invokevirtual 111, 3) := by decide +kernel
theorem dX11_scans_279 : decode cX11_scans 279 = .ok (.ifCond .eq 7, 3) := by decide +kernel
theorem dX11_scans_282 : decode cX11_scans 282 = .ok (.iconst 3, 1) := by decide +kernel
theorem dX11_scans_283 : decode cX11_scans 283 = .ok (.goto 4, 3) := by decide +kernel
theorem dX11_scans_286 : decode cX11_scans 286 = .ok (.iconst 1, 1) := by decide +kernel
theorem dX11_scans_287 : decode cX11_scans 287 = .ok (.putfield 117, 3) := by decide +kernel
theorem dX11_scans_290 : decode cX11_scans 290 = .ok (.aload_n 0, 1) := by decide +kernel
theorem dX11_scans_291 : decode cX11_scans 291 = .ok (.dup, 1) := by decide +kernel
theorem dX11_scans_292 : decode cX11_scans 292 = .ok (.getfield 96, 3) := by decide +kernel
theorem dX11_scans_295 : decode cX11_scans 295 = .ok (.iconst 1, 1) := by decide +kernel
theorem dX11_scans_296 : decode cX11_scans 296 = .ok (.iadd, 1) := by decide +kernel
theorem dX11_scans_297 : decode cX11_scans 297 = .ok (.putfield 96, 3) := by decide +kernel
theorem dX11_scans_300 : decode cX11_scans 300 = .ok (.return_, 1) := by decide +kernel
noncomputable def f_X11_scans  (μ : Mem) : Option Mem :=
  bd (lp (ε := Mem) (fun (ν1 : Mem) =>
    bd (f_X11_isAt 32 32 ν1) fun r4 =>
    if r4 = 0 then
      some (.inr ν1)
    else
      lt (setI ν1 112 10 ((ν1.1 112 10) + 1)) fun ν5 =>
      some (.inl ν5)
    ) μ) (fun (ν2 : Mem) =>
    lt (setI ν2 112 11 (ν2.1 112 10)) fun ν6 =>
    if (ν6.1 112 10) = (ν6.1 112 9) then
      lt (setI ν6 112 12 0) fun ν41 =>
      some ν41
    else
      bd (f_X11_isAt 97 122 ν6) fun r7 =>
      if r7 = 0 then
        bd (f_X11_isAt 48 57 ν6) fun r8 =>
        if r8 = 0 then
          bd (f_X11_isAt 59 59 ν6) fun r9 =>
          jn (fun (y10 : Int32) =>
            lt (setI ν6 112 12 y10) fun ν12 =>
            lt (setI ν12 112 10 ((ν12.1 112 10) + 1)) fun ν13 =>
            some ν13
            ) fun j11 =>
          if r9 = 0 then
            j11 1
          else
            j11 3
        else
          lt (setI ν6 112 13 0) fun ν14 =>
          bd (lp (ε := Mem) (fun (ν15 : Mem) =>
            bd (f_X11_isAt 48 57 ν15) fun r18 =>
            if r18 = 0 then
              some (.inr ν15)
            else
              jn (fun (y19 : Int32) =>
                lt (setI ν15 112 13 y19) fun ν21 =>
                lt (setI ν21 112 10 ((ν21.1 112 10) + 1)) fun ν22 =>
                some (.inl ν22)
                ) fun j20 =>
              if ((ν15.1 112 10) - (ν15.1 112 11)) < 2 then
                chk (ν15.1 112 10) 150 (
                  j20 (((10 * (ν15.1 112 13)) + (ν15.1 118 (ix (ν15.1 112 10)))) - 48)
                  )
              else
                j20 (ν15.1 112 13)
            ) ν14) (fun (ν16 : Mem) =>
            jn (fun (y23 : Int32) =>
              lt (setI ν16 112 12 y23) fun ν25 =>
              some ν25
              ) fun j24 =>
            if 2 < ((ν16.1 112 10) - (ν16.1 112 11)) then
              j24 1
            else
              j24 2
            )
      else
        bd (lp (ε := Int64 × Mem) (cu2 fun (x1_26 : Int64) (ν27 : Mem) =>
          bd (f_X11_isAt 97 122 ν27) fun r31 =>
          if r31 = 0 then
            some (.inr (x1_26, ν27))
          else
            jn (fun (y32 : Int64) =>
              lt (setI ν27 112 10 ((ν27.1 112 10) + 1)) fun ν34 =>
              some (.inl (y32, ν34))
              ) fun j33 =>
            if 5 < ((ν27.1 112 10) - (ν27.1 112 11)) then
              j33 0
            else
              chk (ν27.1 112 10) 150 (
                j33 ((((32 * x1_26) + ((ν27.1 118 (ix (ν27.1 112 10))) : Int32).toInt64) - 97) + 1)
                )
          ) (0, ν6)) (cu2 fun (x1_28 : Int64) (ν29 : Mem) =>
          jn (fun (y35 : Int32) =>
            lt (setI ν29 112 12 y35) fun ν37 =>
            some ν37
            ) fun j36 =>
          jn (
            j36 1
            ) fun j38 =>
          if 6 < ((ν29.1 112 10) - (ν29.1 112 11)) then
            j38
          else
            bd (f_X11_verbOf x1_28) fun r39 =>
            if r39 = (-1) then
              j38
            else
              bd (f_X11_verbOf x1_28) fun r40 =>
              j36 (4 + r40)
          )
    )
set_option maxHeartbeats 4000000 in
set_option maxRecDepth 100000 in
theorem c_X11_scans {g : GT}  {μ : Mem} {μ0 : Mem} (hf : f_X11_scans  μ = some μ0) : CV g yX11_scans cX11_scans 3 (none) 3 [rf g 112] μ μ0 := by
  refine mk_v (by decide) (Nat.le_of_ble_eq_true rfl) ?_
  intro G hX hR
  have hX : CX g G cX11_scans RX11 3 3 := hX
  suffices S : ∀ K : Mem → Prop, (∀ a, K a → a = μ0) → Sim G (f_X11_scans  μ) K 0 [(0, rf g 112)] [] μ from S (fun a => a = μ0) (fun a h => h) _ hf rfl
  intro K hK
  unfold f_X11_scans
  refine s_loop hX 0 24 (fun s : Mem => [(0, rf g 112)]) (fun s : Mem => s) (fun s : Mem => [(0, rf g 112)]) (fun s : Mem => s) [0] rfl rfl rfl ?_ ?_
  · intro Kq3 hIq3 hJq3 sq
    obtain ⟨ν1, rfl⟩ : ∃ z, z = sq := ⟨_, rfl⟩
    show Sim G _ _ 0 [(0, rf g 112)] [] ν1
    refine s_aload_n hX dX11_scans_0 rfl 0 rfl ?_
    refine s_bipush (v := 32) hX dX11_scans_1 (by decide) ?_
    refine s_bipush (v := 32) hX dX11_scans_3 (by decide) ?_
    refine s_callVir hX [.int 32, .int 32] (k := 112) (ci := 10) rfl hc10 vkX11_isAt (fun r hF => c_X11_isAt  hF) mkX11_isAt cvX11_111 rfl rfl ⟨by omega, by decide, Nat.le_of_ble_eq_true rfl⟩ dX11_scans_5 (fun r4 => ?_)
    refine s_if_eq hX 24 dX11_scans_8 (by decide) ?_ ?_
    · exact s_end hX (hJq3 ν1) [0] rfl
    · refine s_aload_n hX dX11_scans_11 rfl 0 rfl ?_
      refine s_dup hX dX11_scans_12 rfl ?_
      refine s_getI hX flX11_96 rfl dX11_scans_13 ?_
      refine s_iconst (v := 1) hX dX11_scans_16 (by decide) ?_
      refine s_iadd hX dX11_scans_17 ?_
      refine s_putI hX flX11_96 rfl ⟨rfl, rfl⟩ dX11_scans_18 (fun ν5 => ?_)
      refine s_goto hX 0 dX11_scans_21 (by decide) ?_
      exact s_end hX (hIq3 ν5) [0] rfl
  · intro sq
    obtain ⟨ν2, rfl⟩ : ∃ z, z = sq := ⟨_, rfl⟩
    show Sim G _ _ 24 [(0, rf g 112)] [] ν2
    refine s_aload_n hX dX11_scans_24 rfl 0 rfl ?_
    refine s_aload_n hX dX11_scans_25 rfl 0 rfl ?_
    refine s_getI hX flX11_96 rfl dX11_scans_26 ?_
    refine s_putI hX flX11_114 rfl ⟨rfl, rfl⟩ dX11_scans_29 (fun ν6 => ?_)
    refine s_aload_n hX dX11_scans_32 rfl 0 rfl ?_
    refine s_getI hX flX11_96 rfl dX11_scans_33 ?_
    refine s_aload_n hX dX11_scans_36 rfl 0 rfl ?_
    refine s_getI hX flX11_92 rfl dX11_scans_37 ?_
    refine s_icmp_ne hX 49 dX11_scans_40 (by decide) ?_ ?_
    · refine s_aload_n hX dX11_scans_49 rfl 0 rfl ?_
      refine s_bipush (v := 97) hX dX11_scans_50 (by decide) ?_
      refine s_bipush (v := 122) hX dX11_scans_52 (by decide) ?_
      refine s_callVir hX [.int 97, .int 122] (k := 112) (ci := 10) rfl hc10 vkX11_isAt (fun r hF => c_X11_isAt  hF) mkX11_isAt cvX11_111 rfl rfl ⟨by omega, by decide, Nat.le_of_ble_eq_true rfl⟩ dX11_scans_54 (fun r7 => ?_)
      refine s_if_eq hX 163 dX11_scans_57 (by decide) ?_ ?_
      · refine s_aload_n hX dX11_scans_163 rfl 0 rfl ?_
        refine s_bipush (v := 48) hX dX11_scans_164 (by decide) ?_
        refine s_bipush (v := 57) hX dX11_scans_166 (by decide) ?_
        refine s_callVir hX [.int 48, .int 57] (k := 112) (ci := 10) rfl hc10 vkX11_isAt (fun r hF => c_X11_isAt  hF) mkX11_isAt cvX11_111 rfl rfl ⟨by omega, by decide, Nat.le_of_ble_eq_true rfl⟩ dX11_scans_168 (fun r8 => ?_)
        refine s_if_eq hX 270 dX11_scans_171 (by decide) ?_ ?_
        · refine s_aload_n hX dX11_scans_270 rfl 0 rfl ?_
          refine s_aload_n hX dX11_scans_271 rfl 0 rfl ?_
          refine s_bipush (v := 59) hX dX11_scans_272 (by decide) ?_
          refine s_bipush (v := 59) hX dX11_scans_274 (by decide) ?_
          refine s_callVir hX [.int 59, .int 59] (k := 112) (ci := 10) rfl hc10 vkX11_isAt (fun r hF => c_X11_isAt  hF) mkX11_isAt cvX11_111 rfl rfl ⟨by omega, by decide, Nat.le_of_ble_eq_true rfl⟩ dX11_scans_276 (fun r9 => ?_)
          refine s_jn (C := fun j => ∀ (y10 : Int32), Sim G (j y10) K 287 [(0, rf g 112)] [.int y10, rf g 112] ν6) ?_ (fun j11 hj11 => ?_)
          · intro y10
            show Sim G _ _ 287 [(0, rf g 112)] [.int y10, rf g 112] ν6
            refine s_putI hX flX11_117 rfl ⟨rfl, rfl⟩ dX11_scans_287 (fun ν12 => ?_)
            refine s_aload_n hX dX11_scans_290 rfl 0 rfl ?_
            refine s_dup hX dX11_scans_291 rfl ?_
            refine s_getI hX flX11_96 rfl dX11_scans_292 ?_
            refine s_iconst (v := 1) hX dX11_scans_295 (by decide) ?_
            refine s_iadd hX dX11_scans_296 ?_
            refine s_putI hX flX11_96 rfl ⟨rfl, rfl⟩ dX11_scans_297 (fun ν13 => ?_)
            exact s_vreti hK hR dX11_scans_300
          refine s_if_eq hX 286 dX11_scans_279 (by decide) ?_ ?_
          · refine s_iconst (v := 1) hX dX11_scans_286 (by decide) ?_
            exact s_to hX [0] rfl (hj11 1)
          · refine s_iconst (v := 3) hX dX11_scans_282 (by decide) ?_
            refine s_goto hX 287 dX11_scans_283 (by decide) ?_
            exact s_to hX [0] rfl (hj11 3)
        · refine s_aload_n hX dX11_scans_174 rfl 0 rfl ?_
          refine s_iconst (v := 0) hX dX11_scans_175 (by decide) ?_
          refine s_putI hX flX11_128 rfl ⟨rfl, rfl⟩ dX11_scans_176 (fun ν14 => ?_)
          refine s_loop hX 179 247 (fun s : Mem => [(0, rf g 112)]) (fun s : Mem => s) (fun s : Mem => [(0, rf g 112)]) (fun s : Mem => s) [0] rfl rfl rfl ?_ ?_
          · intro Kq17 hIq17 hJq17 sq
            obtain ⟨ν15, rfl⟩ : ∃ z, z = sq := ⟨_, rfl⟩
            show Sim G _ _ 179 [(0, rf g 112)] [] ν15
            refine s_aload_n hX dX11_scans_179 rfl 0 rfl ?_
            refine s_bipush (v := 48) hX dX11_scans_180 (by decide) ?_
            refine s_bipush (v := 57) hX dX11_scans_182 (by decide) ?_
            refine s_callVir hX [.int 48, .int 57] (k := 112) (ci := 10) rfl hc10 vkX11_isAt (fun r hF => c_X11_isAt  hF) mkX11_isAt cvX11_111 rfl rfl ⟨by omega, by decide, Nat.le_of_ble_eq_true rfl⟩ dX11_scans_184 (fun r18 => ?_)
            refine s_if_eq hX 247 dX11_scans_187 (by decide) ?_ ?_
            · exact s_end hX (hJq17 ν15) [0] rfl
            · refine s_aload_n hX dX11_scans_190 rfl 0 rfl ?_
              refine s_aload_n hX dX11_scans_191 rfl 0 rfl ?_
              refine s_getI hX flX11_96 rfl dX11_scans_192 ?_
              refine s_aload_n hX dX11_scans_195 rfl 0 rfl ?_
              refine s_getI hX flX11_114 rfl dX11_scans_196 ?_
              refine s_isub hX dX11_scans_199 ?_
              refine s_iconst (v := 2) hX dX11_scans_200 (by decide) ?_
              refine s_jn (C := fun j => ∀ (y19 : Int32), Sim G (j y19) Kq17 231 [(0, rf g 112)] [.int y19, rf g 112] ν15) ?_ (fun j20 hj20 => ?_)
              · intro y19
                show Sim G _ _ 231 [(0, rf g 112)] [.int y19, rf g 112] ν15
                refine s_putI hX flX11_128 rfl ⟨rfl, rfl⟩ dX11_scans_231 (fun ν21 => ?_)
                refine s_aload_n hX dX11_scans_234 rfl 0 rfl ?_
                refine s_dup hX dX11_scans_235 rfl ?_
                refine s_getI hX flX11_96 rfl dX11_scans_236 ?_
                refine s_iconst (v := 1) hX dX11_scans_239 (by decide) ?_
                refine s_iadd hX dX11_scans_240 ?_
                refine s_putI hX flX11_96 rfl ⟨rfl, rfl⟩ dX11_scans_241 (fun ν22 => ?_)
                refine s_goto hX 179 dX11_scans_244 (by decide) ?_
                exact s_end hX (hIq17 ν22) [0] rfl
              refine s_icmp_ge hX 227 dX11_scans_201 (by decide) ?_ ?_
              · refine s_aload_n hX dX11_scans_227 rfl 0 rfl ?_
                refine s_getI hX flX11_128 rfl dX11_scans_228 ?_
                exact s_to hX [0] rfl (hj20 (ν15.1 112 13))
              · refine s_bipush (v := 10) hX dX11_scans_204 (by decide) ?_
                refine s_aload_n hX dX11_scans_206 rfl 0 rfl ?_
                refine s_getI hX flX11_128 rfl dX11_scans_207 ?_
                refine s_imul hX dX11_scans_210 ?_
                refine s_aload_n hX dX11_scans_211 rfl 0 rfl ?_
                refine s_getR hX (d := 6) 118 flX11_26 rfl rfl dX11_scans_212 ?_
                refine s_aload_n hX dX11_scans_215 rfl 0 rfl ?_
                refine s_getI hX flX11_96 rfl dX11_scans_216 ?_
                refine s_iald hX rfl rfl dX11_scans_219 ?_
                refine s_iadd hX dX11_scans_220 ?_
                refine s_bipush (v := 48) hX dX11_scans_221 (by decide) ?_
                refine s_isub hX dX11_scans_223 ?_
                refine s_goto hX 231 dX11_scans_224 (by decide) ?_
                exact s_to hX [0] rfl (hj20 (((10 * (ν15.1 112 13)) + (ν15.1 118 (ix (ν15.1 112 10)))) - 48))
          · intro sq
            obtain ⟨ν16, rfl⟩ : ∃ z, z = sq := ⟨_, rfl⟩
            show Sim G _ _ 247 [(0, rf g 112)] [] ν16
            refine s_aload_n hX dX11_scans_247 rfl 0 rfl ?_
            refine s_aload_n hX dX11_scans_248 rfl 0 rfl ?_
            refine s_getI hX flX11_96 rfl dX11_scans_249 ?_
            refine s_aload_n hX dX11_scans_252 rfl 0 rfl ?_
            refine s_getI hX flX11_114 rfl dX11_scans_253 ?_
            refine s_isub hX dX11_scans_256 ?_
            refine s_iconst (v := 2) hX dX11_scans_257 (by decide) ?_
            refine s_jn (C := fun j => ∀ (y23 : Int32), Sim G (j y23) K 266 [] [.int y23, rf g 112] ν16) ?_ (fun j24 hj24 => ?_)
            · intro y23
              show Sim G _ _ 266 [] [.int y23, rf g 112] ν16
              refine s_putI hX flX11_117 rfl ⟨rfl, rfl⟩ dX11_scans_266 (fun ν25 => ?_)
              exact s_vreti hK hR dX11_scans_269
            refine s_icmp_le hX 265 dX11_scans_258 (by decide) ?_ ?_
            · refine s_iconst (v := 2) hX dX11_scans_265 (by decide) ?_
              exact s_to hX [] rfl (hj24 2)
            · refine s_iconst (v := 1) hX dX11_scans_261 (by decide) ?_
              refine s_goto hX 266 dX11_scans_262 (by decide) ?_
              exact s_to hX [] rfl (hj24 1)
      · refine s_lconst (v := 0) hX dX11_scans_60 (by decide) ?_
        refine s_lstore_n (lv' := [(1, .long 0), (0, rf g 112)]) hX dX11_scans_61 rfl (by decide) rfl ?_
        refine s_loop hX 62 126 (fun s : Int64 × Mem => [(0, rf g 112), (1, .long s.1)]) (fun s : Int64 × Mem => s.2) (fun s : Int64 × Mem => [(0, rf g 112), (1, .long s.1)]) (fun s : Int64 × Mem => s.2) [1, 0] rfl rfl rfl ?_ ?_
        · intro Kq30 hIq30 hJq30 sq
          obtain ⟨x1_26, ν27⟩ := sq
          refine s_cu2 ?_
          show Sim G _ _ 62 [(0, rf g 112), (1, .long x1_26)] [] ν27
          refine s_aload_n hX dX11_scans_62 rfl 0 rfl ?_
          refine s_bipush (v := 97) hX dX11_scans_63 (by decide) ?_
          refine s_bipush (v := 122) hX dX11_scans_65 (by decide) ?_
          refine s_callVir hX [.int 97, .int 122] (k := 112) (ci := 10) rfl hc10 vkX11_isAt (fun r hF => c_X11_isAt  hF) mkX11_isAt cvX11_111 rfl rfl ⟨by omega, by decide, Nat.le_of_ble_eq_true rfl⟩ dX11_scans_67 (fun r31 => ?_)
          refine s_if_eq hX 126 dX11_scans_70 (by decide) ?_ ?_
          · exact s_end hX (hJq30 (x1_26, ν27)) [0, 1] rfl
          · refine s_aload_n hX dX11_scans_73 rfl 0 rfl ?_
            refine s_getI hX flX11_96 rfl dX11_scans_74 ?_
            refine s_aload_n hX dX11_scans_77 rfl 0 rfl ?_
            refine s_getI hX flX11_114 rfl dX11_scans_78 ?_
            refine s_isub hX dX11_scans_81 ?_
            refine s_iconst (v := 5) hX dX11_scans_82 (by decide) ?_
            refine s_jn (C := fun j => ∀ (y32 : Int64), Sim G (j y32) Kq30 112 [(0, rf g 112)] [.long y32] ν27) ?_ (fun j33 hj33 => ?_)
            · intro y32
              show Sim G _ _ 112 [(0, rf g 112)] [.long y32] ν27
              refine s_lstore_n (lv' := [(1, .long y32), (0, rf g 112)]) hX dX11_scans_112 rfl (by decide) rfl ?_
              refine s_aload_n hX dX11_scans_113 rfl 1 rfl ?_
              refine s_dup hX dX11_scans_114 rfl ?_
              refine s_getI hX flX11_96 rfl dX11_scans_115 ?_
              refine s_iconst (v := 1) hX dX11_scans_118 (by decide) ?_
              refine s_iadd hX dX11_scans_119 ?_
              refine s_putI hX flX11_96 rfl ⟨rfl, rfl⟩ dX11_scans_120 (fun ν34 => ?_)
              refine s_goto hX 62 dX11_scans_123 (by decide) ?_
              exact s_end hX (hIq30 (y32, ν34)) [1, 0] rfl
            refine s_icmp_le hX 90 dX11_scans_83 (by decide) ?_ ?_
            · refine s_ldc2 hX dX11_scans_90 klX11_120 ?_
              refine s_lload_n hX dX11_scans_93 rfl 1 rfl ?_
              refine s_lmul hX dX11_scans_94 ?_
              refine s_aload_n hX dX11_scans_95 rfl 0 rfl ?_
              refine s_getR hX (d := 6) 118 flX11_26 rfl rfl dX11_scans_96 ?_
              refine s_aload_n hX dX11_scans_99 rfl 0 rfl ?_
              refine s_getI hX flX11_96 rfl dX11_scans_100 ?_
              refine s_iald hX rfl rfl dX11_scans_103 ?_
              refine s_i2l hX dX11_scans_104 ?_
              refine s_ladd hX dX11_scans_105 ?_
              refine s_ldc2 hX dX11_scans_106 klX11_122 ?_
              refine s_lsub hX dX11_scans_109 ?_
              refine s_lconst (v := 1) hX dX11_scans_110 (by decide) ?_
              refine s_ladd hX dX11_scans_111 ?_
              exact s_to hX [0] rfl (hj33 ((((32 * x1_26) + ((ν27.1 118 (ix (ν27.1 112 10))) : Int32).toInt64) - 97) + 1))
            · refine s_lconst (v := 0) hX dX11_scans_86 (by decide) ?_
              refine s_goto hX 112 dX11_scans_87 (by decide) ?_
              exact s_to hX [0] rfl (hj33 0)
        · intro sq
          obtain ⟨x1_28, ν29⟩ := sq
          refine s_cu2 ?_
          show Sim G _ _ 126 [(0, rf g 112), (1, .long x1_28)] [] ν29
          refine s_aload_n hX dX11_scans_126 rfl 0 rfl ?_
          refine s_aload_n hX dX11_scans_127 rfl 0 rfl ?_
          refine s_getI hX flX11_96 rfl dX11_scans_128 ?_
          refine s_aload_n hX dX11_scans_131 rfl 0 rfl ?_
          refine s_getI hX flX11_114 rfl dX11_scans_132 ?_
          refine s_isub hX dX11_scans_135 ?_
          refine s_bipush (v := 6) hX dX11_scans_136 (by decide) ?_
          refine s_jn (C := fun j => ∀ (y35 : Int32), Sim G (j y35) K 159 [] [.int y35, rf g 112] ν29) ?_ (fun j36 hj36 => ?_)
          · intro y35
            show Sim G _ _ 159 [] [.int y35, rf g 112] ν29
            refine s_putI hX flX11_117 rfl ⟨rfl, rfl⟩ dX11_scans_159 (fun ν37 => ?_)
            exact s_vreti hK hR dX11_scans_162
          refine s_jn (C := fun j => Sim G (j) K 149 [] [rf g 112] ν29) ?_ (fun j38 hj38 => ?_)
          · skip
            show Sim G _ _ 149 [] [rf g 112] ν29
            refine s_iconst (v := 1) hX dX11_scans_149 (by decide) ?_
            refine s_goto hX 159 dX11_scans_150 (by decide) ?_
            exact s_to hX [] rfl (hj36 1)
          refine s_icmp_gt hX 149 dX11_scans_138 (by decide) ?_ ?_
          · exact s_to hX [] rfl (hj38)
          · refine s_lload_n hX dX11_scans_141 rfl 1 rfl ?_
            refine s_callSir hX [.long x1_28] skX11_verbOf (fun r hF => c_X11_verbOf  hF) mkX11_verbOf cvX11_124 rfl rfl ⟨by omega, by decide, Nat.le_of_ble_eq_true rfl⟩ dX11_scans_142 (fun r39 => ?_)
            refine s_iconst (v := (-1)) hX dX11_scans_145 (by decide) ?_
            refine s_icmp_ne hX 153 dX11_scans_146 (by decide) ?_ ?_
            · refine s_iconst (v := 4) hX dX11_scans_153 (by decide) ?_
              refine s_lload_n hX dX11_scans_154 rfl 1 rfl ?_
              refine s_callSir hX [.long x1_28] skX11_verbOf (fun r hF => c_X11_verbOf  hF) mkX11_verbOf cvX11_124 rfl rfl ⟨by omega, by decide, Nat.le_of_ble_eq_true rfl⟩ dX11_scans_155 (fun r40 => ?_)
              refine s_iadd hX dX11_scans_158 ?_
              exact s_to hX [] rfl (hj36 (4 + r40))
            · exact s_to hX [] rfl (hj38)
    · refine s_aload_n hX dX11_scans_43 rfl 0 rfl ?_
      refine s_iconst (v := 0) hX dX11_scans_44 (by decide) ?_
      refine s_putI hX flX11_117 rfl ⟨rfl, rfl⟩ dX11_scans_45 (fun ν41 => ?_)
      exact s_vreti hK hR dX11_scans_48
theorem dX11_told_0 : decode cX11_told 0 = .ok (.iload_n 1, 1) := by decide +kernel
theorem dX11_told_1 : decode cX11_told 1 = .ok (.i2l, 1) := by decide +kernel
theorem dX11_told_2 : decode cX11_told 2 = .ok (.lconst 0, 1) := by decide +kernel
theorem dX11_told_3 : decode cX11_told 3 = .ok (.ldc2_w 214, 3) := by decide +kernel
theorem dX11_told_6 : decode cX11_told 6 = .ok (.invokestatic 51, 3) := by decide +kernel
theorem dX11_told_9 : decode cX11_told 9 = .ok (.ifCond .eq 27, 3) := by decide +kernel
theorem dX11_told_12 : decode cX11_told 12 = .ok (.iload_n 2, 1) := by decide +kernel
theorem dX11_told_13 : decode cX11_told 13 = .ok (.i2l, 1) := by decide +kernel
theorem dX11_told_14 : decode cX11_told 14 = .ok (.lconst 0, 1) := by decide +kernel
theorem dX11_told_15 : decode cX11_told 15 = .ok (.ldc2_w 265, 3) := by decide +kernel
theorem dX11_told_18 : decode cX11_told 18 = .ok (.invokestatic 51, 3) := by decide +kernel
theorem dX11_told_21 : decode cX11_told 21 = .ok (.ifCond .eq 15, 3) := by decide +kernel
theorem dX11_told_24 : decode cX11_told 24 = .ok (.aload_n 0, 1) := by decide +kernel
theorem dX11_told_25 : decode cX11_told 25 = .ok (.bipush 71, 2) := by decide +kernel
theorem dX11_told_27 : decode cX11_told 27 = .ok (.iload_n 1, 1) := by decide +kernel
theorem dX11_told_28 : decode cX11_told 28 = .ok (.iadd, 1) := by decide +kernel
theorem dX11_told_29 : decode cX11_told 29 = .ok (.iload_n 2, 1) := by decide +kernel
theorem dX11_told_30 : decode cX11_told 30 = .ok (.invokevirtual 73, 3) := by decide +kernel
theorem dX11_told_33 : decode cX11_told 33 = .ok (.goto 7, 3) := by decide +kernel
theorem dX11_told_36 : decode cX11_told 36 = .ok (.aload_n 0, 1) := by decide +kernel
theorem dX11_told_37 : decode cX11_told 37 = .ok (.invokevirtual 61, 3) := by decide +kernel
theorem dX11_told_40 : decode cX11_told 40 = .ok (.ireturn, 1) := by decide +kernel
noncomputable def f_X11_told (x1 : Int32) (x2 : Int32) (μ : Mem) : Option (Int32 × Mem) :=
  bd (f_X11_in ((x1 : Int32).toInt64) 0 2) fun r1 =>
  jn (fun (y2 : Int32) (ν3 : Mem) =>
    some (y2, ν3)
    ) fun j4 =>
  jn (
    bd2 (f_X11_bad  μ) fun r6 ν7 =>
    j4 r6 ν7
    ) fun j5 =>
  if r1 = 0 then
    j5
  else
    bd (f_X11_in ((x2 : Int32).toInt64) 0 999) fun r8 =>
    if r8 = 0 then
      j5
    else
      bd2 (f_X11_puts (71 + x1) x2 μ) fun r9 ν10 =>
      j4 r9 ν10
set_option maxHeartbeats 4000000 in
set_option maxRecDepth 100000 in
theorem c_X11_told {g : GT} {x1 : Int32} {x2 : Int32} {μ : Mem} {μ0 : Mem} {r0 : Int32} (hf : f_X11_told x1 x2 μ = some (r0, μ0)) : CI g yX11_told cX11_told 3 (some .int) 3 [rf g 112, .int x1, .int x2] μ r0 μ0 := by
  refine mk_i (by decide) (Nat.le_of_ble_eq_true rfl) ?_
  intro G hX hR
  have hX : CX g G cX11_told RX11 3 3 := hX
  suffices S : ∀ K : (Int32 × Mem) → Prop, (∀ a, K a → a = (r0, μ0)) → Sim G (f_X11_told x1 x2 μ) K 0 [(0, rf g 112), (1, .int x1), (2, .int x2)] [] μ from S (fun a => a = (r0, μ0)) (fun a h => h) _ hf rfl
  intro K hK
  unfold f_X11_told
  refine s_iload_n hX dX11_told_0 rfl 1 rfl ?_
  refine s_i2l hX dX11_told_1 ?_
  refine s_lconst (v := 0) hX dX11_told_2 (by decide) ?_
  refine s_ldc2 hX dX11_told_3 klX11_214 ?_
  refine s_callSir hX [.long (x1 : Int32).toInt64, .long 0, .long 2] skX11_in (fun r hF => c_X11_in  hF) mkX11_in cvX11_51 rfl rfl ⟨by omega, by decide, Nat.le_of_ble_eq_true rfl⟩ dX11_told_6 (fun r1 => ?_)
  refine s_jn (C := fun j => ∀ (y2 : Int32) (ν3 : Mem), Sim G (j y2 ν3) K 40 [] [.int y2] ν3) ?_ (fun j4 hj4 => ?_)
  · intro y2 ν3
    show Sim G _ _ 40 [] [.int y2] ν3
    exact s_ireti hK hR dX11_told_40
  refine s_jn (C := fun j => Sim G (j) K 36 [(0, rf g 112)] [] μ) ?_ (fun j5 hj5 => ?_)
  · skip
    show Sim G _ _ 36 [(0, rf g 112)] [] μ
    refine s_aload_n hX dX11_told_36 rfl 0 rfl ?_
    refine s_callViw hX [] (k := 112) (ci := 10) rfl hc10 vkX11_bad (fun r ν hF => c_X11_bad  hF) mkX11_bad cvX11_61 rfl rfl ⟨by omega, by decide, Nat.le_of_ble_eq_true rfl⟩ dX11_told_37 (fun r6 ν7 => ?_)
    exact s_to hX [] rfl (hj4 r6 ν7)
  refine s_if_eq hX 36 dX11_told_9 (by decide) ?_ ?_
  · exact s_to hX [0] rfl (hj5)
  · refine s_iload_n hX dX11_told_12 rfl 2 rfl ?_
    refine s_i2l hX dX11_told_13 ?_
    refine s_lconst (v := 0) hX dX11_told_14 (by decide) ?_
    refine s_ldc2 hX dX11_told_15 klX11_265 ?_
    refine s_callSir hX [.long (x2 : Int32).toInt64, .long 0, .long 999] skX11_in (fun r hF => c_X11_in  hF) mkX11_in cvX11_51 rfl rfl ⟨by omega, by decide, Nat.le_of_ble_eq_true rfl⟩ dX11_told_18 (fun r8 => ?_)
    refine s_if_eq hX 36 dX11_told_21 (by decide) ?_ ?_
    · exact s_to hX [0] rfl (hj5)
    · refine s_aload_n hX dX11_told_24 rfl 0 rfl ?_
      refine s_bipush (v := 71) hX dX11_told_25 (by decide) ?_
      refine s_iload_n hX dX11_told_27 rfl 1 rfl ?_
      refine s_iadd hX dX11_told_28 ?_
      refine s_iload_n hX dX11_told_29 rfl 2 rfl ?_
      refine s_callViw hX [.int (71 + x1), .int x2] (k := 112) (ci := 10) rfl hc10 vkX11_puts (fun r ν hF => c_X11_puts  hF) mkX11_puts cvX11_73 rfl rfl ⟨by omega, by decide, Nat.le_of_ble_eq_true rfl⟩ dX11_told_30 (fun r9 ν10 => ?_)
      refine s_goto hX 40 dX11_told_33 (by decide) ?_
      exact s_to hX [] rfl (hj4 r9 ν10)
theorem dX11_type_0 : decode cX11_type 0 = .ok (.iload_n 1, 1) := by decide +kernel
theorem dX11_type_1 : decode cX11_type 1 = .ok (.i2l, 1) := by decide +kernel
theorem dX11_type_2 : decode cX11_type 2 = .ok (.lconst 0, 1) := by decide +kernel
theorem dX11_type_3 : decode cX11_type 3 = .ok (.ldc2_w 90, 3) := by decide +kernel
theorem dX11_type_6 : decode cX11_type 6 = .ok (.invokestatic 51, 3) := by decide +kernel
theorem dX11_type_9 : decode cX11_type 9 = .ok (.ifCond .ne 8, 3) := by decide +kernel
theorem dX11_type_12 : decode cX11_type 12 = .ok (.aload_n 0, 1) := by decide +kernel
theorem dX11_type_13 : decode cX11_type 13 = .ok (.invokevirtual 61, 3) := by decide +kernel
theorem dX11_type_16 : decode cX11_type 16 = .ok (.ireturn, 1) := by decide +kernel
theorem dX11_type_17 : decode cX11_type 17 = .ok (.aload_n 0, 1) := by decide +kernel
theorem dX11_type_18 : decode cX11_type 18 = .ok (.getfield 92, 3) := by decide +kernel
theorem dX11_type_21 : decode cX11_type 21 = .ok (.sipush 150, 3) := by decide +kernel
theorem dX11_type_24 : decode cX11_type 24 = .ok (.if_icmp .ne 8, 3) := by decide +kernel
theorem dX11_type_27 : decode cX11_type 27 = .ok (.aload_n 0, 1) := by decide +kernel
theorem dX11_type_28 : decode cX11_type 28 = .ok (.invokevirtual 67, 3) := by decide +kernel
theorem dX11_type_31 : decode cX11_type 31 = .ok (.ireturn, 1) := by decide +kernel
theorem dX11_type_32 : decode cX11_type 32 = .ok (.aload_n 0, 1) := by decide +kernel
theorem dX11_type_33 : decode cX11_type 33 = .ok (.getfield 26, 3) := by decide +kernel
theorem dX11_type_36 : decode cX11_type 36 = .ok (.aload_n 0, 1) := by decide +kernel
theorem dX11_type_37 : decode cX11_type 37 = .ok (.getfield 92, 3) := by decide +kernel
theorem dX11_type_40 : decode cX11_type 40 = .ok (.iload_n 1, 1) := by decide +kernel
theorem dX11_type_41 : decode cX11_type 41 = .ok (.iastore, 1) := by decide +kernel
theorem dX11_type_42 : decode cX11_type 42 = .ok (.aload_n 0, 1) := by decide +kernel
theorem dX11_type_43 : decode cX11_type 43 = .ok (.dup, 1) := by decide +kernel
theorem dX11_type_44 : decode cX11_type 44 = .ok (.getfield 92, 3) := by decide +kernel
theorem dX11_type_47 : decode cX11_type 47 = .ok (.iconst 1, 1) := by decide +kernel
theorem dX11_type_48 : decode cX11_type 48 = .ok (.iadd, 1) := by decide +kernel
theorem dX11_type_49 : decode cX11_type 49 = .ok (.putfield 92, 3) := by decide +kernel
theorem dX11_type_52 : decode cX11_type 52 = .ok (.aload_n 0, 1) := by decide +kernel
theorem dX11_type_53 : decode cX11_type 53 = .ok (.getfield 92, 3) := by decide +kernel
theorem dX11_type_56 : decode cX11_type 56 = .ok (.ireturn, 1) := by decide +kernel
noncomputable def f_X11_type (x1 : Int32) (μ : Mem) : Option (Int32 × Mem) :=
  bd (f_X11_in ((x1 : Int32).toInt64) 0 127) fun r1 =>
  if r1 = 0 then
    bd2 (f_X11_bad  μ) fun r6 ν7 =>
    some (r6, ν7)
  else
    if (μ.1 112 9) = 150 then
      bd2 (f_X11_full  μ) fun r4 ν5 =>
      some (r4, ν5)
    else
      chk (μ.1 112 9) 150 (lt (setI μ 118 (ix (μ.1 112 9)) x1) fun ν2 =>
        lt (setI ν2 112 9 ((ν2.1 112 9) + 1)) fun ν3 =>
        some ((ν3.1 112 9), ν3)
        )
set_option maxHeartbeats 4000000 in
set_option maxRecDepth 100000 in
theorem c_X11_type {g : GT} {x1 : Int32} {μ : Mem} {μ0 : Mem} {r0 : Int32} (hf : f_X11_type x1 μ = some (r0, μ0)) : CI g yX11_type cX11_type 2 (some .int) 3 [rf g 112, .int x1] μ r0 μ0 := by
  refine mk_i (by decide) (Nat.le_of_ble_eq_true rfl) ?_
  intro G hX hR
  have hX : CX g G cX11_type RX11 2 3 := hX
  suffices S : ∀ K : (Int32 × Mem) → Prop, (∀ a, K a → a = (r0, μ0)) → Sim G (f_X11_type x1 μ) K 0 [(0, rf g 112), (1, .int x1)] [] μ from S (fun a => a = (r0, μ0)) (fun a h => h) _ hf rfl
  intro K hK
  unfold f_X11_type
  refine s_iload_n hX dX11_type_0 rfl 1 rfl ?_
  refine s_i2l hX dX11_type_1 ?_
  refine s_lconst (v := 0) hX dX11_type_2 (by decide) ?_
  refine s_ldc2 hX dX11_type_3 klX11_90 ?_
  refine s_callSir hX [.long (x1 : Int32).toInt64, .long 0, .long 127] skX11_in (fun r hF => c_X11_in  hF) mkX11_in cvX11_51 rfl rfl ⟨by omega, by decide, Nat.le_of_ble_eq_true rfl⟩ dX11_type_6 (fun r1 => ?_)
  refine s_if_ne hX 17 dX11_type_9 (by decide) ?_ ?_
  · refine s_aload_n hX dX11_type_17 rfl 0 rfl ?_
    refine s_getI hX flX11_92 rfl dX11_type_18 ?_
    refine s_sipush (v := 150) hX dX11_type_21 (by decide) ?_
    refine s_icmp_ne hX 32 dX11_type_24 (by decide) ?_ ?_
    · refine s_aload_n hX dX11_type_32 rfl 0 rfl ?_
      refine s_getR hX (d := 6) 118 flX11_26 rfl rfl dX11_type_33 ?_
      refine s_aload_n hX dX11_type_36 rfl 0 rfl ?_
      refine s_getI hX flX11_92 rfl dX11_type_37 ?_
      refine s_iload_n hX dX11_type_40 rfl 1 rfl ?_
      refine s_iast hX rfl rfl dX11_type_41 (fun ν2 => ?_)
      refine s_aload_n hX dX11_type_42 rfl 0 rfl ?_
      refine s_dup hX dX11_type_43 rfl ?_
      refine s_getI hX flX11_92 rfl dX11_type_44 ?_
      refine s_iconst (v := 1) hX dX11_type_47 (by decide) ?_
      refine s_iadd hX dX11_type_48 ?_
      refine s_putI hX flX11_92 rfl ⟨rfl, rfl⟩ dX11_type_49 (fun ν3 => ?_)
      refine s_aload_n hX dX11_type_52 rfl 0 rfl ?_
      refine s_getI hX flX11_92 rfl dX11_type_53 ?_
      exact s_ireti hK hR dX11_type_56
    · refine s_aload_n hX dX11_type_27 rfl 0 rfl ?_
      refine s_callViw hX [] (k := 112) (ci := 10) rfl hc10 vkX11_full (fun r ν hF => c_X11_full  hF) mkX11_full cvX11_67 rfl rfl ⟨by omega, by decide, Nat.le_of_ble_eq_true rfl⟩ dX11_type_28 (fun r4 ν5 => ?_)
      exact s_ireti hK hR dX11_type_31
  · refine s_aload_n hX dX11_type_12 rfl 0 rfl ?_
    refine s_callViw hX [] (k := 112) (ci := 10) rfl hc10 vkX11_bad (fun r ν hF => c_X11_bad  hF) mkX11_bad cvX11_61 rfl rfl ⟨by omega, by decide, Nat.le_of_ble_eq_true rfl⟩ dX11_type_13 (fun r6 ν7 => ?_)
    exact s_ireti hK hR dX11_type_16
