theorem dX0_driveHeads_0 : decode cX0_driveHeads 0 = .ok (.aload_n 0, 1) := by decide +kernel
theorem dX0_driveHeads_1 : decode cX0_driveHeads 1 = .ok (.getfield 12, 3) := by decide +kernel
theorem dX0_driveHeads_4 : decode cX0_driveHeads 4 = .ok (.iload_n 1, 1) := by decide +kernel
theorem dX0_driveHeads_5 : decode cX0_driveHeads 5 = .ok (.invokevirtual 84, 3) := by decide +kernel
theorem dX0_driveHeads_8 : decode cX0_driveHeads 8 = .ok (.ifCond .eq 23, 3) := by decide +kernel
theorem dX0_driveHeads_11 : decode cX0_driveHeads 11 = .ok (.aload_n 0, 1) := by decide +kernel
theorem dX0_driveHeads_12 : decode cX0_driveHeads 12 = .ok (.getfield 12, 3) := by decide +kernel
theorem dX0_driveHeads_15 : decode cX0_driveHeads 15 = .ok (.iload_n 2, 1) := by decide +kernel
theorem dX0_driveHeads_16 : decode cX0_driveHeads 16 = .ok (.invokevirtual 84, 3) := by decide +kernel
theorem dX0_driveHeads_19 : decode cX0_driveHeads 19 = .ok (.ifCond .eq 12, 3) := by decide +kernel
theorem dX0_driveHeads_22 : decode cX0_driveHeads 22 = .ok (.iload_n 1, 1) := by decide +kernel
theorem dX0_driveHeads_23 : decode cX0_driveHeads 23 = .ok (.iload_n 2, 1) := by decide +kernel
theorem dX0_driveHeads_24 : decode cX0_driveHeads 24 = .ok (.if_icmp .eq 7, 3) := by decide +kernel
theorem dX0_driveHeads_27 : decode cX0_driveHeads 27 = .ok (.iload_n 3, 1) := by decide +kernel
theorem dX0_driveHeads_28 : decode cX0_driveHeads 28 = .ok (.ifCond .ge 6, 3) := by decide +kernel
theorem dX0_driveHeads_31 : decode cX0_driveHeads 31 = .ok (.bipush (-2), 2) := by decide +kernel
theorem dX0_driveHeads_33 : decode cX0_driveHeads 33 = .ok (.ireturn, 1) := by decide +kernel
theorem dX0_driveHeads_34 : decode cX0_driveHeads 34 = .ok (.aload_n 0, 1) := by decide +kernel
theorem dX0_driveHeads_35 : decode cX0_driveHeads 35 = .ok (.getfield 12, 3) := by decide +kernel
theorem dX0_driveHeads_38 : decode cX0_driveHeads 38 = .ok (.getfield 81, 3) := by decide +kernel
theorem dX0_driveHeads_41 : decode cX0_driveHeads 41 = .ok (.iload_n 1, 1) := by decide +kernel
theorem dX0_driveHeads_42 : decode cX0_driveHeads 42 = .ok (.iaload, 1) := by decide +kernel
theorem dX0_driveHeads_43 : decode cX0_driveHeads 43 = .ok (.iload_n 3, 1) := by decide +kernel
theorem dX0_driveHeads_44 : decode cX0_driveHeads 44 = .ok (.if_icmp .lt 19, 3) := by decide +kernel
theorem dX0_driveHeads_47 : decode cX0_driveHeads 47 = .ok (.aload_n 0, 1) := by decide +kernel
theorem dX0_driveHeads_48 : decode cX0_driveHeads 48 = .ok (.getfield 12, 3) := by decide +kernel
theorem dX0_driveHeads_51 : decode cX0_driveHeads 51 = .ok (.getfield 81, 3) := by decide +kernel
theorem dX0_driveHeads_54 : decode cX0_driveHeads 54 = .ok (.iload_n 2, 1) := by decide +kernel
theorem dX0_driveHeads_55 : decode cX0_driveHeads 55 = .ok (.iaload, 1) := by decide +kernel
theorem dX0_driveHeads_56 : decode cX0_driveHeads 56 = .ok (.iload_n 3, 1) := by decide +kernel
theorem dX0_driveHeads_57 : decode cX0_driveHeads 57 = .ok (.iadd, 1) := by decide +kernel
theorem dX0_driveHeads_58 : decode cX0_driveHeads 58 = .ok (.bipush 99, 2) := by decide +kernel
theorem dX0_driveHeads_60 : decode cX0_driveHeads 60 = .ok (.if_icmp .le 6, 3) := by decide +kernel
theorem dX0_driveHeads_63 : decode cX0_driveHeads 63 = .ok (.bipush (-3), 2) := by decide +kernel
theorem dX0_driveHeads_65 : decode cX0_driveHeads 65 = .ok (.ireturn, 1) := by decide +kernel
theorem dX0_driveHeads_66 : decode cX0_driveHeads 66 = .ok (.aload_n 0, 1) := by decide +kernel
theorem dX0_driveHeads_67 : decode cX0_driveHeads 67 = .ok (.getfield 28, 3) := by decide +kernel
theorem dX0_driveHeads_70 : decode cX0_driveHeads 70 = .ok (.aload_n 0, 1) := by decide +kernel
theorem dX0_driveHeads_71 : decode cX0_driveHeads 71 = .ok (.getfield 12, 3) := by decide +kernel
theorem dX0_driveHeads_74 : decode cX0_driveHeads 74 = .ok (.invokevirtual 87, 3) := by decide +kernel
theorem dX0_driveHeads_77 : decode cX0_driveHeads 77 = .ok (.aload_n 0, 1) := by decide +kernel
theorem dX0_driveHeads_78 : decode cX0_driveHeads 78 = .ok (.getfield 12, 3) := by decide +kernel
theorem dX0_driveHeads_81 : decode cX0_driveHeads 81 = .ok (.getfield 81, 3) := by decide +kernel
theorem dX0_driveHeads_84 : decode cX0_driveHeads 84 = .ok (.iload_n 1, 1) := by decide +kernel
theorem dX0_driveHeads_85 : decode cX0_driveHeads 85 = .ok (.dup2, 1) := by decide +kernel
theorem dX0_driveHeads_86 : decode cX0_driveHeads 86 = .ok (.iaload, 1) := by decide +kernel
theorem dX0_driveHeads_87 : decode cX0_driveHeads 87 = .ok (.iload_n 3, 1) := by decide +kernel
theorem dX0_driveHeads_88 : decode cX0_driveHeads 88 = .ok (.isub, 1) := by decide +kernel
theorem dX0_driveHeads_89 : decode cX0_driveHeads 89 = .ok (.iastore, 1) := by decide +kernel
theorem dX0_driveHeads_90 : decode cX0_driveHeads 90 = .ok (.aload_n 0, 1) := by decide +kernel
theorem dX0_driveHeads_91 : decode cX0_driveHeads 91 = .ok (.getfield 12, 3) := by decide +kernel
theorem dX0_driveHeads_94 : decode cX0_driveHeads 94 = .ok (.getfield 81, 3) := by decide +kernel
theorem dX0_driveHeads_97 : decode cX0_driveHeads 97 = .ok (.iload_n 2, 1) := by decide +kernel
theorem dX0_driveHeads_98 : decode cX0_driveHeads 98 = .ok (.dup2, 1) := by decide +kernel
theorem dX0_driveHeads_99 : decode cX0_driveHeads 99 = .ok (.iaload, 1) := by decide +kernel
theorem dX0_driveHeads_100 : decode cX0_driveHeads 100 = .ok (.iload_n 3, 1) := by decide +kernel
theorem dX0_driveHeads_101 : decode cX0_driveHeads 101 = .ok (.iadd, 1) := by decide +kernel
theorem dX0_driveHeads_102 : decode cX0_driveHeads 102 = .ok (.iastore, 1) := by decide +kernel
theorem dX0_driveHeads_103 : decode cX0_driveHeads 103 = .ok (.aload_n 0, 1) := by decide +kernel
theorem dX0_driveHeads_104 : decode cX0_driveHeads 104 = .ok (.getfield 12, 3) := by decide +kernel
theorem dX0_driveHeads_107 : decode cX0_driveHeads 107 = .ok (.getfield 81, 3) := by decide +kernel
theorem dX0_driveHeads_110 : decode cX0_driveHeads 110 = .ok (.iload_n 2, 1) := by decide +kernel
theorem dX0_driveHeads_111 : decode cX0_driveHeads 111 = .ok (.iaload, 1) := by decide +kernel
theorem dX0_driveHeads_112 : decode cX0_driveHeads 112 = .ok (.ireturn, 1) := by decide +kernel
noncomputable def f_X0_driveHeads (k0 : Nat) (x1 : Int32) (x2 : Int32) (x3 : Int32) (μ : Mem) : Option (Int32 × Mem) :=
  bd (f_X3_hasLot (k0 + 1) x1 μ) fun r1 =>
  jn (
    some ((-2), μ)
    ) fun j2 =>
  if r1 = 0 then
    j2
  else
    bd (f_X3_hasLot (k0 + 1) x2 μ) fun r3 =>
    if r3 = 0 then
      j2
    else
      if x1 = x2 then
        j2
      else
        if x3 < 0 then
          j2
        else
          chk x1 10 (
            jn (
              some ((-3), μ)
              ) fun j4 =>
            if (μ.1 (k0 + 4) (ix x1)) < x3 then
              j4
            else
              chk x2 10 (
                if 99 < ((μ.1 (k0 + 4) (ix x2)) + x3) then
                  j4
                else
                  bd (f_X6_keep (k0 + 9) (k0 + 1) μ) fun ν5 =>
                  chk x1 10 (
                    chk x1 10 (lt (setI ν5 (k0 + 4) (ix x1) ((ν5.1 (k0 + 4) (ix x1)) - x3)) fun ν6 =>
                      chk x2 10 (
                        chk x2 10 (lt (setI ν6 (k0 + 4) (ix x2) ((ν6.1 (k0 + 4) (ix x2)) + x3)) fun ν7 =>
                          chk x2 10 (
                            some ((ν7.1 (k0 + 4) (ix x2)), ν7)
                            )
                          )
                        )
                      )
                    )
                )
            )
set_option maxHeartbeats 4000000 in
set_option maxRecDepth 100000 in
theorem c_X0_driveHeads {g : GT} {k0 : Nat} {x1 : Int32} {x2 : Int32} {x3 : Int32} {μ : Mem} {μ0 : Mem} {r0 : Int32} (hk0 : tyOf k0 = 0) (hf : f_X0_driveHeads k0 x1 x2 x3 μ = some (r0, μ0)) : CI g yX0_driveHeads cX0_driveHeads 4 (some .int) 2 [rf g k0, .int x1, .int x2, .int x3] μ r0 μ0 := by
  refine mk_i (by decide) (Nat.le_of_ble_eq_true rfl) ?_
  intro G hX hR
  have hX : CX g G cX0_driveHeads RX0 4 2 := hX
  suffices S : ∀ K : (Int32 × Mem) → Prop, (∀ a, K a → a = (r0, μ0)) → Sim G (f_X0_driveHeads k0 x1 x2 x3 μ) K 0 [(0, rf g k0), (1, .int x1), (2, .int x2), (3, .int x3)] [] μ from S (fun a => a = (r0, μ0)) (fun a h => h) _ hf rfl
  intro K hK
  unfold f_X0_driveHeads
  refine s_aload_n hX dX0_driveHeads_0 rfl 0 rfl ?_
  refine s_getR hX (d := 1) (k0 + 1) flX0_12 hk0 rfl dX0_driveHeads_1 ?_
  refine s_iload_n hX dX0_driveHeads_4 rfl 1 rfl ?_
  refine s_callVir hX [.int x1] (k := (k0 + 1)) (ci := 3) (ty_0_1 hk0).1 hc3 vkX3_hasLot (fun r hF => c_X3_hasLot (ty_0_1 hk0).1 hF) mkX3_hasLot cvX0_84 rfl rfl ⟨by omega, by decide, Nat.le_of_ble_eq_true rfl⟩ dX0_driveHeads_5 (fun r1 => ?_)
  refine s_jn (C := fun j => Sim G (j) K 31 [] [] μ) ?_ (fun j2 hj2 => ?_)
  · skip
    show Sim G _ _ 31 [] [] μ
    refine s_bipush (v := (-2)) hX dX0_driveHeads_31 (by decide) ?_
    exact s_ireti hK hR dX0_driveHeads_33
  refine s_if_eq hX 31 dX0_driveHeads_8 (by decide) ?_ ?_
  · exact s_to hX [] rfl (hj2)
  · refine s_aload_n hX dX0_driveHeads_11 rfl 0 rfl ?_
    refine s_getR hX (d := 1) (k0 + 1) flX0_12 hk0 rfl dX0_driveHeads_12 ?_
    refine s_iload_n hX dX0_driveHeads_15 rfl 2 rfl ?_
    refine s_callVir hX [.int x2] (k := (k0 + 1)) (ci := 3) (ty_0_1 hk0).1 hc3 vkX3_hasLot (fun r hF => c_X3_hasLot (ty_0_1 hk0).1 hF) mkX3_hasLot cvX0_84 rfl rfl ⟨by omega, by decide, Nat.le_of_ble_eq_true rfl⟩ dX0_driveHeads_16 (fun r3 => ?_)
    refine s_if_eq hX 31 dX0_driveHeads_19 (by decide) ?_ ?_
    · exact s_to hX [] rfl (hj2)
    · refine s_iload_n hX dX0_driveHeads_22 rfl 1 rfl ?_
      refine s_iload_n hX dX0_driveHeads_23 rfl 2 rfl ?_
      refine s_icmp_eq hX 31 dX0_driveHeads_24 (by decide) ?_ ?_
      · exact s_to hX [] rfl (hj2)
      · refine s_iload_n hX dX0_driveHeads_27 rfl 3 rfl ?_
        refine s_if_ge hX 34 dX0_driveHeads_28 (by decide) ?_ ?_
        · refine s_aload_n hX dX0_driveHeads_34 rfl 0 rfl ?_
          refine s_getR hX (d := 1) (k0 + 1) flX0_12 hk0 rfl dX0_driveHeads_35 ?_
          refine s_getR hX (d := 3) (k0 + 4) flX0_81 (ty_0_1 hk0).1 rfl dX0_driveHeads_38 ?_
          refine s_iload_n hX dX0_driveHeads_41 rfl 1 rfl ?_
          refine s_iald hX (ty_0_4 hk0).1 (ty_0_4 hk0).2 dX0_driveHeads_42 ?_
          refine s_iload_n hX dX0_driveHeads_43 rfl 3 rfl ?_
          refine s_jn (C := fun j => Sim G (j) K 63 [] [] μ) ?_ (fun j4 hj4 => ?_)
          · skip
            show Sim G _ _ 63 [] [] μ
            refine s_bipush (v := (-3)) hX dX0_driveHeads_63 (by decide) ?_
            exact s_ireti hK hR dX0_driveHeads_65
          refine s_icmp_lt hX 63 dX0_driveHeads_44 (by decide) ?_ ?_
          · exact s_to hX [] rfl (hj4)
          · refine s_aload_n hX dX0_driveHeads_47 rfl 0 rfl ?_
            refine s_getR hX (d := 1) (k0 + 1) flX0_12 hk0 rfl dX0_driveHeads_48 ?_
            refine s_getR hX (d := 3) (k0 + 4) flX0_81 (ty_0_1 hk0).1 rfl dX0_driveHeads_51 ?_
            refine s_iload_n hX dX0_driveHeads_54 rfl 2 rfl ?_
            refine s_iald hX (ty_0_4 hk0).1 (ty_0_4 hk0).2 dX0_driveHeads_55 ?_
            refine s_iload_n hX dX0_driveHeads_56 rfl 3 rfl ?_
            refine s_iadd hX dX0_driveHeads_57 ?_
            refine s_bipush (v := 99) hX dX0_driveHeads_58 (by decide) ?_
            refine s_icmp_le hX 66 dX0_driveHeads_60 (by decide) ?_ ?_
            · refine s_aload_n hX dX0_driveHeads_66 rfl 0 rfl ?_
              refine s_getR hX (d := 9) (k0 + 9) flX0_28 hk0 rfl dX0_driveHeads_67 ?_
              refine s_aload_n hX dX0_driveHeads_70 rfl 0 rfl ?_
              refine s_getR hX (d := 1) (k0 + 1) flX0_12 hk0 rfl dX0_driveHeads_71 ?_
              refine s_callVvw hX [rf g (k0 + 1)] (k := (k0 + 9)) (ci := 5) (ty_0_9 hk0).1 hc5 vkX6_keep (fun ν hF => c_X6_keep (ty_0_9 hk0).1 (ty_0_1 hk0).1 hF) mkX6_keep cvX0_87 rfl rfl ⟨by omega, by decide, Nat.le_of_ble_eq_true rfl⟩ dX0_driveHeads_74 (fun ν5 => ?_)
              refine s_aload_n hX dX0_driveHeads_77 rfl 0 rfl ?_
              refine s_getR hX (d := 1) (k0 + 1) flX0_12 hk0 rfl dX0_driveHeads_78 ?_
              refine s_getR hX (d := 3) (k0 + 4) flX0_81 (ty_0_1 hk0).1 rfl dX0_driveHeads_81 ?_
              refine s_iload_n hX dX0_driveHeads_84 rfl 1 rfl ?_
              refine s_dup2 hX dX0_driveHeads_85 rfl rfl ?_
              refine s_iald hX (ty_0_4 hk0).1 (ty_0_4 hk0).2 dX0_driveHeads_86 ?_
              refine s_iload_n hX dX0_driveHeads_87 rfl 3 rfl ?_
              refine s_isub hX dX0_driveHeads_88 ?_
              refine s_iast hX (ty_0_4 hk0).1 (ty_0_4 hk0).2 dX0_driveHeads_89 (fun ν6 => ?_)
              refine s_aload_n hX dX0_driveHeads_90 rfl 0 rfl ?_
              refine s_getR hX (d := 1) (k0 + 1) flX0_12 hk0 rfl dX0_driveHeads_91 ?_
              refine s_getR hX (d := 3) (k0 + 4) flX0_81 (ty_0_1 hk0).1 rfl dX0_driveHeads_94 ?_
              refine s_iload_n hX dX0_driveHeads_97 rfl 2 rfl ?_
              refine s_dup2 hX dX0_driveHeads_98 rfl rfl ?_
              refine s_iald hX (ty_0_4 hk0).1 (ty_0_4 hk0).2 dX0_driveHeads_99 ?_
              refine s_iload_n hX dX0_driveHeads_100 rfl 3 rfl ?_
              refine s_iadd hX dX0_driveHeads_101 ?_
              refine s_iast hX (ty_0_4 hk0).1 (ty_0_4 hk0).2 dX0_driveHeads_102 (fun ν7 => ?_)
              refine s_aload_n hX dX0_driveHeads_103 rfl 0 rfl ?_
              refine s_getR hX (d := 1) (k0 + 1) flX0_12 hk0 rfl dX0_driveHeads_104 ?_
              refine s_getR hX (d := 3) (k0 + 4) flX0_81 (ty_0_1 hk0).1 rfl dX0_driveHeads_107 ?_
              refine s_iload_n hX dX0_driveHeads_110 rfl 2 rfl ?_
              refine s_iald hX (ty_0_4 hk0).1 (ty_0_4 hk0).2 dX0_driveHeads_111 ?_
              exact s_ireti hK hR dX0_driveHeads_112
            · exact s_to hX [] rfl (hj4)
        · exact s_to hX [] rfl (hj2)
theorem dX0_moveLot_0 : decode cX0_moveLot 0 = .ok (.aload_n 0, 1) := by decide +kernel
theorem dX0_moveLot_1 : decode cX0_moveLot 1 = .ok (.getfield 12, 3) := by decide +kernel
theorem dX0_moveLot_4 : decode cX0_moveLot 4 = .ok (.iload_n 1, 1) := by decide +kernel
theorem dX0_moveLot_5 : decode cX0_moveLot 5 = .ok (.invokevirtual 84, 3) := by decide +kernel
theorem dX0_moveLot_8 : decode cX0_moveLot 8 = .ok (.ifCond .eq 14, 3) := by decide +kernel
theorem dX0_moveLot_11 : decode cX0_moveLot 11 = .ok (.aload_n 0, 1) := by decide +kernel
theorem dX0_moveLot_12 : decode cX0_moveLot 12 = .ok (.getfield 12, 3) := by decide +kernel
theorem dX0_moveLot_15 : decode cX0_moveLot 15 = .ok (.iload_n 2, 1) := by decide +kernel
theorem dX0_moveLot_16 : decode cX0_moveLot 16 = .ok (.invokevirtual 68, 3) := by decide +kernel
theorem dX0_moveLot_19 : decode cX0_moveLot 19 = .ok (.ifCond .ne 6, 3) := by decide +kernel
theorem dX0_moveLot_22 : decode cX0_moveLot 22 = .ok (.bipush (-2), 2) := by decide +kernel
theorem dX0_moveLot_24 : decode cX0_moveLot 24 = .ok (.ireturn, 1) := by decide +kernel
theorem dX0_moveLot_25 : decode cX0_moveLot 25 = .ok (.aload_n 0, 1) := by decide +kernel
theorem dX0_moveLot_26 : decode cX0_moveLot 26 = .ok (.getfield 12, 3) := by decide +kernel
theorem dX0_moveLot_29 : decode cX0_moveLot 29 = .ok (.getfield 78, 3) := by decide +kernel
theorem dX0_moveLot_32 : decode cX0_moveLot 32 = .ok (.iload_n 1, 1) := by decide +kernel
theorem dX0_moveLot_33 : decode cX0_moveLot 33 = .ok (.iaload, 1) := by decide +kernel
theorem dX0_moveLot_34 : decode cX0_moveLot 34 = .ok (.istore_n 3, 1) := by decide +kernel
theorem dX0_moveLot_35 : decode cX0_moveLot 35 = .ok (.aload_n 0, 1) := by decide +kernel
theorem dX0_moveLot_36 : decode cX0_moveLot 36 = .ok (.getfield 12, 3) := by decide +kernel
theorem dX0_moveLot_39 : decode cX0_moveLot 39 = .ok (.getfield 78, 3) := by decide +kernel
theorem dX0_moveLot_42 : decode cX0_moveLot 42 = .ok (.iload_n 1, 1) := by decide +kernel
theorem dX0_moveLot_43 : decode cX0_moveLot 43 = .ok (.iload_n 2, 1) := by decide +kernel
theorem dX0_moveLot_44 : decode cX0_moveLot 44 = .ok (.iastore, 1) := by decide +kernel
theorem dX0_moveLot_45 : decode cX0_moveLot 45 = .ok (.iload_n 3, 1) := by decide +kernel
theorem dX0_moveLot_46 : decode cX0_moveLot 46 = .ok (.ireturn, 1) := by decide +kernel
noncomputable def f_X0_moveLot (k0 : Nat) (x1 : Int32) (x2 : Int32) (μ : Mem) : Option (Int32 × Mem) :=
  bd (f_X3_hasLot (k0 + 1) x1 μ) fun r1 =>
  jn (
    some ((-2), μ)
    ) fun j2 =>
  if r1 = 0 then
    j2
  else
    bd (f_X3_hasVillage (k0 + 1) x2 μ) fun r3 =>
    if r3 = 0 then
      j2
    else
      chk x1 10 (
        chk x1 10 (lt (setI μ (k0 + 3) (ix x1) x2) fun ν4 =>
          some ((μ.1 (k0 + 3) (ix x1)), ν4)
          )
        )
set_option maxHeartbeats 4000000 in
set_option maxRecDepth 100000 in
theorem c_X0_moveLot {g : GT} {k0 : Nat} {x1 : Int32} {x2 : Int32} {μ : Mem} {μ0 : Mem} {r0 : Int32} (hk0 : tyOf k0 = 0) (hf : f_X0_moveLot k0 x1 x2 μ = some (r0, μ0)) : CI g yX0_moveLot cX0_moveLot 4 (some .int) 2 [rf g k0, .int x1, .int x2] μ r0 μ0 := by
  refine mk_i (by decide) (Nat.le_of_ble_eq_true rfl) ?_
  intro G hX hR
  have hX : CX g G cX0_moveLot RX0 4 2 := hX
  suffices S : ∀ K : (Int32 × Mem) → Prop, (∀ a, K a → a = (r0, μ0)) → Sim G (f_X0_moveLot k0 x1 x2 μ) K 0 [(0, rf g k0), (1, .int x1), (2, .int x2)] [] μ from S (fun a => a = (r0, μ0)) (fun a h => h) _ hf rfl
  intro K hK
  unfold f_X0_moveLot
  refine s_aload_n hX dX0_moveLot_0 rfl 0 rfl ?_
  refine s_getR hX (d := 1) (k0 + 1) flX0_12 hk0 rfl dX0_moveLot_1 ?_
  refine s_iload_n hX dX0_moveLot_4 rfl 1 rfl ?_
  refine s_callVir hX [.int x1] (k := (k0 + 1)) (ci := 3) (ty_0_1 hk0).1 hc3 vkX3_hasLot (fun r hF => c_X3_hasLot (ty_0_1 hk0).1 hF) mkX3_hasLot cvX0_84 rfl rfl ⟨by omega, by decide, Nat.le_of_ble_eq_true rfl⟩ dX0_moveLot_5 (fun r1 => ?_)
  refine s_jn (C := fun j => Sim G (j) K 22 [] [] μ) ?_ (fun j2 hj2 => ?_)
  · skip
    show Sim G _ _ 22 [] [] μ
    refine s_bipush (v := (-2)) hX dX0_moveLot_22 (by decide) ?_
    exact s_ireti hK hR dX0_moveLot_24
  refine s_if_eq hX 22 dX0_moveLot_8 (by decide) ?_ ?_
  · exact s_to hX [] rfl (hj2)
  · refine s_aload_n hX dX0_moveLot_11 rfl 0 rfl ?_
    refine s_getR hX (d := 1) (k0 + 1) flX0_12 hk0 rfl dX0_moveLot_12 ?_
    refine s_iload_n hX dX0_moveLot_15 rfl 2 rfl ?_
    refine s_callVir hX [.int x2] (k := (k0 + 1)) (ci := 3) (ty_0_1 hk0).1 hc3 vkX3_hasVillage (fun r hF => c_X3_hasVillage (ty_0_1 hk0).1 hF) mkX3_hasVillage cvX0_68 rfl rfl ⟨by omega, by decide, Nat.le_of_ble_eq_true rfl⟩ dX0_moveLot_16 (fun r3 => ?_)
    refine s_if_ne hX 25 dX0_moveLot_19 (by decide) ?_ ?_
    · refine s_aload_n hX dX0_moveLot_25 rfl 0 rfl ?_
      refine s_getR hX (d := 1) (k0 + 1) flX0_12 hk0 rfl dX0_moveLot_26 ?_
      refine s_getR hX (d := 2) (k0 + 3) flX0_78 (ty_0_1 hk0).1 rfl dX0_moveLot_29 ?_
      refine s_iload_n hX dX0_moveLot_32 rfl 1 rfl ?_
      refine s_iald hX (ty_0_3 hk0).1 (ty_0_3 hk0).2 dX0_moveLot_33 ?_
      refine s_istore_n (lv' := [(3, .int (μ.1 (k0 + 3) (ix x1))), (0, rf g k0), (1, .int x1), (2, .int x2)]) hX dX0_moveLot_34 rfl (by decide) rfl ?_
      refine s_aload_n hX dX0_moveLot_35 rfl 1 rfl ?_
      refine s_getR hX (d := 1) (k0 + 1) flX0_12 hk0 rfl dX0_moveLot_36 ?_
      refine s_getR hX (d := 2) (k0 + 3) flX0_78 (ty_0_1 hk0).1 rfl dX0_moveLot_39 ?_
      refine s_iload_n hX dX0_moveLot_42 rfl 2 rfl ?_
      refine s_iload_n hX dX0_moveLot_43 rfl 3 rfl ?_
      refine s_iast hX (ty_0_3 hk0).1 (ty_0_3 hk0).2 dX0_moveLot_44 (fun ν4 => ?_)
      refine s_iload_n hX dX0_moveLot_45 rfl 0 rfl ?_
      exact s_ireti hK hR dX0_moveLot_46
    · exact s_to hX [] rfl (hj2)
theorem dX0_setGuard_0 : decode cX0_setGuard 0 = .ok (.iload_n 1, 1) := by decide +kernel
theorem dX0_setGuard_1 : decode cX0_setGuard 1 = .ok (.ifCond .lt 14, 3) := by decide +kernel
theorem dX0_setGuard_4 : decode cX0_setGuard 4 = .ok (.iload_n 1, 1) := by decide +kernel
theorem dX0_setGuard_5 : decode cX0_setGuard 5 = .ok (.aload_n 0, 1) := by decide +kernel
theorem dX0_setGuard_6 : decode cX0_setGuard 6 = .ok (.getfield 21, 3) := by decide +kernel
theorem dX0_setGuard_9 : decode cX0_setGuard 9 = .ok (.getfield 101, 3) := by decide +kernel
theorem dX0_setGuard_12 : decode cX0_setGuard 12 = .ok (.if_icmp .lt 6, 3) := by decide +kernel
theorem dX0_setGuard_15 : decode cX0_setGuard 15 = .ok (.bipush (-2), 2) := by decide +kernel
theorem dX0_setGuard_17 : decode cX0_setGuard 17 = .ok (.ireturn, 1) := by decide +kernel
theorem dX0_setGuard_18 : decode cX0_setGuard 18 = .ok (.aload_n 0, 1) := by decide +kernel
theorem dX0_setGuard_19 : decode cX0_setGuard 19 = .ok (.getfield 21, 3) := by decide +kernel
theorem dX0_setGuard_22 : decode cX0_setGuard 22 = .ok (.iload_n 1, 1) := by decide +kernel
theorem dX0_setGuard_23 : decode cX0_setGuard 23 = .ok (.invokevirtual 102, 3) := by decide +kernel
theorem dX0_setGuard_26 : decode cX0_setGuard 26 = .ok (.iload_n 2, 1) := by decide +kernel
theorem dX0_setGuard_27 : decode cX0_setGuard 27 = .ok (.if_icmp .ne 6, 3) := by decide +kernel
theorem dX0_setGuard_30 : decode cX0_setGuard 30 = .ok (.bipush (-3), 2) := by decide +kernel
theorem dX0_setGuard_32 : decode cX0_setGuard 32 = .ok (.ireturn, 1) := by decide +kernel
theorem dX0_setGuard_33 : decode cX0_setGuard 33 = .ok (.aload_n 0, 1) := by decide +kernel
theorem dX0_setGuard_34 : decode cX0_setGuard 34 = .ok (.getfield 21, 3) := by decide +kernel
theorem dX0_setGuard_37 : decode cX0_setGuard 37 = .ok (.dup, 1) := by decide +kernel
theorem dX0_setGuard_38 : decode cX0_setGuard 38 = .ok (.getfield 105, 3) := by decide +kernel
theorem dX0_setGuard_41 : decode cX0_setGuard 41 = .ok (.iconst 1, 1) := by decide +kernel
theorem dX0_setGuard_42 : decode cX0_setGuard 42 = .ok (.iload_n 1, 1) := by decide +kernel
theorem dX0_setGuard_43 : decode cX0_setGuard 43 = .ok (.ishl, 1) := by decide +kernel
theorem dX0_setGuard_44 : decode cX0_setGuard 44 = .ok (.ixor, 1) := by decide +kernel
theorem dX0_setGuard_45 : decode cX0_setGuard 45 = .ok (.putfield 105, 3) := by decide +kernel
theorem dX0_setGuard_48 : decode cX0_setGuard 48 = .ok (.iconst 1, 1) := by decide +kernel
theorem dX0_setGuard_49 : decode cX0_setGuard 49 = .ok (.ireturn, 1) := by decide +kernel
noncomputable def f_X0_setGuard (k0 : Nat) (x1 : Int32) (x2 : Int32) (μ : Mem) : Option (Int32 × Mem) :=
  jn (
    some ((-2), μ)
    ) fun j1 =>
  if x1 < 0 then
    j1
  else
    if x1 < (μ.1 (k0 + 6) 0) then
      bd (f_X7_isGuarded (k0 + 6) x1 μ) fun r2 =>
      if r2 = x2 then
        some ((-3), μ)
      else
        lt (setI μ (k0 + 6) 3 ((μ.1 (k0 + 6) 3) ^^^ ((1 : Int32) <<< (x1 &&& 31)))) fun ν3 =>
        some (1, ν3)
    else
      j1
set_option maxHeartbeats 4000000 in
set_option maxRecDepth 100000 in
theorem c_X0_setGuard {g : GT} {k0 : Nat} {x1 : Int32} {x2 : Int32} {μ : Mem} {μ0 : Mem} {r0 : Int32} (hk0 : tyOf k0 = 0) (hf : f_X0_setGuard k0 x1 x2 μ = some (r0, μ0)) : CI g yX0_setGuard cX0_setGuard 3 (some .int) 2 [rf g k0, .int x1, .int x2] μ r0 μ0 := by
  refine mk_i (by decide) (Nat.le_of_ble_eq_true rfl) ?_
  intro G hX hR
  have hX : CX g G cX0_setGuard RX0 3 2 := hX
  suffices S : ∀ K : (Int32 × Mem) → Prop, (∀ a, K a → a = (r0, μ0)) → Sim G (f_X0_setGuard k0 x1 x2 μ) K 0 [(0, rf g k0), (1, .int x1), (2, .int x2)] [] μ from S (fun a => a = (r0, μ0)) (fun a h => h) _ hf rfl
  intro K hK
  unfold f_X0_setGuard
  refine s_iload_n hX dX0_setGuard_0 rfl 1 rfl ?_
  refine s_jn (C := fun j => Sim G (j) K 15 [] [] μ) ?_ (fun j1 hj1 => ?_)
  · skip
    show Sim G _ _ 15 [] [] μ
    refine s_bipush (v := (-2)) hX dX0_setGuard_15 (by decide) ?_
    exact s_ireti hK hR dX0_setGuard_17
  refine s_if_lt hX 15 dX0_setGuard_1 (by decide) ?_ ?_
  · exact s_to hX [] rfl (hj1)
  · refine s_iload_n hX dX0_setGuard_4 rfl 1 rfl ?_
    refine s_aload_n hX dX0_setGuard_5 rfl 0 rfl ?_
    refine s_getR hX (d := 6) (k0 + 6) flX0_21 hk0 rfl dX0_setGuard_6 ?_
    refine s_getI hX flX0_101 (ty_0_6 hk0).1 dX0_setGuard_9 ?_
    refine s_icmp_lt hX 18 dX0_setGuard_12 (by decide) ?_ ?_
    · refine s_aload_n hX dX0_setGuard_18 rfl 0 rfl ?_
      refine s_getR hX (d := 6) (k0 + 6) flX0_21 hk0 rfl dX0_setGuard_19 ?_
      refine s_iload_n hX dX0_setGuard_22 rfl 1 rfl ?_
      refine s_callVir hX [.int x1] (k := (k0 + 6)) (ci := 6) (ty_0_6 hk0).1 hc6 vkX7_isGuarded (fun r hF => c_X7_isGuarded (ty_0_6 hk0).1 hF) mkX7_isGuarded cvX0_102 rfl rfl ⟨by omega, by decide, Nat.le_of_ble_eq_true rfl⟩ dX0_setGuard_23 (fun r2 => ?_)
      refine s_iload_n hX dX0_setGuard_26 rfl 2 rfl ?_
      refine s_icmp_ne hX 33 dX0_setGuard_27 (by decide) ?_ ?_
      · refine s_aload_n hX dX0_setGuard_33 rfl 0 rfl ?_
        refine s_getR hX (d := 6) (k0 + 6) flX0_21 hk0 rfl dX0_setGuard_34 ?_
        refine s_dup hX dX0_setGuard_37 rfl ?_
        refine s_getI hX flX0_105 (ty_0_6 hk0).1 dX0_setGuard_38 ?_
        refine s_iconst (v := 1) hX dX0_setGuard_41 (by decide) ?_
        refine s_iload_n hX dX0_setGuard_42 rfl 1 rfl ?_
        refine s_ishl hX dX0_setGuard_43 ?_
        refine s_ixor hX dX0_setGuard_44 ?_
        refine s_putI hX flX0_105 (ty_0_6 hk0).1 ⟨rfl, rfl⟩ dX0_setGuard_45 (fun ν3 => ?_)
        refine s_iconst (v := 1) hX dX0_setGuard_48 (by decide) ?_
        exact s_ireti hK hR dX0_setGuard_49
      · refine s_bipush (v := (-3)) hX dX0_setGuard_30 (by decide) ?_
        exact s_ireti hK hR dX0_setGuard_32
    · exact s_to hX [] rfl (hj1)
theorem dX0_setOdds_0 : decode cX0_setOdds 0 = .ok (.aload_n 0, 1) := by decide +kernel
theorem dX0_setOdds_1 : decode cX0_setOdds 1 = .ok (.getfield 12, 3) := by decide +kernel
theorem dX0_setOdds_4 : decode cX0_setOdds 4 = .ok (.iload_n 1, 1) := by decide +kernel
theorem dX0_setOdds_5 : decode cX0_setOdds 5 = .ok (.invokevirtual 68, 3) := by decide +kernel
theorem dX0_setOdds_8 : decode cX0_setOdds 8 = .ok (.ifCond .eq 13, 3) := by decide +kernel
theorem dX0_setOdds_11 : decode cX0_setOdds 11 = .ok (.iload_n 2, 1) := by decide +kernel
theorem dX0_setOdds_12 : decode cX0_setOdds 12 = .ok (.ifCond .lt 9, 3) := by decide +kernel
theorem dX0_setOdds_15 : decode cX0_setOdds 15 = .ok (.iload_n 2, 1) := by decide +kernel
theorem dX0_setOdds_16 : decode cX0_setOdds 16 = .ok (.bipush 10, 2) := by decide +kernel
theorem dX0_setOdds_18 : decode cX0_setOdds 18 = .ok (.if_icmp .le 6, 3) := by decide +kernel
theorem dX0_setOdds_21 : decode cX0_setOdds 21 = .ok (.bipush (-2), 2) := by decide +kernel
theorem dX0_setOdds_23 : decode cX0_setOdds 23 = .ok (.ireturn, 1) := by decide +kernel
theorem dX0_setOdds_24 : decode cX0_setOdds 24 = .ok (.aload_n 0, 1) := by decide +kernel
theorem dX0_setOdds_25 : decode cX0_setOdds 25 = .ok (.getfield 32, 3) := by decide +kernel
theorem dX0_setOdds_28 : decode cX0_setOdds 28 = .ok (.iload_n 1, 1) := by decide +kernel
theorem dX0_setOdds_29 : decode cX0_setOdds 29 = .ok (.iaload, 1) := by decide +kernel
theorem dX0_setOdds_30 : decode cX0_setOdds 30 = .ok (.istore_n 3, 1) := by decide +kernel
theorem dX0_setOdds_31 : decode cX0_setOdds 31 = .ok (.aload_n 0, 1) := by decide +kernel
theorem dX0_setOdds_32 : decode cX0_setOdds 32 = .ok (.getfield 32, 3) := by decide +kernel
theorem dX0_setOdds_35 : decode cX0_setOdds 35 = .ok (.iload_n 1, 1) := by decide +kernel
theorem dX0_setOdds_36 : decode cX0_setOdds 36 = .ok (.iload_n 2, 1) := by decide +kernel
theorem dX0_setOdds_37 : decode cX0_setOdds 37 = .ok (.iastore, 1) := by decide +kernel
theorem dX0_setOdds_38 : decode cX0_setOdds 38 = .ok (.iload_n 3, 1) := by decide +kernel
theorem dX0_setOdds_39 : decode cX0_setOdds 39 = .ok (.ireturn, 1) := by decide +kernel
noncomputable def f_X0_setOdds (k0 : Nat) (x1 : Int32) (x2 : Int32) (μ : Mem) : Option (Int32 × Mem) :=
  bd (f_X3_hasVillage (k0 + 1) x1 μ) fun r1 =>
  jn (
    some ((-2), μ)
    ) fun j2 =>
  if r1 = 0 then
    j2
  else
    if x2 < 0 then
      j2
    else
      if 10 < x2 then
        j2
      else
        chk x1 5 (
          chk x1 5 (lt (setI μ (k0 + 12) (ix x1) x2) fun ν3 =>
            some ((μ.1 (k0 + 12) (ix x1)), ν3)
            )
          )
set_option maxHeartbeats 4000000 in
set_option maxRecDepth 100000 in
theorem c_X0_setOdds {g : GT} {k0 : Nat} {x1 : Int32} {x2 : Int32} {μ : Mem} {μ0 : Mem} {r0 : Int32} (hk0 : tyOf k0 = 0) (hf : f_X0_setOdds k0 x1 x2 μ = some (r0, μ0)) : CI g yX0_setOdds cX0_setOdds 4 (some .int) 2 [rf g k0, .int x1, .int x2] μ r0 μ0 := by
  refine mk_i (by decide) (Nat.le_of_ble_eq_true rfl) ?_
  intro G hX hR
  have hX : CX g G cX0_setOdds RX0 4 2 := hX
  suffices S : ∀ K : (Int32 × Mem) → Prop, (∀ a, K a → a = (r0, μ0)) → Sim G (f_X0_setOdds k0 x1 x2 μ) K 0 [(0, rf g k0), (1, .int x1), (2, .int x2)] [] μ from S (fun a => a = (r0, μ0)) (fun a h => h) _ hf rfl
  intro K hK
  unfold f_X0_setOdds
  refine s_aload_n hX dX0_setOdds_0 rfl 0 rfl ?_
  refine s_getR hX (d := 1) (k0 + 1) flX0_12 hk0 rfl dX0_setOdds_1 ?_
  refine s_iload_n hX dX0_setOdds_4 rfl 1 rfl ?_
  refine s_callVir hX [.int x1] (k := (k0 + 1)) (ci := 3) (ty_0_1 hk0).1 hc3 vkX3_hasVillage (fun r hF => c_X3_hasVillage (ty_0_1 hk0).1 hF) mkX3_hasVillage cvX0_68 rfl rfl ⟨by omega, by decide, Nat.le_of_ble_eq_true rfl⟩ dX0_setOdds_5 (fun r1 => ?_)
  refine s_jn (C := fun j => Sim G (j) K 21 [] [] μ) ?_ (fun j2 hj2 => ?_)
  · skip
    show Sim G _ _ 21 [] [] μ
    refine s_bipush (v := (-2)) hX dX0_setOdds_21 (by decide) ?_
    exact s_ireti hK hR dX0_setOdds_23
  refine s_if_eq hX 21 dX0_setOdds_8 (by decide) ?_ ?_
  · exact s_to hX [] rfl (hj2)
  · refine s_iload_n hX dX0_setOdds_11 rfl 2 rfl ?_
    refine s_if_lt hX 21 dX0_setOdds_12 (by decide) ?_ ?_
    · exact s_to hX [] rfl (hj2)
    · refine s_iload_n hX dX0_setOdds_15 rfl 2 rfl ?_
      refine s_bipush (v := 10) hX dX0_setOdds_16 (by decide) ?_
      refine s_icmp_le hX 24 dX0_setOdds_18 (by decide) ?_ ?_
      · refine s_aload_n hX dX0_setOdds_24 rfl 0 rfl ?_
        refine s_getR hX (d := 12) (k0 + 12) flX0_32 hk0 rfl dX0_setOdds_25 ?_
        refine s_iload_n hX dX0_setOdds_28 rfl 1 rfl ?_
        refine s_iald hX (ty_0_12 hk0).1 (ty_0_12 hk0).2 dX0_setOdds_29 ?_
        refine s_istore_n (lv' := [(3, .int (μ.1 (k0 + 12) (ix x1))), (0, rf g k0), (1, .int x1), (2, .int x2)]) hX dX0_setOdds_30 rfl (by decide) rfl ?_
        refine s_aload_n hX dX0_setOdds_31 rfl 1 rfl ?_
        refine s_getR hX (d := 12) (k0 + 12) flX0_32 hk0 rfl dX0_setOdds_32 ?_
        refine s_iload_n hX dX0_setOdds_35 rfl 2 rfl ?_
        refine s_iload_n hX dX0_setOdds_36 rfl 3 rfl ?_
        refine s_iast hX (ty_0_12 hk0).1 (ty_0_12 hk0).2 dX0_setOdds_37 (fun ν3 => ?_)
        refine s_iload_n hX dX0_setOdds_38 rfl 0 rfl ?_
        exact s_ireti hK hR dX0_setOdds_39
      · exact s_to hX [] rfl (hj2)
theorem dX0_startAnew_0 : decode cX0_startAnew 0 = .ok (.iload_n 1, 1) := by decide +kernel
theorem dX0_startAnew_1 : decode cX0_startAnew 1 = .ok (.iconst 1, 1) := by decide +kernel
theorem dX0_startAnew_2 : decode cX0_startAnew 2 = .ok (.if_icmp .lt 8, 3) := by decide +kernel
theorem dX0_startAnew_5 : decode cX0_startAnew 5 = .ok (.iload_n 1, 1) := by decide +kernel
theorem dX0_startAnew_6 : decode cX0_startAnew 6 = .ok (.iconst 5, 1) := by decide +kernel
theorem dX0_startAnew_7 : decode cX0_startAnew 7 = .ok (.if_icmp .le 6, 3) := by decide +kernel
theorem dX0_startAnew_10 : decode cX0_startAnew 10 = .ok (.bipush (-2), 2) := by decide +kernel
theorem dX0_startAnew_12 : decode cX0_startAnew 12 = .ok (.ireturn, 1) := by decide +kernel
theorem dX0_startAnew_13 : decode cX0_startAnew 13 = .ok (.aload_n 0, 1) := by decide +kernel
theorem dX0_startAnew_14 : decode cX0_startAnew 14 = .ok (.getfield 12, 3) := by decide +kernel
theorem dX0_startAnew_17 : decode cX0_startAnew 17 = .ok (.getfield 55, 3) := by decide +kernel
theorem dX0_startAnew_20 : decode cX0_startAnew 20 = .ok (.istore_n 2, 1) := by decide +kernel
theorem dX0_startAnew_21 : decode cX0_startAnew 21 = .ok (.aload_n 0, 1) := by decide +kernel
theorem dX0_startAnew_22 : decode cX0_startAnew 22 = .ok (.getfield 12, 3) := by decide +kernel
theorem dX0_startAnew_25 : decode cX0_startAnew 25 = .ok (.iload_n 1, 1) := by decide +kernel
theorem dX0_startAnew_26 : decode cX0_startAnew 26 = .ok (.invokevirtual 59, 3) := by decide +kernel
theorem dX0_startAnew_29 : decode cX0_startAnew 29 = .ok (.aload_n 0, 1) := by decide +kernel
theorem dX0_startAnew_30 : decode cX0_startAnew 30 = .ok (.getfield 21, 3) := by decide +kernel
theorem dX0_startAnew_33 : decode cX0_startAnew 33 = .ok (.invokevirtual 63, 3) := by decide +kernel
theorem dX0_startAnew_36 : decode cX0_startAnew 36 = .ok (.aload_n 0, 1) := by decide +kernel
theorem dX0_startAnew_37 : decode cX0_startAnew 37 = .ok (.getfield 28, 3) := by decide +kernel
theorem dX0_startAnew_40 : decode cX0_startAnew 40 = .ok (.iconst 0, 1) := by decide +kernel
theorem dX0_startAnew_41 : decode cX0_startAnew 41 = .ok (.putfield 65, 3) := by decide +kernel
theorem dX0_startAnew_44 : decode cX0_startAnew 44 = .ok (.iconst 0, 1) := by decide +kernel
theorem dX0_startAnew_45 : decode cX0_startAnew 45 = .ok (.istore_n 3, 1) := by decide +kernel
theorem dX0_startAnew_46 : decode cX0_startAnew 46 = .ok (.iload_n 3, 1) := by decide +kernel
theorem dX0_startAnew_47 : decode cX0_startAnew 47 = .ok (.iconst 5, 1) := by decide +kernel
theorem dX0_startAnew_48 : decode cX0_startAnew 48 = .ok (.if_icmp .ge 16, 3) := by decide +kernel
theorem dX0_startAnew_51 : decode cX0_startAnew 51 = .ok (.aload_n 0, 1) := by decide +kernel
theorem dX0_startAnew_52 : decode cX0_startAnew 52 = .ok (.getfield 32, 3) := by decide +kernel
theorem dX0_startAnew_55 : decode cX0_startAnew 55 = .ok (.iload_n 3, 1) := by decide +kernel
theorem dX0_startAnew_56 : decode cX0_startAnew 56 = .ok (.iconst 0, 1) := by decide +kernel
theorem dX0_startAnew_57 : decode cX0_startAnew 57 = .ok (.iastore, 1) := by decide +kernel
theorem dX0_startAnew_58 : decode cX0_startAnew 58 = .ok (.iinc 3 1, 3) := by decide +kernel
theorem dX0_startAnew_61 : decode cX0_startAnew 61 = .ok (.goto (-15), 3) := by decide +kernel
theorem dX0_startAnew_64 : decode cX0_startAnew 64 = .ok (.iconst 0, 1) := by decide +kernel
theorem dX0_startAnew_65 : decode cX0_startAnew 65 = .ok (.istore_n 3, 1) := by decide +kernel
theorem dX0_startAnew_66 : decode cX0_startAnew 66 = .ok (.iload_n 3, 1) := by decide +kernel
theorem dX0_startAnew_67 : decode cX0_startAnew 67 = .ok (.iconst 3, 1) := by decide +kernel
theorem dX0_startAnew_68 : decode cX0_startAnew 68 = .ok (.if_icmp .ge 16, 3) := by decide +kernel
theorem dX0_startAnew_71 : decode cX0_startAnew 71 = .ok (.aload_n 0, 1) := by decide +kernel
theorem dX0_startAnew_72 : decode cX0_startAnew 72 = .ok (.getfield 36, 3) := by decide +kernel
theorem dX0_startAnew_75 : decode cX0_startAnew 75 = .ok (.iload_n 3, 1) := by decide +kernel
theorem dX0_startAnew_76 : decode cX0_startAnew 76 = .ok (.iconst 0, 1) := by decide +kernel
theorem dX0_startAnew_77 : decode cX0_startAnew 77 = .ok (.iastore, 1) := by decide +kernel
theorem dX0_startAnew_78 : decode cX0_startAnew 78 = .ok (.iinc 3 1, 3) := by decide +kernel
theorem dX0_startAnew_81 : decode cX0_startAnew 81 = .ok (.goto (-15), 3) := by decide +kernel
theorem dX0_startAnew_84 : decode cX0_startAnew 84 = .ok (.iload_n 2, 1) := by decide +kernel
theorem dX0_startAnew_85 : decode cX0_startAnew 85 = .ok (.ireturn, 1) := by decide +kernel
noncomputable def f_X0_startAnew (k0 : Nat) (x1 : Int32) (μ : Mem) : Option (Int32 × Mem) :=
  jn (
    some ((-2), μ)
    ) fun j1 =>
  if x1 < 1 then
    j1
  else
    if 5 < x1 then
      j1
    else
      bd (f_X3_startAnew (k0 + 1) x1 μ) fun ν2 =>
      bd (f_X7_startAnew (k0 + 6) ν2) fun ν3 =>
      lt (setI ν3 (k0 + 9) 0 0) fun ν4 =>
      bd (lp (ε := Mem) (cu2 fun (x3_5 : Int32) (ν6 : Mem) =>
        if x3_5 < 5 then
          chk x3_5 5 (lt (setI ν6 (k0 + 12) (ix x3_5) 0) fun ν9 =>
            some (.inl ((x3_5 + 1), ν9))
            )
        else
          some (.inr ν6)
        ) (0, ν4)) (fun (ν7 : Mem) =>
        bd (lp (ε := Mem) (cu2 fun (x3_10 : Int32) (ν11 : Mem) =>
          if x3_10 < 3 then
            chk x3_10 3 (lt (setI ν11 (k0 + 13) (ix x3_10) 0) fun ν14 =>
              some (.inl ((x3_10 + 1), ν14))
              )
          else
            some (.inr ν11)
          ) (0, ν7)) (fun (ν12 : Mem) =>
          some ((μ.1 (k0 + 1) 0), ν12)
          )
        )
set_option maxHeartbeats 4000000 in
set_option maxRecDepth 100000 in
theorem c_X0_startAnew {g : GT} {k0 : Nat} {x1 : Int32} {μ : Mem} {μ0 : Mem} {r0 : Int32} (hk0 : tyOf k0 = 0) (hf : f_X0_startAnew k0 x1 μ = some (r0, μ0)) : CI g yX0_startAnew cX0_startAnew 4 (some .int) 2 [rf g k0, .int x1] μ r0 μ0 := by
  refine mk_i (by decide) (Nat.le_of_ble_eq_true rfl) ?_
  intro G hX hR
  have hX : CX g G cX0_startAnew RX0 4 2 := hX
  suffices S : ∀ K : (Int32 × Mem) → Prop, (∀ a, K a → a = (r0, μ0)) → Sim G (f_X0_startAnew k0 x1 μ) K 0 [(0, rf g k0), (1, .int x1)] [] μ from S (fun a => a = (r0, μ0)) (fun a h => h) _ hf rfl
  intro K hK
  unfold f_X0_startAnew
  refine s_iload_n hX dX0_startAnew_0 rfl 1 rfl ?_
  refine s_iconst (v := 1) hX dX0_startAnew_1 (by decide) ?_
  refine s_jn (C := fun j => Sim G (j) K 10 [] [] μ) ?_ (fun j1 hj1 => ?_)
  · skip
    show Sim G _ _ 10 [] [] μ
    refine s_bipush (v := (-2)) hX dX0_startAnew_10 (by decide) ?_
    exact s_ireti hK hR dX0_startAnew_12
  refine s_icmp_lt hX 10 dX0_startAnew_2 (by decide) ?_ ?_
  · exact s_to hX [] rfl (hj1)
  · refine s_iload_n hX dX0_startAnew_5 rfl 1 rfl ?_
    refine s_iconst (v := 5) hX dX0_startAnew_6 (by decide) ?_
    refine s_icmp_le hX 13 dX0_startAnew_7 (by decide) ?_ ?_
    · refine s_aload_n hX dX0_startAnew_13 rfl 0 rfl ?_
      refine s_getR hX (d := 1) (k0 + 1) flX0_12 hk0 rfl dX0_startAnew_14 ?_
      refine s_getI hX flX0_55 (ty_0_1 hk0).1 dX0_startAnew_17 ?_
      refine s_istore_n (lv' := [(2, .int (μ.1 (k0 + 1) 0)), (0, rf g k0), (1, .int x1)]) hX dX0_startAnew_20 rfl (by decide) rfl ?_
      refine s_aload_n hX dX0_startAnew_21 rfl 1 rfl ?_
      refine s_getR hX (d := 1) (k0 + 1) flX0_12 hk0 rfl dX0_startAnew_22 ?_
      refine s_iload_n hX dX0_startAnew_25 rfl 2 rfl ?_
      refine s_callVvw hX [.int x1] (k := (k0 + 1)) (ci := 3) (ty_0_1 hk0).1 hc3 vkX3_startAnew (fun ν hF => c_X3_startAnew (ty_0_1 hk0).1 hF) mkX3_startAnew cvX0_59 rfl rfl ⟨by omega, by decide, Nat.le_of_ble_eq_true rfl⟩ dX0_startAnew_26 (fun ν2 => ?_)
      refine s_aload_n hX dX0_startAnew_29 rfl 1 rfl ?_
      refine s_getR hX (d := 6) (k0 + 6) flX0_21 hk0 rfl dX0_startAnew_30 ?_
      refine s_callVvw hX [] (k := (k0 + 6)) (ci := 6) (ty_0_6 hk0).1 hc6 vkX7_startAnew (fun ν hF => c_X7_startAnew (ty_0_6 hk0).1 hF) mkX7_startAnew cvX0_63 rfl rfl ⟨by omega, by decide, Nat.le_of_ble_eq_true rfl⟩ dX0_startAnew_33 (fun ν3 => ?_)
      refine s_aload_n hX dX0_startAnew_36 rfl 1 rfl ?_
      refine s_getR hX (d := 9) (k0 + 9) flX0_28 hk0 rfl dX0_startAnew_37 ?_
      refine s_iconst (v := 0) hX dX0_startAnew_40 (by decide) ?_
      refine s_putI hX flX0_65 (ty_0_9 hk0).1 ⟨rfl, rfl⟩ dX0_startAnew_41 (fun ν4 => ?_)
      refine s_iconst (v := 0) hX dX0_startAnew_44 (by decide) ?_
      refine s_istore_n (lv' := [(3, .int 0), (2, .int (μ.1 (k0 + 1) 0)), (0, rf g k0), (1, .int x1)]) hX dX0_startAnew_45 rfl (by decide) rfl ?_
      refine s_loop hX 46 64 (fun s : Int32 × Mem => [(0, rf g k0), (2, .int (μ.1 (k0 + 1) 0)), (3, .int s.1)]) (fun s : Int32 × Mem => s.2) (fun s : Mem => [(0, rf g k0), (2, .int (μ.1 (k0 + 1) 0))]) (fun s : Mem => s) [2, 1, 0] rfl rfl rfl ?_ ?_
      · intro Kq8 hIq8 hJq8 sq
        obtain ⟨x3_5, ν6⟩ := sq
        refine s_cu2 ?_
        show Sim G _ _ 46 [(0, rf g k0), (2, .int (μ.1 (k0 + 1) 0)), (3, .int x3_5)] [] ν6
        refine s_iload_n hX dX0_startAnew_46 rfl 2 rfl ?_
        refine s_iconst (v := 5) hX dX0_startAnew_47 (by decide) ?_
        refine s_icmp_ge hX 64 dX0_startAnew_48 (by decide) ?_ ?_
        · exact s_end hX (hJq8 ν6) [0, 1] rfl
        · refine s_aload_n hX dX0_startAnew_51 rfl 0 rfl ?_
          refine s_getR hX (d := 12) (k0 + 12) flX0_32 hk0 rfl dX0_startAnew_52 ?_
          refine s_iload_n hX dX0_startAnew_55 rfl 2 rfl ?_
          refine s_iconst (v := 0) hX dX0_startAnew_56 (by decide) ?_
          refine s_iast hX (ty_0_12 hk0).1 (ty_0_12 hk0).2 dX0_startAnew_57 (fun ν9 => ?_)
          refine s_iinc (v := (x3_5 + 1)) (lv' := [(3, .int (x3_5 + 1)), (0, rf g k0), (2, .int (μ.1 (k0 + 1) 0))]) hX dX0_startAnew_58 2 rfl rfl (by decide) rfl ?_
          refine s_goto hX 46 dX0_startAnew_61 (by decide) ?_
          exact s_end hX (hIq8 ((x3_5 + 1), ν9)) [1, 2, 0] rfl
      · intro sq
        obtain ⟨ν7, rfl⟩ : ∃ z, z = sq := ⟨_, rfl⟩
        show Sim G _ _ 64 [(0, rf g k0), (2, .int (μ.1 (k0 + 1) 0))] [] ν7
        refine s_iconst (v := 0) hX dX0_startAnew_64 (by decide) ?_
        refine s_istore_n (lv' := [(3, .int 0), (0, rf g k0), (2, .int (μ.1 (k0 + 1) 0))]) hX dX0_startAnew_65 rfl (by decide) rfl ?_
        refine s_loop hX 66 84 (fun s : Int32 × Mem => [(0, rf g k0), (2, .int (μ.1 (k0 + 1) 0)), (3, .int s.1)]) (fun s : Int32 × Mem => s.2) (fun s : Mem => [(2, .int (μ.1 (k0 + 1) 0))]) (fun s : Mem => s) [1, 2, 0] rfl rfl rfl ?_ ?_
        · intro Kq13 hIq13 hJq13 sq
          obtain ⟨x3_10, ν11⟩ := sq
          refine s_cu2 ?_
          show Sim G _ _ 66 [(0, rf g k0), (2, .int (μ.1 (k0 + 1) 0)), (3, .int x3_10)] [] ν11
          refine s_iload_n hX dX0_startAnew_66 rfl 2 rfl ?_
          refine s_iconst (v := 3) hX dX0_startAnew_67 (by decide) ?_
          refine s_icmp_ge hX 84 dX0_startAnew_68 (by decide) ?_ ?_
          · exact s_end hX (hJq13 ν11) [1] rfl
          · refine s_aload_n hX dX0_startAnew_71 rfl 0 rfl ?_
            refine s_getR hX (d := 13) (k0 + 13) flX0_36 hk0 rfl dX0_startAnew_72 ?_
            refine s_iload_n hX dX0_startAnew_75 rfl 2 rfl ?_
            refine s_iconst (v := 0) hX dX0_startAnew_76 (by decide) ?_
            refine s_iast hX (ty_0_13 hk0).1 (ty_0_13 hk0).2 dX0_startAnew_77 (fun ν14 => ?_)
            refine s_iinc (v := (x3_10 + 1)) (lv' := [(3, .int (x3_10 + 1)), (0, rf g k0), (2, .int (μ.1 (k0 + 1) 0))]) hX dX0_startAnew_78 2 rfl rfl (by decide) rfl ?_
            refine s_goto hX 66 dX0_startAnew_81 (by decide) ?_
            exact s_end hX (hIq13 ((x3_10 + 1), ν14)) [1, 2, 0] rfl
        · intro sq
          obtain ⟨ν12, rfl⟩ : ∃ z, z = sq := ⟨_, rfl⟩
          show Sim G _ _ 84 [(2, .int (μ.1 (k0 + 1) 0))] [] ν12
          refine s_iload_n hX dX0_startAnew_84 rfl 0 rfl ?_
          exact s_ireti hK hR dX0_startAnew_85
    · exact s_to hX [] rfl (hj1)
theorem dX0_undoLast_0 : decode cX0_undoLast 0 = .ok (.aload_n 0, 1) := by decide +kernel
theorem dX0_undoLast_1 : decode cX0_undoLast 1 = .ok (.getfield 28, 3) := by decide +kernel
theorem dX0_undoLast_4 : decode cX0_undoLast 4 = .ok (.aload_n 0, 1) := by decide +kernel
theorem dX0_undoLast_5 : decode cX0_undoLast 5 = .ok (.getfield 12, 3) := by decide +kernel
theorem dX0_undoLast_8 : decode cX0_undoLast 8 = .ok (.invokevirtual 115, 3) := by decide +kernel
theorem dX0_undoLast_11 : decode cX0_undoLast 11 = .ok (.ireturn, 1) := by decide +kernel
noncomputable def f_X0_undoLast (k0 : Nat) (μ : Mem) : Option (Int32 × Mem) :=
  bd2 (f_X6_putBack (k0 + 9) (k0 + 1) μ) fun r1 ν2 =>
  some (r1, ν2)
set_option maxHeartbeats 4000000 in
set_option maxRecDepth 100000 in
theorem c_X0_undoLast {g : GT} {k0 : Nat} {μ : Mem} {μ0 : Mem} {r0 : Int32} (hk0 : tyOf k0 = 0) (hf : f_X0_undoLast k0 μ = some (r0, μ0)) : CI g yX0_undoLast cX0_undoLast 1 (some .int) 2 [rf g k0] μ r0 μ0 := by
  refine mk_i (by decide) (Nat.le_of_ble_eq_true rfl) ?_
  intro G hX hR
  have hX : CX g G cX0_undoLast RX0 1 2 := hX
  suffices S : ∀ K : (Int32 × Mem) → Prop, (∀ a, K a → a = (r0, μ0)) → Sim G (f_X0_undoLast k0 μ) K 0 [(0, rf g k0)] [] μ from S (fun a => a = (r0, μ0)) (fun a h => h) _ hf rfl
  intro K hK
  unfold f_X0_undoLast
  refine s_aload_n hX dX0_undoLast_0 rfl 0 rfl ?_
  refine s_getR hX (d := 9) (k0 + 9) flX0_28 hk0 rfl dX0_undoLast_1 ?_
  refine s_aload_n hX dX0_undoLast_4 rfl 0 rfl ?_
  refine s_getR hX (d := 1) (k0 + 1) flX0_12 hk0 rfl dX0_undoLast_5 ?_
  refine s_callViw hX [rf g (k0 + 1)] (k := (k0 + 9)) (ci := 5) (ty_0_9 hk0).1 hc5 vkX6_putBack (fun r ν hF => c_X6_putBack (ty_0_9 hk0).1 (ty_0_1 hk0).1 hF) mkX6_putBack cvX0_115 rfl rfl ⟨by omega, by decide, Nat.le_of_ble_eq_true rfl⟩ dX0_undoLast_8 (fun r1 ν2 => ?_)
  exact s_ireti hK hR dX0_undoLast_11
theorem dX10_count_0 : decode cX10_count 0 = .ok (.iload_n 1, 1) := by decide +kernel
theorem dX10_count_1 : decode cX10_count 1 = .ok (.ifCond .lt 9, 3) := by decide +kernel
theorem dX10_count_4 : decode cX10_count 4 = .ok (.iload_n 1, 1) := by decide +kernel
theorem dX10_count_5 : decode cX10_count 5 = .ok (.bipush 7, 2) := by decide +kernel
theorem dX10_count_7 : decode cX10_count 7 = .ok (.if_icmp .lt 10, 3) := by decide +kernel
theorem dX10_count_10 : decode cX10_count 10 = .ok (.aload_n 0, 1) := by decide +kernel
theorem dX10_count_11 : decode cX10_count 11 = .ok (.bipush (-2), 2) := by decide +kernel
theorem dX10_count_13 : decode cX10_count 13 = .ok (.invokevirtual 90, 3) := by decide +kernel
theorem dX10_count_16 : decode cX10_count 16 = .ok (.ireturn, 1) := by decide +kernel
theorem dX10_count_17 : decode cX10_count 17 = .ok (.aload_n 0, 1) := by decide +kernel
theorem dX10_count_18 : decode cX10_count 18 = .ok (.iload_n 1, 1) := by decide +kernel
theorem dX10_count_19 : decode cX10_count 19 = .ok (.invokevirtual 308, 3) := by decide +kernel
theorem dX10_count_22 : decode cX10_count 22 = .ok (.ireturn, 1) := by decide +kernel
noncomputable def f_X10_count (x1 : Int32) (μ : Mem) : Option (Int32 × Mem) :=
  jn (
    bd2 (f_X10_tally (-2) μ) fun r2 ν3 =>
    some (r2, ν3)
    ) fun j1 =>
  if x1 < 0 then
    j1
  else
    if x1 < 7 then
      bd (f_X10_howMany x1 μ) fun r4 =>
      some (r4, μ)
    else
      j1
set_option maxHeartbeats 4000000 in
set_option maxRecDepth 100000 in
theorem c_X10_count {g : GT} {x1 : Int32} {μ : Mem} {μ0 : Mem} {r0 : Int32} (hf : f_X10_count x1 μ = some (r0, μ0)) : CI g yX10_count cX10_count 2 (some .int) 2 [rf g 0, .int x1] μ r0 μ0 := by
  refine mk_i (by decide) (Nat.le_of_ble_eq_true rfl) ?_
  intro G hX hR
  have hX : CX g G cX10_count RX10 2 2 := hX
  suffices S : ∀ K : (Int32 × Mem) → Prop, (∀ a, K a → a = (r0, μ0)) → Sim G (f_X10_count x1 μ) K 0 [(0, rf g 0), (1, .int x1)] [] μ from S (fun a => a = (r0, μ0)) (fun a h => h) _ hf rfl
  intro K hK
  unfold f_X10_count
  refine s_iload_n hX dX10_count_0 rfl 1 rfl ?_
  refine s_jn (C := fun j => Sim G (j) K 10 [(0, rf g 0)] [] μ) ?_ (fun j1 hj1 => ?_)
  · skip
    show Sim G _ _ 10 [(0, rf g 0)] [] μ
    refine s_aload_n hX dX10_count_10 rfl 0 rfl ?_
    refine s_bipush (v := (-2)) hX dX10_count_11 (by decide) ?_
    refine s_callViw hX [.int (-2)] (k := 0) (ci := 9) rfl hc9 vkX10_tally (fun r ν hF => c_X10_tally  hF) mkX10_tally cvX10_90 rfl rfl ⟨by omega, by decide, Nat.le_of_ble_eq_true rfl⟩ dX10_count_13 (fun r2 ν3 => ?_)
    exact s_ireti hK hR dX10_count_16
  refine s_if_lt hX 10 dX10_count_1 (by decide) ?_ ?_
  · exact s_to hX [0] rfl (hj1)
  · refine s_iload_n hX dX10_count_4 rfl 1 rfl ?_
    refine s_bipush (v := 7) hX dX10_count_5 (by decide) ?_
    refine s_icmp_lt hX 17 dX10_count_7 (by decide) ?_ ?_
    · refine s_aload_n hX dX10_count_17 rfl 0 rfl ?_
      refine s_iload_n hX dX10_count_18 rfl 1 rfl ?_
      refine s_callVir hX [.int x1] (k := 0) (ci := 9) rfl hc9 vkX10_howMany (fun r hF => c_X10_howMany  hF) mkX10_howMany cvX10_308 rfl rfl ⟨by omega, by decide, Nat.le_of_ble_eq_true rfl⟩ dX10_count_19 (fun r4 => ?_)
      exact s_ireti hK hR dX10_count_22
    · exact s_to hX [0] rfl (hj1)
theorem dX10_drop_0 : decode cX10_drop 0 = .ok (.aload_n 0, 1) := by decide +kernel
theorem dX10_drop_1 : decode cX10_drop 1 = .ok (.aload_n 0, 1) := by decide +kernel
theorem dX10_drop_2 : decode cX10_drop 2 = .ok (.getfield 10, 3) := by decide +kernel
theorem dX10_drop_5 : decode cX10_drop 5 = .ok (.invokevirtual 104, 3) := by decide +kernel
theorem dX10_drop_8 : decode cX10_drop 8 = .ok (.invokevirtual 90, 3) := by decide +kernel
theorem dX10_drop_11 : decode cX10_drop 11 = .ok (.ireturn, 1) := by decide +kernel
noncomputable def f_X10_drop  (μ : Mem) : Option (Int32 × Mem) :=
  bd2 (f_X0_dropLot 1 μ) fun r1 ν2 =>
  bd2 (f_X10_tally r1 ν2) fun r3 ν4 =>
  some (r3, ν4)
set_option maxHeartbeats 4000000 in
set_option maxRecDepth 100000 in
theorem c_X10_drop {g : GT}  {μ : Mem} {μ0 : Mem} {r0 : Int32} (hf : f_X10_drop  μ = some (r0, μ0)) : CI g yX10_drop cX10_drop 1 (some .int) 2 [rf g 0] μ r0 μ0 := by
  refine mk_i (by decide) (Nat.le_of_ble_eq_true rfl) ?_
  intro G hX hR
  have hX : CX g G cX10_drop RX10 1 2 := hX
  suffices S : ∀ K : (Int32 × Mem) → Prop, (∀ a, K a → a = (r0, μ0)) → Sim G (f_X10_drop  μ) K 0 [(0, rf g 0)] [] μ from S (fun a => a = (r0, μ0)) (fun a h => h) _ hf rfl
  intro K hK
  unfold f_X10_drop
  refine s_aload_n hX dX10_drop_0 rfl 0 rfl ?_
  refine s_aload_n hX dX10_drop_1 rfl 0 rfl ?_
  refine s_getR hX (d := 1) 1 flX10_10 rfl rfl dX10_drop_2 ?_
  refine s_callViw hX [] (k := 1) (ci := 0) rfl hc0 vkX0_dropLot (fun r ν hF => c_X0_dropLot rfl hF) mkX0_dropLot cvX10_104 rfl rfl ⟨by omega, by decide, Nat.le_of_ble_eq_true rfl⟩ dX10_drop_5 (fun r1 ν2 => ?_)
  refine s_callViw hX [.int r1] (k := 0) (ci := 9) rfl hc9 vkX10_tally (fun r ν hF => c_X10_tally  hF) mkX10_tally cvX10_90 rfl rfl ⟨by omega, by decide, Nat.le_of_ble_eq_true rfl⟩ dX10_drop_8 (fun r3 ν4 => ?_)
  exact s_ireti hK hR dX10_drop_11
theorem dX10_growth_0 : decode cX10_growth 0 = .ok (.aload_n 0, 1) := by decide +kernel
theorem dX10_growth_1 : decode cX10_growth 1 = .ok (.aload_n 0, 1) := by decide +kernel
theorem dX10_growth_2 : decode cX10_growth 2 = .ok (.getfield 10, 3) := by decide +kernel
theorem dX10_growth_5 : decode cX10_growth 5 = .ok (.iload_n 1, 1) := by decide +kernel
theorem dX10_growth_6 : decode cX10_growth 6 = .ok (.invokevirtual 108, 3) := by decide +kernel
theorem dX10_growth_9 : decode cX10_growth 9 = .ok (.invokevirtual 90, 3) := by decide +kernel
theorem dX10_growth_12 : decode cX10_growth 12 = .ok (.ireturn, 1) := by decide +kernel
noncomputable def f_X10_growth (x1 : Int32) (μ : Mem) : Option (Int32 × Mem) :=
  bd2 (f_X0_setGrowth 1 x1 μ) fun r1 ν2 =>
  bd2 (f_X10_tally r1 ν2) fun r3 ν4 =>
  some (r3, ν4)
set_option maxHeartbeats 4000000 in
set_option maxRecDepth 100000 in
theorem c_X10_growth {g : GT} {x1 : Int32} {μ : Mem} {μ0 : Mem} {r0 : Int32} (hf : f_X10_growth x1 μ = some (r0, μ0)) : CI g yX10_growth cX10_growth 2 (some .int) 2 [rf g 0, .int x1] μ r0 μ0 := by
  refine mk_i (by decide) (Nat.le_of_ble_eq_true rfl) ?_
  intro G hX hR
  have hX : CX g G cX10_growth RX10 2 2 := hX
  suffices S : ∀ K : (Int32 × Mem) → Prop, (∀ a, K a → a = (r0, μ0)) → Sim G (f_X10_growth x1 μ) K 0 [(0, rf g 0), (1, .int x1)] [] μ from S (fun a => a = (r0, μ0)) (fun a h => h) _ hf rfl
  intro K hK
  unfold f_X10_growth
  refine s_aload_n hX dX10_growth_0 rfl 0 rfl ?_
  refine s_aload_n hX dX10_growth_1 rfl 0 rfl ?_
  refine s_getR hX (d := 1) 1 flX10_10 rfl rfl dX10_growth_2 ?_
  refine s_iload_n hX dX10_growth_5 rfl 1 rfl ?_
  refine s_callViw hX [.int x1] (k := 1) (ci := 0) rfl hc0 vkX0_setGrowth (fun r ν hF => c_X0_setGrowth rfl hF) mkX0_setGrowth cvX10_108 rfl rfl ⟨by omega, by decide, Nat.le_of_ble_eq_true rfl⟩ dX10_growth_6 (fun r1 ν2 => ?_)
  refine s_callViw hX [.int r1] (k := 0) (ci := 9) rfl hc9 vkX10_tally (fun r ν hF => c_X10_tally  hF) mkX10_tally cvX10_90 rfl rfl ⟨by omega, by decide, Nat.le_of_ble_eq_true rfl⟩ dX10_growth_9 (fun r3 ν4 => ?_)
  exact s_ireti hK hR dX10_growth_12
theorem dX10_part_0 : decode cX10_part 0 = .ok (.iload_n 1, 1) := by decide +kernel
theorem dX10_part_1 : decode cX10_part 1 = .ok (.ifCond .lt 8, 3) := by decide +kernel
theorem dX10_part_4 : decode cX10_part 4 = .ok (.iload_n 1, 1) := by decide +kernel
theorem dX10_part_5 : decode cX10_part 5 = .ok (.iconst 1, 1) := by decide +kernel
theorem dX10_part_6 : decode cX10_part 6 = .ok (.if_icmp .le 14, 3) := by decide +kernel
theorem dX10_part_9 : decode cX10_part 9 = .ok (.aload_n 0, 1) := by decide +kernel
theorem dX10_part_10 : decode cX10_part 10 = .ok (.bipush (-2), 2) := by decide +kernel
theorem dX10_part_12 : decode cX10_part 12 = .ok (.invokevirtual 181, 3) := by decide +kernel
theorem dX10_part_15 : decode cX10_part 15 = .ok (.pop, 1) := by decide +kernel
theorem dX10_part_16 : decode cX10_part 16 = .ok (.ldc2_w 306, 3) := by decide +kernel
theorem dX10_part_19 : decode cX10_part 19 = .ok (.lreturn, 1) := by decide +kernel
theorem dX10_part_20 : decode cX10_part 20 = .ok (.iload_n 1, 1) := by decide +kernel
theorem dX10_part_21 : decode cX10_part 21 = .ok (.ifCond .ne 10, 3) := by decide +kernel
theorem dX10_part_24 : decode cX10_part 24 = .ok (.aload_n 0, 1) := by decide +kernel
theorem dX10_part_25 : decode cX10_part 25 = .ok (.getfield 69, 3) := by decide +kernel
theorem dX10_part_28 : decode cX10_part 28 = .ok (.goto 7, 3) := by decide +kernel
theorem dX10_part_31 : decode cX10_part 31 = .ok (.aload_n 0, 1) := by decide +kernel
theorem dX10_part_32 : decode cX10_part 32 = .ok (.getfield 73, 3) := by decide +kernel
theorem dX10_part_35 : decode cX10_part 35 = .ok (.lreturn, 1) := by decide +kernel
noncomputable def f_X10_part (x1 : Int32) (μ : Mem) : Option (Int64 × Mem) :=
  jn (
    bd2 (f_X10_refuseAsBad (-2) μ) fun r2 ν3 =>
    some ((-100000), ν3)
    ) fun j1 =>
  if x1 < 0 then
    j1
  else
    if 1 < x1 then
      j1
    else
      jn (fun (y4 : Int64) =>
        some (y4, μ)
        ) fun j5 =>
      if x1 = 0 then
        j5 (μ.2 0 10)
      else
        j5 (μ.2 0 11)
set_option maxHeartbeats 4000000 in
set_option maxRecDepth 100000 in
theorem c_X10_part {g : GT} {x1 : Int32} {μ : Mem} {μ0 : Mem} {r0 : Int64} (hf : f_X10_part x1 μ = some (r0, μ0)) : CL g yX10_part cX10_part 2 (some .long) 2 [rf g 0, .int x1] μ r0 μ0 := by
  refine mk_l (by decide) (Nat.le_of_ble_eq_true rfl) ?_
  intro G hX hR
  have hX : CX g G cX10_part RX10 2 2 := hX
  suffices S : ∀ K : (Int64 × Mem) → Prop, (∀ a, K a → a = (r0, μ0)) → Sim G (f_X10_part x1 μ) K 0 [(0, rf g 0), (1, .int x1)] [] μ from S (fun a => a = (r0, μ0)) (fun a h => h) _ hf rfl
  intro K hK
  unfold f_X10_part
  refine s_iload_n hX dX10_part_0 rfl 1 rfl ?_
  refine s_jn (C := fun j => Sim G (j) K 9 [(0, rf g 0)] [] μ) ?_ (fun j1 hj1 => ?_)
  · skip
    show Sim G _ _ 9 [(0, rf g 0)] [] μ
    refine s_aload_n hX dX10_part_9 rfl 0 rfl ?_
    refine s_bipush (v := (-2)) hX dX10_part_10 (by decide) ?_
    refine s_callViw hX [.int (-2)] (k := 0) (ci := 9) rfl hc9 vkX10_refuseAsBad (fun r ν hF => c_X10_refuseAsBad  hF) mkX10_refuseAsBad cvX10_181 rfl rfl ⟨by omega, by decide, Nat.le_of_ble_eq_true rfl⟩ dX10_part_12 (fun r2 ν3 => ?_)
    refine s_pop hX dX10_part_15 rfl ?_
    refine s_ldc2 hX dX10_part_16 klX10_306 ?_
    exact s_lreti hK hR dX10_part_19
  refine s_if_lt hX 9 dX10_part_1 (by decide) ?_ ?_
  · exact s_to hX [0] rfl (hj1)
  · refine s_iload_n hX dX10_part_4 rfl 1 rfl ?_
    refine s_iconst (v := 1) hX dX10_part_5 (by decide) ?_
    refine s_icmp_le hX 20 dX10_part_6 (by decide) ?_ ?_
    · refine s_iload_n hX dX10_part_20 rfl 1 rfl ?_
      refine s_jn (C := fun j => ∀ (y4 : Int64), Sim G (j y4) K 35 [] [.long y4] μ) ?_ (fun j5 hj5 => ?_)
      · intro y4
        show Sim G _ _ 35 [] [.long y4] μ
        exact s_lreti hK hR dX10_part_35
      refine s_if_ne hX 31 dX10_part_21 (by decide) ?_ ?_
      · refine s_aload_n hX dX10_part_31 rfl 0 rfl ?_
        refine s_getL hX flX10_73 rfl dX10_part_32 ?_
        exact s_to hX [] rfl (hj5 (μ.2 0 11))
      · refine s_aload_n hX dX10_part_24 rfl 0 rfl ?_
        refine s_getL hX flX10_69 rfl dX10_part_25 ?_
        refine s_goto hX 35 dX10_part_28 (by decide) ?_
        exact s_to hX [] rfl (hj5 (μ.2 0 10))
    · exact s_to hX [0] rfl (hj1)
theorem dX10_setFraction_0 : decode cX10_setFraction 0 = .ok (.lload_n 1, 1) := by decide +kernel
theorem dX10_setFraction_1 : decode cX10_setFraction 1 = .ok (.invokestatic 341, 3) := by decide +kernel
theorem dX10_setFraction_4 : decode cX10_setFraction 4 = .ok (.lload_n 3, 1) := by decide +kernel
theorem dX10_setFraction_5 : decode cX10_setFraction 5 = .ok (.invokestatic 346, 3) := by decide +kernel
theorem dX10_setFraction_8 : decode cX10_setFraction 8 = .ok (.lstore 5, 2) := by decide +kernel
theorem dX10_setFraction_10 : decode cX10_setFraction 10 = .ok (.lload 5, 2) := by decide +kernel
theorem dX10_setFraction_12 : decode cX10_setFraction 12 = .ok (.lconst 0, 1) := by decide +kernel
theorem dX10_setFraction_13 : decode cX10_setFraction 13 = .ok (.lcmp, 1) := by decide +kernel
theorem dX10_setFraction_14 : decode cX10_setFraction 14 = .ok (.ifCond .le 19, 3) := by decide +kernel
theorem dX10_setFraction_17 : decode cX10_setFraction 17 = .ok (.aload_n 0, 1) := by decide +kernel
theorem dX10_setFraction_18 : decode cX10_setFraction 18 = .ok (.lload_n 1, 1) := by decide +kernel
theorem dX10_setFraction_19 : decode cX10_setFraction 19 = .ok (.lload 5, 2) := by decide +kernel
theorem dX10_setFraction_21 : decode cX10_setFraction 21 = .ok (.ldiv, 1) := by decide +kernel
theorem dX10_setFraction_22 : decode cX10_setFraction 22 = .ok (.putfield 69, 3) := by decide +kernel
theorem dX10_setFraction_25 : decode cX10_setFraction 25 = .ok (.aload_n 0, 1) := by decide +kernel
theorem dX10_setFraction_26 : decode cX10_setFraction 26 = .ok (.lload_n 3, 1) := by decide +kernel
theorem dX10_setFraction_27 : decode cX10_setFraction 27 = .ok (.lload 5, 2) := by decide +kernel
theorem dX10_setFraction_29 : decode cX10_setFraction 29 = .ok (.ldiv, 1) := by decide +kernel
theorem dX10_setFraction_30 : decode cX10_setFraction 30 = .ok (.putfield 73, 3) := by decide +kernel
theorem dX10_setFraction_33 : decode cX10_setFraction 33 = .ok (.return_, 1) := by decide +kernel
noncomputable def f_X10_setFraction (x1 : Int64) (x3 : Int64) (μ : Mem) : Option Mem :=
  bd (f_X10_commonDivisor (if 0 < x1 then x1 else -x1) x3) fun r1 =>
  jn (fun (ν2 : Mem) =>
    some ν2
    ) fun j3 =>
  if 0 < r1 then
    ckZ r1 (
      lt (setL μ 0 10 (x1 / r1)) fun ν4 =>
      ckZ r1 (
        lt (setL ν4 0 11 (x3 / r1)) fun ν5 =>
        j3 ν5
        )
      )
  else
    j3 μ
set_option maxHeartbeats 4000000 in
set_option maxRecDepth 100000 in
theorem c_X10_setFraction {g : GT} {x1 : Int64} {x3 : Int64} {μ : Mem} {μ0 : Mem} (hf : f_X10_setFraction x1 x3 μ = some μ0) : CV g yX10_setFraction cX10_setFraction 7 (none) 2 [rf g 0, .long x1, .long x3] μ μ0 := by
  refine mk_v (by decide) (Nat.le_of_ble_eq_true rfl) ?_
  intro G hX hR
  have hX : CX g G cX10_setFraction RX10 7 2 := hX
  suffices S : ∀ K : Mem → Prop, (∀ a, K a → a = μ0) → Sim G (f_X10_setFraction x1 x3 μ) K 0 [(0, rf g 0), (1, .long x1), (3, .long x3)] [] μ from S (fun a => a = μ0) (fun a h => h) _ hf rfl
  intro K hK
  unfold f_X10_setFraction
  refine s_lload_n hX dX10_setFraction_0 rfl 1 rfl ?_
  refine s_abs hX cvX10_341 (by omega) (Nat.le_of_ble_eq_true rfl) dX10_setFraction_1 ?_
  refine s_lload_n hX dX10_setFraction_4 rfl 2 rfl ?_
  refine s_callSlr hX [.long (if 0 < x1 then x1 else -x1), .long x3] skX10_commonDivisor (fun r hF => c_X10_commonDivisor  hF) mkX10_commonDivisor cvX10_346 rfl rfl ⟨by omega, by decide, Nat.le_of_ble_eq_true rfl⟩ dX10_setFraction_5 (fun r1 => ?_)
  refine s_lstore (lv' := [(5, .long r1), (0, rf g 0), (1, .long x1), (3, .long x3)]) hX dX10_setFraction_8 (by decide) rfl ?_
  refine s_lload hX dX10_setFraction_10 0 rfl ?_
  refine s_lconst (v := 0) hX dX10_setFraction_12 (by decide) ?_
  refine s_jn (C := fun j => ∀ (ν2 : Mem), Sim G (j ν2) K 33 [] [] ν2) ?_ (fun j3 hj3 => ?_)
  · intro ν2
    show Sim G _ _ 33 [] [] ν2
    exact s_vreti hK hR dX10_setFraction_33
  refine s_lcmp_le hX 33 dX10_setFraction_13 dX10_setFraction_14 (by decide) ?_ ?_
  · exact s_to hX [] rfl (hj3 μ)
  · refine s_aload_n hX dX10_setFraction_17 rfl 1 rfl ?_
    refine s_lload_n hX dX10_setFraction_18 rfl 2 rfl ?_
    refine s_lload hX dX10_setFraction_19 0 rfl ?_
    refine s_ldivZ hX dX10_setFraction_21 ?_
    refine s_putL hX flX10_69 rfl ⟨rfl, rfl⟩ dX10_setFraction_22 (fun ν4 => ?_)
    refine s_aload_n hX dX10_setFraction_25 rfl 1 rfl ?_
    refine s_lload_n hX dX10_setFraction_26 rfl 3 rfl ?_
    refine s_lload hX dX10_setFraction_27 0 rfl ?_
    refine s_ldivZ hX dX10_setFraction_29 ?_
    refine s_putL hX flX10_73 rfl ⟨rfl, rfl⟩ dX10_setFraction_30 (fun ν5 => ?_)
    exact s_to hX [] rfl (hj3 ν5)
theorem dX10_status_0 : decode cX10_status 0 = .ok (.iload_n 1, 1) := by decide +kernel
theorem dX10_status_1 : decode cX10_status 1 = .ok (.tableswitch 42 0 2 #[27, 32, 37], 27) := by decide +kernel
theorem dX10_status_28 : decode cX10_status 28 = .ok (.aload_n 0, 1) := by decide +kernel
theorem dX10_status_29 : decode cX10_status 29 = .ok (.getfield 76, 3) := by decide +kernel
theorem dX10_status_32 : decode cX10_status 32 = .ok (.ireturn, 1) := by decide +kernel
theorem dX10_status_33 : decode cX10_status 33 = .ok (.aload_n 0, 1) := by decide +kernel
theorem dX10_status_34 : decode cX10_status 34 = .ok (.getfield 80, 3) := by decide +kernel
theorem dX10_status_37 : decode cX10_status 37 = .ok (.ireturn, 1) := by decide +kernel
theorem dX10_status_38 : decode cX10_status 38 = .ok (.aload_n 0, 1) := by decide +kernel
theorem dX10_status_39 : decode cX10_status 39 = .ok (.getfield 83, 3) := by decide +kernel
theorem dX10_status_42 : decode cX10_status 42 = .ok (.ireturn, 1) := by decide +kernel
theorem dX10_status_43 : decode cX10_status 43 = .ok (.aload_n 0, 1) := by decide +kernel
theorem dX10_status_44 : decode cX10_status 44 = .ok (.iconst (-1), 1) := by decide +kernel
theorem dX10_status_45 : decode cX10_status 45 = .ok (.invokevirtual 181, 3) := by decide +kernel
theorem dX10_status_48 : decode cX10_status 48 = .ok (.ireturn, 1) := by decide +kernel
noncomputable def f_X10_status (x1 : Int32) (μ : Mem) : Option (Int32 × Mem) :=
  if x1 = 0 then
    some ((μ.1 0 12), μ)
  else
  if x1 = 1 then
    some ((μ.1 0 13), μ)
  else
  if x1 = 2 then
    some ((μ.1 0 14), μ)
  else
  bd2 (f_X10_refuseAsBad (-1) μ) fun r4 ν5 =>
  some (r4, ν5)
set_option maxHeartbeats 4000000 in
set_option maxRecDepth 100000 in
theorem c_X10_status {g : GT} {x1 : Int32} {μ : Mem} {μ0 : Mem} {r0 : Int32} (hf : f_X10_status x1 μ = some (r0, μ0)) : CI g yX10_status cX10_status 2 (some .int) 2 [rf g 0, .int x1] μ r0 μ0 := by
  refine mk_i (by decide) (Nat.le_of_ble_eq_true rfl) ?_
  intro G hX hR
  have hX : CX g G cX10_status RX10 2 2 := hX
  suffices S : ∀ K : (Int32 × Mem) → Prop, (∀ a, K a → a = (r0, μ0)) → Sim G (f_X10_status x1 μ) K 0 [(0, rf g 0), (1, .int x1)] [] μ from S (fun a => a = (r0, μ0)) (fun a h => h) _ hf rfl
  intro K hK
  unfold f_X10_status
  refine s_iload_n hX dX10_status_0 rfl 1 rfl ?_
  refine s_tabC (v := 0) (a := 0) hX 28 dX10_status_1 (by decide) (by decide) (by decide) rfl (by decide) ?_ (fun hne1 => ?_)
  · refine s_aload_n hX dX10_status_28 rfl 0 rfl ?_
    refine s_getI hX flX10_76 rfl dX10_status_29 ?_
    exact s_ireti hK hR dX10_status_32
  refine s_tabC (v := 1) (a := 1) hX 33 dX10_status_1 (by decide) (by decide) (by decide) rfl (by decide) ?_ (fun hne2 => ?_)
  · refine s_aload_n hX dX10_status_33 rfl 0 rfl ?_
    refine s_getI hX flX10_80 rfl dX10_status_34 ?_
    exact s_ireti hK hR dX10_status_37
  refine s_tabC (v := 2) (a := 2) hX 38 dX10_status_1 (by decide) (by decide) (by decide) rfl (by decide) ?_ (fun hne3 => ?_)
  · refine s_aload_n hX dX10_status_38 rfl 0 rfl ?_
    refine s_getI hX flX10_83 rfl dX10_status_39 ?_
    exact s_ireti hK hR dX10_status_42
  refine s_tabD hX 43 dX10_status_1 (by omega) (by decide) ?_
  refine s_aload_n hX dX10_status_43 rfl 0 rfl ?_
  refine s_iconst (v := (-1)) hX dX10_status_44 (by decide) ?_
  refine s_callViw hX [.int (-1)] (k := 0) (ci := 9) rfl hc9 vkX10_refuseAsBad (fun r ν hF => c_X10_refuseAsBad  hF) mkX10_refuseAsBad cvX10_181 rfl rfl ⟨by omega, by decide, Nat.le_of_ble_eq_true rfl⟩ dX10_status_45 (fun r4 ν5 => ?_)
  exact s_ireti hK hR dX10_status_48
theorem dX10_told_0 : decode cX10_told 0 = .ok (.aload_n 0, 1) := by decide +kernel
theorem dX10_told_1 : decode cX10_told 1 = .ok (.aload_n 0, 1) := by decide +kernel
theorem dX10_told_2 : decode cX10_told 2 = .ok (.getfield 10, 3) := by decide +kernel
theorem dX10_told_5 : decode cX10_told 5 = .ok (.iload_n 1, 1) := by decide +kernel
theorem dX10_told_6 : decode cX10_told 6 = .ok (.iload_n 2, 1) := by decide +kernel
theorem dX10_told_7 : decode cX10_told 7 = .ok (.invokevirtual 284, 3) := by decide +kernel
theorem dX10_told_10 : decode cX10_told 10 = .ok (.invokevirtual 90, 3) := by decide +kernel
theorem dX10_told_13 : decode cX10_told 13 = .ok (.ireturn, 1) := by decide +kernel
noncomputable def f_X10_told (x1 : Int32) (x2 : Int32) (μ : Mem) : Option (Int32 × Mem) :=
  bd2 (f_X0_setTold 1 x1 x2 μ) fun r1 ν2 =>
  bd2 (f_X10_tally r1 ν2) fun r3 ν4 =>
  some (r3, ν4)
set_option maxHeartbeats 4000000 in
set_option maxRecDepth 100000 in
theorem c_X10_told {g : GT} {x1 : Int32} {x2 : Int32} {μ : Mem} {μ0 : Mem} {r0 : Int32} (hf : f_X10_told x1 x2 μ = some (r0, μ0)) : CI g yX10_told cX10_told 3 (some .int) 2 [rf g 0, .int x1, .int x2] μ r0 μ0 := by
  refine mk_i (by decide) (Nat.le_of_ble_eq_true rfl) ?_
  intro G hX hR
  have hX : CX g G cX10_told RX10 3 2 := hX
  suffices S : ∀ K : (Int32 × Mem) → Prop, (∀ a, K a → a = (r0, μ0)) → Sim G (f_X10_told x1 x2 μ) K 0 [(0, rf g 0), (1, .int x1), (2, .int x2)] [] μ from S (fun a => a = (r0, μ0)) (fun a h => h) _ hf rfl
  intro K hK
  unfold f_X10_told
  refine s_aload_n hX dX10_told_0 rfl 0 rfl ?_
  refine s_aload_n hX dX10_told_1 rfl 0 rfl ?_
  refine s_getR hX (d := 1) 1 flX10_10 rfl rfl dX10_told_2 ?_
  refine s_iload_n hX dX10_told_5 rfl 1 rfl ?_
  refine s_iload_n hX dX10_told_6 rfl 2 rfl ?_
  refine s_callViw hX [.int x1, .int x2] (k := 1) (ci := 0) rfl hc0 vkX0_setTold (fun r ν hF => c_X0_setTold rfl hF) mkX0_setTold cvX10_284 rfl rfl ⟨by omega, by decide, Nat.le_of_ble_eq_true rfl⟩ dX10_told_7 (fun r1 ν2 => ?_)
  refine s_callViw hX [.int r1] (k := 0) (ci := 9) rfl hc9 vkX10_tally (fun r ν hF => c_X10_tally  hF) mkX10_tally cvX10_90 rfl rfl ⟨by omega, by decide, Nat.le_of_ble_eq_true rfl⟩ dX10_told_10 (fun r3 ν4 => ?_)
  exact s_ireti hK hR dX10_told_13
theorem dX10_type_0 : decode cX10_type 0 = .ok (.aload_n 0, 1) := by decide +kernel
theorem dX10_type_1 : decode cX10_type 1 = .ok (.aload_n 0, 1) := by decide +kernel
theorem dX10_type_2 : decode cX10_type 2 = .ok (.getfield 27, 3) := by decide +kernel
theorem dX10_type_5 : decode cX10_type 5 = .ok (.iload_n 1, 1) := by decide +kernel
theorem dX10_type_6 : decode cX10_type 6 = .ok (.invokevirtual 121, 3) := by decide +kernel
theorem dX10_type_9 : decode cX10_type 9 = .ok (.invokevirtual 90, 3) := by decide +kernel
theorem dX10_type_12 : decode cX10_type 12 = .ok (.ireturn, 1) := by decide +kernel
noncomputable def f_X10_type (x1 : Int32) (μ : Mem) : Option (Int32 × Mem) :=
  bd2 (f_X8_append x1 μ) fun r1 ν2 =>
  bd2 (f_X10_tally r1 ν2) fun r3 ν4 =>
  some (r3, ν4)
set_option maxHeartbeats 4000000 in
set_option maxRecDepth 100000 in
theorem c_X10_type {g : GT} {x1 : Int32} {μ : Mem} {μ0 : Mem} {r0 : Int32} (hf : f_X10_type x1 μ = some (r0, μ0)) : CI g yX10_type cX10_type 2 (some .int) 2 [rf g 0, .int x1] μ r0 μ0 := by
  refine mk_i (by decide) (Nat.le_of_ble_eq_true rfl) ?_
  intro G hX hR
  have hX : CX g G cX10_type RX10 2 2 := hX
  suffices S : ∀ K : (Int32 × Mem) → Prop, (∀ a, K a → a = (r0, μ0)) → Sim G (f_X10_type x1 μ) K 0 [(0, rf g 0), (1, .int x1)] [] μ from S (fun a => a = (r0, μ0)) (fun a h => h) _ hf rfl
  intro K hK
  unfold f_X10_type
  refine s_aload_n hX dX10_type_0 rfl 0 rfl ?_
  refine s_aload_n hX dX10_type_1 rfl 0 rfl ?_
  refine s_getR hX (d := 45) 45 flX10_27 rfl rfl dX10_type_2 ?_
  refine s_iload_n hX dX10_type_5 rfl 1 rfl ?_
  refine s_callViw hX [.int x1] (k := 45) (ci := 7) rfl hc7 vkX8_append (fun r ν hF => c_X8_append  hF) mkX8_append cvX10_121 rfl rfl ⟨by omega, by decide, Nat.le_of_ble_eq_true rfl⟩ dX10_type_6 (fun r1 ν2 => ?_)
  refine s_callViw hX [.int r1] (k := 0) (ci := 9) rfl hc9 vkX10_tally (fun r ν hF => c_X10_tally  hF) mkX10_tally cvX10_90 rfl rfl ⟨by omega, by decide, Nat.le_of_ble_eq_true rfl⟩ dX10_type_9 (fun r3 ν4 => ?_)
  exact s_ireti hK hR dX10_type_12
theorem dX11_bad_0 : decode cX11_bad 0 = .ok (.aload_n 0, 1) := by decide +kernel
theorem dX11_bad_1 : decode cX11_bad 1 = .ok (.iconst 0, 1) := by decide +kernel
theorem dX11_bad_2 : decode cX11_bad 2 = .ok (.bipush (-2), 2) := by decide +kernel
theorem dX11_bad_4 : decode cX11_bad 4 = .ok (.invokevirtual 47, 3) := by decide +kernel
theorem dX11_bad_7 : decode cX11_bad 7 = .ok (.ireturn, 1) := by decide +kernel
noncomputable def f_X11_bad  (μ : Mem) : Option (Int32 × Mem) :=
  bd2 (f_X11_refuses 0 (-2) μ) fun r1 ν2 =>
  some (r1, ν2)
set_option maxHeartbeats 4000000 in
set_option maxRecDepth 100000 in
theorem c_X11_bad {g : GT}  {μ : Mem} {μ0 : Mem} {r0 : Int32} (hf : f_X11_bad  μ = some (r0, μ0)) : CI g yX11_bad cX11_bad 1 (some .int) 2 [rf g 112] μ r0 μ0 := by
  refine mk_i (by decide) (Nat.le_of_ble_eq_true rfl) ?_
  intro G hX hR
  have hX : CX g G cX11_bad RX11 1 2 := hX
  suffices S : ∀ K : (Int32 × Mem) → Prop, (∀ a, K a → a = (r0, μ0)) → Sim G (f_X11_bad  μ) K 0 [(0, rf g 112)] [] μ from S (fun a => a = (r0, μ0)) (fun a h => h) _ hf rfl
  intro K hK
  unfold f_X11_bad
  refine s_aload_n hX dX11_bad_0 rfl 0 rfl ?_
  refine s_iconst (v := 0) hX dX11_bad_1 (by decide) ?_
  refine s_bipush (v := (-2)) hX dX11_bad_2 (by decide) ?_
  refine s_callViw hX [.int 0, .int (-2)] (k := 112) (ci := 10) rfl hc10 vkX11_refuses (fun r ν hF => c_X11_refuses  hF) mkX11_refuses cvX11_47 rfl rfl ⟨by omega, by decide, Nat.le_of_ble_eq_true rfl⟩ dX11_bad_4 (fun r1 ν2 => ?_)
  exact s_ireti hK hR dX11_bad_7
theorem dX11_digest_0 : decode cX11_digest 0 = .ok (.ldc2_w 289, 3) := by decide +kernel
theorem dX11_digest_3 : decode cX11_digest 3 = .ok (.lstore_n 1, 1) := by decide +kernel
theorem dX11_digest_4 : decode cX11_digest 4 = .ok (.iconst 0, 1) := by decide +kernel
theorem dX11_digest_5 : decode cX11_digest 5 = .ok (.istore_n 3, 1) := by decide +kernel
theorem dX11_digest_6 : decode cX11_digest 6 = .ok (.iload_n 3, 1) := by decide +kernel
theorem dX11_digest_7 : decode cX11_digest 7 = .ok (.bipush 7, 2) := by decide +kernel
theorem dX11_digest_9 : decode cX11_digest 9 = .ok (.if_icmp .ge 22, 3) := by decide +kernel
theorem dX11_digest_12 : decode cX11_digest 12 = .ok (.ldc2_w 287, 3) := by decide +kernel
theorem dX11_digest_15 : decode cX11_digest 15 = .ok (.lload_n 1, 1) := by decide +kernel
theorem dX11_digest_16 : decode cX11_digest 16 = .ok (.lmul, 1) := by decide +kernel
theorem dX11_digest_17 : decode cX11_digest 17 = .ok (.aload_n 0, 1) := by decide +kernel
theorem dX11_digest_18 : decode cX11_digest 18 = .ok (.iload_n 3, 1) := by decide +kernel
theorem dX11_digest_19 : decode cX11_digest 19 = .ok (.invokevirtual 284, 3) := by decide +kernel
theorem dX11_digest_22 : decode cX11_digest 22 = .ok (.i2l, 1) := by decide +kernel
theorem dX11_digest_23 : decode cX11_digest 23 = .ok (.ladd, 1) := by decide +kernel
theorem dX11_digest_24 : decode cX11_digest 24 = .ok (.lstore_n 1, 1) := by decide +kernel
theorem dX11_digest_25 : decode cX11_digest 25 = .ok (.iinc 3 1, 3) := by decide +kernel
theorem dX11_digest_28 : decode cX11_digest 28 = .ok (.goto (-22), 3) := by decide +kernel
theorem dX11_digest_31 : decode cX11_digest 31 = .ok (.aload_n 0, 1) := by decide +kernel
theorem dX11_digest_32 : decode cX11_digest 32 = .ok (.lload_n 1, 1) := by decide +kernel
theorem dX11_digest_33 : decode cX11_digest 33 = .ok (.bipush 36, 2) := by decide +kernel
theorem dX11_digest_35 : decode cX11_digest 35 = .ok (.aload_n 0, 1) := by decide +kernel
theorem dX11_digest_36 : decode cX11_digest 36 = .ok (.getfield 7, 3) := by decide +kernel
theorem dX11_digest_39 : decode cX11_digest 39 = .ok (.iconst 0, 1) := by decide +kernel
theorem dX11_digest_40 : decode cX11_digest 40 = .ok (.iaload, 1) := by decide +kernel
theorem dX11_digest_41 : decode cX11_digest 41 = .ok (.invokevirtual 291, 3) := by decide +kernel
theorem dX11_digest_44 : decode cX11_digest 44 = .ok (.lstore_n 1, 1) := by decide +kernel
theorem dX11_digest_45 : decode cX11_digest 45 = .ok (.iconst 0, 1) := by decide +kernel
theorem dX11_digest_46 : decode cX11_digest 46 = .ok (.istore_n 3, 1) := by decide +kernel
theorem dX11_digest_47 : decode cX11_digest 47 = .ok (.iload_n 3, 1) := by decide +kernel
theorem dX11_digest_48 : decode cX11_digest 48 = .ok (.aload_n 0, 1) := by decide +kernel
theorem dX11_digest_49 : decode cX11_digest 49 = .ok (.getfield 7, 3) := by decide +kernel
theorem dX11_digest_52 : decode cX11_digest 52 = .ok (.iconst 1, 1) := by decide +kernel
theorem dX11_digest_53 : decode cX11_digest 53 = .ok (.iaload, 1) := by decide +kernel
theorem dX11_digest_54 : decode cX11_digest 54 = .ok (.if_icmp .ge 56, 3) := by decide +kernel
theorem dX11_digest_57 : decode cX11_digest 57 = .ok (.ldc2_w 287, 3) := by decide +kernel
theorem dX11_digest_60 : decode cX11_digest 60 = .ok (.ldc2_w 287, 3) := by decide +kernel
theorem dX11_digest_63 : decode cX11_digest 63 = .ok (.ldc2_w 287, 3) := by decide +kernel
theorem dX11_digest_66 : decode cX11_digest 66 = .ok (.lload_n 1, 1) := by decide +kernel
theorem dX11_digest_67 : decode cX11_digest 67 = .ok (.lmul, 1) := by decide +kernel
theorem dX11_digest_68 : decode cX11_digest 68 = .ok (.aload_n 0, 1) := by decide +kernel
theorem dX11_digest_69 : decode cX11_digest 69 = .ok (.getfield 7, 3) := by decide +kernel
theorem dX11_digest_72 : decode cX11_digest 72 = .ok (.bipush 6, 2) := by decide +kernel
theorem dX11_digest_74 : decode cX11_digest 74 = .ok (.iload_n 3, 1) := by decide +kernel
theorem dX11_digest_75 : decode cX11_digest 75 = .ok (.iadd, 1) := by decide +kernel
theorem dX11_digest_76 : decode cX11_digest 76 = .ok (.iaload, 1) := by decide +kernel
theorem dX11_digest_77 : decode cX11_digest 77 = .ok (.i2l, 1) := by decide +kernel
theorem dX11_digest_78 : decode cX11_digest 78 = .ok (.ladd, 1) := by decide +kernel
theorem dX11_digest_79 : decode cX11_digest 79 = .ok (.lmul, 1) := by decide +kernel
theorem dX11_digest_80 : decode cX11_digest 80 = .ok (.aload_n 0, 1) := by decide +kernel
theorem dX11_digest_81 : decode cX11_digest 81 = .ok (.getfield 7, 3) := by decide +kernel
theorem dX11_digest_84 : decode cX11_digest 84 = .ok (.bipush 16, 2) := by decide +kernel
theorem dX11_digest_86 : decode cX11_digest 86 = .ok (.iload_n 3, 1) := by decide +kernel
theorem dX11_digest_87 : decode cX11_digest 87 = .ok (.iadd, 1) := by decide +kernel
theorem dX11_digest_88 : decode cX11_digest 88 = .ok (.iaload, 1) := by decide +kernel
theorem dX11_digest_89 : decode cX11_digest 89 = .ok (.i2l, 1) := by decide +kernel
theorem dX11_digest_90 : decode cX11_digest 90 = .ok (.ladd, 1) := by decide +kernel
theorem dX11_digest_91 : decode cX11_digest 91 = .ok (.lmul, 1) := by decide +kernel
theorem dX11_digest_92 : decode cX11_digest 92 = .ok (.aload_n 0, 1) := by decide +kernel
theorem dX11_digest_93 : decode cX11_digest 93 = .ok (.getfield 7, 3) := by decide +kernel
theorem dX11_digest_96 : decode cX11_digest 96 = .ok (.bipush 26, 2) := by decide +kernel
theorem dX11_digest_98 : decode cX11_digest 98 = .ok (.iload_n 3, 1) := by decide +kernel
theorem dX11_digest_99 : decode cX11_digest 99 = .ok (.iadd, 1) := by decide +kernel
theorem dX11_digest_100 : decode cX11_digest 100 = .ok (.iaload, 1) := by decide +kernel
theorem dX11_digest_101 : decode cX11_digest 101 = .ok (.i2l, 1) := by decide +kernel
theorem dX11_digest_102 : decode cX11_digest 102 = .ok (.ladd, 1) := by decide +kernel
theorem dX11_digest_103 : decode cX11_digest 103 = .ok (.lstore_n 1, 1) := by decide +kernel
theorem dX11_digest_104 : decode cX11_digest 104 = .ok (.iinc 3 1, 3) := by decide +kernel
theorem dX11_digest_107 : decode cX11_digest 107 = .ok (.goto (-60), 3) := by decide +kernel
theorem dX11_digest_110 : decode cX11_digest 110 = .ok (.aload_n 0, 1) := by decide +kernel
theorem dX11_digest_111 : decode cX11_digest 111 = .ok (.lload_n 1, 1) := by decide +kernel
theorem dX11_digest_112 : decode cX11_digest 112 = .ok (.bipush 41, 2) := by decide +kernel
theorem dX11_digest_114 : decode cX11_digest 114 = .ok (.iconst 3, 1) := by decide +kernel
theorem dX11_digest_115 : decode cX11_digest 115 = .ok (.aload_n 0, 1) := by decide +kernel
theorem dX11_digest_116 : decode cX11_digest 116 = .ok (.getfield 7, 3) := by decide +kernel
theorem dX11_digest_119 : decode cX11_digest 119 = .ok (.iconst 2, 1) := by decide +kernel
theorem dX11_digest_120 : decode cX11_digest 120 = .ok (.iaload, 1) := by decide +kernel
theorem dX11_digest_121 : decode cX11_digest 121 = .ok (.imul, 1) := by decide +kernel
theorem dX11_digest_122 : decode cX11_digest 122 = .ok (.invokevirtual 291, 3) := by decide +kernel
theorem dX11_digest_125 : decode cX11_digest 125 = .ok (.lstore_n 1, 1) := by decide +kernel
theorem dX11_digest_126 : decode cX11_digest 126 = .ok (.aload_n 0, 1) := by decide +kernel
theorem dX11_digest_127 : decode cX11_digest 127 = .ok (.lload_n 1, 1) := by decide +kernel
theorem dX11_digest_128 : decode cX11_digest 128 = .ok (.bipush 71, 2) := by decide +kernel
theorem dX11_digest_130 : decode cX11_digest 130 = .ok (.iconst 3, 1) := by decide +kernel
theorem dX11_digest_131 : decode cX11_digest 131 = .ok (.invokevirtual 291, 3) := by decide +kernel
theorem dX11_digest_134 : decode cX11_digest 134 = .ok (.lstore_n 1, 1) := by decide +kernel
theorem dX11_digest_135 : decode cX11_digest 135 = .ok (.ldc2_w 287, 3) := by decide +kernel
theorem dX11_digest_138 : decode cX11_digest 138 = .ok (.ldc2_w 287, 3) := by decide +kernel
theorem dX11_digest_141 : decode cX11_digest 141 = .ok (.lload_n 1, 1) := by decide +kernel
theorem dX11_digest_142 : decode cX11_digest 142 = .ok (.lmul, 1) := by decide +kernel
theorem dX11_digest_143 : decode cX11_digest 143 = .ok (.aload_n 0, 1) := by decide +kernel
theorem dX11_digest_144 : decode cX11_digest 144 = .ok (.getfield 225, 3) := by decide +kernel
theorem dX11_digest_147 : decode cX11_digest 147 = .ok (.ladd, 1) := by decide +kernel
theorem dX11_digest_148 : decode cX11_digest 148 = .ok (.lmul, 1) := by decide +kernel
theorem dX11_digest_149 : decode cX11_digest 149 = .ok (.aload_n 0, 1) := by decide +kernel
theorem dX11_digest_150 : decode cX11_digest 150 = .ok (.getfield 35, 3) := by decide +kernel
theorem dX11_digest_153 : decode cX11_digest 153 = .ok (.ladd, 1) := by decide +kernel
theorem dX11_digest_154 : decode cX11_digest 154 = .ok (.lreturn, 1) := by decide +kernel
noncomputable def f_X11_digest  (μ : Mem) : Option Int64 :=
  bd (lp (ε := Int64) (cu2 fun (x1_1 : Int64) (x3_2 : Int32) =>
    if x3_2 < 7 then
      bd (f_X11_countOf x3_2 μ) fun r5 =>
      lt ((31 * x1_1) + (r5 : Int32).toInt64) fun x1_6 =>
      some (.inl (x1_6, (x3_2 + 1)))
    else
      some (.inr x1_1)
    ) (853, 0)) (fun (x1_3 : Int64) =>
    bd (f_X11_mixed x1_3 36 (μ.1 113 0) μ) fun r7 =>
    bd (lp (ε := Int64) (cu2 fun (x1_8 : Int64) (x3_9 : Int32) =>
      if x3_9 < (μ.1 113 1) then
        chk (6 + x3_9) 184 (
          chk (16 + x3_9) 184 (
            chk (26 + x3_9) 184 (
              lt ((31 * ((31 * ((31 * x1_8) + ((μ.1 113 (ix (6 + x3_9))) : Int32).toInt64)) + ((μ.1 113 (ix (16 + x3_9))) : Int32).toInt64)) + ((μ.1 113 (ix (26 + x3_9))) : Int32).toInt64) fun x1_12 =>
              some (.inl (x1_12, (x3_9 + 1)))
              )
            )
          )
      else
        some (.inr x1_8)
      ) (r7, 0)) (fun (x1_10 : Int64) =>
      bd (f_X11_mixed x1_10 41 (3 * (μ.1 113 2)) μ) fun r13 =>
      bd (f_X11_mixed r13 71 3 μ) fun r14 =>
      some ((31 * ((31 * r14) + (μ.2 112 6))) + (μ.2 112 7))
      )
    )
set_option maxHeartbeats 4000000 in
set_option maxRecDepth 100000 in
theorem c_X11_digest {g : GT}  {μ : Mem} {r0 : Int64} (hf : f_X11_digest  μ = some r0) : CL g yX11_digest cX11_digest 4 (some .long) 2 [rf g 112] μ r0 μ := by
  refine mk_l (by decide) (Nat.le_of_ble_eq_true rfl) ?_
  intro G hX hR
  have hX : CX g G cX11_digest RX11 4 2 := hX
  suffices S : ∀ K : Int64 → Prop, (∀ a, K a → a = r0) → Sim G (f_X11_digest  μ) K 0 [(0, rf g 112)] [] μ from S (fun a => a = r0) (fun a h => h) _ hf rfl
  intro K hK
  unfold f_X11_digest
  refine s_ldc2 hX dX11_digest_0 klX11_289 ?_
  refine s_lstore_n (lv' := [(1, .long 853), (0, rf g 112)]) hX dX11_digest_3 rfl (by decide) rfl ?_
  refine s_iconst (v := 0) hX dX11_digest_4 (by decide) ?_
  refine s_istore_n (lv' := [(3, .int 0), (1, .long 853), (0, rf g 112)]) hX dX11_digest_5 rfl (by decide) rfl ?_
  refine s_loop hX 6 31 (fun s : Int64 × Int32 => [(0, rf g 112), (1, .long s.1), (3, .int s.2)]) (fun s : Int64 × Int32 => μ) (fun s : Int64 => [(0, rf g 112), (1, .long s)]) (fun s : Int64 => μ) [2, 1, 0] rfl rfl rfl ?_ ?_
  · intro Kq4 hIq4 hJq4 sq
    obtain ⟨x1_1, x3_2⟩ := sq
    refine s_cu2 ?_
    show Sim G _ _ 6 [(0, rf g 112), (1, .long x1_1), (3, .int x3_2)] [] μ
    refine s_iload_n hX dX11_digest_6 rfl 2 rfl ?_
    refine s_bipush (v := 7) hX dX11_digest_7 (by decide) ?_
    refine s_icmp_ge hX 31 dX11_digest_9 (by decide) ?_ ?_
    · exact s_end hX (hJq4 x1_1) [0, 1] rfl
    · refine s_ldc2 hX dX11_digest_12 klX11_287 ?_
      refine s_lload_n hX dX11_digest_15 rfl 1 rfl ?_
      refine s_lmul hX dX11_digest_16 ?_
      refine s_aload_n hX dX11_digest_17 rfl 0 rfl ?_
      refine s_iload_n hX dX11_digest_18 rfl 2 rfl ?_
      refine s_callVir hX [.int x3_2] (k := 112) (ci := 10) rfl hc10 vkX11_countOf (fun r hF => c_X11_countOf  hF) mkX11_countOf cvX11_284 rfl rfl ⟨by omega, by decide, Nat.le_of_ble_eq_true rfl⟩ dX11_digest_19 (fun r5 => ?_)
      refine s_i2l hX dX11_digest_22 ?_
      refine s_ladd hX dX11_digest_23 ?_
      refine s_ltl (fun x1_6 => ?_)
      refine s_lstore_n (lv' := [(1, .long x1_6), (0, rf g 112), (3, .int x3_2)]) hX dX11_digest_24 rfl (by decide) rfl ?_
      refine s_iinc (v := (x3_2 + 1)) (lv' := [(3, .int (x3_2 + 1)), (1, .long x1_6), (0, rf g 112)]) hX dX11_digest_25 2 rfl rfl (by decide) rfl ?_
      refine s_goto hX 6 dX11_digest_28 (by decide) ?_
      exact s_end hX (hIq4 (x1_6, (x3_2 + 1))) [2, 1, 0] rfl
  · intro sq
    obtain ⟨x1_3, rfl⟩ : ∃ z, z = sq := ⟨_, rfl⟩
    show Sim G _ _ 31 [(0, rf g 112), (1, .long x1_3)] [] μ
    refine s_aload_n hX dX11_digest_31 rfl 0 rfl ?_
    refine s_lload_n hX dX11_digest_32 rfl 1 rfl ?_
    refine s_bipush (v := 36) hX dX11_digest_33 (by decide) ?_
    refine s_aload_n hX dX11_digest_35 rfl 0 rfl ?_
    refine s_getR hX (d := 1) 113 flX11_7 rfl rfl dX11_digest_36 ?_
    refine s_iconst (v := 0) hX dX11_digest_39 (by decide) ?_
    refine s_ialdK hX rfl rfl (by decide) rfl dX11_digest_40 ?_
    refine s_callVlr hX [.long x1_3, .int 36, .int (μ.1 113 0)] (k := 112) (ci := 10) rfl hc10 vkX11_mixed (fun r hF => c_X11_mixed  hF) mkX11_mixed cvX11_291 rfl rfl ⟨by omega, by decide, Nat.le_of_ble_eq_true rfl⟩ dX11_digest_41 (fun r7 => ?_)
    refine s_lstore_n (lv' := [(1, .long r7), (0, rf g 112)]) hX dX11_digest_44 rfl (by decide) rfl ?_
    refine s_iconst (v := 0) hX dX11_digest_45 (by decide) ?_
    refine s_istore_n (lv' := [(3, .int 0), (1, .long r7), (0, rf g 112)]) hX dX11_digest_46 rfl (by decide) rfl ?_
    refine s_loop hX 47 110 (fun s : Int64 × Int32 => [(0, rf g 112), (1, .long s.1), (3, .int s.2)]) (fun s : Int64 × Int32 => μ) (fun s : Int64 => [(0, rf g 112), (1, .long s)]) (fun s : Int64 => μ) [2, 1, 0] rfl rfl rfl ?_ ?_
    · intro Kq11 hIq11 hJq11 sq
      obtain ⟨x1_8, x3_9⟩ := sq
      refine s_cu2 ?_
      show Sim G _ _ 47 [(0, rf g 112), (1, .long x1_8), (3, .int x3_9)] [] μ
      refine s_iload_n hX dX11_digest_47 rfl 2 rfl ?_
      refine s_aload_n hX dX11_digest_48 rfl 0 rfl ?_
      refine s_getR hX (d := 1) 113 flX11_7 rfl rfl dX11_digest_49 ?_
      refine s_iconst (v := 1) hX dX11_digest_52 (by decide) ?_
      refine s_ialdK hX rfl rfl (by decide) rfl dX11_digest_53 ?_
      refine s_icmp_ge hX 110 dX11_digest_54 (by decide) ?_ ?_
      · exact s_end hX (hJq11 x1_8) [0, 1] rfl
      · refine s_ldc2 hX dX11_digest_57 klX11_287 ?_
        refine s_ldc2 hX dX11_digest_60 klX11_287 ?_
        refine s_ldc2 hX dX11_digest_63 klX11_287 ?_
        refine s_lload_n hX dX11_digest_66 rfl 1 rfl ?_
        refine s_lmul hX dX11_digest_67 ?_
        refine s_aload_n hX dX11_digest_68 rfl 0 rfl ?_
        refine s_getR hX (d := 1) 113 flX11_7 rfl rfl dX11_digest_69 ?_
        refine s_bipush (v := 6) hX dX11_digest_72 (by decide) ?_
        refine s_iload_n hX dX11_digest_74 rfl 2 rfl ?_
        refine s_iadd hX dX11_digest_75 ?_
        refine s_iald hX rfl rfl dX11_digest_76 ?_
        refine s_i2l hX dX11_digest_77 ?_
        refine s_ladd hX dX11_digest_78 ?_
        refine s_lmul hX dX11_digest_79 ?_
        refine s_aload_n hX dX11_digest_80 rfl 0 rfl ?_
        refine s_getR hX (d := 1) 113 flX11_7 rfl rfl dX11_digest_81 ?_
        refine s_bipush (v := 16) hX dX11_digest_84 (by decide) ?_
        refine s_iload_n hX dX11_digest_86 rfl 2 rfl ?_
        refine s_iadd hX dX11_digest_87 ?_
        refine s_iald hX rfl rfl dX11_digest_88 ?_
        refine s_i2l hX dX11_digest_89 ?_
        refine s_ladd hX dX11_digest_90 ?_
        refine s_lmul hX dX11_digest_91 ?_
        refine s_aload_n hX dX11_digest_92 rfl 0 rfl ?_
        refine s_getR hX (d := 1) 113 flX11_7 rfl rfl dX11_digest_93 ?_
        refine s_bipush (v := 26) hX dX11_digest_96 (by decide) ?_
        refine s_iload_n hX dX11_digest_98 rfl 2 rfl ?_
        refine s_iadd hX dX11_digest_99 ?_
        refine s_iald hX rfl rfl dX11_digest_100 ?_
        refine s_i2l hX dX11_digest_101 ?_
        refine s_ladd hX dX11_digest_102 ?_
        refine s_ltl (fun x1_12 => ?_)
        refine s_lstore_n (lv' := [(1, .long x1_12), (0, rf g 112), (3, .int x3_9)]) hX dX11_digest_103 rfl (by decide) rfl ?_
        refine s_iinc (v := (x3_9 + 1)) (lv' := [(3, .int (x3_9 + 1)), (1, .long x1_12), (0, rf g 112)]) hX dX11_digest_104 2 rfl rfl (by decide) rfl ?_
        refine s_goto hX 47 dX11_digest_107 (by decide) ?_
        exact s_end hX (hIq11 (x1_12, (x3_9 + 1))) [2, 1, 0] rfl
    · intro sq
      obtain ⟨x1_10, rfl⟩ : ∃ z, z = sq := ⟨_, rfl⟩
      show Sim G _ _ 110 [(0, rf g 112), (1, .long x1_10)] [] μ
      refine s_aload_n hX dX11_digest_110 rfl 0 rfl ?_
      refine s_lload_n hX dX11_digest_111 rfl 1 rfl ?_
      refine s_bipush (v := 41) hX dX11_digest_112 (by decide) ?_
      refine s_iconst (v := 3) hX dX11_digest_114 (by decide) ?_
      refine s_aload_n hX dX11_digest_115 rfl 0 rfl ?_
      refine s_getR hX (d := 1) 113 flX11_7 rfl rfl dX11_digest_116 ?_
      refine s_iconst (v := 2) hX dX11_digest_119 (by decide) ?_
      refine s_ialdK hX rfl rfl (by decide) rfl dX11_digest_120 ?_
      refine s_imul hX dX11_digest_121 ?_
      refine s_callVlr hX [.long x1_10, .int 41, .int (3 * (μ.1 113 2))] (k := 112) (ci := 10) rfl hc10 vkX11_mixed (fun r hF => c_X11_mixed  hF) mkX11_mixed cvX11_291 rfl rfl ⟨by omega, by decide, Nat.le_of_ble_eq_true rfl⟩ dX11_digest_122 (fun r13 => ?_)
      refine s_lstore_n (lv' := [(1, .long r13), (0, rf g 112)]) hX dX11_digest_125 rfl (by decide) rfl ?_
      refine s_aload_n hX dX11_digest_126 rfl 1 rfl ?_
      refine s_lload_n hX dX11_digest_127 rfl 0 rfl ?_
      refine s_bipush (v := 71) hX dX11_digest_128 (by decide) ?_
      refine s_iconst (v := 3) hX dX11_digest_130 (by decide) ?_
      refine s_callVlr hX [.long r13, .int 71, .int 3] (k := 112) (ci := 10) rfl hc10 vkX11_mixed (fun r hF => c_X11_mixed  hF) mkX11_mixed cvX11_291 rfl rfl ⟨by omega, by decide, Nat.le_of_ble_eq_true rfl⟩ dX11_digest_131 (fun r14 => ?_)
      refine s_lstore_n (lv' := [(1, .long r14), (0, rf g 112)]) hX dX11_digest_134 rfl (by decide) rfl ?_
      refine s_ldc2 hX dX11_digest_135 klX11_287 ?_
      refine s_ldc2 hX dX11_digest_138 klX11_287 ?_
      refine s_lload_n hX dX11_digest_141 rfl 0 rfl ?_
      refine s_lmul hX dX11_digest_142 ?_
      refine s_aload_n hX dX11_digest_143 rfl 1 rfl ?_
      refine s_getL hX flX11_225 rfl dX11_digest_144 ?_
      refine s_ladd hX dX11_digest_147 ?_
      refine s_lmul hX dX11_digest_148 ?_
      refine s_aload_n hX dX11_digest_149 rfl 1 rfl ?_
      refine s_getL hX flX11_35 rfl dX11_digest_150 ?_
      refine s_ladd hX dX11_digest_153 ?_
      exact s_lretr hK hR dX11_digest_154
theorem dX11_full_0 : decode cX11_full 0 = .ok (.aload_n 0, 1) := by decide +kernel
theorem dX11_full_1 : decode cX11_full 1 = .ok (.iconst 2, 1) := by decide +kernel
theorem dX11_full_2 : decode cX11_full 2 = .ok (.bipush (-4), 2) := by decide +kernel
theorem dX11_full_4 : decode cX11_full 4 = .ok (.invokevirtual 47, 3) := by decide +kernel
theorem dX11_full_7 : decode cX11_full 7 = .ok (.ireturn, 1) := by decide +kernel
noncomputable def f_X11_full  (μ : Mem) : Option (Int32 × Mem) :=
  bd2 (f_X11_refuses 2 (-4) μ) fun r1 ν2 =>
  some (r1, ν2)
set_option maxHeartbeats 4000000 in
set_option maxRecDepth 100000 in
theorem c_X11_full {g : GT}  {μ : Mem} {μ0 : Mem} {r0 : Int32} (hf : f_X11_full  μ = some (r0, μ0)) : CI g yX11_full cX11_full 1 (some .int) 2 [rf g 112] μ r0 μ0 := by
  refine mk_i (by decide) (Nat.le_of_ble_eq_true rfl) ?_
  intro G hX hR
  have hX : CX g G cX11_full RX11 1 2 := hX
  suffices S : ∀ K : (Int32 × Mem) → Prop, (∀ a, K a → a = (r0, μ0)) → Sim G (f_X11_full  μ) K 0 [(0, rf g 112)] [] μ from S (fun a => a = (r0, μ0)) (fun a h => h) _ hf rfl
  intro K hK
  unfold f_X11_full
  refine s_aload_n hX dX11_full_0 rfl 0 rfl ?_
  refine s_iconst (v := 2) hX dX11_full_1 (by decide) ?_
  refine s_bipush (v := (-4)) hX dX11_full_2 (by decide) ?_
  refine s_callViw hX [.int 2, .int (-4)] (k := 112) (ci := 10) rfl hc10 vkX11_refuses (fun r ν hF => c_X11_refuses  hF) mkX11_refuses cvX11_47 rfl rfl ⟨by omega, by decide, Nat.le_of_ble_eq_true rfl⟩ dX11_full_4 (fun r1 ν2 => ?_)
  exact s_ireti hK hR dX11_full_7
theorem dX11_isAt_0 : decode cX11_isAt 0 = .ok (.aload_n 0, 1) := by decide +kernel
theorem dX11_isAt_1 : decode cX11_isAt 1 = .ok (.getfield 96, 3) := by decide +kernel
theorem dX11_isAt_4 : decode cX11_isAt 4 = .ok (.aload_n 0, 1) := by decide +kernel
theorem dX11_isAt_5 : decode cX11_isAt 5 = .ok (.getfield 92, 3) := by decide +kernel
theorem dX11_isAt_8 : decode cX11_isAt 8 = .ok (.if_icmp .ge 27, 3) := by decide +kernel
theorem dX11_isAt_11 : decode cX11_isAt 11 = .ok (.aload_n 0, 1) := by decide +kernel
theorem dX11_isAt_12 : decode cX11_isAt 12 = .ok (.getfield 26, 3) := by decide +kernel
theorem dX11_isAt_15 : decode cX11_isAt 15 = .ok (.aload_n 0, 1) := by decide +kernel
theorem dX11_isAt_16 : decode cX11_isAt 16 = .ok (.getfield 96, 3) := by decide +kernel
theorem dX11_isAt_19 : decode cX11_isAt 19 = .ok (.iaload, 1) := by decide +kernel
theorem dX11_isAt_20 : decode cX11_isAt 20 = .ok (.i2l, 1) := by decide +kernel
theorem dX11_isAt_21 : decode cX11_isAt 21 = .ok (.iload_n 1, 1) := by decide +kernel
theorem dX11_isAt_22 : decode cX11_isAt 22 = .ok (.i2l, 1) := by decide +kernel
theorem dX11_isAt_23 : decode cX11_isAt 23 = .ok (.iload_n 2, 1) := by decide +kernel
theorem dX11_isAt_24 : decode cX11_isAt 24 = .ok (.i2l, 1) := by decide +kernel
theorem dX11_isAt_25 : decode cX11_isAt 25 = .ok (.invokestatic 51, 3) := by decide +kernel
theorem dX11_isAt_28 : decode cX11_isAt 28 = .ok (.ifCond .eq 7, 3) := by decide +kernel
theorem dX11_isAt_31 : decode cX11_isAt 31 = .ok (.iconst 1, 1) := by decide +kernel
theorem dX11_isAt_32 : decode cX11_isAt 32 = .ok (.goto 4, 3) := by decide +kernel
theorem dX11_isAt_35 : decode cX11_isAt 35 = .ok (.iconst 0, 1) := by decide +kernel
theorem dX11_isAt_36 : decode cX11_isAt 36 = .ok (.ireturn, 1) := by decide +kernel
noncomputable def f_X11_isAt (x1 : Int32) (x2 : Int32) (μ : Mem) : Option Int32 :=
  jn (fun (y1 : Int32) =>
    ckB y1 (
      some y1
      )
    ) fun j2 =>
  jn (
    j2 0
    ) fun j3 =>
  if (μ.1 112 10) < (μ.1 112 9) then
    chk (μ.1 112 10) 150 (
      bd (f_X11_in (((μ.1 118 (ix (μ.1 112 10))) : Int32).toInt64) ((x1 : Int32).toInt64) ((x2 : Int32).toInt64)) fun r4 =>
      if r4 = 0 then
        j3
      else
        j2 1
      )
  else
    j3
set_option maxHeartbeats 4000000 in
set_option maxRecDepth 100000 in
theorem c_X11_isAt {g : GT} {x1 : Int32} {x2 : Int32} {μ : Mem} {r0 : Int32} (hf : f_X11_isAt x1 x2 μ = some r0) : CI g yX11_isAt cX11_isAt 3 (some .boolean) 2 [rf g 112, .int x1, .int x2] μ r0 μ := by
  refine mk_z (by decide) (Nat.le_of_ble_eq_true rfl) ?_
  intro G hX hR
  have hX : CX g G cX11_isAt RX11 3 2 := hX
  suffices S : ∀ K : Int32 → Prop, (∀ a, K a → a = r0) → Sim G (f_X11_isAt x1 x2 μ) K 0 [(0, rf g 112), (1, .int x1), (2, .int x2)] [] μ from S (fun a => a = r0) (fun a h => h) _ hf rfl
  intro K hK
  unfold f_X11_isAt
  refine s_aload_n hX dX11_isAt_0 rfl 0 rfl ?_
  refine s_getI hX flX11_96 rfl dX11_isAt_1 ?_
  refine s_aload_n hX dX11_isAt_4 rfl 0 rfl ?_
  refine s_getI hX flX11_92 rfl dX11_isAt_5 ?_
  refine s_jn (C := fun j => ∀ (y1 : Int32), Sim G (j y1) K 36 [] [.int y1] μ) ?_ (fun j2 hj2 => ?_)
  · intro y1
    show Sim G _ _ 36 [] [.int y1] μ
    refine s_ckB (fun hzb => ?_)
    exact s_zretr hzb hK hR dX11_isAt_36
  refine s_jn (C := fun j => Sim G (j) K 35 [] [] μ) ?_ (fun j3 hj3 => ?_)
  · skip
    show Sim G _ _ 35 [] [] μ
    refine s_iconst (v := 0) hX dX11_isAt_35 (by decide) ?_
    exact s_to hX [] rfl (hj2 0)
  refine s_icmp_ge hX 35 dX11_isAt_8 (by decide) ?_ ?_
  · exact s_to hX [] rfl (hj3)
  · refine s_aload_n hX dX11_isAt_11 rfl 0 rfl ?_
    refine s_getR hX (d := 6) 118 flX11_26 rfl rfl dX11_isAt_12 ?_
    refine s_aload_n hX dX11_isAt_15 rfl 0 rfl ?_
    refine s_getI hX flX11_96 rfl dX11_isAt_16 ?_
    refine s_iald hX rfl rfl dX11_isAt_19 ?_
    refine s_i2l hX dX11_isAt_20 ?_
    refine s_iload_n hX dX11_isAt_21 rfl 1 rfl ?_
    refine s_i2l hX dX11_isAt_22 ?_
    refine s_iload_n hX dX11_isAt_23 rfl 2 rfl ?_
    refine s_i2l hX dX11_isAt_24 ?_
    refine s_callSir hX [.long ((μ.1 118 (ix (μ.1 112 10))) : Int32).toInt64, .long (x1 : Int32).toInt64, .long (x2 : Int32).toInt64] skX11_in (fun r hF => c_X11_in  hF) mkX11_in cvX11_51 rfl rfl ⟨by omega, by decide, Nat.le_of_ble_eq_true rfl⟩ dX11_isAt_25 (fun r4 => ?_)
    refine s_if_eq hX 35 dX11_isAt_28 (by decide) ?_ ?_
    · exact s_to hX [] rfl (hj3)
    · refine s_iconst (v := 1) hX dX11_isAt_31 (by decide) ?_
      refine s_goto hX 36 dX11_isAt_32 (by decide) ?_
      exact s_to hX [] rfl (hj2 1)
theorem dX11_isLot_0 : decode cX11_isLot 0 = .ok (.iload_n 1, 1) := by decide +kernel
theorem dX11_isLot_1 : decode cX11_isLot 1 = .ok (.i2l, 1) := by decide +kernel
theorem dX11_isLot_2 : decode cX11_isLot 2 = .ok (.lconst 0, 1) := by decide +kernel
theorem dX11_isLot_3 : decode cX11_isLot 3 = .ok (.aload_n 0, 1) := by decide +kernel
theorem dX11_isLot_4 : decode cX11_isLot 4 = .ok (.getfield 7, 3) := by decide +kernel
theorem dX11_isLot_7 : decode cX11_isLot 7 = .ok (.iconst 1, 1) := by decide +kernel
theorem dX11_isLot_8 : decode cX11_isLot 8 = .ok (.iaload, 1) := by decide +kernel
theorem dX11_isLot_9 : decode cX11_isLot 9 = .ok (.iconst 1, 1) := by decide +kernel
theorem dX11_isLot_10 : decode cX11_isLot 10 = .ok (.isub, 1) := by decide +kernel
theorem dX11_isLot_11 : decode cX11_isLot 11 = .ok (.i2l, 1) := by decide +kernel
theorem dX11_isLot_12 : decode cX11_isLot 12 = .ok (.invokestatic 51, 3) := by decide +kernel
theorem dX11_isLot_15 : decode cX11_isLot 15 = .ok (.ireturn, 1) := by decide +kernel
noncomputable def f_X11_isLot (x1 : Int32) (μ : Mem) : Option Int32 :=
  bd (f_X11_in ((x1 : Int32).toInt64) 0 ((((μ.1 113 1) - 1) : Int32).toInt64)) fun r1 =>
  ckB r1 (
    some r1
    )
set_option maxHeartbeats 4000000 in
set_option maxRecDepth 100000 in
theorem c_X11_isLot {g : GT} {x1 : Int32} {μ : Mem} {r0 : Int32} (hf : f_X11_isLot x1 μ = some r0) : CI g yX11_isLot cX11_isLot 2 (some .boolean) 2 [rf g 112, .int x1] μ r0 μ := by
  refine mk_z (by decide) (Nat.le_of_ble_eq_true rfl) ?_
  intro G hX hR
  have hX : CX g G cX11_isLot RX11 2 2 := hX
  suffices S : ∀ K : Int32 → Prop, (∀ a, K a → a = r0) → Sim G (f_X11_isLot x1 μ) K 0 [(0, rf g 112), (1, .int x1)] [] μ from S (fun a => a = r0) (fun a h => h) _ hf rfl
  intro K hK
  unfold f_X11_isLot
  refine s_iload_n hX dX11_isLot_0 rfl 1 rfl ?_
  refine s_i2l hX dX11_isLot_1 ?_
  refine s_lconst (v := 0) hX dX11_isLot_2 (by decide) ?_
  refine s_aload_n hX dX11_isLot_3 rfl 0 rfl ?_
  refine s_getR hX (d := 1) 113 flX11_7 rfl rfl dX11_isLot_4 ?_
  refine s_iconst (v := 1) hX dX11_isLot_7 (by decide) ?_
  refine s_ialdK hX rfl rfl (by decide) rfl dX11_isLot_8 ?_
  refine s_iconst (v := 1) hX dX11_isLot_9 (by decide) ?_
  refine s_isub hX dX11_isLot_10 ?_
  refine s_i2l hX dX11_isLot_11 ?_
  refine s_callSir hX [.long (x1 : Int32).toInt64, .long 0, .long (((μ.1 113 1) - 1) : Int32).toInt64] skX11_in (fun r hF => c_X11_in  hF) mkX11_in cvX11_51 rfl rfl ⟨by omega, by decide, Nat.le_of_ble_eq_true rfl⟩ dX11_isLot_12 (fun r1 => ?_)
  refine s_ckB (fun hzb => ?_)
  exact s_zretr hzb hK hR dX11_isLot_15
theorem dX11_isSet_0 : decode cX11_isSet 0 = .ok (.iload_n 1, 1) := by decide +kernel
theorem dX11_isSet_1 : decode cX11_isSet 1 = .ok (.i2l, 1) := by decide +kernel
theorem dX11_isSet_2 : decode cX11_isSet 2 = .ok (.lconst 0, 1) := by decide +kernel
theorem dX11_isSet_3 : decode cX11_isSet 3 = .ok (.iconst 1, 1) := by decide +kernel
theorem dX11_isSet_4 : decode cX11_isSet 4 = .ok (.aload_n 0, 1) := by decide +kernel
theorem dX11_isSet_5 : decode cX11_isSet 5 = .ok (.getfield 7, 3) := by decide +kernel
theorem dX11_isSet_8 : decode cX11_isSet 8 = .ok (.iconst 0, 1) := by decide +kernel
theorem dX11_isSet_9 : decode cX11_isSet 9 = .ok (.iaload, 1) := by decide +kernel
theorem dX11_isSet_10 : decode cX11_isSet 10 = .ok (.ishl, 1) := by decide +kernel
theorem dX11_isSet_11 : decode cX11_isSet 11 = .ok (.iconst 1, 1) := by decide +kernel
theorem dX11_isSet_12 : decode cX11_isSet 12 = .ok (.isub, 1) := by decide +kernel
theorem dX11_isSet_13 : decode cX11_isSet 13 = .ok (.i2l, 1) := by decide +kernel
theorem dX11_isSet_14 : decode cX11_isSet 14 = .ok (.invokestatic 51, 3) := by decide +kernel
theorem dX11_isSet_17 : decode cX11_isSet 17 = .ok (.ireturn, 1) := by decide +kernel
noncomputable def f_X11_isSet (x1 : Int32) (μ : Mem) : Option Int32 :=
  bd (f_X11_in ((x1 : Int32).toInt64) 0 (((((1 : Int32) <<< ((μ.1 113 0) &&& 31)) - 1) : Int32).toInt64)) fun r1 =>
  ckB r1 (
    some r1
    )
set_option maxHeartbeats 4000000 in
set_option maxRecDepth 100000 in
theorem c_X11_isSet {g : GT} {x1 : Int32} {μ : Mem} {r0 : Int32} (hf : f_X11_isSet x1 μ = some r0) : CI g yX11_isSet cX11_isSet 2 (some .boolean) 2 [rf g 112, .int x1] μ r0 μ := by
  refine mk_z (by decide) (Nat.le_of_ble_eq_true rfl) ?_
  intro G hX hR
  have hX : CX g G cX11_isSet RX11 2 2 := hX
  suffices S : ∀ K : Int32 → Prop, (∀ a, K a → a = r0) → Sim G (f_X11_isSet x1 μ) K 0 [(0, rf g 112), (1, .int x1)] [] μ from S (fun a => a = r0) (fun a h => h) _ hf rfl
  intro K hK
  unfold f_X11_isSet
  refine s_iload_n hX dX11_isSet_0 rfl 1 rfl ?_
  refine s_i2l hX dX11_isSet_1 ?_
  refine s_lconst (v := 0) hX dX11_isSet_2 (by decide) ?_
  refine s_iconst (v := 1) hX dX11_isSet_3 (by decide) ?_
  refine s_aload_n hX dX11_isSet_4 rfl 0 rfl ?_
  refine s_getR hX (d := 1) 113 flX11_7 rfl rfl dX11_isSet_5 ?_
  refine s_iconst (v := 0) hX dX11_isSet_8 (by decide) ?_
  refine s_ialdK hX rfl rfl (by decide) rfl dX11_isSet_9 ?_
  refine s_ishl hX dX11_isSet_10 ?_
  refine s_iconst (v := 1) hX dX11_isSet_11 (by decide) ?_
  refine s_isub hX dX11_isSet_12 ?_
  refine s_i2l hX dX11_isSet_13 ?_
  refine s_callSir hX [.long (x1 : Int32).toInt64, .long 0, .long ((((1 : Int32) <<< ((μ.1 113 0) &&& 31)) - 1) : Int32).toInt64] skX11_in (fun r hF => c_X11_in  hF) mkX11_in cvX11_51 rfl rfl ⟨by omega, by decide, Nat.le_of_ble_eq_true rfl⟩ dX11_isSet_14 (fun r1 => ?_)
  refine s_ckB (fun hzb => ?_)
  exact s_zretr hzb hK hR dX11_isSet_17
theorem dX11_isVillage_0 : decode cX11_isVillage 0 = .ok (.iload_n 1, 1) := by decide +kernel
theorem dX11_isVillage_1 : decode cX11_isVillage 1 = .ok (.i2l, 1) := by decide +kernel
theorem dX11_isVillage_2 : decode cX11_isVillage 2 = .ok (.lconst 0, 1) := by decide +kernel
theorem dX11_isVillage_3 : decode cX11_isVillage 3 = .ok (.aload_n 0, 1) := by decide +kernel
theorem dX11_isVillage_4 : decode cX11_isVillage 4 = .ok (.getfield 7, 3) := by decide +kernel
theorem dX11_isVillage_7 : decode cX11_isVillage 7 = .ok (.iconst 0, 1) := by decide +kernel
theorem dX11_isVillage_8 : decode cX11_isVillage 8 = .ok (.iaload, 1) := by decide +kernel
theorem dX11_isVillage_9 : decode cX11_isVillage 9 = .ok (.iconst 1, 1) := by decide +kernel
theorem dX11_isVillage_10 : decode cX11_isVillage 10 = .ok (.isub, 1) := by decide +kernel
theorem dX11_isVillage_11 : decode cX11_isVillage 11 = .ok (.i2l, 1) := by decide +kernel
theorem dX11_isVillage_12 : decode cX11_isVillage 12 = .ok (.invokestatic 51, 3) := by decide +kernel
theorem dX11_isVillage_15 : decode cX11_isVillage 15 = .ok (.ireturn, 1) := by decide +kernel
noncomputable def f_X11_isVillage (x1 : Int32) (μ : Mem) : Option Int32 :=
  bd (f_X11_in ((x1 : Int32).toInt64) 0 ((((μ.1 113 0) - 1) : Int32).toInt64)) fun r1 =>
  ckB r1 (
    some r1
    )
set_option maxHeartbeats 4000000 in
set_option maxRecDepth 100000 in
theorem c_X11_isVillage {g : GT} {x1 : Int32} {μ : Mem} {r0 : Int32} (hf : f_X11_isVillage x1 μ = some r0) : CI g yX11_isVillage cX11_isVillage 2 (some .boolean) 2 [rf g 112, .int x1] μ r0 μ := by
  refine mk_z (by decide) (Nat.le_of_ble_eq_true rfl) ?_
  intro G hX hR
  have hX : CX g G cX11_isVillage RX11 2 2 := hX
  suffices S : ∀ K : Int32 → Prop, (∀ a, K a → a = r0) → Sim G (f_X11_isVillage x1 μ) K 0 [(0, rf g 112), (1, .int x1)] [] μ from S (fun a => a = r0) (fun a h => h) _ hf rfl
  intro K hK
  unfold f_X11_isVillage
  refine s_iload_n hX dX11_isVillage_0 rfl 1 rfl ?_
  refine s_i2l hX dX11_isVillage_1 ?_
  refine s_lconst (v := 0) hX dX11_isVillage_2 (by decide) ?_
  refine s_aload_n hX dX11_isVillage_3 rfl 0 rfl ?_
  refine s_getR hX (d := 1) 113 flX11_7 rfl rfl dX11_isVillage_4 ?_
  refine s_iconst (v := 0) hX dX11_isVillage_7 (by decide) ?_
  refine s_ialdK hX rfl rfl (by decide) rfl dX11_isVillage_8 ?_
  refine s_iconst (v := 1) hX dX11_isVillage_9 (by decide) ?_
  refine s_isub hX dX11_isVillage_10 ?_
  refine s_i2l hX dX11_isVillage_11 ?_
  refine s_callSir hX [.long (x1 : Int32).toInt64, .long 0, .long (((μ.1 113 0) - 1) : Int32).toInt64] skX11_in (fun r hF => c_X11_in  hF) mkX11_in cvX11_51 rfl rfl ⟨by omega, by decide, Nat.le_of_ble_eq_true rfl⟩ dX11_isVillage_12 (fun r1 => ?_)
  refine s_ckB (fun hzb => ?_)
  exact s_zretr hzb hK hR dX11_isVillage_15
theorem dX11_keeps_0 : decode cX11_keeps 0 = .ok (.lload_n 1, 1) := by decide +kernel
theorem dX11_keeps_1 : decode cX11_keeps 1 = .ok (.lload_n 3, 1) := by decide +kernel
theorem dX11_keeps_2 : decode cX11_keeps 2 = .ok (.invokestatic 221, 3) := by decide +kernel
theorem dX11_keeps_5 : decode cX11_keeps 5 = .ok (.lstore 5, 2) := by decide +kernel
theorem dX11_keeps_7 : decode cX11_keeps 7 = .ok (.aload_n 0, 1) := by decide +kernel
theorem dX11_keeps_8 : decode cX11_keeps 8 = .ok (.lload_n 1, 1) := by decide +kernel
theorem dX11_keeps_9 : decode cX11_keeps 9 = .ok (.lload 5, 2) := by decide +kernel
theorem dX11_keeps_11 : decode cX11_keeps 11 = .ok (.ldiv, 1) := by decide +kernel
theorem dX11_keeps_12 : decode cX11_keeps 12 = .ok (.putfield 225, 3) := by decide +kernel
theorem dX11_keeps_15 : decode cX11_keeps 15 = .ok (.aload_n 0, 1) := by decide +kernel
theorem dX11_keeps_16 : decode cX11_keeps 16 = .ok (.lload_n 3, 1) := by decide +kernel
theorem dX11_keeps_17 : decode cX11_keeps 17 = .ok (.lload 5, 2) := by decide +kernel
theorem dX11_keeps_19 : decode cX11_keeps 19 = .ok (.ldiv, 1) := by decide +kernel
theorem dX11_keeps_20 : decode cX11_keeps 20 = .ok (.putfield 35, 3) := by decide +kernel
theorem dX11_keeps_23 : decode cX11_keeps 23 = .ok (.iconst 1, 1) := by decide +kernel
theorem dX11_keeps_24 : decode cX11_keeps 24 = .ok (.ireturn, 1) := by decide +kernel
noncomputable def f_X11_keeps (x1 : Int64) (x3 : Int64) (μ : Mem) : Option (Int32 × Mem) :=
  bd (f_X11_divisor x1 x3) fun r1 =>
  ckZ r1 (
    lt (setL μ 112 6 (x1 / r1)) fun ν2 =>
    ckZ r1 (
      lt (setL ν2 112 7 (x3 / r1)) fun ν3 =>
      some (1, ν3)
      )
    )
set_option maxHeartbeats 4000000 in
set_option maxRecDepth 100000 in
theorem c_X11_keeps {g : GT} {x1 : Int64} {x3 : Int64} {μ : Mem} {μ0 : Mem} {r0 : Int32} (hf : f_X11_keeps x1 x3 μ = some (r0, μ0)) : CI g yX11_keeps cX11_keeps 7 (some .int) 2 [rf g 112, .long x1, .long x3] μ r0 μ0 := by
  refine mk_i (by decide) (Nat.le_of_ble_eq_true rfl) ?_
  intro G hX hR
  have hX : CX g G cX11_keeps RX11 7 2 := hX
  suffices S : ∀ K : (Int32 × Mem) → Prop, (∀ a, K a → a = (r0, μ0)) → Sim G (f_X11_keeps x1 x3 μ) K 0 [(0, rf g 112), (1, .long x1), (3, .long x3)] [] μ from S (fun a => a = (r0, μ0)) (fun a h => h) _ hf rfl
  intro K hK
  unfold f_X11_keeps
  refine s_lload_n hX dX11_keeps_0 rfl 1 rfl ?_
  refine s_lload_n hX dX11_keeps_1 rfl 2 rfl ?_
  refine s_callSlr hX [.long x1, .long x3] skX11_divisor (fun r hF => c_X11_divisor  hF) mkX11_divisor cvX11_221 rfl rfl ⟨by omega, by decide, Nat.le_of_ble_eq_true rfl⟩ dX11_keeps_2 (fun r1 => ?_)
  refine s_lstore (lv' := [(5, .long r1), (0, rf g 112), (1, .long x1), (3, .long x3)]) hX dX11_keeps_5 (by decide) rfl ?_
  refine s_aload_n hX dX11_keeps_7 rfl 1 rfl ?_
  refine s_lload_n hX dX11_keeps_8 rfl 2 rfl ?_
  refine s_lload hX dX11_keeps_9 0 rfl ?_
  refine s_ldivZ hX dX11_keeps_11 ?_
  refine s_putL hX flX11_225 rfl ⟨rfl, rfl⟩ dX11_keeps_12 (fun ν2 => ?_)
  refine s_aload_n hX dX11_keeps_15 rfl 1 rfl ?_
  refine s_lload_n hX dX11_keeps_16 rfl 3 rfl ?_
  refine s_lload hX dX11_keeps_17 0 rfl ?_
  refine s_ldivZ hX dX11_keeps_19 ?_
  refine s_putL hX flX11_35 rfl ⟨rfl, rfl⟩ dX11_keeps_20 (fun ν3 => ?_)
  refine s_iconst (v := 1) hX dX11_keeps_23 (by decide) ?_
  exact s_ireti hK hR dX11_keeps_24
theorem dX11_no_0 : decode cX11_no 0 = .ok (.aload_n 0, 1) := by decide +kernel
theorem dX11_no_1 : decode cX11_no 1 = .ok (.iconst 1, 1) := by decide +kernel
theorem dX11_no_2 : decode cX11_no 2 = .ok (.bipush (-3), 2) := by decide +kernel
theorem dX11_no_4 : decode cX11_no 4 = .ok (.invokevirtual 47, 3) := by decide +kernel
theorem dX11_no_7 : decode cX11_no 7 = .ok (.ireturn, 1) := by decide +kernel
noncomputable def f_X11_no  (μ : Mem) : Option (Int32 × Mem) :=
  bd2 (f_X11_refuses 1 (-3) μ) fun r1 ν2 =>
  some (r1, ν2)
set_option maxHeartbeats 4000000 in
set_option maxRecDepth 100000 in
theorem c_X11_no {g : GT}  {μ : Mem} {μ0 : Mem} {r0 : Int32} (hf : f_X11_no  μ = some (r0, μ0)) : CI g yX11_no cX11_no 1 (some .int) 2 [rf g 112] μ r0 μ0 := by
  refine mk_i (by decide) (Nat.le_of_ble_eq_true rfl) ?_
  intro G hX hR
  have hX : CX g G cX11_no RX11 1 2 := hX
  suffices S : ∀ K : (Int32 × Mem) → Prop, (∀ a, K a → a = (r0, μ0)) → Sim G (f_X11_no  μ) K 0 [(0, rf g 112)] [] μ from S (fun a => a = (r0, μ0)) (fun a h => h) _ hf rfl
  intro K hK
  unfold f_X11_no
  refine s_aload_n hX dX11_no_0 rfl 0 rfl ?_
  refine s_iconst (v := 1) hX dX11_no_1 (by decide) ?_
  refine s_bipush (v := (-3)) hX dX11_no_2 (by decide) ?_
  refine s_callViw hX [.int 1, .int (-3)] (k := 112) (ci := 10) rfl hc10 vkX11_refuses (fun r ν hF => c_X11_refuses  hF) mkX11_refuses cvX11_47 rfl rfl ⟨by omega, by decide, Nat.le_of_ble_eq_true rfl⟩ dX11_no_4 (fun r1 ν2 => ?_)
  exact s_ireti hK hR dX11_no_7
theorem dX11_part_0 : decode cX11_part 0 = .ok (.iload_n 1, 1) := by decide +kernel
theorem dX11_part_1 : decode cX11_part 1 = .ok (.ifCond .ne 10, 3) := by decide +kernel
theorem dX11_part_4 : decode cX11_part 4 = .ok (.aload_n 0, 1) := by decide +kernel
theorem dX11_part_5 : decode cX11_part 5 = .ok (.getfield 225, 3) := by decide +kernel
theorem dX11_part_8 : decode cX11_part 8 = .ok (.goto 24, 3) := by decide +kernel
theorem dX11_part_11 : decode cX11_part 11 = .ok (.iload_n 1, 1) := by decide +kernel
theorem dX11_part_12 : decode cX11_part 12 = .ok (.iconst 1, 1) := by decide +kernel
theorem dX11_part_13 : decode cX11_part 13 = .ok (.if_icmp .ne 10, 3) := by decide +kernel
theorem dX11_part_16 : decode cX11_part 16 = .ok (.aload_n 0, 1) := by decide +kernel
theorem dX11_part_17 : decode cX11_part 17 = .ok (.getfield 35, 3) := by decide +kernel
theorem dX11_part_20 : decode cX11_part 20 = .ok (.goto 12, 3) := by decide +kernel
theorem dX11_part_23 : decode cX11_part 23 = .ok (.aload_n 0, 1) := by decide +kernel
theorem dX11_part_24 : decode cX11_part 24 = .ok (.iconst 0, 1) := by decide +kernel
theorem dX11_part_25 : decode cX11_part 25 = .ok (.ldc_w 281, 3) := by decide +kernel
theorem dX11_part_28 : decode cX11_part 28 = .ok (.invokevirtual 47, 3) := by decide +kernel
theorem dX11_part_31 : decode cX11_part 31 = .ok (.i2l, 1) := by decide +kernel
theorem dX11_part_32 : decode cX11_part 32 = .ok (.lreturn, 1) := by decide +kernel
noncomputable def f_X11_part (x1 : Int32) (μ : Mem) : Option (Int64 × Mem) :=
  jn (fun (y1 : Int64) (ν2 : Mem) =>
    some (y1, ν2)
    ) fun j3 =>
  if x1 = 0 then
    j3 (μ.2 112 6) μ
  else
    if x1 = 1 then
      j3 (μ.2 112 7) μ
    else
      bd2 (f_X11_refuses 0 (-100000) μ) fun r4 ν5 =>
      j3 ((r4 : Int32).toInt64) ν5
set_option maxHeartbeats 4000000 in
set_option maxRecDepth 100000 in
theorem c_X11_part {g : GT} {x1 : Int32} {μ : Mem} {μ0 : Mem} {r0 : Int64} (hf : f_X11_part x1 μ = some (r0, μ0)) : CL g yX11_part cX11_part 2 (some .long) 2 [rf g 112, .int x1] μ r0 μ0 := by
  refine mk_l (by decide) (Nat.le_of_ble_eq_true rfl) ?_
  intro G hX hR
  have hX : CX g G cX11_part RX11 2 2 := hX
  suffices S : ∀ K : (Int64 × Mem) → Prop, (∀ a, K a → a = (r0, μ0)) → Sim G (f_X11_part x1 μ) K 0 [(0, rf g 112), (1, .int x1)] [] μ from S (fun a => a = (r0, μ0)) (fun a h => h) _ hf rfl
  intro K hK
  unfold f_X11_part
  refine s_iload_n hX dX11_part_0 rfl 1 rfl ?_
  refine s_jn (C := fun j => ∀ (y1 : Int64) (ν2 : Mem), Sim G (j y1 ν2) K 32 [] [.long y1] ν2) ?_ (fun j3 hj3 => ?_)
  · intro y1 ν2
    show Sim G _ _ 32 [] [.long y1] ν2
    exact s_lreti hK hR dX11_part_32
  refine s_if_ne hX 11 dX11_part_1 (by decide) ?_ ?_
  · refine s_iload_n hX dX11_part_11 rfl 1 rfl ?_
    refine s_iconst (v := 1) hX dX11_part_12 (by decide) ?_
    refine s_icmp_ne hX 23 dX11_part_13 (by decide) ?_ ?_
    · refine s_aload_n hX dX11_part_23 rfl 0 rfl ?_
      refine s_iconst (v := 0) hX dX11_part_24 (by decide) ?_
      refine s_ldcw hX dX11_part_25 kcX11_281 ?_
      refine s_callViw hX [.int 0, .int (-100000)] (k := 112) (ci := 10) rfl hc10 vkX11_refuses (fun r ν hF => c_X11_refuses  hF) mkX11_refuses cvX11_47 rfl rfl ⟨by omega, by decide, Nat.le_of_ble_eq_true rfl⟩ dX11_part_28 (fun r4 ν5 => ?_)
      refine s_i2l hX dX11_part_31 ?_
      exact s_to hX [] rfl (hj3 ((r4 : Int32).toInt64) ν5)
    · refine s_aload_n hX dX11_part_16 rfl 0 rfl ?_
      refine s_getL hX flX11_35 rfl dX11_part_17 ?_
      refine s_goto hX 32 dX11_part_20 (by decide) ?_
      exact s_to hX [] rfl (hj3 (μ.2 112 7) μ)
  · refine s_aload_n hX dX11_part_4 rfl 0 rfl ?_
    refine s_getL hX flX11_225 rfl dX11_part_5 ?_
    refine s_goto hX 32 dX11_part_8 (by decide) ?_
    exact s_to hX [] rfl (hj3 (μ.2 112 6) μ)
theorem dX11_reaches_0 : decode cX11_reaches 0 = .ok (.iconst 1, 1) := by decide +kernel
theorem dX11_reaches_1 : decode cX11_reaches 1 = .ok (.iload_n 1, 1) := by decide +kernel
theorem dX11_reaches_2 : decode cX11_reaches 2 = .ok (.ishl, 1) := by decide +kernel
theorem dX11_reaches_3 : decode cX11_reaches 3 = .ok (.istore_n 3, 1) := by decide +kernel
theorem dX11_reaches_4 : decode cX11_reaches 4 = .ok (.iconst 0, 1) := by decide +kernel
theorem dX11_reaches_5 : decode cX11_reaches 5 = .ok (.istore 4, 2) := by decide +kernel
theorem dX11_reaches_7 : decode cX11_reaches 7 = .ok (.iload 4, 2) := by decide +kernel
theorem dX11_reaches_9 : decode cX11_reaches 9 = .ok (.iconst 5, 1) := by decide +kernel
theorem dX11_reaches_10 : decode cX11_reaches 10 = .ok (.if_icmp .ge 16, 3) := by decide +kernel
theorem dX11_reaches_13 : decode cX11_reaches 13 = .ok (.aload_n 0, 1) := by decide +kernel
theorem dX11_reaches_14 : decode cX11_reaches 14 = .ok (.iload_n 3, 1) := by decide +kernel
theorem dX11_reaches_15 : decode cX11_reaches 15 = .ok (.iload_n 2, 1) := by decide +kernel
theorem dX11_reaches_16 : decode cX11_reaches 16 = .ok (.invokevirtual 247, 3) := by decide +kernel
theorem dX11_reaches_19 : decode cX11_reaches 19 = .ok (.istore_n 3, 1) := by decide +kernel
theorem dX11_reaches_20 : decode cX11_reaches 20 = .ok (.iinc 4 1, 3) := by decide +kernel
theorem dX11_reaches_23 : decode cX11_reaches 23 = .ok (.goto (-16), 3) := by decide +kernel
theorem dX11_reaches_26 : decode cX11_reaches 26 = .ok (.iload_n 3, 1) := by decide +kernel
theorem dX11_reaches_27 : decode cX11_reaches 27 = .ok (.ireturn, 1) := by decide +kernel
noncomputable def f_X11_reaches (x1 : Int32) (x2 : Int32) (μ : Mem) : Option Int32 :=
  bd (lp (ε := Int32) (cu2 fun (x3_1 : Int32) (x4_2 : Int32) =>
    if x4_2 < 5 then
      bd (f_X11_steps x3_1 x2 μ) fun r5 =>
      some (.inl (r5, (x4_2 + 1)))
    else
      some (.inr x3_1)
    ) (((1 : Int32) <<< (x1 &&& 31)), 0)) (fun (x3_3 : Int32) =>
    some x3_3
    )
set_option maxHeartbeats 4000000 in
set_option maxRecDepth 100000 in
theorem c_X11_reaches {g : GT} {x1 : Int32} {x2 : Int32} {μ : Mem} {r0 : Int32} (hf : f_X11_reaches x1 x2 μ = some r0) : CI g yX11_reaches cX11_reaches 5 (some .int) 2 [rf g 112, .int x1, .int x2] μ r0 μ := by
  refine mk_i (by decide) (Nat.le_of_ble_eq_true rfl) ?_
  intro G hX hR
  have hX : CX g G cX11_reaches RX11 5 2 := hX
  suffices S : ∀ K : Int32 → Prop, (∀ a, K a → a = r0) → Sim G (f_X11_reaches x1 x2 μ) K 0 [(0, rf g 112), (1, .int x1), (2, .int x2)] [] μ from S (fun a => a = r0) (fun a h => h) _ hf rfl
  intro K hK
  unfold f_X11_reaches
  refine s_iconst (v := 1) hX dX11_reaches_0 (by decide) ?_
  refine s_iload_n hX dX11_reaches_1 rfl 1 rfl ?_
  refine s_ishl hX dX11_reaches_2 ?_
  refine s_istore_n (lv' := [(3, .int ((1 : Int32) <<< (x1 &&& 31))), (0, rf g 112), (1, .int x1), (2, .int x2)]) hX dX11_reaches_3 rfl (by decide) rfl ?_
  refine s_iconst (v := 0) hX dX11_reaches_4 (by decide) ?_
  refine s_istore (lv' := [(4, .int 0), (3, .int ((1 : Int32) <<< (x1 &&& 31))), (0, rf g 112), (1, .int x1), (2, .int x2)]) hX dX11_reaches_5 (by decide) rfl ?_
  refine s_loop hX 7 26 (fun s : Int32 × Int32 => [(0, rf g 112), (2, .int x2), (3, .int s.1), (4, .int s.2)]) (fun s : Int32 × Int32 => μ) (fun s : Int32 => [(3, .int s)]) (fun s : Int32 => μ) [2, 4, 1, 0] rfl rfl rfl ?_ ?_
  · intro Kq4 hIq4 hJq4 sq
    obtain ⟨x3_1, x4_2⟩ := sq
    refine s_cu2 ?_
    show Sim G _ _ 7 [(0, rf g 112), (2, .int x2), (3, .int x3_1), (4, .int x4_2)] [] μ
    refine s_iload hX dX11_reaches_7 3 rfl ?_
    refine s_iconst (v := 5) hX dX11_reaches_9 (by decide) ?_
    refine s_icmp_ge hX 26 dX11_reaches_10 (by decide) ?_ ?_
    · exact s_end hX (hJq4 x3_1) [2] rfl
    · refine s_aload_n hX dX11_reaches_13 rfl 0 rfl ?_
      refine s_iload_n hX dX11_reaches_14 rfl 2 rfl ?_
      refine s_iload_n hX dX11_reaches_15 rfl 1 rfl ?_
      refine s_callVir hX [.int x3_1, .int x2] (k := 112) (ci := 10) rfl hc10 vkX11_steps (fun r hF => c_X11_steps  hF) mkX11_steps cvX11_247 rfl rfl ⟨by omega, by decide, Nat.le_of_ble_eq_true rfl⟩ dX11_reaches_16 (fun r5 => ?_)
      refine s_istore_n (lv' := [(3, .int r5), (0, rf g 112), (2, .int x2), (4, .int x4_2)]) hX dX11_reaches_19 rfl (by decide) rfl ?_
      refine s_iinc (v := (x4_2 + 1)) (lv' := [(4, .int (x4_2 + 1)), (3, .int r5), (0, rf g 112), (2, .int x2)]) hX dX11_reaches_20 3 rfl rfl (by decide) rfl ?_
      refine s_goto hX 7 dX11_reaches_23 (by decide) ?_
      exact s_end hX (hIq4 (r5, (x4_2 + 1))) [2, 3, 1, 0] rfl
  · intro sq
    obtain ⟨x3_3, rfl⟩ : ∃ z, z = sq := ⟨_, rfl⟩
    show Sim G _ _ 26 [(3, .int x3_3)] [] μ
    refine s_iload_n hX dX11_reaches_26 rfl 0 rfl ?_
    exact s_iretr hK hR dX11_reaches_27
theorem dX11_sightOf_0 : decode cX11_sightOf 0 = .ok (.iconst 0, 1) := by decide +kernel
theorem dX11_sightOf_1 : decode cX11_sightOf 1 = .ok (.istore_n 3, 1) := by decide +kernel
theorem dX11_sightOf_2 : decode cX11_sightOf 2 = .ok (.iconst 0, 1) := by decide +kernel
theorem dX11_sightOf_3 : decode cX11_sightOf 3 = .ok (.istore 4, 2) := by decide +kernel
theorem dX11_sightOf_5 : decode cX11_sightOf 5 = .ok (.iload 4, 2) := by decide +kernel
theorem dX11_sightOf_7 : decode cX11_sightOf 7 = .ok (.aload_n 0, 1) := by decide +kernel
theorem dX11_sightOf_8 : decode cX11_sightOf 8 = .ok (.getfield 7, 3) := by decide +kernel
theorem dX11_sightOf_11 : decode cX11_sightOf 11 = .ok (.iconst 1, 1) := by decide +kernel
theorem dX11_sightOf_12 : decode cX11_sightOf 12 = .ok (.iaload, 1) := by decide +kernel
theorem dX11_sightOf_13 : decode cX11_sightOf 13 = .ok (.if_icmp .ge 51, 3) := by decide +kernel
theorem dX11_sightOf_16 : decode cX11_sightOf 16 = .ok (.iload_n 3, 1) := by decide +kernel
theorem dX11_sightOf_17 : decode cX11_sightOf 17 = .ok (.aload_n 0, 1) := by decide +kernel
theorem dX11_sightOf_18 : decode cX11_sightOf 18 = .ok (.getfield 7, 3) := by decide +kernel
theorem dX11_sightOf_21 : decode cX11_sightOf 21 = .ok (.bipush 16, 2) := by decide +kernel
theorem dX11_sightOf_23 : decode cX11_sightOf 23 = .ok (.iload 4, 2) := by decide +kernel
theorem dX11_sightOf_25 : decode cX11_sightOf 25 = .ok (.iadd, 1) := by decide +kernel
theorem dX11_sightOf_26 : decode cX11_sightOf 26 = .ok (.iaload, 1) := by decide +kernel
theorem dX11_sightOf_27 : decode cX11_sightOf 27 = .ok (.iload_n 1, 1) := by decide +kernel
theorem dX11_sightOf_28 : decode cX11_sightOf 28 = .ok (.if_icmp .ne 27, 3) := by decide +kernel
theorem dX11_sightOf_31 : decode cX11_sightOf 31 = .ok (.aload_n 0, 1) := by decide +kernel
theorem dX11_sightOf_32 : decode cX11_sightOf 32 = .ok (.getfield 7, 3) := by decide +kernel
theorem dX11_sightOf_35 : decode cX11_sightOf 35 = .ok (.bipush 6, 2) := by decide +kernel
theorem dX11_sightOf_37 : decode cX11_sightOf 37 = .ok (.iload 4, 2) := by decide +kernel
theorem dX11_sightOf_39 : decode cX11_sightOf 39 = .ok (.iadd, 1) := by decide +kernel
theorem dX11_sightOf_40 : decode cX11_sightOf 40 = .ok (.iaload, 1) := by decide +kernel
theorem dX11_sightOf_41 : decode cX11_sightOf 41 = .ok (.aload_n 0, 1) := by decide +kernel
theorem dX11_sightOf_42 : decode cX11_sightOf 42 = .ok (.getfield 32, 3) := by decide +kernel
theorem dX11_sightOf_45 : decode cX11_sightOf 45 = .ok (.iload 4, 2) := by decide +kernel
theorem dX11_sightOf_47 : decode cX11_sightOf 47 = .ok (.iaload, 1) := by decide +kernel
theorem dX11_sightOf_48 : decode cX11_sightOf 48 = .ok (.iload_n 2, 1) := by decide +kernel
theorem dX11_sightOf_49 : decode cX11_sightOf 49 = .ok (.invokestatic 168, 3) := by decide +kernel
theorem dX11_sightOf_52 : decode cX11_sightOf 52 = .ok (.goto 4, 3) := by decide +kernel
theorem dX11_sightOf_55 : decode cX11_sightOf 55 = .ok (.iconst 0, 1) := by decide +kernel
theorem dX11_sightOf_56 : decode cX11_sightOf 56 = .ok (.iadd, 1) := by decide +kernel
theorem dX11_sightOf_57 : decode cX11_sightOf 57 = .ok (.istore_n 3, 1) := by decide +kernel
theorem dX11_sightOf_58 : decode cX11_sightOf 58 = .ok (.iinc 4 1, 3) := by decide +kernel
theorem dX11_sightOf_61 : decode cX11_sightOf 61 = .ok (.goto (-56), 3) := by decide +kernel
theorem dX11_sightOf_64 : decode cX11_sightOf 64 = .ok (.iload_n 3, 1) := by decide +kernel
theorem dX11_sightOf_65 : decode cX11_sightOf 65 = .ok (.ireturn, 1) := by decide +kernel
noncomputable def f_X11_sightOf (x1 : Int32) (x2 : Int32) (μ : Mem) : Option Int32 :=
  bd (lp (ε := Int32) (cu2 fun (x3_1 : Int32) (x4_2 : Int32) =>
    if x4_2 < (μ.1 113 1) then
      chk (16 + x4_2) 184 (
        jn (fun (y5 : Int32) =>
          some (.inl ((x3_1 + y5), (x4_2 + 1)))
          ) fun j6 =>
        if (μ.1 113 (ix (16 + x4_2))) = x1 then
          chk (6 + x4_2) 184 (
            chk x4_2 10 (
              bd (f_X11_seenOf (μ.1 113 (ix (6 + x4_2))) (μ.1 120 (ix x4_2)) x2) fun r7 =>
              j6 r7
              )
            )
        else
          j6 0
        )
    else
      some (.inr x3_1)
    ) (0, 0)) (fun (x3_3 : Int32) =>
    some x3_3
    )
set_option maxHeartbeats 4000000 in
set_option maxRecDepth 100000 in
theorem c_X11_sightOf {g : GT} {x1 : Int32} {x2 : Int32} {μ : Mem} {r0 : Int32} (hf : f_X11_sightOf x1 x2 μ = some r0) : CI g yX11_sightOf cX11_sightOf 5 (some .int) 2 [rf g 112, .int x1, .int x2] μ r0 μ := by
  refine mk_i (by decide) (Nat.le_of_ble_eq_true rfl) ?_
  intro G hX hR
  have hX : CX g G cX11_sightOf RX11 5 2 := hX
  suffices S : ∀ K : Int32 → Prop, (∀ a, K a → a = r0) → Sim G (f_X11_sightOf x1 x2 μ) K 0 [(0, rf g 112), (1, .int x1), (2, .int x2)] [] μ from S (fun a => a = r0) (fun a h => h) _ hf rfl
  intro K hK
  unfold f_X11_sightOf
  refine s_iconst (v := 0) hX dX11_sightOf_0 (by decide) ?_
  refine s_istore_n (lv' := [(3, .int 0), (0, rf g 112), (1, .int x1), (2, .int x2)]) hX dX11_sightOf_1 rfl (by decide) rfl ?_
  refine s_iconst (v := 0) hX dX11_sightOf_2 (by decide) ?_
  refine s_istore (lv' := [(4, .int 0), (3, .int 0), (0, rf g 112), (1, .int x1), (2, .int x2)]) hX dX11_sightOf_3 (by decide) rfl ?_
  refine s_loop hX 5 64 (fun s : Int32 × Int32 => [(0, rf g 112), (1, .int x1), (2, .int x2), (3, .int s.1), (4, .int s.2)]) (fun s : Int32 × Int32 => μ) (fun s : Int32 => [(3, .int s)]) (fun s : Int32 => μ) [2, 3, 4, 1, 0] rfl rfl rfl ?_ ?_
  · intro Kq4 hIq4 hJq4 sq
    obtain ⟨x3_1, x4_2⟩ := sq
    refine s_cu2 ?_
    show Sim G _ _ 5 [(0, rf g 112), (1, .int x1), (2, .int x2), (3, .int x3_1), (4, .int x4_2)] [] μ
    refine s_iload hX dX11_sightOf_5 4 rfl ?_
    refine s_aload_n hX dX11_sightOf_7 rfl 0 rfl ?_
    refine s_getR hX (d := 1) 113 flX11_7 rfl rfl dX11_sightOf_8 ?_
    refine s_iconst (v := 1) hX dX11_sightOf_11 (by decide) ?_
    refine s_ialdK hX rfl rfl (by decide) rfl dX11_sightOf_12 ?_
    refine s_icmp_ge hX 64 dX11_sightOf_13 (by decide) ?_ ?_
    · exact s_end hX (hJq4 x3_1) [3] rfl
    · refine s_iload_n hX dX11_sightOf_16 rfl 3 rfl ?_
      refine s_aload_n hX dX11_sightOf_17 rfl 0 rfl ?_
      refine s_getR hX (d := 1) 113 flX11_7 rfl rfl dX11_sightOf_18 ?_
      refine s_bipush (v := 16) hX dX11_sightOf_21 (by decide) ?_
      refine s_iload hX dX11_sightOf_23 4 rfl ?_
      refine s_iadd hX dX11_sightOf_25 ?_
      refine s_iald hX rfl rfl dX11_sightOf_26 ?_
      refine s_iload_n hX dX11_sightOf_27 rfl 1 rfl ?_
      refine s_jn (C := fun j => ∀ (y5 : Int32), Sim G (j y5) Kq4 56 [(0, rf g 112), (1, .int x1), (2, .int x2), (4, .int x4_2)] [.int y5, .int x3_1] μ) ?_ (fun j6 hj6 => ?_)
      · intro y5
        show Sim G _ _ 56 [(0, rf g 112), (1, .int x1), (2, .int x2), (4, .int x4_2)] [.int y5, .int x3_1] μ
        refine s_iadd hX dX11_sightOf_56 ?_
        refine s_istore_n (lv' := [(3, .int (x3_1 + y5)), (0, rf g 112), (1, .int x1), (2, .int x2), (4, .int x4_2)]) hX dX11_sightOf_57 rfl (by decide) rfl ?_
        refine s_iinc (v := (x4_2 + 1)) (lv' := [(4, .int (x4_2 + 1)), (3, .int (x3_1 + y5)), (0, rf g 112), (1, .int x1), (2, .int x2)]) hX dX11_sightOf_58 4 rfl rfl (by decide) rfl ?_
        refine s_goto hX 5 dX11_sightOf_61 (by decide) ?_
        exact s_end hX (hIq4 ((x3_1 + y5), (x4_2 + 1))) [2, 3, 4, 1, 0] rfl
      refine s_icmp_ne hX 55 dX11_sightOf_28 (by decide) ?_ ?_
      · refine s_iconst (v := 0) hX dX11_sightOf_55 (by decide) ?_
        exact s_to hX [0, 1, 2, 4] rfl (hj6 0)
      · refine s_aload_n hX dX11_sightOf_31 rfl 0 rfl ?_
        refine s_getR hX (d := 1) 113 flX11_7 rfl rfl dX11_sightOf_32 ?_
        refine s_bipush (v := 6) hX dX11_sightOf_35 (by decide) ?_
        refine s_iload hX dX11_sightOf_37 4 rfl ?_
        refine s_iadd hX dX11_sightOf_39 ?_
        refine s_iald hX rfl rfl dX11_sightOf_40 ?_
        refine s_aload_n hX dX11_sightOf_41 rfl 0 rfl ?_
        refine s_getR hX (d := 8) 120 flX11_32 rfl rfl dX11_sightOf_42 ?_
        refine s_iload hX dX11_sightOf_45 4 rfl ?_
        refine s_iald hX rfl rfl dX11_sightOf_47 ?_
        refine s_iload_n hX dX11_sightOf_48 rfl 2 rfl ?_
        refine s_callSir hX [.int (μ.1 113 (ix (6 + x4_2))), .int (μ.1 120 (ix x4_2)), .int x2] skX11_seenOf (fun r hF => c_X11_seenOf  hF) mkX11_seenOf cvX11_168 rfl rfl ⟨by omega, by decide, Nat.le_of_ble_eq_true rfl⟩ dX11_sightOf_49 (fun r7 => ?_)
        refine s_goto hX 56 dX11_sightOf_52 (by decide) ?_
        exact s_to hX [0, 1, 2, 4] rfl (hj6 r7)
  · intro sq
    obtain ⟨x3_3, rfl⟩ : ∃ z, z = sq := ⟨_, rfl⟩
    show Sim G _ _ 64 [(3, .int x3_3)] [] μ
    refine s_iload_n hX dX11_sightOf_64 rfl 0 rfl ?_
    exact s_iretr hK hR dX11_sightOf_65
theorem dX11_status_0 : decode cX11_status 0 = .ok (.iload_n 1, 1) := by decide +kernel
theorem dX11_status_1 : decode cX11_status 1 = .ok (.i2l, 1) := by decide +kernel
theorem dX11_status_2 : decode cX11_status 2 = .ok (.lconst 0, 1) := by decide +kernel
theorem dX11_status_3 : decode cX11_status 3 = .ok (.ldc2_w 214, 3) := by decide +kernel
theorem dX11_status_6 : decode cX11_status 6 = .ok (.invokestatic 51, 3) := by decide +kernel
theorem dX11_status_9 : decode cX11_status 9 = .ok (.ifCond .eq 12, 3) := by decide +kernel
theorem dX11_status_12 : decode cX11_status 12 = .ok (.aload_n 0, 1) := by decide +kernel
theorem dX11_status_13 : decode cX11_status 13 = .ok (.getfield 23, 3) := by decide +kernel
theorem dX11_status_16 : decode cX11_status 16 = .ok (.iload_n 1, 1) := by decide +kernel
theorem dX11_status_17 : decode cX11_status 17 = .ok (.iaload, 1) := by decide +kernel
theorem dX11_status_18 : decode cX11_status 18 = .ok (.goto 9, 3) := by decide +kernel
theorem dX11_status_21 : decode cX11_status 21 = .ok (.aload_n 0, 1) := by decide +kernel
theorem dX11_status_22 : decode cX11_status 22 = .ok (.iconst 0, 1) := by decide +kernel
theorem dX11_status_23 : decode cX11_status 23 = .ok (.iconst (-1), 1) := by decide +kernel
theorem dX11_status_24 : decode cX11_status 24 = .ok (.invokevirtual 47, 3) := by decide +kernel
theorem dX11_status_27 : decode cX11_status 27 = .ok (.ireturn, 1) := by decide +kernel
noncomputable def f_X11_status (x1 : Int32) (μ : Mem) : Option (Int32 × Mem) :=
  bd (f_X11_in ((x1 : Int32).toInt64) 0 2) fun r1 =>
  jn (fun (y2 : Int32) (ν3 : Mem) =>
    some (y2, ν3)
    ) fun j4 =>
  if r1 = 0 then
    bd2 (f_X11_refuses 0 (-1) μ) fun r5 ν6 =>
    j4 r5 ν6
  else
    chk x1 3 (
      j4 (μ.1 117 (ix x1)) μ
      )
set_option maxHeartbeats 4000000 in
set_option maxRecDepth 100000 in
theorem c_X11_status {g : GT} {x1 : Int32} {μ : Mem} {μ0 : Mem} {r0 : Int32} (hf : f_X11_status x1 μ = some (r0, μ0)) : CI g yX11_status cX11_status 2 (some .int) 2 [rf g 112, .int x1] μ r0 μ0 := by
  refine mk_i (by decide) (Nat.le_of_ble_eq_true rfl) ?_
  intro G hX hR
  have hX : CX g G cX11_status RX11 2 2 := hX
  suffices S : ∀ K : (Int32 × Mem) → Prop, (∀ a, K a → a = (r0, μ0)) → Sim G (f_X11_status x1 μ) K 0 [(0, rf g 112), (1, .int x1)] [] μ from S (fun a => a = (r0, μ0)) (fun a h => h) _ hf rfl
  intro K hK
  unfold f_X11_status
  refine s_iload_n hX dX11_status_0 rfl 1 rfl ?_
  refine s_i2l hX dX11_status_1 ?_
  refine s_lconst (v := 0) hX dX11_status_2 (by decide) ?_
  refine s_ldc2 hX dX11_status_3 klX11_214 ?_
  refine s_callSir hX [.long (x1 : Int32).toInt64, .long 0, .long 2] skX11_in (fun r hF => c_X11_in  hF) mkX11_in cvX11_51 rfl rfl ⟨by omega, by decide, Nat.le_of_ble_eq_true rfl⟩ dX11_status_6 (fun r1 => ?_)
  refine s_jn (C := fun j => ∀ (y2 : Int32) (ν3 : Mem), Sim G (j y2 ν3) K 27 [] [.int y2] ν3) ?_ (fun j4 hj4 => ?_)
  · intro y2 ν3
    show Sim G _ _ 27 [] [.int y2] ν3
    exact s_ireti hK hR dX11_status_27
  refine s_if_eq hX 21 dX11_status_9 (by decide) ?_ ?_
  · refine s_aload_n hX dX11_status_21 rfl 0 rfl ?_
    refine s_iconst (v := 0) hX dX11_status_22 (by decide) ?_
    refine s_iconst (v := (-1)) hX dX11_status_23 (by decide) ?_
    refine s_callViw hX [.int 0, .int (-1)] (k := 112) (ci := 10) rfl hc10 vkX11_refuses (fun r ν hF => c_X11_refuses  hF) mkX11_refuses cvX11_47 rfl rfl ⟨by omega, by decide, Nat.le_of_ble_eq_true rfl⟩ dX11_status_24 (fun r5 ν6 => ?_)
    exact s_to hX [] rfl (hj4 r5 ν6)
  · refine s_aload_n hX dX11_status_12 rfl 0 rfl ?_
    refine s_getR hX (d := 5) 117 flX11_23 rfl rfl dX11_status_13 ?_
    refine s_iload_n hX dX11_status_16 rfl 1 rfl ?_
    refine s_iald hX rfl rfl dX11_status_17 ?_
    refine s_goto hX 27 dX11_status_18 (by decide) ?_
    exact s_to hX [] rfl (hj4 (μ.1 117 (ix x1)) μ)
theorem dX11_tithe_0 : decode cX11_tithe 0 = .ok (.iconst 0, 1) := by decide +kernel
theorem dX11_tithe_1 : decode cX11_tithe 1 = .ok (.istore_n 2, 1) := by decide +kernel
theorem dX11_tithe_2 : decode cX11_tithe 2 = .ok (.iconst 0, 1) := by decide +kernel
theorem dX11_tithe_3 : decode cX11_tithe 3 = .ok (.istore_n 3, 1) := by decide +kernel
theorem dX11_tithe_4 : decode cX11_tithe 4 = .ok (.iload_n 3, 1) := by decide +kernel
theorem dX11_tithe_5 : decode cX11_tithe 5 = .ok (.aload_n 0, 1) := by decide +kernel
theorem dX11_tithe_6 : decode cX11_tithe 6 = .ok (.getfield 7, 3) := by decide +kernel
theorem dX11_tithe_9 : decode cX11_tithe 9 = .ok (.iconst 1, 1) := by decide +kernel
theorem dX11_tithe_10 : decode cX11_tithe 10 = .ok (.iaload, 1) := by decide +kernel
theorem dX11_tithe_11 : decode cX11_tithe 11 = .ok (.if_icmp .ge 47, 3) := by decide +kernel
theorem dX11_tithe_14 : decode cX11_tithe 14 = .ok (.iload_n 2, 1) := by decide +kernel
theorem dX11_tithe_15 : decode cX11_tithe 15 = .ok (.aload_n 0, 1) := by decide +kernel
theorem dX11_tithe_16 : decode cX11_tithe 16 = .ok (.getfield 7, 3) := by decide +kernel
theorem dX11_tithe_19 : decode cX11_tithe 19 = .ok (.bipush 16, 2) := by decide +kernel
theorem dX11_tithe_21 : decode cX11_tithe 21 = .ok (.iload_n 3, 1) := by decide +kernel
theorem dX11_tithe_22 : decode cX11_tithe 22 = .ok (.iadd, 1) := by decide +kernel
theorem dX11_tithe_23 : decode cX11_tithe 23 = .ok (.iaload, 1) := by decide +kernel
theorem dX11_tithe_24 : decode cX11_tithe 24 = .ok (.iload_n 1, 1) := by decide +kernel
theorem dX11_tithe_25 : decode cX11_tithe 25 = .ok (.if_icmp .ne 24, 3) := by decide +kernel
theorem dX11_tithe_28 : decode cX11_tithe 28 = .ok (.aload_n 0, 1) := by decide +kernel
theorem dX11_tithe_29 : decode cX11_tithe 29 = .ok (.getfield 7, 3) := by decide +kernel
theorem dX11_tithe_32 : decode cX11_tithe 32 = .ok (.bipush 6, 2) := by decide +kernel
theorem dX11_tithe_34 : decode cX11_tithe 34 = .ok (.iload_n 3, 1) := by decide +kernel
theorem dX11_tithe_35 : decode cX11_tithe 35 = .ok (.iadd, 1) := by decide +kernel
theorem dX11_tithe_36 : decode cX11_tithe 36 = .ok (.iaload, 1) := by decide +kernel
theorem dX11_tithe_37 : decode cX11_tithe 37 = .ok (.aload_n 0, 1) := by decide +kernel
theorem dX11_tithe_38 : decode cX11_tithe 38 = .ok (.getfield 32, 3) := by decide +kernel
theorem dX11_tithe_41 : decode cX11_tithe 41 = .ok (.iload_n 3, 1) := by decide +kernel
theorem dX11_tithe_42 : decode cX11_tithe 42 = .ok (.iaload, 1) := by decide +kernel
theorem dX11_tithe_43 : decode cX11_tithe 43 = .ok (.invokestatic 174, 3) := by decide +kernel
theorem dX11_tithe_46 : decode cX11_tithe 46 = .ok (.goto 4, 3) := by decide +kernel
theorem dX11_tithe_49 : decode cX11_tithe 49 = .ok (.iconst 0, 1) := by decide +kernel
theorem dX11_tithe_50 : decode cX11_tithe 50 = .ok (.iadd, 1) := by decide +kernel
theorem dX11_tithe_51 : decode cX11_tithe 51 = .ok (.istore_n 2, 1) := by decide +kernel
theorem dX11_tithe_52 : decode cX11_tithe 52 = .ok (.iinc 3 1, 3) := by decide +kernel
theorem dX11_tithe_55 : decode cX11_tithe 55 = .ok (.goto (-51), 3) := by decide +kernel
theorem dX11_tithe_58 : decode cX11_tithe 58 = .ok (.iload_n 2, 1) := by decide +kernel
theorem dX11_tithe_59 : decode cX11_tithe 59 = .ok (.ireturn, 1) := by decide +kernel
noncomputable def f_X11_tithe (x1 : Int32) (μ : Mem) : Option Int32 :=
  bd (lp (ε := Int32) (cu2 fun (x2_1 : Int32) (x3_2 : Int32) =>
    if x3_2 < (μ.1 113 1) then
      chk (16 + x3_2) 184 (
        jn (fun (y5 : Int32) =>
          some (.inl ((x2_1 + y5), (x3_2 + 1)))
          ) fun j6 =>
        if (μ.1 113 (ix (16 + x3_2))) = x1 then
          chk (6 + x3_2) 184 (
            chk x3_2 10 (
              bd (f_X11_takenOf (μ.1 113 (ix (6 + x3_2))) (μ.1 120 (ix x3_2))) fun r7 =>
              j6 r7
              )
            )
        else
          j6 0
        )
    else
      some (.inr x2_1)
    ) (0, 0)) (fun (x2_3 : Int32) =>
    some x2_3
    )
set_option maxHeartbeats 4000000 in
set_option maxRecDepth 100000 in
theorem c_X11_tithe {g : GT} {x1 : Int32} {μ : Mem} {r0 : Int32} (hf : f_X11_tithe x1 μ = some r0) : CI g yX11_tithe cX11_tithe 4 (some .int) 2 [rf g 112, .int x1] μ r0 μ := by
  refine mk_i (by decide) (Nat.le_of_ble_eq_true rfl) ?_
  intro G hX hR
  have hX : CX g G cX11_tithe RX11 4 2 := hX
  suffices S : ∀ K : Int32 → Prop, (∀ a, K a → a = r0) → Sim G (f_X11_tithe x1 μ) K 0 [(0, rf g 112), (1, .int x1)] [] μ from S (fun a => a = r0) (fun a h => h) _ hf rfl
  intro K hK
  unfold f_X11_tithe
  refine s_iconst (v := 0) hX dX11_tithe_0 (by decide) ?_
  refine s_istore_n (lv' := [(2, .int 0), (0, rf g 112), (1, .int x1)]) hX dX11_tithe_1 rfl (by decide) rfl ?_
  refine s_iconst (v := 0) hX dX11_tithe_2 (by decide) ?_
  refine s_istore_n (lv' := [(3, .int 0), (2, .int 0), (0, rf g 112), (1, .int x1)]) hX dX11_tithe_3 rfl (by decide) rfl ?_
  refine s_loop hX 4 58 (fun s : Int32 × Int32 => [(0, rf g 112), (1, .int x1), (2, .int s.1), (3, .int s.2)]) (fun s : Int32 × Int32 => μ) (fun s : Int32 => [(2, .int s)]) (fun s : Int32 => μ) [2, 3, 1, 0] rfl rfl rfl ?_ ?_
  · intro Kq4 hIq4 hJq4 sq
    obtain ⟨x2_1, x3_2⟩ := sq
    refine s_cu2 ?_
    show Sim G _ _ 4 [(0, rf g 112), (1, .int x1), (2, .int x2_1), (3, .int x3_2)] [] μ
    refine s_iload_n hX dX11_tithe_4 rfl 3 rfl ?_
    refine s_aload_n hX dX11_tithe_5 rfl 0 rfl ?_
    refine s_getR hX (d := 1) 113 flX11_7 rfl rfl dX11_tithe_6 ?_
    refine s_iconst (v := 1) hX dX11_tithe_9 (by decide) ?_
    refine s_ialdK hX rfl rfl (by decide) rfl dX11_tithe_10 ?_
    refine s_icmp_ge hX 58 dX11_tithe_11 (by decide) ?_ ?_
    · exact s_end hX (hJq4 x2_1) [2] rfl
    · refine s_iload_n hX dX11_tithe_14 rfl 2 rfl ?_
      refine s_aload_n hX dX11_tithe_15 rfl 0 rfl ?_
      refine s_getR hX (d := 1) 113 flX11_7 rfl rfl dX11_tithe_16 ?_
      refine s_bipush (v := 16) hX dX11_tithe_19 (by decide) ?_
      refine s_iload_n hX dX11_tithe_21 rfl 3 rfl ?_
      refine s_iadd hX dX11_tithe_22 ?_
      refine s_iald hX rfl rfl dX11_tithe_23 ?_
      refine s_iload_n hX dX11_tithe_24 rfl 1 rfl ?_
      refine s_jn (C := fun j => ∀ (y5 : Int32), Sim G (j y5) Kq4 50 [(0, rf g 112), (1, .int x1), (3, .int x3_2)] [.int y5, .int x2_1] μ) ?_ (fun j6 hj6 => ?_)
      · intro y5
        show Sim G _ _ 50 [(0, rf g 112), (1, .int x1), (3, .int x3_2)] [.int y5, .int x2_1] μ
        refine s_iadd hX dX11_tithe_50 ?_
        refine s_istore_n (lv' := [(2, .int (x2_1 + y5)), (0, rf g 112), (1, .int x1), (3, .int x3_2)]) hX dX11_tithe_51 rfl (by decide) rfl ?_
        refine s_iinc (v := (x3_2 + 1)) (lv' := [(3, .int (x3_2 + 1)), (2, .int (x2_1 + y5)), (0, rf g 112), (1, .int x1)]) hX dX11_tithe_52 3 rfl rfl (by decide) rfl ?_
        refine s_goto hX 4 dX11_tithe_55 (by decide) ?_
        exact s_end hX (hIq4 ((x2_1 + y5), (x3_2 + 1))) [2, 3, 1, 0] rfl
      refine s_icmp_ne hX 49 dX11_tithe_25 (by decide) ?_ ?_
      · refine s_iconst (v := 0) hX dX11_tithe_49 (by decide) ?_
        exact s_to hX [0, 1, 3] rfl (hj6 0)
      · refine s_aload_n hX dX11_tithe_28 rfl 0 rfl ?_
        refine s_getR hX (d := 1) 113 flX11_7 rfl rfl dX11_tithe_29 ?_
        refine s_bipush (v := 6) hX dX11_tithe_32 (by decide) ?_
        refine s_iload_n hX dX11_tithe_34 rfl 3 rfl ?_
        refine s_iadd hX dX11_tithe_35 ?_
        refine s_iald hX rfl rfl dX11_tithe_36 ?_
        refine s_aload_n hX dX11_tithe_37 rfl 0 rfl ?_
        refine s_getR hX (d := 8) 120 flX11_32 rfl rfl dX11_tithe_38 ?_
        refine s_iload_n hX dX11_tithe_41 rfl 3 rfl ?_
        refine s_iald hX rfl rfl dX11_tithe_42 ?_
        refine s_callSir hX [.int (μ.1 113 (ix (6 + x3_2))), .int (μ.1 120 (ix x3_2))] skX11_takenOf (fun r hF => c_X11_takenOf  hF) mkX11_takenOf cvX11_174 rfl rfl ⟨by omega, by decide, Nat.le_of_ble_eq_true rfl⟩ dX11_tithe_43 (fun r7 => ?_)
        refine s_goto hX 50 dX11_tithe_46 (by decide) ?_
        exact s_to hX [0, 1, 3] rfl (hj6 r7)
  · intro sq
    obtain ⟨x2_3, rfl⟩ : ∃ z, z = sq := ⟨_, rfl⟩
    show Sim G _ _ 58 [(2, .int x2_3)] [] μ
    refine s_iload_n hX dX11_tithe_58 rfl 0 rfl ?_
    exact s_iretr hK hR dX11_tithe_59
theorem dX2_lossOfOne_0 : decode cX2_lossOfOne 0 = .ok (.aload_n 0, 1) := by decide +kernel
theorem dX2_lossOfOne_1 : decode cX2_lossOfOne 1 = .ok (.iload_n 1, 1) := by decide +kernel
theorem dX2_lossOfOne_2 : decode cX2_lossOfOne 2 = .ok (.iload_n 2, 1) := by decide +kernel
theorem dX2_lossOfOne_3 : decode cX2_lossOfOne 3 = .ok (.invokevirtual 45, 3) := by decide +kernel
theorem dX2_lossOfOne_6 : decode cX2_lossOfOne 6 = .ok (.ifCond .eq 7, 3) := by decide +kernel
theorem dX2_lossOfOne_9 : decode cX2_lossOfOne 9 = .ok (.iconst 5, 1) := by decide +kernel
theorem dX2_lossOfOne_10 : decode cX2_lossOfOne 10 = .ok (.goto 4, 3) := by decide +kernel
theorem dX2_lossOfOne_13 : decode cX2_lossOfOne 13 = .ok (.iconst 0, 1) := by decide +kernel
theorem dX2_lossOfOne_14 : decode cX2_lossOfOne 14 = .ok (.iload_n 1, 1) := by decide +kernel
theorem dX2_lossOfOne_15 : decode cX2_lossOfOne 15 = .ok (.iconst 4, 1) := by decide +kernel
theorem dX2_lossOfOne_16 : decode cX2_lossOfOne 16 = .ok (.idiv, 1) := by decide +kernel
theorem dX2_lossOfOne_17 : decode cX2_lossOfOne 17 = .ok (.iadd, 1) := by decide +kernel
theorem dX2_lossOfOne_18 : decode cX2_lossOfOne 18 = .ok (.ireturn, 1) := by decide +kernel
noncomputable def f_X2_lossOfOne (x1 : Int32) (x2 : Int32) (μ : Mem) : Option Int32 :=
  bd (f_X2_takesFromOne x1 x2 μ) fun r1 =>
  jn (fun (y2 : Int32) =>
    some (y2 + (x1 / 4))
    ) fun j3 =>
  if r1 = 0 then
    j3 0
  else
    j3 5
set_option maxHeartbeats 4000000 in
set_option maxRecDepth 100000 in
theorem c_X2_lossOfOne {g : GT} {x1 : Int32} {x2 : Int32} {μ : Mem} {r0 : Int32} (hf : f_X2_lossOfOne x1 x2 μ = some r0) : CI g yX2_lossOfOne cX2_lossOfOne 3 (some .int) 2 [rf g 80, .int x1, .int x2] μ r0 μ := by
  refine mk_i (by decide) (Nat.le_of_ble_eq_true rfl) ?_
  intro G hX hR
  have hX : CX g G cX2_lossOfOne RX2 3 2 := hX
  suffices S : ∀ K : Int32 → Prop, (∀ a, K a → a = r0) → Sim G (f_X2_lossOfOne x1 x2 μ) K 0 [(0, rf g 80), (1, .int x1), (2, .int x2)] [] μ from S (fun a => a = r0) (fun a h => h) _ hf rfl
  intro K hK
  unfold f_X2_lossOfOne
  refine s_aload_n hX dX2_lossOfOne_0 rfl 0 rfl ?_
  refine s_iload_n hX dX2_lossOfOne_1 rfl 1 rfl ?_
  refine s_iload_n hX dX2_lossOfOne_2 rfl 2 rfl ?_
  refine s_callVir hX [.int x1, .int x2] (k := 80) (ci := 2) rfl hc2 vkX2_takesFromOne (fun r hF => c_X2_takesFromOne  hF) mkX2_takesFromOne cvX2_45 rfl rfl ⟨by omega, by decide, Nat.le_of_ble_eq_true rfl⟩ dX2_lossOfOne_3 (fun r1 => ?_)
  refine s_jn (C := fun j => ∀ (y2 : Int32), Sim G (j y2) K 14 [(1, .int x1)] [.int y2] μ) ?_ (fun j3 hj3 => ?_)
  · intro y2
    show Sim G _ _ 14 [(1, .int x1)] [.int y2] μ
    refine s_iload_n hX dX2_lossOfOne_14 rfl 0 rfl ?_
    refine s_iconst (v := 4) hX dX2_lossOfOne_15 (by decide) ?_
    refine s_idiv hX dX2_lossOfOne_16 (by decide) ?_
    refine s_iadd hX dX2_lossOfOne_17 ?_
    exact s_iretr hK hR dX2_lossOfOne_18
  refine s_if_eq hX 13 dX2_lossOfOne_6 (by decide) ?_ ?_
  · refine s_iconst (v := 0) hX dX2_lossOfOne_13 (by decide) ?_
    exact s_to hX [1] rfl (hj3 0)
  · refine s_iconst (v := 5) hX dX2_lossOfOne_9 (by decide) ?_
    refine s_goto hX 14 dX2_lossOfOne_10 (by decide) ?_
    exact s_to hX [1] rfl (hj3 5)
theorem dX2_lossOfOther_0 : decode cX2_lossOfOther 0 = .ok (.aload_n 0, 1) := by decide +kernel
theorem dX2_lossOfOther_1 : decode cX2_lossOfOther 1 = .ok (.iload_n 1, 1) := by decide +kernel
theorem dX2_lossOfOther_2 : decode cX2_lossOfOther 2 = .ok (.iload_n 2, 1) := by decide +kernel
theorem dX2_lossOfOther_3 : decode cX2_lossOfOther 3 = .ok (.invokevirtual 45, 3) := by decide +kernel
theorem dX2_lossOfOther_6 : decode cX2_lossOfOther 6 = .ok (.ifCond .eq 7, 3) := by decide +kernel
theorem dX2_lossOfOther_9 : decode cX2_lossOfOther 9 = .ok (.iconst 0, 1) := by decide +kernel
theorem dX2_lossOfOther_10 : decode cX2_lossOfOther 10 = .ok (.goto 4, 3) := by decide +kernel
theorem dX2_lossOfOther_13 : decode cX2_lossOfOther 13 = .ok (.iconst 5, 1) := by decide +kernel
theorem dX2_lossOfOther_14 : decode cX2_lossOfOther 14 = .ok (.iload_n 2, 1) := by decide +kernel
theorem dX2_lossOfOther_15 : decode cX2_lossOfOther 15 = .ok (.iconst 4, 1) := by decide +kernel
theorem dX2_lossOfOther_16 : decode cX2_lossOfOther 16 = .ok (.idiv, 1) := by decide +kernel
theorem dX2_lossOfOther_17 : decode cX2_lossOfOther 17 = .ok (.iadd, 1) := by decide +kernel
theorem dX2_lossOfOther_18 : decode cX2_lossOfOther 18 = .ok (.ireturn, 1) := by decide +kernel
noncomputable def f_X2_lossOfOther (x1 : Int32) (x2 : Int32) (μ : Mem) : Option Int32 :=
  bd (f_X2_takesFromOne x1 x2 μ) fun r1 =>
  jn (fun (y2 : Int32) =>
    some (y2 + (x2 / 4))
    ) fun j3 =>
  if r1 = 0 then
    j3 5
  else
    j3 0
set_option maxHeartbeats 4000000 in
set_option maxRecDepth 100000 in
theorem c_X2_lossOfOther {g : GT} {x1 : Int32} {x2 : Int32} {μ : Mem} {r0 : Int32} (hf : f_X2_lossOfOther x1 x2 μ = some r0) : CI g yX2_lossOfOther cX2_lossOfOther 3 (some .int) 2 [rf g 80, .int x1, .int x2] μ r0 μ := by
  refine mk_i (by decide) (Nat.le_of_ble_eq_true rfl) ?_
  intro G hX hR
  have hX : CX g G cX2_lossOfOther RX2 3 2 := hX
  suffices S : ∀ K : Int32 → Prop, (∀ a, K a → a = r0) → Sim G (f_X2_lossOfOther x1 x2 μ) K 0 [(0, rf g 80), (1, .int x1), (2, .int x2)] [] μ from S (fun a => a = r0) (fun a h => h) _ hf rfl
  intro K hK
  unfold f_X2_lossOfOther
  refine s_aload_n hX dX2_lossOfOther_0 rfl 0 rfl ?_
  refine s_iload_n hX dX2_lossOfOther_1 rfl 1 rfl ?_
  refine s_iload_n hX dX2_lossOfOther_2 rfl 2 rfl ?_
  refine s_callVir hX [.int x1, .int x2] (k := 80) (ci := 2) rfl hc2 vkX2_takesFromOne (fun r hF => c_X2_takesFromOne  hF) mkX2_takesFromOne cvX2_45 rfl rfl ⟨by omega, by decide, Nat.le_of_ble_eq_true rfl⟩ dX2_lossOfOther_3 (fun r1 => ?_)
  refine s_jn (C := fun j => ∀ (y2 : Int32), Sim G (j y2) K 14 [(2, .int x2)] [.int y2] μ) ?_ (fun j3 hj3 => ?_)
  · intro y2
    show Sim G _ _ 14 [(2, .int x2)] [.int y2] μ
    refine s_iload_n hX dX2_lossOfOther_14 rfl 0 rfl ?_
    refine s_iconst (v := 4) hX dX2_lossOfOther_15 (by decide) ?_
    refine s_idiv hX dX2_lossOfOther_16 (by decide) ?_
    refine s_iadd hX dX2_lossOfOther_17 ?_
    exact s_iretr hK hR dX2_lossOfOther_18
  refine s_if_eq hX 13 dX2_lossOfOther_6 (by decide) ?_ ?_
  · refine s_iconst (v := 5) hX dX2_lossOfOther_13 (by decide) ?_
    exact s_to hX [2] rfl (hj3 5)
  · refine s_iconst (v := 0) hX dX2_lossOfOther_9 (by decide) ?_
    refine s_goto hX 14 dX2_lossOfOther_10 (by decide) ?_
    exact s_to hX [2] rfl (hj3 0)
theorem dX3_greatestBut_0 : decode cX3_greatestBut 0 = .ok (.aload_n 0, 1) := by decide +kernel
theorem dX3_greatestBut_1 : decode cX3_greatestBut 1 = .ok (.getfield 34, 3) := by decide +kernel
theorem dX3_greatestBut_4 : decode cX3_greatestBut 4 = .ok (.aload_n 0, 1) := by decide +kernel
theorem dX3_greatestBut_5 : decode cX3_greatestBut 5 = .ok (.getfield 9, 3) := by decide +kernel
theorem dX3_greatestBut_8 : decode cX3_greatestBut 8 = .ok (.iload_n 1, 1) := by decide +kernel
theorem dX3_greatestBut_9 : decode cX3_greatestBut 9 = .ok (.invokestatic 64, 3) := by decide +kernel
theorem dX3_greatestBut_12 : decode cX3_greatestBut 12 = .ok (.ireturn, 1) := by decide +kernel
noncomputable def f_X3_greatestBut (k0 : Nat) (x1 : Int32) (μ : Mem) : Option Int32 :=
  bd (f_X3_greatestIn (k0 + 4) (μ.1 k0 0) x1 μ) fun r1 =>
  some r1
set_option maxHeartbeats 4000000 in
set_option maxRecDepth 100000 in
theorem c_X3_greatestBut {g : GT} {k0 : Nat} {x1 : Int32} {μ : Mem} {r0 : Int32} (hk0 : tyOf k0 = 3) (hf : f_X3_greatestBut k0 x1 μ = some r0) : CI g yX3_greatestBut cX3_greatestBut 2 (some .int) 2 [rf g k0, .int x1] μ r0 μ := by
  refine mk_i (by decide) (Nat.le_of_ble_eq_true rfl) ?_
  intro G hX hR
  have hX : CX g G cX3_greatestBut RX3 2 2 := hX
  suffices S : ∀ K : Int32 → Prop, (∀ a, K a → a = r0) → Sim G (f_X3_greatestBut k0 x1 μ) K 0 [(0, rf g k0), (1, .int x1)] [] μ from S (fun a => a = r0) (fun a h => h) _ hf rfl
  intro K hK
  unfold f_X3_greatestBut
  refine s_aload_n hX dX3_greatestBut_0 rfl 0 rfl ?_
  refine s_getR hX (d := 4) (k0 + 4) flX3_34 hk0 rfl dX3_greatestBut_1 ?_
  refine s_aload_n hX dX3_greatestBut_4 rfl 0 rfl ?_
  refine s_getI hX flX3_9 hk0 dX3_greatestBut_5 ?_
  refine s_iload_n hX dX3_greatestBut_8 rfl 1 rfl ?_
  refine s_callSir hX [rf g (k0 + 4), .int (μ.1 k0 0), .int x1] skX3_greatestIn (fun r hF => c_X3_greatestIn (ty_3_4 hk0).1 (ty_3_4 hk0).2 hF) mkX3_greatestIn cvX3_64 rfl rfl ⟨by omega, by decide, Nat.le_of_ble_eq_true rfl⟩ dX3_greatestBut_9 (fun r1 => ?_)
  exact s_iretr hK hR dX3_greatestBut_12
theorem dX3_growAll_0 : decode cX3_growAll 0 = .ok (.iconst 0, 1) := by decide +kernel
theorem dX3_growAll_1 : decode cX3_growAll 1 = .ok (.istore_n 1, 1) := by decide +kernel
theorem dX3_growAll_2 : decode cX3_growAll 2 = .ok (.iload_n 1, 1) := by decide +kernel
theorem dX3_growAll_3 : decode cX3_growAll 3 = .ok (.aload_n 0, 1) := by decide +kernel
theorem dX3_growAll_4 : decode cX3_growAll 4 = .ok (.getfield 15, 3) := by decide +kernel
theorem dX3_growAll_7 : decode cX3_growAll 7 = .ok (.if_icmp .ge 52, 3) := by decide +kernel
theorem dX3_growAll_10 : decode cX3_growAll 10 = .ok (.aload_n 0, 1) := by decide +kernel
theorem dX3_growAll_11 : decode cX3_growAll 11 = .ok (.getfield 31, 3) := by decide +kernel
theorem dX3_growAll_14 : decode cX3_growAll 14 = .ok (.iload_n 1, 1) := by decide +kernel
theorem dX3_growAll_15 : decode cX3_growAll 15 = .ok (.iaload, 1) := by decide +kernel
theorem dX3_growAll_16 : decode cX3_growAll 16 = .ok (.ifCond .le 37, 3) := by decide +kernel
theorem dX3_growAll_19 : decode cX3_growAll 19 = .ok (.aload_n 0, 1) := by decide +kernel
theorem dX3_growAll_20 : decode cX3_growAll 20 = .ok (.getfield 24, 3) := by decide +kernel
theorem dX3_growAll_23 : decode cX3_growAll 23 = .ok (.iload_n 1, 1) := by decide +kernel
theorem dX3_growAll_24 : decode cX3_growAll 24 = .ok (.iaload, 1) := by decide +kernel
theorem dX3_growAll_25 : decode cX3_growAll 25 = .ok (.invokestatic 83, 3) := by decide +kernel
theorem dX3_growAll_28 : decode cX3_growAll 28 = .ok (.ifCond .eq 25, 3) := by decide +kernel
theorem dX3_growAll_31 : decode cX3_growAll 31 = .ok (.aload_n 0, 1) := by decide +kernel
theorem dX3_growAll_32 : decode cX3_growAll 32 = .ok (.getfield 31, 3) := by decide +kernel
theorem dX3_growAll_35 : decode cX3_growAll 35 = .ok (.iload_n 1, 1) := by decide +kernel
theorem dX3_growAll_36 : decode cX3_growAll 36 = .ok (.bipush 99, 2) := by decide +kernel
theorem dX3_growAll_38 : decode cX3_growAll 38 = .ok (.aload_n 0, 1) := by decide +kernel
theorem dX3_growAll_39 : decode cX3_growAll 39 = .ok (.getfield 31, 3) := by decide +kernel
theorem dX3_growAll_42 : decode cX3_growAll 42 = .ok (.iload_n 1, 1) := by decide +kernel
theorem dX3_growAll_43 : decode cX3_growAll 43 = .ok (.iaload, 1) := by decide +kernel
theorem dX3_growAll_44 : decode cX3_growAll 44 = .ok (.aload_n 0, 1) := by decide +kernel
theorem dX3_growAll_45 : decode cX3_growAll 45 = .ok (.getfield 21, 3) := by decide +kernel
theorem dX3_growAll_48 : decode cX3_growAll 48 = .ok (.iadd, 1) := by decide +kernel
theorem dX3_growAll_49 : decode cX3_growAll 49 = .ok (.invokestatic 86, 3) := by decide +kernel
theorem dX3_growAll_52 : decode cX3_growAll 52 = .ok (.iastore, 1) := by decide +kernel
theorem dX3_growAll_53 : decode cX3_growAll 53 = .ok (.iinc 1 1, 3) := by decide +kernel
theorem dX3_growAll_56 : decode cX3_growAll 56 = .ok (.goto (-54), 3) := by decide +kernel
theorem dX3_growAll_59 : decode cX3_growAll 59 = .ok (.return_, 1) := by decide +kernel
noncomputable def f_X3_growAll (k0 : Nat) (μ : Mem) : Option Mem :=
  bd (lp (ε := Mem) (cu2 fun (x1_1 : Int32) (ν2 : Mem) =>
    if x1_1 < (ν2.1 k0 1) then
      chk x1_1 10 (
        jn (fun (ν5 : Mem) =>
          some (.inl ((x1_1 + 1), ν5))
          ) fun j6 =>
        if 0 < (ν2.1 (k0 + 3) (ix x1_1)) then
          chk x1_1 10 (
            bd (f_X4_grows (ν2.1 (k0 + 1) (ix x1_1))) fun r7 =>
            if r7 = 0 then
              j6 ν2
            else
              chk x1_1 10 (
                chk x1_1 10 (lt (setI ν2 (k0 + 3) (ix x1_1) (if ((ν2.1 (k0 + 3) (ix x1_1)) + (ν2.1 k0 3)) < 99 then ((ν2.1 (k0 + 3) (ix x1_1)) + (ν2.1 k0 3)) else 99)) fun ν8 =>
                  j6 ν8
                  )
                )
            )
        else
          j6 ν2
        )
    else
      some (.inr ν2)
    ) (0, μ)) (fun (ν3 : Mem) =>
    some ν3
    )
set_option maxHeartbeats 4000000 in
set_option maxRecDepth 100000 in
theorem c_X3_growAll {g : GT} {k0 : Nat} {μ : Mem} {μ0 : Mem} (hk0 : tyOf k0 = 3) (hf : f_X3_growAll k0 μ = some μ0) : CV g yX3_growAll cX3_growAll 2 (none) 2 [rf g k0] μ μ0 := by
  refine mk_v (by decide) (Nat.le_of_ble_eq_true rfl) ?_
  intro G hX hR
  have hX : CX g G cX3_growAll RX3 2 2 := hX
  suffices S : ∀ K : Mem → Prop, (∀ a, K a → a = μ0) → Sim G (f_X3_growAll k0 μ) K 0 [(0, rf g k0)] [] μ from S (fun a => a = μ0) (fun a h => h) _ hf rfl
  intro K hK
  unfold f_X3_growAll
  refine s_iconst (v := 0) hX dX3_growAll_0 (by decide) ?_
  refine s_istore_n (lv' := [(1, .int 0), (0, rf g k0)]) hX dX3_growAll_1 rfl (by decide) rfl ?_
  refine s_loop hX 2 59 (fun s : Int32 × Mem => [(0, rf g k0), (1, .int s.1)]) (fun s : Int32 × Mem => s.2) (fun s : Mem => []) (fun s : Mem => s) [1, 0] rfl rfl rfl ?_ ?_
  · intro Kq4 hIq4 hJq4 sq
    obtain ⟨x1_1, ν2⟩ := sq
    refine s_cu2 ?_
    show Sim G _ _ 2 [(0, rf g k0), (1, .int x1_1)] [] ν2
    refine s_iload_n hX dX3_growAll_2 rfl 1 rfl ?_
    refine s_aload_n hX dX3_growAll_3 rfl 0 rfl ?_
    refine s_getI hX flX3_15 hk0 dX3_growAll_4 ?_
    refine s_icmp_ge hX 59 dX3_growAll_7 (by decide) ?_ ?_
    · exact s_end hX (hJq4 ν2) [] rfl
    · refine s_aload_n hX dX3_growAll_10 rfl 0 rfl ?_
      refine s_getR hX (d := 3) (k0 + 3) flX3_31 hk0 rfl dX3_growAll_11 ?_
      refine s_iload_n hX dX3_growAll_14 rfl 1 rfl ?_
      refine s_iald hX (ty_3_3 hk0).1 (ty_3_3 hk0).2 dX3_growAll_15 ?_
      refine s_jn (C := fun j => ∀ (ν5 : Mem), Sim G (j ν5) Kq4 53 [(0, rf g k0), (1, .int x1_1)] [] ν5) ?_ (fun j6 hj6 => ?_)
      · intro ν5
        show Sim G _ _ 53 [(0, rf g k0), (1, .int x1_1)] [] ν5
        refine s_iinc (v := (x1_1 + 1)) (lv' := [(1, .int (x1_1 + 1)), (0, rf g k0)]) hX dX3_growAll_53 1 rfl rfl (by decide) rfl ?_
        refine s_goto hX 2 dX3_growAll_56 (by decide) ?_
        exact s_end hX (hIq4 ((x1_1 + 1), ν5)) [1, 0] rfl
      refine s_if_le hX 53 dX3_growAll_16 (by decide) ?_ ?_
      · exact s_to hX [0, 1] rfl (hj6 ν2)
      · refine s_aload_n hX dX3_growAll_19 rfl 0 rfl ?_
        refine s_getR hX (d := 1) (k0 + 1) flX3_24 hk0 rfl dX3_growAll_20 ?_
        refine s_iload_n hX dX3_growAll_23 rfl 1 rfl ?_
        refine s_iald hX (ty_3_1 hk0).1 (ty_3_1 hk0).2 dX3_growAll_24 ?_
        refine s_callSir hX [.int (ν2.1 (k0 + 1) (ix x1_1))] skX4_grows (fun r hF => c_X4_grows  hF) mkX4_grows cvX3_83 rfl rfl ⟨by omega, by decide, Nat.le_of_ble_eq_true rfl⟩ dX3_growAll_25 (fun r7 => ?_)
        refine s_if_eq hX 53 dX3_growAll_28 (by decide) ?_ ?_
        · exact s_to hX [0, 1] rfl (hj6 ν2)
        · refine s_aload_n hX dX3_growAll_31 rfl 0 rfl ?_
          refine s_getR hX (d := 3) (k0 + 3) flX3_31 hk0 rfl dX3_growAll_32 ?_
          refine s_iload_n hX dX3_growAll_35 rfl 1 rfl ?_
          refine s_bipush (v := 99) hX dX3_growAll_36 (by decide) ?_
          refine s_aload_n hX dX3_growAll_38 rfl 0 rfl ?_
          refine s_getR hX (d := 3) (k0 + 3) flX3_31 hk0 rfl dX3_growAll_39 ?_
          refine s_iload_n hX dX3_growAll_42 rfl 1 rfl ?_
          refine s_iald hX (ty_3_3 hk0).1 (ty_3_3 hk0).2 dX3_growAll_43 ?_
          refine s_aload_n hX dX3_growAll_44 rfl 0 rfl ?_
          refine s_getI hX flX3_21 hk0 dX3_growAll_45 ?_
          refine s_iadd hX dX3_growAll_48 ?_
          refine s_min hX cvX3_86 (by omega) (Nat.le_of_ble_eq_true rfl) dX3_growAll_49 ?_
          refine s_iast hX (ty_3_3 hk0).1 (ty_3_3 hk0).2 dX3_growAll_52 (fun ν8 => ?_)
          exact s_to hX [0, 1] rfl (hj6 ν8)
  · intro sq
    obtain ⟨ν3, rfl⟩ : ∃ z, z = sq := ⟨_, rfl⟩
    show Sim G _ _ 59 [] [] ν3
    exact s_vreti hK hR dX3_growAll_59
theorem dX3_hasPair_0 : decode cX3_hasPair 0 = .ok (.aload_n 0, 1) := by decide +kernel
theorem dX3_hasPair_1 : decode cX3_hasPair 1 = .ok (.iload_n 1, 1) := by decide +kernel
theorem dX3_hasPair_2 : decode cX3_hasPair 2 = .ok (.invokevirtual 43, 3) := by decide +kernel
theorem dX3_hasPair_5 : decode cX3_hasPair 5 = .ok (.ifCond .eq 20, 3) := by decide +kernel
theorem dX3_hasPair_8 : decode cX3_hasPair 8 = .ok (.aload_n 0, 1) := by decide +kernel
theorem dX3_hasPair_9 : decode cX3_hasPair 9 = .ok (.iload_n 2, 1) := by decide +kernel
theorem dX3_hasPair_10 : decode cX3_hasPair 10 = .ok (.invokevirtual 43, 3) := by decide +kernel
theorem dX3_hasPair_13 : decode cX3_hasPair 13 = .ok (.ifCond .eq 12, 3) := by decide +kernel
theorem dX3_hasPair_16 : decode cX3_hasPair 16 = .ok (.iload_n 1, 1) := by decide +kernel
theorem dX3_hasPair_17 : decode cX3_hasPair 17 = .ok (.iload_n 2, 1) := by decide +kernel
theorem dX3_hasPair_18 : decode cX3_hasPair 18 = .ok (.if_icmp .eq 7, 3) := by decide +kernel
theorem dX3_hasPair_21 : decode cX3_hasPair 21 = .ok (.iconst 1, 1) := by decide +kernel
theorem dX3_hasPair_22 : decode cX3_hasPair 22 = .ok (.goto 4, 3) := by decide +kernel
theorem dX3_hasPair_25 : decode cX3_hasPair 25 = .ok (.iconst 0, 1) := by decide +kernel
theorem dX3_hasPair_26 : decode cX3_hasPair 26 = .ok (.ireturn, 1) := by decide +kernel
noncomputable def f_X3_hasPair (k0 : Nat) (x1 : Int32) (x2 : Int32) (μ : Mem) : Option Int32 :=
  bd (f_X3_hasVillage k0 x1 μ) fun r1 =>
  jn (fun (y2 : Int32) =>
    ckB y2 (
      some y2
      )
    ) fun j3 =>
  jn (
    j3 0
    ) fun j4 =>
  if r1 = 0 then
    j4
  else
    bd (f_X3_hasVillage k0 x2 μ) fun r5 =>
    if r5 = 0 then
      j4
    else
      if x1 = x2 then
        j4
      else
        j3 1
set_option maxHeartbeats 4000000 in
set_option maxRecDepth 100000 in
theorem c_X3_hasPair {g : GT} {k0 : Nat} {x1 : Int32} {x2 : Int32} {μ : Mem} {r0 : Int32} (hk0 : tyOf k0 = 3) (hf : f_X3_hasPair k0 x1 x2 μ = some r0) : CI g yX3_hasPair cX3_hasPair 3 (some .boolean) 2 [rf g k0, .int x1, .int x2] μ r0 μ := by
  refine mk_z (by decide) (Nat.le_of_ble_eq_true rfl) ?_
  intro G hX hR
  have hX : CX g G cX3_hasPair RX3 3 2 := hX
  suffices S : ∀ K : Int32 → Prop, (∀ a, K a → a = r0) → Sim G (f_X3_hasPair k0 x1 x2 μ) K 0 [(0, rf g k0), (1, .int x1), (2, .int x2)] [] μ from S (fun a => a = r0) (fun a h => h) _ hf rfl
  intro K hK
  unfold f_X3_hasPair
  refine s_aload_n hX dX3_hasPair_0 rfl 0 rfl ?_
  refine s_iload_n hX dX3_hasPair_1 rfl 1 rfl ?_
  refine s_callVir hX [.int x1] (k := k0) (ci := 3) hk0 hc3 vkX3_hasVillage (fun r hF => c_X3_hasVillage hk0 hF) mkX3_hasVillage cvX3_43 rfl rfl ⟨by omega, by decide, Nat.le_of_ble_eq_true rfl⟩ dX3_hasPair_2 (fun r1 => ?_)
  refine s_jn (C := fun j => ∀ (y2 : Int32), Sim G (j y2) K 26 [] [.int y2] μ) ?_ (fun j3 hj3 => ?_)
  · intro y2
    show Sim G _ _ 26 [] [.int y2] μ
    refine s_ckB (fun hzb => ?_)
    exact s_zretr hzb hK hR dX3_hasPair_26
  refine s_jn (C := fun j => Sim G (j) K 25 [] [] μ) ?_ (fun j4 hj4 => ?_)
  · skip
    show Sim G _ _ 25 [] [] μ
    refine s_iconst (v := 0) hX dX3_hasPair_25 (by decide) ?_
    exact s_to hX [] rfl (hj3 0)
  refine s_if_eq hX 25 dX3_hasPair_5 (by decide) ?_ ?_
  · exact s_to hX [] rfl (hj4)
  · refine s_aload_n hX dX3_hasPair_8 rfl 0 rfl ?_
    refine s_iload_n hX dX3_hasPair_9 rfl 2 rfl ?_
    refine s_callVir hX [.int x2] (k := k0) (ci := 3) hk0 hc3 vkX3_hasVillage (fun r hF => c_X3_hasVillage hk0 hF) mkX3_hasVillage cvX3_43 rfl rfl ⟨by omega, by decide, Nat.le_of_ble_eq_true rfl⟩ dX3_hasPair_10 (fun r5 => ?_)
    refine s_if_eq hX 25 dX3_hasPair_13 (by decide) ?_ ?_
    · exact s_to hX [] rfl (hj4)
    · refine s_iload_n hX dX3_hasPair_16 rfl 1 rfl ?_
      refine s_iload_n hX dX3_hasPair_17 rfl 2 rfl ?_
      refine s_icmp_eq hX 25 dX3_hasPair_18 (by decide) ?_ ?_
      · exact s_to hX [] rfl (hj4)
      · refine s_iconst (v := 1) hX dX3_hasPair_21 (by decide) ?_
        refine s_goto hX 26 dX3_hasPair_22 (by decide) ?_
        exact s_to hX [] rfl (hj3 1)
theorem dX3_seenOf_0 : decode cX3_seenOf 0 = .ok (.aload_n 0, 1) := by decide +kernel
theorem dX3_seenOf_1 : decode cX3_seenOf 1 = .ok (.getfield 24, 3) := by decide +kernel
theorem dX3_seenOf_4 : decode cX3_seenOf 4 = .ok (.iload_n 1, 1) := by decide +kernel
theorem dX3_seenOf_5 : decode cX3_seenOf 5 = .ok (.iaload, 1) := by decide +kernel
theorem dX3_seenOf_6 : decode cX3_seenOf 6 = .ok (.aload_n 0, 1) := by decide +kernel
theorem dX3_seenOf_7 : decode cX3_seenOf 7 = .ok (.getfield 31, 3) := by decide +kernel
theorem dX3_seenOf_10 : decode cX3_seenOf 10 = .ok (.iload_n 1, 1) := by decide +kernel
theorem dX3_seenOf_11 : decode cX3_seenOf 11 = .ok (.iaload, 1) := by decide +kernel
theorem dX3_seenOf_12 : decode cX3_seenOf 12 = .ok (.aload_n 0, 1) := by decide +kernel
theorem dX3_seenOf_13 : decode cX3_seenOf 13 = .ok (.getfield 18, 3) := by decide +kernel
theorem dX3_seenOf_16 : decode cX3_seenOf 16 = .ok (.invokestatic 47, 3) := by decide +kernel
theorem dX3_seenOf_19 : decode cX3_seenOf 19 = .ok (.ireturn, 1) := by decide +kernel
noncomputable def f_X3_seenOf (k0 : Nat) (x1 : Int32) (μ : Mem) : Option Int32 :=
  chk x1 10 (
    chk x1 10 (
      bd (f_X4_seen (μ.1 (k0 + 1) (ix x1)) (μ.1 (k0 + 3) (ix x1)) (μ.1 k0 2)) fun r1 =>
      some r1
      )
    )
set_option maxHeartbeats 4000000 in
set_option maxRecDepth 100000 in
theorem c_X3_seenOf {g : GT} {k0 : Nat} {x1 : Int32} {μ : Mem} {r0 : Int32} (hk0 : tyOf k0 = 3) (hf : f_X3_seenOf k0 x1 μ = some r0) : CI g yX3_seenOf cX3_seenOf 2 (some .int) 2 [rf g k0, .int x1] μ r0 μ := by
  refine mk_i (by decide) (Nat.le_of_ble_eq_true rfl) ?_
  intro G hX hR
  have hX : CX g G cX3_seenOf RX3 2 2 := hX
  suffices S : ∀ K : Int32 → Prop, (∀ a, K a → a = r0) → Sim G (f_X3_seenOf k0 x1 μ) K 0 [(0, rf g k0), (1, .int x1)] [] μ from S (fun a => a = r0) (fun a h => h) _ hf rfl
  intro K hK
  unfold f_X3_seenOf
  refine s_aload_n hX dX3_seenOf_0 rfl 0 rfl ?_
  refine s_getR hX (d := 1) (k0 + 1) flX3_24 hk0 rfl dX3_seenOf_1 ?_
  refine s_iload_n hX dX3_seenOf_4 rfl 1 rfl ?_
  refine s_iald hX (ty_3_1 hk0).1 (ty_3_1 hk0).2 dX3_seenOf_5 ?_
  refine s_aload_n hX dX3_seenOf_6 rfl 0 rfl ?_
  refine s_getR hX (d := 3) (k0 + 3) flX3_31 hk0 rfl dX3_seenOf_7 ?_
  refine s_iload_n hX dX3_seenOf_10 rfl 1 rfl ?_
  refine s_iald hX (ty_3_3 hk0).1 (ty_3_3 hk0).2 dX3_seenOf_11 ?_
  refine s_aload_n hX dX3_seenOf_12 rfl 0 rfl ?_
  refine s_getI hX flX3_18 hk0 dX3_seenOf_13 ?_
  refine s_callSir hX [.int (μ.1 (k0 + 1) (ix x1)), .int (μ.1 (k0 + 3) (ix x1)), .int (μ.1 k0 2)] skX4_seen (fun r hF => c_X4_seen  hF) mkX4_seen cvX3_47 rfl rfl ⟨by omega, by decide, Nat.le_of_ble_eq_true rfl⟩ dX3_seenOf_16 (fun r1 => ?_)
  exact s_iretr hK hR dX3_seenOf_19
theorem dX4_taken_0 : decode cX4_taken 0 = .ok (.iload_n 1, 1) := by decide +kernel
theorem dX4_taken_1 : decode cX4_taken 1 = .ok (.bipush 9, 2) := by decide +kernel
theorem dX4_taken_3 : decode cX4_taken 3 = .ok (.iadd, 1) := by decide +kernel
theorem dX4_taken_4 : decode cX4_taken 4 = .ok (.bipush 10, 2) := by decide +kernel
theorem dX4_taken_6 : decode cX4_taken 6 = .ok (.idiv, 1) := by decide +kernel
theorem dX4_taken_7 : decode cX4_taken 7 = .ok (.istore_n 2, 1) := by decide +kernel
theorem dX4_taken_8 : decode cX4_taken 8 = .ok (.iload_n 0, 1) := by decide +kernel
theorem dX4_taken_9 : decode cX4_taken 9 = .ok (.tableswitch 43 0 4 #[35, 35, 37, 35, 39], 35) := by decide +kernel
theorem dX4_taken_44 : decode cX4_taken 44 = .ok (.iload_n 2, 1) := by decide +kernel
theorem dX4_taken_45 : decode cX4_taken 45 = .ok (.ireturn, 1) := by decide +kernel
theorem dX4_taken_46 : decode cX4_taken 46 = .ok (.iconst 0, 1) := by decide +kernel
theorem dX4_taken_47 : decode cX4_taken 47 = .ok (.ireturn, 1) := by decide +kernel
theorem dX4_taken_48 : decode cX4_taken 48 = .ok (.iload_n 2, 1) := by decide +kernel
theorem dX4_taken_49 : decode cX4_taken 49 = .ok (.iconst 2, 1) := by decide +kernel
theorem dX4_taken_50 : decode cX4_taken 50 = .ok (.idiv, 1) := by decide +kernel
theorem dX4_taken_51 : decode cX4_taken 51 = .ok (.ireturn, 1) := by decide +kernel
theorem dX4_taken_52 : decode cX4_taken 52 = .ok (.iconst 1, 1) := by decide +kernel
theorem dX4_taken_53 : decode cX4_taken 53 = .ok (.iload_n 1, 1) := by decide +kernel
theorem dX4_taken_54 : decode cX4_taken 54 = .ok (.invokestatic 7, 3) := by decide +kernel
theorem dX4_taken_57 : decode cX4_taken 57 = .ok (.ireturn, 1) := by decide +kernel
noncomputable def f_X4_taken (x0 : Int32) (x1 : Int32) : Option Int32 :=
  if x0 = 0 then
    some ((x1 + 9) / 10)
  else
  if x0 = 1 then
    some ((x1 + 9) / 10)
  else
  if x0 = 2 then
    some 0
  else
  if x0 = 3 then
    some ((x1 + 9) / 10)
  else
  if x0 = 4 then
    some (((x1 + 9) / 10) / 2)
  else
  some (if x1 < 1 then x1 else 1)
set_option maxHeartbeats 4000000 in
set_option maxRecDepth 100000 in
theorem c_X4_taken {g : GT} {x0 : Int32} {x1 : Int32} {μ : Mem} {r0 : Int32} (hf : f_X4_taken x0 x1 = some r0) : CI g yX4_taken cX4_taken 3 (some .int) 2 [.int x0, .int x1] μ r0 μ := by
  refine mk_i (by decide) (Nat.le_of_ble_eq_true rfl) ?_
  intro G hX hR
  have hX : CX g G cX4_taken RX4 3 2 := hX
  suffices S : ∀ K : Int32 → Prop, (∀ a, K a → a = r0) → Sim G (f_X4_taken x0 x1) K 0 [(0, .int x0), (1, .int x1)] [] μ from S (fun a => a = r0) (fun a h => h) _ hf rfl
  intro K hK
  unfold f_X4_taken
  refine s_iload_n hX dX4_taken_0 rfl 1 rfl ?_
  refine s_bipush (v := 9) hX dX4_taken_1 (by decide) ?_
  refine s_iadd hX dX4_taken_3 ?_
  refine s_bipush (v := 10) hX dX4_taken_4 (by decide) ?_
  refine s_idiv hX dX4_taken_6 (by decide) ?_
  refine s_istore_n (lv' := [(2, .int ((x1 + 9) / 10)), (0, .int x0), (1, .int x1)]) hX dX4_taken_7 rfl (by decide) rfl ?_
  refine s_iload_n hX dX4_taken_8 rfl 1 rfl ?_
  refine s_tabC (v := 0) (a := 0) hX 44 dX4_taken_9 (by decide) (by decide) (by decide) rfl (by decide) ?_ (fun hne1 => ?_)
  · refine s_iload_n hX dX4_taken_44 rfl 0 rfl ?_
    exact s_iretr hK hR dX4_taken_45
  refine s_tabC (v := 1) (a := 1) hX 44 dX4_taken_9 (by decide) (by decide) (by decide) rfl (by decide) ?_ (fun hne2 => ?_)
  · refine s_iload_n hX dX4_taken_44 rfl 0 rfl ?_
    exact s_iretr hK hR dX4_taken_45
  refine s_tabC (v := 2) (a := 2) hX 46 dX4_taken_9 (by decide) (by decide) (by decide) rfl (by decide) ?_ (fun hne3 => ?_)
  · refine s_iconst (v := 0) hX dX4_taken_46 (by decide) ?_
    exact s_iretr hK hR dX4_taken_47
  refine s_tabC (v := 3) (a := 3) hX 44 dX4_taken_9 (by decide) (by decide) (by decide) rfl (by decide) ?_ (fun hne4 => ?_)
  · refine s_iload_n hX dX4_taken_44 rfl 0 rfl ?_
    exact s_iretr hK hR dX4_taken_45
  refine s_tabC (v := 4) (a := 4) hX 48 dX4_taken_9 (by decide) (by decide) (by decide) rfl (by decide) ?_ (fun hne5 => ?_)
  · refine s_iload_n hX dX4_taken_48 rfl 0 rfl ?_
    refine s_iconst (v := 2) hX dX4_taken_49 (by decide) ?_
    refine s_idiv hX dX4_taken_50 (by decide) ?_
    exact s_iretr hK hR dX4_taken_51
  refine s_tabD hX 52 dX4_taken_9 (by omega) (by decide) ?_
  refine s_iconst (v := 1) hX dX4_taken_52 (by decide) ?_
  refine s_iload_n hX dX4_taken_53 rfl 2 rfl ?_
  refine s_min hX cvX4_7 (by omega) (Nat.le_of_ble_eq_true rfl) dX4_taken_54 ?_
  exact s_iretr hK hR dX4_taken_57
theorem dX5_takenNow_0 : decode cX5_takenNow 0 = .ok (.aload_n 0, 1) := by decide +kernel
theorem dX5_takenNow_1 : decode cX5_takenNow 1 = .ok (.getfield 22, 3) := by decide +kernel
theorem dX5_takenNow_4 : decode cX5_takenNow 4 = .ok (.aload_n 0, 1) := by decide +kernel
theorem dX5_takenNow_5 : decode cX5_takenNow 5 = .ok (.getfield 12, 3) := by decide +kernel
theorem dX5_takenNow_8 : decode cX5_takenNow 8 = .ok (.getfield 42, 3) := by decide +kernel
theorem dX5_takenNow_11 : decode cX5_takenNow 11 = .ok (.aload_n 0, 1) := by decide +kernel
theorem dX5_takenNow_12 : decode cX5_takenNow 12 = .ok (.getfield 18, 3) := by decide +kernel
theorem dX5_takenNow_15 : decode cX5_takenNow 15 = .ok (.invokestatic 82, 3) := by decide +kernel
theorem dX5_takenNow_18 : decode cX5_takenNow 18 = .ok (.istore_n 1, 1) := by decide +kernel
theorem dX5_takenNow_19 : decode cX5_takenNow 19 = .ok (.iload_n 1, 1) := by decide +kernel
theorem dX5_takenNow_20 : decode cX5_takenNow 20 = .ok (.iconst (-1), 1) := by decide +kernel
theorem dX5_takenNow_21 : decode cX5_takenNow 21 = .ok (.if_icmp .ne 7, 3) := by decide +kernel
theorem dX5_takenNow_24 : decode cX5_takenNow 24 = .ok (.iconst 0, 1) := by decide +kernel
theorem dX5_takenNow_25 : decode cX5_takenNow 25 = .ok (.goto 9, 3) := by decide +kernel
theorem dX5_takenNow_28 : decode cX5_takenNow 28 = .ok (.aload_n 0, 1) := by decide +kernel
theorem dX5_takenNow_29 : decode cX5_takenNow 29 = .ok (.getfield 26, 3) := by decide +kernel
theorem dX5_takenNow_32 : decode cX5_takenNow 32 = .ok (.iload_n 1, 1) := by decide +kernel
theorem dX5_takenNow_33 : decode cX5_takenNow 33 = .ok (.iaload, 1) := by decide +kernel
theorem dX5_takenNow_34 : decode cX5_takenNow 34 = .ok (.ireturn, 1) := by decide +kernel
noncomputable def f_X5_takenNow  (μ : Mem) : Option Int32 :=
  bd (f_X3_greatestIn 78 (μ.1 73 0) (μ.1 72 1) μ) fun r1 =>
  jn (fun (y2 : Int32) =>
    some y2
    ) fun j3 =>
  if r1 = (-1) then
    j3 0
  else
    chk r1 5 (
      j3 (μ.1 79 (ix r1))
      )
set_option maxHeartbeats 4000000 in
set_option maxRecDepth 100000 in
theorem c_X5_takenNow {g : GT}  {μ : Mem} {r0 : Int32} (hf : f_X5_takenNow  μ = some r0) : CI g yX5_takenNow cX5_takenNow 2 (some .int) 2 [rf g 72] μ r0 μ := by
  refine mk_i (by decide) (Nat.le_of_ble_eq_true rfl) ?_
  intro G hX hR
  have hX : CX g G cX5_takenNow RX5 2 2 := hX
  suffices S : ∀ K : Int32 → Prop, (∀ a, K a → a = r0) → Sim G (f_X5_takenNow  μ) K 0 [(0, rf g 72)] [] μ from S (fun a => a = r0) (fun a h => h) _ hf rfl
  intro K hK
  unfold f_X5_takenNow
  refine s_aload_n hX dX5_takenNow_0 rfl 0 rfl ?_
  refine s_getR hX (d := 6) 78 flX5_22 rfl rfl dX5_takenNow_1 ?_
  refine s_aload_n hX dX5_takenNow_4 rfl 0 rfl ?_
  refine s_getR hX (d := 1) 73 flX5_12 rfl rfl dX5_takenNow_5 ?_
  refine s_getI hX flX5_42 rfl dX5_takenNow_8 ?_
  refine s_aload_n hX dX5_takenNow_11 rfl 0 rfl ?_
  refine s_getI hX flX5_18 rfl dX5_takenNow_12 ?_
  refine s_callSir hX [rf g 78, .int (μ.1 73 0), .int (μ.1 72 1)] skX3_greatestIn (fun r hF => c_X3_greatestIn rfl rfl hF) mkX3_greatestIn cvX5_82 rfl rfl ⟨by omega, by decide, Nat.le_of_ble_eq_true rfl⟩ dX5_takenNow_15 (fun r1 => ?_)
  refine s_istore_n (lv' := [(1, .int r1), (0, rf g 72)]) hX dX5_takenNow_18 rfl (by decide) rfl ?_
  refine s_iload_n hX dX5_takenNow_19 rfl 0 rfl ?_
  refine s_iconst (v := (-1)) hX dX5_takenNow_20 (by decide) ?_
  refine s_jn (C := fun j => ∀ (y2 : Int32), Sim G (j y2) K 34 [] [.int y2] μ) ?_ (fun j3 hj3 => ?_)
  · intro y2
    show Sim G _ _ 34 [] [.int y2] μ
    exact s_iretr hK hR dX5_takenNow_34
  refine s_icmp_ne hX 28 dX5_takenNow_21 (by decide) ?_ ?_
  · refine s_aload_n hX dX5_takenNow_28 rfl 1 rfl ?_
    refine s_getR hX (d := 7) 79 flX5_26 rfl rfl dX5_takenNow_29 ?_
    refine s_iload_n hX dX5_takenNow_32 rfl 0 rfl ?_
    refine s_iald hX rfl rfl dX5_takenNow_33 ?_
    exact s_to hX [] rfl (hj3 (μ.1 79 (ix r1)))
  · refine s_iconst (v := 0) hX dX5_takenNow_24 (by decide) ?_
    refine s_goto hX 34 dX5_takenNow_25 (by decide) ?_
    exact s_to hX [] rfl (hj3 0)
theorem dX7_shortestWay_0 : decode cX7_shortestWay 0 = .ok (.iconst 1, 1) := by decide +kernel
theorem dX7_shortestWay_1 : decode cX7_shortestWay 1 = .ok (.iload_n 1, 1) := by decide +kernel
theorem dX7_shortestWay_2 : decode cX7_shortestWay 2 = .ok (.ishl, 1) := by decide +kernel
theorem dX7_shortestWay_3 : decode cX7_shortestWay 3 = .ok (.istore_n 3, 1) := by decide +kernel
theorem dX7_shortestWay_4 : decode cX7_shortestWay 4 = .ok (.iconst 1, 1) := by decide +kernel
theorem dX7_shortestWay_5 : decode cX7_shortestWay 5 = .ok (.istore 4, 2) := by decide +kernel
theorem dX7_shortestWay_7 : decode cX7_shortestWay 7 = .ok (.iload 4, 2) := by decide +kernel
theorem dX7_shortestWay_9 : decode cX7_shortestWay 9 = .ok (.iconst 5, 1) := by decide +kernel
theorem dX7_shortestWay_10 : decode cX7_shortestWay 10 = .ok (.if_icmp .ge 31, 3) := by decide +kernel
theorem dX7_shortestWay_13 : decode cX7_shortestWay 13 = .ok (.aload_n 0, 1) := by decide +kernel
theorem dX7_shortestWay_14 : decode cX7_shortestWay 14 = .ok (.iload_n 3, 1) := by decide +kernel
theorem dX7_shortestWay_15 : decode cX7_shortestWay 15 = .ok (.aload_n 0, 1) := by decide +kernel
theorem dX7_shortestWay_16 : decode cX7_shortestWay 16 = .ok (.getfield 22, 3) := by decide +kernel
theorem dX7_shortestWay_19 : decode cX7_shortestWay 19 = .ok (.invokevirtual 31, 3) := by decide +kernel
theorem dX7_shortestWay_22 : decode cX7_shortestWay 22 = .ok (.istore_n 3, 1) := by decide +kernel
theorem dX7_shortestWay_23 : decode cX7_shortestWay 23 = .ok (.iload_n 3, 1) := by decide +kernel
theorem dX7_shortestWay_24 : decode cX7_shortestWay 24 = .ok (.iload_n 2, 1) := by decide +kernel
theorem dX7_shortestWay_25 : decode cX7_shortestWay 25 = .ok (.ishr, 1) := by decide +kernel
theorem dX7_shortestWay_26 : decode cX7_shortestWay 26 = .ok (.iconst 1, 1) := by decide +kernel
theorem dX7_shortestWay_27 : decode cX7_shortestWay 27 = .ok (.iand, 1) := by decide +kernel
theorem dX7_shortestWay_28 : decode cX7_shortestWay 28 = .ok (.iconst 1, 1) := by decide +kernel
theorem dX7_shortestWay_29 : decode cX7_shortestWay 29 = .ok (.if_icmp .ne 6, 3) := by decide +kernel
theorem dX7_shortestWay_32 : decode cX7_shortestWay 32 = .ok (.iload 4, 2) := by decide +kernel
theorem dX7_shortestWay_34 : decode cX7_shortestWay 34 = .ok (.ireturn, 1) := by decide +kernel
theorem dX7_shortestWay_35 : decode cX7_shortestWay 35 = .ok (.iinc 4 1, 3) := by decide +kernel
theorem dX7_shortestWay_38 : decode cX7_shortestWay 38 = .ok (.goto (-31), 3) := by decide +kernel
theorem dX7_shortestWay_41 : decode cX7_shortestWay 41 = .ok (.iconst (-1), 1) := by decide +kernel
theorem dX7_shortestWay_42 : decode cX7_shortestWay 42 = .ok (.ireturn, 1) := by decide +kernel
noncomputable def f_X7_shortestWay (k0 : Nat) (x1 : Int32) (x2 : Int32) (μ : Mem) : Option Int32 :=
  bdr (lp (ε := (Unit) ⊕ Int32) (cu2 fun (x3_1 : Int32) (x4_2 : Int32) =>
    if x4_2 < 5 then
      bd (f_X7_spread k0 x3_1 (μ.1 k0 3) μ) fun r4 =>
      if ((r4 >>> (x2 &&& 31)) &&& 1) = 1 then
        some (.inr (.inr x4_2))
      else
        some (.inl (r4, (x4_2 + 1)))
    else
      some (.inr (.inl ()))
    ) (((1 : Int32) <<< (x1 &&& 31)), 1)) (fun (_ : Unit) =>
    some (-1)
    ) (fun r => some (r))
set_option maxHeartbeats 4000000 in
set_option maxRecDepth 100000 in
theorem c_X7_shortestWay {g : GT} {k0 : Nat} {x1 : Int32} {x2 : Int32} {μ : Mem} {r0 : Int32} (hk0 : tyOf k0 = 6) (hf : f_X7_shortestWay k0 x1 x2 μ = some r0) : CI g yX7_shortestWay cX7_shortestWay 5 (some .int) 2 [rf g k0, .int x1, .int x2] μ r0 μ := by
  refine mk_i (by decide) (Nat.le_of_ble_eq_true rfl) ?_
  intro G hX hR
  have hX : CX g G cX7_shortestWay RX7 5 2 := hX
  suffices S : ∀ K : Int32 → Prop, (∀ a, K a → a = r0) → Sim G (f_X7_shortestWay k0 x1 x2 μ) K 0 [(0, rf g k0), (1, .int x1), (2, .int x2)] [] μ from S (fun a => a = r0) (fun a h => h) _ hf rfl
  intro K hK
  unfold f_X7_shortestWay
  refine s_iconst (v := 1) hX dX7_shortestWay_0 (by decide) ?_
  refine s_iload_n hX dX7_shortestWay_1 rfl 1 rfl ?_
  refine s_ishl hX dX7_shortestWay_2 ?_
  refine s_istore_n (lv' := [(3, .int ((1 : Int32) <<< (x1 &&& 31))), (0, rf g k0), (1, .int x1), (2, .int x2)]) hX dX7_shortestWay_3 rfl (by decide) rfl ?_
  refine s_iconst (v := 1) hX dX7_shortestWay_4 (by decide) ?_
  refine s_istore (lv' := [(4, .int 1), (3, .int ((1 : Int32) <<< (x1 &&& 31))), (0, rf g k0), (1, .int x1), (2, .int x2)]) hX dX7_shortestWay_5 (by decide) rfl ?_
  refine s_loopR hX 7 41 (fun s : Int32 × Int32 => [(0, rf g k0), (2, .int x2), (3, .int s.1), (4, .int s.2)]) (fun s : Int32 × Int32 => μ) (fun _ : Unit => []) (fun _ : Unit => μ) [2, 4, 1, 0] rfl rfl rfl (fun r => r = r0) (fun r a h k => by cases h; exact hK _ k) ?_ ?_
  · intro Kq3 hIq3 hJq3 hKq3 sq
    obtain ⟨x3_1, x4_2⟩ := sq
    refine s_cu2 ?_
    show Sim G _ _ 7 [(0, rf g k0), (2, .int x2), (3, .int x3_1), (4, .int x4_2)] [] μ
    refine s_iload hX dX7_shortestWay_7 3 rfl ?_
    refine s_iconst (v := 5) hX dX7_shortestWay_9 (by decide) ?_
    refine s_icmp_ge hX 41 dX7_shortestWay_10 (by decide) ?_ ?_
    · exact s_end hX (hJq3 ()) [] rfl
    · refine s_aload_n hX dX7_shortestWay_13 rfl 0 rfl ?_
      refine s_iload_n hX dX7_shortestWay_14 rfl 2 rfl ?_
      refine s_aload_n hX dX7_shortestWay_15 rfl 0 rfl ?_
      refine s_getI hX flX7_22 hk0 dX7_shortestWay_16 ?_
      refine s_callVir hX [.int x3_1, .int (μ.1 k0 3)] (k := k0) (ci := 6) hk0 hc6 vkX7_spread (fun r hF => c_X7_spread hk0 hF) mkX7_spread cvX7_31 rfl rfl ⟨by omega, by decide, Nat.le_of_ble_eq_true rfl⟩ dX7_shortestWay_19 (fun r4 => ?_)
      refine s_istore_n (lv' := [(3, .int r4), (0, rf g k0), (2, .int x2), (4, .int x4_2)]) hX dX7_shortestWay_22 rfl (by decide) rfl ?_
      refine s_iload_n hX dX7_shortestWay_23 rfl 0 rfl ?_
      refine s_iload_n hX dX7_shortestWay_24 rfl 2 rfl ?_
      refine s_ishr hX dX7_shortestWay_25 ?_
      refine s_iconst (v := 1) hX dX7_shortestWay_26 (by decide) ?_
      refine s_iand hX dX7_shortestWay_27 ?_
      refine s_iconst (v := 1) hX dX7_shortestWay_28 (by decide) ?_
      refine s_icmp_ne hX 35 dX7_shortestWay_29 (by decide) ?_ ?_
      · refine s_iinc (v := (x4_2 + 1)) (lv' := [(4, .int (x4_2 + 1)), (3, .int r4), (0, rf g k0), (2, .int x2)]) hX dX7_shortestWay_35 3 rfl rfl (by decide) rfl ?_
        refine s_goto hX 7 dX7_shortestWay_38 (by decide) ?_
        exact s_end hX (hIq3 (r4, (x4_2 + 1))) [2, 3, 1, 0] rfl
      · refine s_iload hX dX7_shortestWay_32 3 rfl ?_
        exact s_iretr hKq3 hR dX7_shortestWay_34
  · intro sq
    show Sim G _ _ 41 [] [] μ
    refine s_iconst (v := (-1)) hX dX7_shortestWay_41 (by decide) ?_
    exact s_iretr hK hR dX7_shortestWay_42
theorem dX7_sideOf_0 : decode cX7_sideOf 0 = .ok (.iconst 1, 1) := by decide +kernel
theorem dX7_sideOf_1 : decode cX7_sideOf 1 = .ok (.iload_n 1, 1) := by decide +kernel
theorem dX7_sideOf_2 : decode cX7_sideOf 2 = .ok (.ishl, 1) := by decide +kernel
theorem dX7_sideOf_3 : decode cX7_sideOf 3 = .ok (.istore_n 3, 1) := by decide +kernel
theorem dX7_sideOf_4 : decode cX7_sideOf 4 = .ok (.iconst 1, 1) := by decide +kernel
theorem dX7_sideOf_5 : decode cX7_sideOf 5 = .ok (.istore 4, 2) := by decide +kernel
theorem dX7_sideOf_7 : decode cX7_sideOf 7 = .ok (.iload 4, 2) := by decide +kernel
theorem dX7_sideOf_9 : decode cX7_sideOf 9 = .ok (.iconst 5, 1) := by decide +kernel
theorem dX7_sideOf_10 : decode cX7_sideOf 10 = .ok (.if_icmp .ge 16, 3) := by decide +kernel
theorem dX7_sideOf_13 : decode cX7_sideOf 13 = .ok (.aload_n 0, 1) := by decide +kernel
theorem dX7_sideOf_14 : decode cX7_sideOf 14 = .ok (.iload_n 3, 1) := by decide +kernel
theorem dX7_sideOf_15 : decode cX7_sideOf 15 = .ok (.iload_n 2, 1) := by decide +kernel
theorem dX7_sideOf_16 : decode cX7_sideOf 16 = .ok (.invokevirtual 31, 3) := by decide +kernel
theorem dX7_sideOf_19 : decode cX7_sideOf 19 = .ok (.istore_n 3, 1) := by decide +kernel
theorem dX7_sideOf_20 : decode cX7_sideOf 20 = .ok (.iinc 4 1, 3) := by decide +kernel
theorem dX7_sideOf_23 : decode cX7_sideOf 23 = .ok (.goto (-16), 3) := by decide +kernel
theorem dX7_sideOf_26 : decode cX7_sideOf 26 = .ok (.iload_n 3, 1) := by decide +kernel
theorem dX7_sideOf_27 : decode cX7_sideOf 27 = .ok (.ireturn, 1) := by decide +kernel
noncomputable def f_X7_sideOf (k0 : Nat) (x1 : Int32) (x2 : Int32) (μ : Mem) : Option Int32 :=
  bd (lp (ε := Int32) (cu2 fun (x3_1 : Int32) (x4_2 : Int32) =>
    if x4_2 < 5 then
      bd (f_X7_spread k0 x3_1 x2 μ) fun r5 =>
      some (.inl (r5, (x4_2 + 1)))
    else
      some (.inr x3_1)
    ) (((1 : Int32) <<< (x1 &&& 31)), 1)) (fun (x3_3 : Int32) =>
    some x3_3
    )
set_option maxHeartbeats 4000000 in
set_option maxRecDepth 100000 in
theorem c_X7_sideOf {g : GT} {k0 : Nat} {x1 : Int32} {x2 : Int32} {μ : Mem} {r0 : Int32} (hk0 : tyOf k0 = 6) (hf : f_X7_sideOf k0 x1 x2 μ = some r0) : CI g yX7_sideOf cX7_sideOf 5 (some .int) 2 [rf g k0, .int x1, .int x2] μ r0 μ := by
  refine mk_i (by decide) (Nat.le_of_ble_eq_true rfl) ?_
  intro G hX hR
  have hX : CX g G cX7_sideOf RX7 5 2 := hX
  suffices S : ∀ K : Int32 → Prop, (∀ a, K a → a = r0) → Sim G (f_X7_sideOf k0 x1 x2 μ) K 0 [(0, rf g k0), (1, .int x1), (2, .int x2)] [] μ from S (fun a => a = r0) (fun a h => h) _ hf rfl
  intro K hK
  unfold f_X7_sideOf
  refine s_iconst (v := 1) hX dX7_sideOf_0 (by decide) ?_
  refine s_iload_n hX dX7_sideOf_1 rfl 1 rfl ?_
  refine s_ishl hX dX7_sideOf_2 ?_
  refine s_istore_n (lv' := [(3, .int ((1 : Int32) <<< (x1 &&& 31))), (0, rf g k0), (1, .int x1), (2, .int x2)]) hX dX7_sideOf_3 rfl (by decide) rfl ?_
  refine s_iconst (v := 1) hX dX7_sideOf_4 (by decide) ?_
  refine s_istore (lv' := [(4, .int 1), (3, .int ((1 : Int32) <<< (x1 &&& 31))), (0, rf g k0), (1, .int x1), (2, .int x2)]) hX dX7_sideOf_5 (by decide) rfl ?_
  refine s_loop hX 7 26 (fun s : Int32 × Int32 => [(0, rf g k0), (2, .int x2), (3, .int s.1), (4, .int s.2)]) (fun s : Int32 × Int32 => μ) (fun s : Int32 => [(3, .int s)]) (fun s : Int32 => μ) [2, 4, 1, 0] rfl rfl rfl ?_ ?_
  · intro Kq4 hIq4 hJq4 sq
    obtain ⟨x3_1, x4_2⟩ := sq
    refine s_cu2 ?_
    show Sim G _ _ 7 [(0, rf g k0), (2, .int x2), (3, .int x3_1), (4, .int x4_2)] [] μ
    refine s_iload hX dX7_sideOf_7 3 rfl ?_
    refine s_iconst (v := 5) hX dX7_sideOf_9 (by decide) ?_
    refine s_icmp_ge hX 26 dX7_sideOf_10 (by decide) ?_ ?_
    · exact s_end hX (hJq4 x3_1) [2] rfl
    · refine s_aload_n hX dX7_sideOf_13 rfl 0 rfl ?_
      refine s_iload_n hX dX7_sideOf_14 rfl 2 rfl ?_
      refine s_iload_n hX dX7_sideOf_15 rfl 1 rfl ?_
      refine s_callVir hX [.int x3_1, .int x2] (k := k0) (ci := 6) hk0 hc6 vkX7_spread (fun r hF => c_X7_spread hk0 hF) mkX7_spread cvX7_31 rfl rfl ⟨by omega, by decide, Nat.le_of_ble_eq_true rfl⟩ dX7_sideOf_16 (fun r5 => ?_)
      refine s_istore_n (lv' := [(3, .int r5), (0, rf g k0), (2, .int x2), (4, .int x4_2)]) hX dX7_sideOf_19 rfl (by decide) rfl ?_
      refine s_iinc (v := (x4_2 + 1)) (lv' := [(4, .int (x4_2 + 1)), (3, .int r5), (0, rf g k0), (2, .int x2)]) hX dX7_sideOf_20 3 rfl rfl (by decide) rfl ?_
      refine s_goto hX 7 dX7_sideOf_23 (by decide) ?_
      exact s_end hX (hIq4 (r5, (x4_2 + 1))) [2, 3, 1, 0] rfl
  · intro sq
    obtain ⟨x3_3, rfl⟩ : ∃ z, z = sq := ⟨_, rfl⟩
    show Sim G _ _ 26 [(3, .int x3_3)] [] μ
    refine s_iload_n hX dX7_sideOf_26 rfl 0 rfl ?_
    exact s_iretr hK hR dX7_sideOf_27
theorem dX8_stepOverNumber_0 : decode cX8_stepOverNumber 0 = .ok (.aload_n 0, 1) := by decide +kernel
theorem dX8_stepOverNumber_1 : decode cX8_stepOverNumber 1 = .ok (.aload_n 0, 1) := by decide +kernel
theorem dX8_stepOverNumber_2 : decode cX8_stepOverNumber 2 = .ok (.getfield 9, 3) := by decide +kernel
theorem dX8_stepOverNumber_5 : decode cX8_stepOverNumber 5 = .ok (.aload_n 0, 1) := by decide +kernel
theorem dX8_stepOverNumber_6 : decode cX8_stepOverNumber 6 = .ok (.getfield 29, 3) := by decide +kernel
theorem dX8_stepOverNumber_9 : decode cX8_stepOverNumber 9 = .ok (.caload, 1) := by decide +kernel
theorem dX8_stepOverNumber_10 : decode cX8_stepOverNumber 10 = .ok (.bipush 48, 2) := by decide +kernel
theorem dX8_stepOverNumber_12 : decode cX8_stepOverNumber 12 = .ok (.isub, 1) := by decide +kernel
theorem dX8_stepOverNumber_13 : decode cX8_stepOverNumber 13 = .ok (.putfield 38, 3) := by decide +kernel
theorem dX8_stepOverNumber_16 : decode cX8_stepOverNumber 16 = .ok (.aload_n 0, 1) := by decide +kernel
theorem dX8_stepOverNumber_17 : decode cX8_stepOverNumber 17 = .ok (.getfield 32, 3) := by decide +kernel
theorem dX8_stepOverNumber_20 : decode cX8_stepOverNumber 20 = .ok (.aload_n 0, 1) := by decide +kernel
theorem dX8_stepOverNumber_21 : decode cX8_stepOverNumber 21 = .ok (.getfield 15, 3) := by decide +kernel
theorem dX8_stepOverNumber_24 : decode cX8_stepOverNumber 24 = .ok (.if_icmp .ge 51, 3) := by decide +kernel
theorem dX8_stepOverNumber_27 : decode cX8_stepOverNumber 27 = .ok (.aload_n 0, 1) := by decide +kernel
theorem dX8_stepOverNumber_28 : decode cX8_stepOverNumber 28 = .ok (.aload_n 0, 1) := by decide +kernel
theorem dX8_stepOverNumber_29 : decode cX8_stepOverNumber 29 = .ok (.getfield 32, 3) := by decide +kernel
theorem dX8_stepOverNumber_32 : decode cX8_stepOverNumber 32 = .ok (.invokevirtual 57, 3) := by decide +kernel
theorem dX8_stepOverNumber_35 : decode cX8_stepOverNumber 35 = .ok (.ifCond .eq 40, 3) := by decide +kernel
theorem dX8_stepOverNumber_38 : decode cX8_stepOverNumber 38 = .ok (.aload_n 0, 1) := by decide +kernel
theorem dX8_stepOverNumber_39 : decode cX8_stepOverNumber 39 = .ok (.aload_n 0, 1) := by decide +kernel
theorem dX8_stepOverNumber_40 : decode cX8_stepOverNumber 40 = .ok (.getfield 38, 3) := by decide +kernel
theorem dX8_stepOverNumber_43 : decode cX8_stepOverNumber 43 = .ok (.bipush 10, 2) := by decide +kernel
theorem dX8_stepOverNumber_45 : decode cX8_stepOverNumber 45 = .ok (.imul, 1) := by decide +kernel
theorem dX8_stepOverNumber_46 : decode cX8_stepOverNumber 46 = .ok (.aload_n 0, 1) := by decide +kernel
theorem dX8_stepOverNumber_47 : decode cX8_stepOverNumber 47 = .ok (.getfield 9, 3) := by decide +kernel
theorem dX8_stepOverNumber_50 : decode cX8_stepOverNumber 50 = .ok (.aload_n 0, 1) := by decide +kernel
theorem dX8_stepOverNumber_51 : decode cX8_stepOverNumber 51 = .ok (.getfield 32, 3) := by decide +kernel
theorem dX8_stepOverNumber_54 : decode cX8_stepOverNumber 54 = .ok (.caload, 1) := by decide +kernel
theorem dX8_stepOverNumber_55 : decode cX8_stepOverNumber 55 = .ok (.iadd, 1) := by decide +kernel
theorem dX8_stepOverNumber_56 : decode cX8_stepOverNumber 56 = .ok (.bipush 48, 2) := by decide +kernel
theorem dX8_stepOverNumber_58 : decode cX8_stepOverNumber 58 = .ok (.isub, 1) := by decide +kernel
theorem dX8_stepOverNumber_59 : decode cX8_stepOverNumber 59 = .ok (.putfield 38, 3) := by decide +kernel
theorem dX8_stepOverNumber_62 : decode cX8_stepOverNumber 62 = .ok (.aload_n 0, 1) := by decide +kernel
theorem dX8_stepOverNumber_63 : decode cX8_stepOverNumber 63 = .ok (.dup, 1) := by decide +kernel
theorem dX8_stepOverNumber_64 : decode cX8_stepOverNumber 64 = .ok (.getfield 32, 3) := by decide +kernel
theorem dX8_stepOverNumber_67 : decode cX8_stepOverNumber 67 = .ok (.iconst 1, 1) := by decide +kernel
theorem dX8_stepOverNumber_68 : decode cX8_stepOverNumber 68 = .ok (.iadd, 1) := by decide +kernel
theorem dX8_stepOverNumber_69 : decode cX8_stepOverNumber 69 = .ok (.putfield 32, 3) := by decide +kernel
theorem dX8_stepOverNumber_72 : decode cX8_stepOverNumber 72 = .ok (.goto (-56), 3) := by decide +kernel
theorem dX8_stepOverNumber_75 : decode cX8_stepOverNumber 75 = .ok (.aload_n 0, 1) := by decide +kernel
theorem dX8_stepOverNumber_76 : decode cX8_stepOverNumber 76 = .ok (.aload_n 0, 1) := by decide +kernel
theorem dX8_stepOverNumber_77 : decode cX8_stepOverNumber 77 = .ok (.getfield 32, 3) := by decide +kernel
theorem dX8_stepOverNumber_80 : decode cX8_stepOverNumber 80 = .ok (.aload_n 0, 1) := by decide +kernel
theorem dX8_stepOverNumber_81 : decode cX8_stepOverNumber 81 = .ok (.getfield 29, 3) := by decide +kernel
theorem dX8_stepOverNumber_84 : decode cX8_stepOverNumber 84 = .ok (.isub, 1) := by decide +kernel
theorem dX8_stepOverNumber_85 : decode cX8_stepOverNumber 85 = .ok (.iconst 2, 1) := by decide +kernel
theorem dX8_stepOverNumber_86 : decode cX8_stepOverNumber 86 = .ok (.if_icmp .le 7, 3) := by decide +kernel
theorem dX8_stepOverNumber_89 : decode cX8_stepOverNumber 89 = .ok (.iconst 4, 1) := by decide +kernel
theorem dX8_stepOverNumber_90 : decode cX8_stepOverNumber 90 = .ok (.goto 4, 3) := by decide +kernel
theorem dX8_stepOverNumber_93 : decode cX8_stepOverNumber 93 = .ok (.iconst 2, 1) := by decide +kernel
theorem dX8_stepOverNumber_94 : decode cX8_stepOverNumber 94 = .ok (.putfield 35, 3) := by decide +kernel
theorem dX8_stepOverNumber_97 : decode cX8_stepOverNumber 97 = .ok (.return_, 1) := by decide +kernel
noncomputable def f_X8_stepOverNumber  (μ : Mem) : Option Mem :=
  chk (μ.1 45 5) 150 (
    lt (setI μ 45 8 ((μ.1 46 (ix (μ.1 45 5))) - 48)) fun ν1 =>
    bd (lp (ε := Mem) (fun (ν2 : Mem) =>
      if (ν2.1 45 6) < (ν2.1 45 1) then
        bd (f_X8_isFigure (ν2.1 45 6) ν2) fun r5 =>
        if r5 = 0 then
          some (.inr ν2)
        else
          chk (ν2.1 45 6) 150 (
            lt (setI ν2 45 8 ((((ν2.1 45 8) * 10) + (ν2.1 46 (ix (ν2.1 45 6)))) - 48)) fun ν6 =>
            lt (setI ν6 45 6 ((ν6.1 45 6) + 1)) fun ν7 =>
            some (.inl ν7)
            )
      else
        some (.inr ν2)
      ) ν1) (fun (ν3 : Mem) =>
      jn (fun (y8 : Int32) =>
        lt (setI ν3 45 7 y8) fun ν10 =>
        some ν10
        ) fun j9 =>
      if 2 < ((ν3.1 45 6) - (ν3.1 45 5)) then
        j9 4
      else
        j9 2
      )
    )
set_option maxHeartbeats 4000000 in
set_option maxRecDepth 100000 in
theorem c_X8_stepOverNumber {g : GT}  {μ : Mem} {μ0 : Mem} (hf : f_X8_stepOverNumber  μ = some μ0) : CV g yX8_stepOverNumber cX8_stepOverNumber 1 (none) 2 [rf g 45] μ μ0 := by
  refine mk_v (by decide) (Nat.le_of_ble_eq_true rfl) ?_
  intro G hX hR
  have hX : CX g G cX8_stepOverNumber RX8 1 2 := hX
  suffices S : ∀ K : Mem → Prop, (∀ a, K a → a = μ0) → Sim G (f_X8_stepOverNumber  μ) K 0 [(0, rf g 45)] [] μ from S (fun a => a = μ0) (fun a h => h) _ hf rfl
  intro K hK
  unfold f_X8_stepOverNumber
  refine s_aload_n hX dX8_stepOverNumber_0 rfl 0 rfl ?_
  refine s_aload_n hX dX8_stepOverNumber_1 rfl 0 rfl ?_
  refine s_getR hX (d := 1) 46 flX8_9 rfl rfl dX8_stepOverNumber_2 ?_
  refine s_aload_n hX dX8_stepOverNumber_5 rfl 0 rfl ?_
  refine s_getI hX flX8_29 rfl dX8_stepOverNumber_6 ?_
  refine s_cald hX rfl rfl dX8_stepOverNumber_9 ?_
  refine s_bipush (v := 48) hX dX8_stepOverNumber_10 (by decide) ?_
  refine s_isub hX dX8_stepOverNumber_12 ?_
  refine s_putI hX flX8_38 rfl ⟨rfl, rfl⟩ dX8_stepOverNumber_13 (fun ν1 => ?_)
  refine s_loop hX 16 75 (fun s : Mem => [(0, rf g 45)]) (fun s : Mem => s) (fun s : Mem => [(0, rf g 45)]) (fun s : Mem => s) [0] rfl rfl rfl ?_ ?_
  · intro Kq4 hIq4 hJq4 sq
    obtain ⟨ν2, rfl⟩ : ∃ z, z = sq := ⟨_, rfl⟩
    show Sim G _ _ 16 [(0, rf g 45)] [] ν2
    refine s_aload_n hX dX8_stepOverNumber_16 rfl 0 rfl ?_
    refine s_getI hX flX8_32 rfl dX8_stepOverNumber_17 ?_
    refine s_aload_n hX dX8_stepOverNumber_20 rfl 0 rfl ?_
    refine s_getI hX flX8_15 rfl dX8_stepOverNumber_21 ?_
    refine s_icmp_ge hX 75 dX8_stepOverNumber_24 (by decide) ?_ ?_
    · exact s_end hX (hJq4 ν2) [0] rfl
    · refine s_aload_n hX dX8_stepOverNumber_27 rfl 0 rfl ?_
      refine s_aload_n hX dX8_stepOverNumber_28 rfl 0 rfl ?_
      refine s_getI hX flX8_32 rfl dX8_stepOverNumber_29 ?_
      refine s_callVir hX [.int (ν2.1 45 6)] (k := 45) (ci := 7) rfl hc7 vkX8_isFigure (fun r hF => c_X8_isFigure  hF) mkX8_isFigure cvX8_57 rfl rfl ⟨by omega, by decide, Nat.le_of_ble_eq_true rfl⟩ dX8_stepOverNumber_32 (fun r5 => ?_)
      refine s_if_eq hX 75 dX8_stepOverNumber_35 (by decide) ?_ ?_
      · exact s_end hX (hJq4 ν2) [0] rfl
      · refine s_aload_n hX dX8_stepOverNumber_38 rfl 0 rfl ?_
        refine s_aload_n hX dX8_stepOverNumber_39 rfl 0 rfl ?_
        refine s_getI hX flX8_38 rfl dX8_stepOverNumber_40 ?_
        refine s_bipush (v := 10) hX dX8_stepOverNumber_43 (by decide) ?_
        refine s_imul hX dX8_stepOverNumber_45 ?_
        refine s_aload_n hX dX8_stepOverNumber_46 rfl 0 rfl ?_
        refine s_getR hX (d := 1) 46 flX8_9 rfl rfl dX8_stepOverNumber_47 ?_
        refine s_aload_n hX dX8_stepOverNumber_50 rfl 0 rfl ?_
        refine s_getI hX flX8_32 rfl dX8_stepOverNumber_51 ?_
        refine s_cald hX rfl rfl dX8_stepOverNumber_54 ?_
        refine s_iadd hX dX8_stepOverNumber_55 ?_
        refine s_bipush (v := 48) hX dX8_stepOverNumber_56 (by decide) ?_
        refine s_isub hX dX8_stepOverNumber_58 ?_
        refine s_putI hX flX8_38 rfl ⟨rfl, rfl⟩ dX8_stepOverNumber_59 (fun ν6 => ?_)
        refine s_aload_n hX dX8_stepOverNumber_62 rfl 0 rfl ?_
        refine s_dup hX dX8_stepOverNumber_63 rfl ?_
        refine s_getI hX flX8_32 rfl dX8_stepOverNumber_64 ?_
        refine s_iconst (v := 1) hX dX8_stepOverNumber_67 (by decide) ?_
        refine s_iadd hX dX8_stepOverNumber_68 ?_
        refine s_putI hX flX8_32 rfl ⟨rfl, rfl⟩ dX8_stepOverNumber_69 (fun ν7 => ?_)
        refine s_goto hX 16 dX8_stepOverNumber_72 (by decide) ?_
        exact s_end hX (hIq4 ν7) [0] rfl
  · intro sq
    obtain ⟨ν3, rfl⟩ : ∃ z, z = sq := ⟨_, rfl⟩
    show Sim G _ _ 75 [(0, rf g 45)] [] ν3
    refine s_aload_n hX dX8_stepOverNumber_75 rfl 0 rfl ?_
    refine s_aload_n hX dX8_stepOverNumber_76 rfl 0 rfl ?_
    refine s_getI hX flX8_32 rfl dX8_stepOverNumber_77 ?_
    refine s_aload_n hX dX8_stepOverNumber_80 rfl 0 rfl ?_
    refine s_getI hX flX8_29 rfl dX8_stepOverNumber_81 ?_
    refine s_isub hX dX8_stepOverNumber_84 ?_
    refine s_iconst (v := 2) hX dX8_stepOverNumber_85 (by decide) ?_
    refine s_jn (C := fun j => ∀ (y8 : Int32), Sim G (j y8) K 94 [] [.int y8, rf g 45] ν3) ?_ (fun j9 hj9 => ?_)
    · intro y8
      show Sim G _ _ 94 [] [.int y8, rf g 45] ν3
      refine s_putI hX flX8_35 rfl ⟨rfl, rfl⟩ dX8_stepOverNumber_94 (fun ν10 => ?_)
      exact s_vreti hK hR dX8_stepOverNumber_97
    refine s_icmp_le hX 93 dX8_stepOverNumber_86 (by decide) ?_ ?_
    · refine s_iconst (v := 2) hX dX8_stepOverNumber_93 (by decide) ?_
      exact s_to hX [] rfl (hj9 2)
    · refine s_iconst (v := 4) hX dX8_stepOverNumber_89 (by decide) ?_
      refine s_goto hX 94 dX8_stepOverNumber_90 (by decide) ?_
      exact s_to hX [] rfl (hj9 4)
theorem dX9_lossOfAll_0 : decode cX9_lossOfAll 0 = .ok (.lconst 0, 1) := by decide +kernel
theorem dX9_lossOfAll_1 : decode cX9_lossOfAll 1 = .ok (.lstore_n 1, 1) := by decide +kernel
theorem dX9_lossOfAll_2 : decode cX9_lossOfAll 2 = .ok (.iconst 0, 1) := by decide +kernel
theorem dX9_lossOfAll_3 : decode cX9_lossOfAll 3 = .ok (.istore_n 3, 1) := by decide +kernel
theorem dX9_lossOfAll_4 : decode cX9_lossOfAll 4 = .ok (.iload_n 3, 1) := by decide +kernel
theorem dX9_lossOfAll_5 : decode cX9_lossOfAll 5 = .ok (.aload_n 0, 1) := by decide +kernel
theorem dX9_lossOfAll_6 : decode cX9_lossOfAll 6 = .ok (.getfield 26, 3) := by decide +kernel
theorem dX9_lossOfAll_9 : decode cX9_lossOfAll 9 = .ok (.if_icmp .ge 17, 3) := by decide +kernel
theorem dX9_lossOfAll_12 : decode cX9_lossOfAll 12 = .ok (.lload_n 1, 1) := by decide +kernel
theorem dX9_lossOfAll_13 : decode cX9_lossOfAll 13 = .ok (.aload_n 0, 1) := by decide +kernel
theorem dX9_lossOfAll_14 : decode cX9_lossOfAll 14 = .ok (.iload_n 3, 1) := by decide +kernel
theorem dX9_lossOfAll_15 : decode cX9_lossOfAll 15 = .ok (.invokevirtual 59, 3) := by decide +kernel
theorem dX9_lossOfAll_18 : decode cX9_lossOfAll 18 = .ok (.ladd, 1) := by decide +kernel
theorem dX9_lossOfAll_19 : decode cX9_lossOfAll 19 = .ok (.lstore_n 1, 1) := by decide +kernel
theorem dX9_lossOfAll_20 : decode cX9_lossOfAll 20 = .ok (.iinc 3 1, 3) := by decide +kernel
theorem dX9_lossOfAll_23 : decode cX9_lossOfAll 23 = .ok (.goto (-19), 3) := by decide +kernel
theorem dX9_lossOfAll_26 : decode cX9_lossOfAll 26 = .ok (.lload_n 1, 1) := by decide +kernel
theorem dX9_lossOfAll_27 : decode cX9_lossOfAll 27 = .ok (.lreturn, 1) := by decide +kernel
noncomputable def f_X9_lossOfAll  (μ : Mem) : Option Int64 :=
  bd (lp (ε := Int64) (cu2 fun (x1_1 : Int64) (x3_2 : Int32) =>
    if x3_2 < (μ.1 68 4) then
      bd (f_X9_lossOf x3_2 μ) fun r5 =>
      some (.inl ((x1_1 + r5), (x3_2 + 1)))
    else
      some (.inr x1_1)
    ) (0, 0)) (fun (x1_3 : Int64) =>
    some x1_3
    )
set_option maxHeartbeats 4000000 in
set_option maxRecDepth 100000 in
theorem c_X9_lossOfAll {g : GT}  {μ : Mem} {r0 : Int64} (hf : f_X9_lossOfAll  μ = some r0) : CL g yX9_lossOfAll cX9_lossOfAll 4 (some .long) 2 [rf g 68] μ r0 μ := by
  refine mk_l (by decide) (Nat.le_of_ble_eq_true rfl) ?_
  intro G hX hR
  have hX : CX g G cX9_lossOfAll RX9 4 2 := hX
  suffices S : ∀ K : Int64 → Prop, (∀ a, K a → a = r0) → Sim G (f_X9_lossOfAll  μ) K 0 [(0, rf g 68)] [] μ from S (fun a => a = r0) (fun a h => h) _ hf rfl
  intro K hK
  unfold f_X9_lossOfAll
  refine s_lconst (v := 0) hX dX9_lossOfAll_0 (by decide) ?_
  refine s_lstore_n (lv' := [(1, .long 0), (0, rf g 68)]) hX dX9_lossOfAll_1 rfl (by decide) rfl ?_
  refine s_iconst (v := 0) hX dX9_lossOfAll_2 (by decide) ?_
  refine s_istore_n (lv' := [(3, .int 0), (1, .long 0), (0, rf g 68)]) hX dX9_lossOfAll_3 rfl (by decide) rfl ?_
  refine s_loop hX 4 26 (fun s : Int64 × Int32 => [(0, rf g 68), (1, .long s.1), (3, .int s.2)]) (fun s : Int64 × Int32 => μ) (fun s : Int64 => [(1, .long s)]) (fun s : Int64 => μ) [2, 1, 0] rfl rfl rfl ?_ ?_
  · intro Kq4 hIq4 hJq4 sq
    obtain ⟨x1_1, x3_2⟩ := sq
    refine s_cu2 ?_
    show Sim G _ _ 4 [(0, rf g 68), (1, .long x1_1), (3, .int x3_2)] [] μ
    refine s_iload_n hX dX9_lossOfAll_4 rfl 2 rfl ?_
    refine s_aload_n hX dX9_lossOfAll_5 rfl 0 rfl ?_
    refine s_getI hX flX9_26 rfl dX9_lossOfAll_6 ?_
    refine s_icmp_ge hX 26 dX9_lossOfAll_9 (by decide) ?_ ?_
    · exact s_end hX (hJq4 x1_1) [1] rfl
    · refine s_lload_n hX dX9_lossOfAll_12 rfl 1 rfl ?_
      refine s_aload_n hX dX9_lossOfAll_13 rfl 0 rfl ?_
      refine s_iload_n hX dX9_lossOfAll_14 rfl 2 rfl ?_
      refine s_callVlr hX [.int x3_2] (k := 68) (ci := 8) rfl hc8 vkX9_lossOf (fun r hF => c_X9_lossOf  hF) mkX9_lossOf cvX9_59 rfl rfl ⟨by omega, by decide, Nat.le_of_ble_eq_true rfl⟩ dX9_lossOfAll_15 (fun r5 => ?_)
      refine s_ladd hX dX9_lossOfAll_18 ?_
      refine s_lstore_n (lv' := [(1, .long (x1_1 + r5)), (0, rf g 68), (3, .int x3_2)]) hX dX9_lossOfAll_19 rfl (by decide) rfl ?_
      refine s_iinc (v := (x3_2 + 1)) (lv' := [(3, .int (x3_2 + 1)), (1, .long (x1_1 + r5)), (0, rf g 68)]) hX dX9_lossOfAll_20 2 rfl rfl (by decide) rfl ?_
      refine s_goto hX 4 dX9_lossOfAll_23 (by decide) ?_
      exact s_end hX (hIq4 ((x1_1 + r5), (x3_2 + 1))) [2, 1, 0] rfl
  · intro sq
    obtain ⟨x1_3, rfl⟩ : ∃ z, z = sq := ⟨_, rfl⟩
    show Sim G _ _ 26 [(1, .long x1_3)] [] μ
    refine s_lload_n hX dX9_lossOfAll_26 rfl 0 rfl ?_
    exact s_lretr hK hR dX9_lossOfAll_27
theorem dJ1_charAt_3b067_0 : decode cJ1_charAt_3b067 0 = .ok (.iload_n 1, 1) := by decide +kernel
theorem dJ1_charAt_3b067_1 : decode cJ1_charAt_3b067 1 = .ok (.aload_n 0, 1) := by decide +kernel
theorem dJ1_charAt_3b067_2 : decode cJ1_charAt_3b067 2 = .ok (.arraylength, 1) := by decide +kernel
theorem dJ1_charAt_3b067_3 : decode cJ1_charAt_3b067 3 = .ok (.invokestatic 9, 3) := by decide +kernel
theorem dJ1_charAt_3b067_6 : decode cJ1_charAt_3b067 6 = .ok (.aload_n 0, 1) := by decide +kernel
theorem dJ1_charAt_3b067_7 : decode cJ1_charAt_3b067 7 = .ok (.iload_n 1, 1) := by decide +kernel
theorem dJ1_charAt_3b067_8 : decode cJ1_charAt_3b067 8 = .ok (.baload, 1) := by decide +kernel
theorem dJ1_charAt_3b067_9 : decode cJ1_charAt_3b067 9 = .ok (.sipush 255, 3) := by decide +kernel
theorem dJ1_charAt_3b067_12 : decode cJ1_charAt_3b067 12 = .ok (.iand, 1) := by decide +kernel
theorem dJ1_charAt_3b067_13 : decode cJ1_charAt_3b067 13 = .ok (.i2c, 1) := by decide +kernel
theorem dJ1_charAt_3b067_14 : decode cJ1_charAt_3b067 14 = .ok (.ireturn, 1) := by decide +kernel
noncomputable def f_J1_charAt_3b067 (w0 : Nat) (x1 : Int32) : Option Int32 :=
  bd (f_J0_checkIndex_df160 x1 (Int32.ofNat (SLEN.getD w0 0))) fun _ =>
  chk x1 (SLEN.getD w0 0) (
    some (((((SCH w0 (ix x1)) &&& 255)).toUInt32 % 65536).toInt32)
    )
set_option maxHeartbeats 4000000 in
set_option maxRecDepth 100000 in
theorem c_J1_charAt_3b067 {g : GT} {w0 : Nat} {x1 : Int32} {μ : Mem} {r0 : Int32} (hw0 : w0 < 6) (hf : f_J1_charAt_3b067 w0 x1 = some r0) : CI g yJ1_charAt_3b067 cJ1_charAt_3b067 2 (some .char) 3 [rfV g w0, .int x1] μ r0 μ := by
  refine mk_n (by decide) (Nat.le_of_ble_eq_true rfl) ?_
  intro G hX hR
  have hX : CX g G cJ1_charAt_3b067 RJ1 2 3 := hX
  suffices S : ∀ K : Int32 → Prop, (∀ a, K a → a = r0) → Sim G (f_J1_charAt_3b067 w0 x1) K 0 [(0, rfV g w0), (1, .int x1)] [] μ from S (fun a => a = r0) (fun a h => h) _ hf rfl
  intro K hK
  unfold f_J1_charAt_3b067
  refine s_iload_n hX dJ1_charAt_3b067_0 rfl 1 rfl ?_
  refine s_Vload_n hX dJ1_charAt_3b067_1 rfl 0 rfl ?_
  refine s_vlen hX hw0 dJ1_charAt_3b067_2 ?_
  refine s_callSvr hX [.int x1, .int (Int32.ofNat (SLEN.getD w0 0))] skJ0_checkIndex_df160 (fun hF => c_J0_checkIndex_df160  hF) mkJ0_checkIndex_df160 cvJ1_9 rfl rfl ⟨by omega, by decide, Nat.le_of_ble_eq_true rfl⟩ dJ1_charAt_3b067_3 ?_
  refine s_Vload_n hX dJ1_charAt_3b067_6 rfl 0 rfl ?_
  refine s_iload_n hX dJ1_charAt_3b067_7 rfl 1 rfl ?_
  refine s_vald hX hw0 dJ1_charAt_3b067_8 ?_
  refine s_sipush (v := 255) hX dJ1_charAt_3b067_9 (by decide) ?_
  refine s_iand hX dJ1_charAt_3b067_12 ?_
  refine s_i2c hX dJ1_charAt_3b067_13 ?_
  exact s_nretr (pk_nc _) hK hR dJ1_charAt_3b067_14
theorem dX0_addRoad_0 : decode cX0_addRoad 0 = .ok (.aload_n 0, 1) := by decide +kernel
theorem dX0_addRoad_1 : decode cX0_addRoad 1 = .ok (.getfield 12, 3) := by decide +kernel
theorem dX0_addRoad_4 : decode cX0_addRoad 4 = .ok (.iload_n 1, 1) := by decide +kernel
theorem dX0_addRoad_5 : decode cX0_addRoad 5 = .ok (.iload_n 2, 1) := by decide +kernel
theorem dX0_addRoad_6 : decode cX0_addRoad 6 = .ok (.invokevirtual 93, 3) := by decide +kernel
theorem dX0_addRoad_9 : decode cX0_addRoad 9 = .ok (.ifCond .eq 15, 3) := by decide +kernel
theorem dX0_addRoad_12 : decode cX0_addRoad 12 = .ok (.aload_n 0, 1) := by decide +kernel
theorem dX0_addRoad_13 : decode cX0_addRoad 13 = .ok (.getfield 21, 3) := by decide +kernel
theorem dX0_addRoad_16 : decode cX0_addRoad 16 = .ok (.iload_n 1, 1) := by decide +kernel
theorem dX0_addRoad_17 : decode cX0_addRoad 17 = .ok (.iload_n 2, 1) := by decide +kernel
theorem dX0_addRoad_18 : decode cX0_addRoad 18 = .ok (.invokevirtual 97, 3) := by decide +kernel
theorem dX0_addRoad_21 : decode cX0_addRoad 21 = .ok (.goto 5, 3) := by decide +kernel
theorem dX0_addRoad_24 : decode cX0_addRoad 24 = .ok (.bipush (-2), 2) := by decide +kernel
theorem dX0_addRoad_26 : decode cX0_addRoad 26 = .ok (.ireturn, 1) := by decide +kernel
noncomputable def f_X0_addRoad (k0 : Nat) (x1 : Int32) (x2 : Int32) (μ : Mem) : Option (Int32 × Mem) :=
  bd (f_X3_hasPair (k0 + 1) x1 x2 μ) fun r1 =>
  jn (fun (y2 : Int32) (ν3 : Mem) =>
    some (y2, ν3)
    ) fun j4 =>
  if r1 = 0 then
    j4 (-2) μ
  else
    bd2 (f_X7_add (k0 + 6) x1 x2 μ) fun r5 ν6 =>
    j4 r5 ν6
set_option maxHeartbeats 4000000 in
set_option maxRecDepth 100000 in
theorem c_X0_addRoad {g : GT} {k0 : Nat} {x1 : Int32} {x2 : Int32} {μ : Mem} {μ0 : Mem} {r0 : Int32} (hk0 : tyOf k0 = 0) (hf : f_X0_addRoad k0 x1 x2 μ = some (r0, μ0)) : CI g yX0_addRoad cX0_addRoad 3 (some .int) 3 [rf g k0, .int x1, .int x2] μ r0 μ0 := by
  refine mk_i (by decide) (Nat.le_of_ble_eq_true rfl) ?_
  intro G hX hR
  have hX : CX g G cX0_addRoad RX0 3 3 := hX
  suffices S : ∀ K : (Int32 × Mem) → Prop, (∀ a, K a → a = (r0, μ0)) → Sim G (f_X0_addRoad k0 x1 x2 μ) K 0 [(0, rf g k0), (1, .int x1), (2, .int x2)] [] μ from S (fun a => a = (r0, μ0)) (fun a h => h) _ hf rfl
  intro K hK
  unfold f_X0_addRoad
  refine s_aload_n hX dX0_addRoad_0 rfl 0 rfl ?_
  refine s_getR hX (d := 1) (k0 + 1) flX0_12 hk0 rfl dX0_addRoad_1 ?_
  refine s_iload_n hX dX0_addRoad_4 rfl 1 rfl ?_
  refine s_iload_n hX dX0_addRoad_5 rfl 2 rfl ?_
  refine s_callVir hX [.int x1, .int x2] (k := (k0 + 1)) (ci := 3) (ty_0_1 hk0).1 hc3 vkX3_hasPair (fun r hF => c_X3_hasPair (ty_0_1 hk0).1 hF) mkX3_hasPair cvX0_93 rfl rfl ⟨by omega, by decide, Nat.le_of_ble_eq_true rfl⟩ dX0_addRoad_6 (fun r1 => ?_)
  refine s_jn (C := fun j => ∀ (y2 : Int32) (ν3 : Mem), Sim G (j y2 ν3) K 26 [] [.int y2] ν3) ?_ (fun j4 hj4 => ?_)
  · intro y2 ν3
    show Sim G _ _ 26 [] [.int y2] ν3
    exact s_ireti hK hR dX0_addRoad_26
  refine s_if_eq hX 24 dX0_addRoad_9 (by decide) ?_ ?_
  · refine s_bipush (v := (-2)) hX dX0_addRoad_24 (by decide) ?_
    exact s_to hX [] rfl (hj4 (-2) μ)
  · refine s_aload_n hX dX0_addRoad_12 rfl 0 rfl ?_
    refine s_getR hX (d := 6) (k0 + 6) flX0_21 hk0 rfl dX0_addRoad_13 ?_
    refine s_iload_n hX dX0_addRoad_16 rfl 1 rfl ?_
    refine s_iload_n hX dX0_addRoad_17 rfl 2 rfl ?_
    refine s_callViw hX [.int x1, .int x2] (k := (k0 + 6)) (ci := 6) (ty_0_6 hk0).1 hc6 vkX7_add (fun r ν hF => c_X7_add (ty_0_6 hk0).1 hF) mkX7_add cvX0_97 rfl rfl ⟨by omega, by decide, Nat.le_of_ble_eq_true rfl⟩ dX0_addRoad_18 (fun r5 ν6 => ?_)
    refine s_goto hX 26 dX0_addRoad_21 (by decide) ?_
    exact s_to hX [] rfl (hj4 r5 ν6)
theorem dX10_cloud_0 : decode cX10_cloud 0 = .ok (.aload_n 0, 1) := by decide +kernel
theorem dX10_cloud_1 : decode cX10_cloud 1 = .ok (.aload_n 0, 1) := by decide +kernel
theorem dX10_cloud_2 : decode cX10_cloud 2 = .ok (.getfield 10, 3) := by decide +kernel
theorem dX10_cloud_5 : decode cX10_cloud 5 = .ok (.iload_n 1, 1) := by decide +kernel
theorem dX10_cloud_6 : decode cX10_cloud 6 = .ok (.iload_n 2, 1) := by decide +kernel
theorem dX10_cloud_7 : decode cX10_cloud 7 = .ok (.invokevirtual 111, 3) := by decide +kernel
theorem dX10_cloud_10 : decode cX10_cloud 10 = .ok (.invokevirtual 90, 3) := by decide +kernel
theorem dX10_cloud_13 : decode cX10_cloud 13 = .ok (.ireturn, 1) := by decide +kernel
noncomputable def f_X10_cloud (x1 : Int32) (x2 : Int32) (μ : Mem) : Option (Int32 × Mem) :=
  bd2 (f_X0_setOdds 1 x1 x2 μ) fun r1 ν2 =>
  bd2 (f_X10_tally r1 ν2) fun r3 ν4 =>
  some (r3, ν4)
set_option maxHeartbeats 4000000 in
set_option maxRecDepth 100000 in
theorem c_X10_cloud {g : GT} {x1 : Int32} {x2 : Int32} {μ : Mem} {μ0 : Mem} {r0 : Int32} (hf : f_X10_cloud x1 x2 μ = some (r0, μ0)) : CI g yX10_cloud cX10_cloud 3 (some .int) 3 [rf g 0, .int x1, .int x2] μ r0 μ0 := by
  refine mk_i (by decide) (Nat.le_of_ble_eq_true rfl) ?_
  intro G hX hR
  have hX : CX g G cX10_cloud RX10 3 3 := hX
  suffices S : ∀ K : (Int32 × Mem) → Prop, (∀ a, K a → a = (r0, μ0)) → Sim G (f_X10_cloud x1 x2 μ) K 0 [(0, rf g 0), (1, .int x1), (2, .int x2)] [] μ from S (fun a => a = (r0, μ0)) (fun a h => h) _ hf rfl
  intro K hK
  unfold f_X10_cloud
  refine s_aload_n hX dX10_cloud_0 rfl 0 rfl ?_
  refine s_aload_n hX dX10_cloud_1 rfl 0 rfl ?_
  refine s_getR hX (d := 1) 1 flX10_10 rfl rfl dX10_cloud_2 ?_
  refine s_iload_n hX dX10_cloud_5 rfl 1 rfl ?_
  refine s_iload_n hX dX10_cloud_6 rfl 2 rfl ?_
  refine s_callViw hX [.int x1, .int x2] (k := 1) (ci := 0) rfl hc0 vkX0_setOdds (fun r ν hF => c_X0_setOdds rfl hF) mkX0_setOdds cvX10_111 rfl rfl ⟨by omega, by decide, Nat.le_of_ble_eq_true rfl⟩ dX10_cloud_7 (fun r1 ν2 => ?_)
  refine s_callViw hX [.int r1] (k := 0) (ci := 9) rfl hc9 vkX10_tally (fun r ν hF => c_X10_tally  hF) mkX10_tally cvX10_90 rfl rfl ⟨by omega, by decide, Nat.le_of_ble_eq_true rfl⟩ dX10_cloud_10 (fun r3 ν4 => ?_)
  exact s_ireti hK hR dX10_cloud_13
theorem dX10_county_0 : decode cX10_county 0 = .ok (.aload_n 0, 1) := by decide +kernel
theorem dX10_county_1 : decode cX10_county 1 = .ok (.aload_n 0, 1) := by decide +kernel
theorem dX10_county_2 : decode cX10_county 2 = .ok (.getfield 10, 3) := by decide +kernel
theorem dX10_county_5 : decode cX10_county 5 = .ok (.iload_n 1, 1) := by decide +kernel
theorem dX10_county_6 : decode cX10_county 6 = .ok (.invokevirtual 86, 3) := by decide +kernel
theorem dX10_county_9 : decode cX10_county 9 = .ok (.invokevirtual 90, 3) := by decide +kernel
theorem dX10_county_12 : decode cX10_county 12 = .ok (.ireturn, 1) := by decide +kernel
noncomputable def f_X10_county (x1 : Int32) (μ : Mem) : Option (Int32 × Mem) :=
  bd2 (f_X0_startAnew 1 x1 μ) fun r1 ν2 =>
  bd2 (f_X10_tally r1 ν2) fun r3 ν4 =>
  some (r3, ν4)
set_option maxHeartbeats 4000000 in
set_option maxRecDepth 100000 in
theorem c_X10_county {g : GT} {x1 : Int32} {μ : Mem} {μ0 : Mem} {r0 : Int32} (hf : f_X10_county x1 μ = some (r0, μ0)) : CI g yX10_county cX10_county 2 (some .int) 3 [rf g 0, .int x1] μ r0 μ0 := by
  refine mk_i (by decide) (Nat.le_of_ble_eq_true rfl) ?_
  intro G hX hR
  have hX : CX g G cX10_county RX10 2 3 := hX
  suffices S : ∀ K : (Int32 × Mem) → Prop, (∀ a, K a → a = (r0, μ0)) → Sim G (f_X10_county x1 μ) K 0 [(0, rf g 0), (1, .int x1)] [] μ from S (fun a => a = (r0, μ0)) (fun a h => h) _ hf rfl
  intro K hK
  unfold f_X10_county
  refine s_aload_n hX dX10_county_0 rfl 0 rfl ?_
  refine s_aload_n hX dX10_county_1 rfl 0 rfl ?_
  refine s_getR hX (d := 1) 1 flX10_10 rfl rfl dX10_county_2 ?_
  refine s_iload_n hX dX10_county_5 rfl 1 rfl ?_
  refine s_callViw hX [.int x1] (k := 1) (ci := 0) rfl hc0 vkX0_startAnew (fun r ν hF => c_X0_startAnew rfl hF) mkX0_startAnew cvX10_86 rfl rfl ⟨by omega, by decide, Nat.le_of_ble_eq_true rfl⟩ dX10_county_6 (fun r1 ν2 => ?_)
  refine s_callViw hX [.int r1] (k := 0) (ci := 9) rfl hc9 vkX10_tally (fun r ν hF => c_X10_tally  hF) mkX10_tally cvX10_90 rfl rfl ⟨by omega, by decide, Nat.le_of_ble_eq_true rfl⟩ dX10_county_9 (fun r3 ν4 => ?_)
  exact s_ireti hK hR dX10_county_12
