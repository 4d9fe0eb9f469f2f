theorem dX10_fit_0 : decode cX10_fit 0 = .ok (.iload_n 1, 1) := by decide +kernel
theorem dX10_fit_1 : decode cX10_fit 1 = .ok (.iconst 1, 1) := by decide +kernel
theorem dX10_fit_2 : decode cX10_fit 2 = .ok (.if_icmp .lt 17, 3) := by decide +kernel
theorem dX10_fit_5 : decode cX10_fit 5 = .ok (.iload_n 1, 1) := by decide +kernel
theorem dX10_fit_6 : decode cX10_fit 6 = .ok (.iconst 3, 1) := by decide +kernel
theorem dX10_fit_7 : decode cX10_fit 7 = .ok (.if_icmp .gt 12, 3) := by decide +kernel
theorem dX10_fit_10 : decode cX10_fit 10 = .ok (.iload_n 2, 1) := by decide +kernel
theorem dX10_fit_11 : decode cX10_fit 11 = .ok (.ifCond .lt 8, 3) := by decide +kernel
theorem dX10_fit_14 : decode cX10_fit 14 = .ok (.iload_n 2, 1) := by decide +kernel
theorem dX10_fit_15 : decode cX10_fit 15 = .ok (.iconst 1, 1) := by decide +kernel
theorem dX10_fit_16 : decode cX10_fit 16 = .ok (.if_icmp .le 10, 3) := by decide +kernel
theorem dX10_fit_19 : decode cX10_fit 19 = .ok (.aload_n 0, 1) := by decide +kernel
theorem dX10_fit_20 : decode cX10_fit 20 = .ok (.bipush (-10), 2) := by decide +kernel
theorem dX10_fit_22 : decode cX10_fit 22 = .ok (.invokevirtual 181, 3) := by decide +kernel
theorem dX10_fit_25 : decode cX10_fit 25 = .ok (.ireturn, 1) := by decide +kernel
theorem dX10_fit_26 : decode cX10_fit 26 = .ok (.aload_n 0, 1) := by decide +kernel
theorem dX10_fit_27 : decode cX10_fit 27 = .ok (.getfield 65, 3) := by decide +kernel
theorem dX10_fit_30 : decode cX10_fit 30 = .ok (.aload_n 0, 1) := by decide +kernel
theorem dX10_fit_31 : decode cX10_fit 31 = .ok (.getfield 10, 3) := by decide +kernel
theorem dX10_fit_34 : decode cX10_fit 34 = .ok (.iload_n 1, 1) := by decide +kernel
theorem dX10_fit_35 : decode cX10_fit 35 = .ok (.invokevirtual 287, 3) := by decide +kernel
theorem dX10_fit_38 : decode cX10_fit 38 = .ok (.istore_n 3, 1) := by decide +kernel
theorem dX10_fit_39 : decode cX10_fit 39 = .ok (.iload_n 2, 1) := by decide +kernel
theorem dX10_fit_40 : decode cX10_fit 40 = .ok (.ifCond .ne 5, 3) := by decide +kernel
theorem dX10_fit_43 : decode cX10_fit 43 = .ok (.iload_n 3, 1) := by decide +kernel
theorem dX10_fit_44 : decode cX10_fit 44 = .ok (.ireturn, 1) := by decide +kernel
theorem dX10_fit_45 : decode cX10_fit 45 = .ok (.iload_n 3, 1) := by decide +kernel
theorem dX10_fit_46 : decode cX10_fit 46 = .ok (.ifCond .ne 7, 3) := by decide +kernel
theorem dX10_fit_49 : decode cX10_fit 49 = .ok (.iconst (-1), 1) := by decide +kernel
theorem dX10_fit_50 : decode cX10_fit 50 = .ok (.goto 12, 3) := by decide +kernel
theorem dX10_fit_53 : decode cX10_fit 53 = .ok (.aload_n 0, 1) := by decide +kernel
theorem dX10_fit_54 : decode cX10_fit 54 = .ok (.getfield 65, 3) := by decide +kernel
theorem dX10_fit_57 : decode cX10_fit 57 = .ok (.getfield 290, 3) := by decide +kernel
theorem dX10_fit_60 : decode cX10_fit 60 = .ok (.iconst 0, 1) := by decide +kernel
theorem dX10_fit_61 : decode cX10_fit 61 = .ok (.iaload, 1) := by decide +kernel
theorem dX10_fit_62 : decode cX10_fit 62 = .ok (.ireturn, 1) := by decide +kernel
noncomputable def f_X10_fit (x1 : Int32) (x2 : Int32) (μ : Mem) : Option (Int32 × Mem) :=
  jn (
    bd2 (f_X10_refuseAsBad (-10) μ) fun r2 ν3 =>
    some (r2, ν3)
    ) fun j1 =>
  if x1 < 1 then
    j1
  else
    if 3 < x1 then
      j1
    else
      if x2 < 0 then
        j1
      else
        if 1 < x2 then
          j1
        else
          bd2 (f_X1_search 1 x1 μ) fun r4 ν5 =>
          if x2 = 0 then
            some (r4, ν5)
          else
            jn (fun (y6 : Int32) =>
              some (y6, ν5)
              ) fun j7 =>
            if r4 = 0 then
              j7 (-1)
            else
              j7 (ν5.1 111 0)
set_option maxHeartbeats 4000000 in
set_option maxRecDepth 100000 in
theorem c_X10_fit {g : GT} {x1 : Int32} {x2 : Int32} {μ : Mem} {μ0 : Mem} {r0 : Int32} (hf : f_X10_fit x1 x2 μ = some (r0, μ0)) : CI g yX10_fit cX10_fit 4 (some .int) 13 [rf g 0, .int x1, .int x2] μ r0 μ0 := by
  refine mk_i (by decide) (Nat.le_of_ble_eq_true rfl) ?_
  intro G hX hR
  have hX : CX g G cX10_fit RX10 4 13 := hX
  suffices S : ∀ K : (Int32 × Mem) → Prop, (∀ a, K a → a = (r0, μ0)) → Sim G (f_X10_fit x1 x2 μ) K 0 [(0, rf g 0), (1, .int x1), (2, .int x2)] [] μ from S (fun a => a = (r0, μ0)) (fun a h => h) _ hf rfl
  intro K hK
  unfold f_X10_fit
  refine s_iload_n hX dX10_fit_0 rfl 1 rfl ?_
  refine s_iconst (v := 1) hX dX10_fit_1 (by decide) ?_
  refine s_jn (C := fun j => Sim G (j) K 19 [(0, rf g 0)] [] μ) ?_ (fun j1 hj1 => ?_)
  · skip
    show Sim G _ _ 19 [(0, rf g 0)] [] μ
    refine s_aload_n hX dX10_fit_19 rfl 0 rfl ?_
    refine s_bipush (v := (-10)) hX dX10_fit_20 (by decide) ?_
    refine s_callViw hX [.int (-10)] (k := 0) (ci := 9) rfl hc9 vkX10_refuseAsBad (fun r ν hF => c_X10_refuseAsBad  hF) mkX10_refuseAsBad cvX10_181 rfl rfl ⟨by omega, by decide, Nat.le_of_ble_eq_true rfl⟩ dX10_fit_22 (fun r2 ν3 => ?_)
    exact s_ireti hK hR dX10_fit_25
  refine s_icmp_lt hX 19 dX10_fit_2 (by decide) ?_ ?_
  · exact s_to hX [0] rfl (hj1)
  · refine s_iload_n hX dX10_fit_5 rfl 1 rfl ?_
    refine s_iconst (v := 3) hX dX10_fit_6 (by decide) ?_
    refine s_icmp_gt hX 19 dX10_fit_7 (by decide) ?_ ?_
    · exact s_to hX [0] rfl (hj1)
    · refine s_iload_n hX dX10_fit_10 rfl 2 rfl ?_
      refine s_if_lt hX 19 dX10_fit_11 (by decide) ?_ ?_
      · exact s_to hX [0] rfl (hj1)
      · refine s_iload_n hX dX10_fit_14 rfl 2 rfl ?_
        refine s_iconst (v := 1) hX dX10_fit_15 (by decide) ?_
        refine s_icmp_le hX 26 dX10_fit_16 (by decide) ?_ ?_
        · refine s_aload_n hX dX10_fit_26 rfl 0 rfl ?_
          refine s_getR hX (d := 81) 81 flX10_65 rfl rfl dX10_fit_27 ?_
          refine s_aload_n hX dX10_fit_30 rfl 0 rfl ?_
          refine s_getR hX (d := 1) 1 flX10_10 rfl rfl dX10_fit_31 ?_
          refine s_iload_n hX dX10_fit_34 rfl 1 rfl ?_
          refine s_callViw hX [rf g 1, .int x1] (k := 81) (ci := 1) rfl hc1 vkX1_search (fun r ν hF => c_X1_search rfl hF) mkX1_search cvX10_287 rfl rfl ⟨by omega, by decide, Nat.le_of_ble_eq_true rfl⟩ dX10_fit_35 (fun r4 ν5 => ?_)
          refine s_istore_n (lv' := [(3, .int r4), (0, rf g 0), (1, .int x1), (2, .int x2)]) hX dX10_fit_38 rfl (by decide) rfl ?_
          refine s_iload_n hX dX10_fit_39 rfl 3 rfl ?_
          refine s_if_ne hX 45 dX10_fit_40 (by decide) ?_ ?_
          · refine s_iload_n hX dX10_fit_45 rfl 0 rfl ?_
            refine s_jn (C := fun j => ∀ (y6 : Int32), Sim G (j y6) K 62 [] [.int y6] ν5) ?_ (fun j7 hj7 => ?_)
            · intro y6
              show Sim G _ _ 62 [] [.int y6] ν5
              exact s_ireti hK hR dX10_fit_62
            refine s_if_ne hX 53 dX10_fit_46 (by decide) ?_ ?_
            · refine s_aload_n hX dX10_fit_53 rfl 1 rfl ?_
              refine s_getR hX (d := 81) 81 flX10_65 rfl rfl dX10_fit_54 ?_
              refine s_getR hX (d := 30) 111 flX10_290 rfl rfl dX10_fit_57 ?_
              refine s_iconst (v := 0) hX dX10_fit_60 (by decide) ?_
              refine s_ialdK hX rfl rfl (by decide) rfl dX10_fit_61 ?_
              exact s_to hX [] rfl (hj7 (ν5.1 111 0))
            · refine s_iconst (v := (-1)) hX dX10_fit_49 (by decide) ?_
              refine s_goto hX 62 dX10_fit_50 (by decide) ?_
              exact s_to hX [] rfl (hj7 (-1))
          · refine s_iload_n hX dX10_fit_43 rfl 0 rfl ?_
            exact s_ireti hK hR dX10_fit_44
        · exact s_to hX [0] rfl (hj1)
