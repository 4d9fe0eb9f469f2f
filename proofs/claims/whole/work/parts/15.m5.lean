theorem dX11_meanOf_0 : decode cX11_meanOf 0 = .ok (.aload_n 0, 1) := by decide +kernel
theorem dX11_meanOf_1 : decode cX11_meanOf 1 = .ok (.invokevirtual 187, 3) := by decide +kernel
theorem dX11_meanOf_4 : decode cX11_meanOf 4 = .ok (.lconst 0, 1) := by decide +kernel
theorem dX11_meanOf_5 : decode cX11_meanOf 5 = .ok (.lstore 4, 2) := by decide +kernel
theorem dX11_meanOf_7 : decode cX11_meanOf 7 = .ok (.iconst 0, 1) := by decide +kernel
theorem dX11_meanOf_8 : decode cX11_meanOf 8 = .ok (.istore 6, 2) := by decide +kernel
theorem dX11_meanOf_10 : decode cX11_meanOf 10 = .ok (.iload 6, 2) := by decide +kernel
theorem dX11_meanOf_12 : decode cX11_meanOf 12 = .ok (.aload_n 0, 1) := by decide +kernel
theorem dX11_meanOf_13 : decode cX11_meanOf 13 = .ok (.invokevirtual 177, 3) := by decide +kernel
theorem dX11_meanOf_16 : decode cX11_meanOf 16 = .ok (.if_icmp .gt 72, 3) := by decide +kernel
theorem dX11_meanOf_19 : decode cX11_meanOf 19 = .ok (.aload_n 0, 1) := by decide +kernel
theorem dX11_meanOf_20 : decode cX11_meanOf 20 = .ok (.aload_n 0, 1) := by decide +kernel
theorem dX11_meanOf_21 : decode cX11_meanOf 21 = .ok (.invokevirtual 177, 3) := by decide +kernel
theorem dX11_meanOf_24 : decode cX11_meanOf 24 = .ok (.iload 6, 2) := by decide +kernel
theorem dX11_meanOf_26 : decode cX11_meanOf 26 = .ok (.iconst (-1), 1) := by decide +kernel
theorem dX11_meanOf_27 : decode cX11_meanOf 27 = .ok (.ixor, 1) := by decide +kernel
theorem dX11_meanOf_28 : decode cX11_meanOf 28 = .ok (.iand, 1) := by decide +kernel
theorem dX11_meanOf_29 : decode cX11_meanOf 29 = .ok (.aload_n 0, 1) := by decide +kernel
theorem dX11_meanOf_30 : decode cX11_meanOf 30 = .ok (.getfield 7, 3) := by decide +kernel
theorem dX11_meanOf_33 : decode cX11_meanOf 33 = .ok (.iconst 3, 1) := by decide +kernel
theorem dX11_meanOf_34 : decode cX11_meanOf 34 = .ok (.iaload, 1) := by decide +kernel
theorem dX11_meanOf_35 : decode cX11_meanOf 35 = .ok (.iload_n 2, 1) := by decide +kernel
theorem dX11_meanOf_36 : decode cX11_meanOf 36 = .ok (.iload_n 3, 1) := by decide +kernel
theorem dX11_meanOf_37 : decode cX11_meanOf 37 = .ok (.invokevirtual 180, 3) := by decide +kernel
theorem dX11_meanOf_40 : decode cX11_meanOf 40 = .ok (.istore 7, 2) := by decide +kernel
theorem dX11_meanOf_42 : decode cX11_meanOf 42 = .ok (.lload 4, 2) := by decide +kernel
theorem dX11_meanOf_44 : decode cX11_meanOf 44 = .ok (.iload 7, 2) := by decide +kernel
theorem dX11_meanOf_46 : decode cX11_meanOf 46 = .ok (.iconst (-1), 1) := by decide +kernel
theorem dX11_meanOf_47 : decode cX11_meanOf 47 = .ok (.if_icmp .eq 31, 3) := by decide +kernel
theorem dX11_meanOf_50 : decode cX11_meanOf 50 = .ok (.iload_n 1, 1) := by decide +kernel
theorem dX11_meanOf_51 : decode cX11_meanOf 51 = .ok (.iconst (-1), 1) := by decide +kernel
theorem dX11_meanOf_52 : decode cX11_meanOf 52 = .ok (.if_icmp .eq 9, 3) := by decide +kernel
theorem dX11_meanOf_55 : decode cX11_meanOf 55 = .ok (.iload 7, 2) := by decide +kernel
theorem dX11_meanOf_57 : decode cX11_meanOf 57 = .ok (.iload_n 1, 1) := by decide +kernel
theorem dX11_meanOf_58 : decode cX11_meanOf 58 = .ok (.if_icmp .ne 20, 3) := by decide +kernel
theorem dX11_meanOf_61 : decode cX11_meanOf 61 = .ok (.aload_n 0, 1) := by decide +kernel
theorem dX11_meanOf_62 : decode cX11_meanOf 62 = .ok (.iload 6, 2) := by decide +kernel
theorem dX11_meanOf_64 : decode cX11_meanOf 64 = .ok (.invokevirtual 228, 3) := by decide +kernel
theorem dX11_meanOf_67 : decode cX11_meanOf 67 = .ok (.aload_n 0, 1) := by decide +kernel
theorem dX11_meanOf_68 : decode cX11_meanOf 68 = .ok (.iload 7, 2) := by decide +kernel
theorem dX11_meanOf_70 : decode cX11_meanOf 70 = .ok (.invokevirtual 199, 3) := by decide +kernel
theorem dX11_meanOf_73 : decode cX11_meanOf 73 = .ok (.i2l, 1) := by decide +kernel
theorem dX11_meanOf_74 : decode cX11_meanOf 74 = .ok (.lmul, 1) := by decide +kernel
theorem dX11_meanOf_75 : decode cX11_meanOf 75 = .ok (.goto 4, 3) := by decide +kernel
theorem dX11_meanOf_78 : decode cX11_meanOf 78 = .ok (.lconst 0, 1) := by decide +kernel
theorem dX11_meanOf_79 : decode cX11_meanOf 79 = .ok (.ladd, 1) := by decide +kernel
theorem dX11_meanOf_80 : decode cX11_meanOf 80 = .ok (.lstore 4, 2) := by decide +kernel
theorem dX11_meanOf_82 : decode cX11_meanOf 82 = .ok (.iinc 6 1, 3) := by decide +kernel
theorem dX11_meanOf_85 : decode cX11_meanOf 85 = .ok (.goto (-75), 3) := by decide +kernel
theorem dX11_meanOf_88 : decode cX11_meanOf 88 = .ok (.lload 4, 2) := by decide +kernel
theorem dX11_meanOf_90 : decode cX11_meanOf 90 = .ok (.lreturn, 1) := by decide +kernel
noncomputable def f_X11_meanOf (x1 : Int32) (x2 : Int32) (x3 : Int32) (μ : Mem) : Option (Int64 × Mem) :=
  bd (f_X11_asNow  μ) fun ν1 =>
  bd (lp (ε := Int64) (cu2 fun (x4_2 : Int64) (x6_3 : Int32) =>
    bd (f_X11_all  ν1) fun r6 =>
    if r6 < x6_3 then
      some (.inr x4_2)
    else
      bd (f_X11_all  ν1) fun r7 =>
      bd (f_X11_greatestOf (r7 &&& (x6_3 ^^^ (-1))) (ν1.1 113 3) x2 x3 ν1) fun r8 =>
      jn (fun (y9 : Int64) =>
        some (.inl ((x4_2 + y9), (x6_3 + 1)))
        ) fun j10 =>
      jn (
        j10 0
        ) fun j11 =>
      if r8 = (-1) then
        j11
      else
        jn (
          bd (f_X11_waysOf x6_3 ν1) fun r13 =>
          bd (f_X11_tithe r8 ν1) fun r14 =>
          j10 (r13 * (r14 : Int32).toInt64)
          ) fun j12 =>
        if x1 = (-1) then
          j12
        else
          if r8 = x1 then
            j12
          else
            j11
    ) (0, 0)) (fun (x4_4 : Int64) =>
    some (x4_4, ν1)
    )
set_option maxHeartbeats 4000000 in
set_option maxRecDepth 100000 in
theorem c_X11_meanOf {g : GT} {x1 : Int32} {x2 : Int32} {x3 : Int32} {μ : Mem} {μ0 : Mem} {r0 : Int64} (hf : f_X11_meanOf x1 x2 x3 μ = some (r0, μ0)) : CL g yX11_meanOf cX11_meanOf 8 (some .long) 4 [rf g 112, .int x1, .int x2, .int x3] μ r0 μ0 := by
  refine mk_l (by decide) (Nat.le_of_ble_eq_true rfl) ?_
  intro G hX hR
  have hX : CX g G cX11_meanOf RX11 8 4 := hX
  suffices S : ∀ K : (Int64 × Mem) → Prop, (∀ a, K a → a = (r0, μ0)) → Sim G (f_X11_meanOf x1 x2 x3 μ) K 0 [(0, rf g 112), (1, .int x1), (2, .int x2), (3, .int x3)] [] μ from S (fun a => a = (r0, μ0)) (fun a h => h) _ hf rfl
  intro K hK
  unfold f_X11_meanOf
  refine s_aload_n hX dX11_meanOf_0 rfl 0 rfl ?_
  refine s_callVvw hX [] (k := 112) (ci := 10) rfl hc10 vkX11_asNow (fun ν hF => c_X11_asNow  hF) mkX11_asNow cvX11_187 rfl rfl ⟨by omega, by decide, Nat.le_of_ble_eq_true rfl⟩ dX11_meanOf_1 (fun ν1 => ?_)
  refine s_lconst (v := 0) hX dX11_meanOf_4 (by decide) ?_
  refine s_lstore (lv' := [(4, .long 0), (0, rf g 112), (1, .int x1), (2, .int x2), (3, .int x3)]) hX dX11_meanOf_5 (by decide) rfl ?_
  refine s_iconst (v := 0) hX dX11_meanOf_7 (by decide) ?_
  refine s_istore (lv' := [(6, .int 0), (4, .long 0), (0, rf g 112), (1, .int x1), (2, .int x2), (3, .int x3)]) hX dX11_meanOf_8 (by decide) rfl ?_
  refine s_loop hX 10 88 (fun s : Int64 × Int32 => [(0, rf g 112), (1, .int x1), (2, .int x2), (3, .int x3), (4, .long s.1), (6, .int s.2)]) (fun s : Int64 × Int32 => ν1) (fun s : Int64 => [(4, .long s)]) (fun s : Int64 => ν1) [2, 3, 4, 5, 1, 0] rfl rfl rfl ?_ ?_
  · intro Kq5 hIq5 hJq5 sq
    obtain ⟨x4_2, x6_3⟩ := sq
    refine s_cu2 ?_
    show Sim G _ _ 10 [(0, rf g 112), (1, .int x1), (2, .int x2), (3, .int x3), (4, .long x4_2), (6, .int x6_3)] [] ν1
    refine s_iload hX dX11_meanOf_10 5 rfl ?_
    refine s_aload_n hX dX11_meanOf_12 rfl 0 rfl ?_
    refine s_callVir hX [] (k := 112) (ci := 10) rfl hc10 vkX11_all (fun r hF => c_X11_all  hF) mkX11_all cvX11_177 rfl rfl ⟨by omega, by decide, Nat.le_of_ble_eq_true rfl⟩ dX11_meanOf_13 (fun r6 => ?_)
    refine s_icmp_gt hX 88 dX11_meanOf_16 (by decide) ?_ ?_
    · exact s_end hX (hJq5 x4_2) [4] rfl
    · refine s_aload_n hX dX11_meanOf_19 rfl 0 rfl ?_
      refine s_aload_n hX dX11_meanOf_20 rfl 0 rfl ?_
      refine s_callVir hX [] (k := 112) (ci := 10) rfl hc10 vkX11_all (fun r hF => c_X11_all  hF) mkX11_all cvX11_177 rfl rfl ⟨by omega, by decide, Nat.le_of_ble_eq_true rfl⟩ dX11_meanOf_21 (fun r7 => ?_)
      refine s_iload hX dX11_meanOf_24 5 rfl ?_
      refine s_iconst (v := (-1)) hX dX11_meanOf_26 (by decide) ?_
      refine s_ixor hX dX11_meanOf_27 ?_
      refine s_iand hX dX11_meanOf_28 ?_
      refine s_aload_n hX dX11_meanOf_29 rfl 0 rfl ?_
      refine s_getR hX (d := 1) 113 flX11_7 rfl rfl dX11_meanOf_30 ?_
      refine s_iconst (v := 3) hX dX11_meanOf_33 (by decide) ?_
      refine s_ialdK hX rfl rfl (by decide) rfl dX11_meanOf_34 ?_
      refine s_iload_n hX dX11_meanOf_35 rfl 2 rfl ?_
      refine s_iload_n hX dX11_meanOf_36 rfl 3 rfl ?_
      refine s_callVir hX [.int (r7 &&& (x6_3 ^^^ (-1))), .int (ν1.1 113 3), .int x2, .int x3] (k := 112) (ci := 10) rfl hc10 vkX11_greatestOf (fun r hF => c_X11_greatestOf  hF) mkX11_greatestOf cvX11_180 rfl rfl ⟨by omega, by decide, Nat.le_of_ble_eq_true rfl⟩ dX11_meanOf_37 (fun r8 => ?_)
      refine s_istore (lv' := [(7, .int r8), (0, rf g 112), (1, .int x1), (2, .int x2), (3, .int x3), (4, .long x4_2), (6, .int x6_3)]) hX dX11_meanOf_40 (by decide) rfl ?_
      refine s_lload hX dX11_meanOf_42 5 rfl ?_
      refine s_iload hX dX11_meanOf_44 0 rfl ?_
      refine s_iconst (v := (-1)) hX dX11_meanOf_46 (by decide) ?_
      refine s_jn (C := fun j => ∀ (y9 : Int64), Sim G (j y9) Kq5 79 [(0, rf g 112), (1, .int x1), (2, .int x2), (3, .int x3), (6, .int x6_3)] [.long y9, .long x4_2] ν1) ?_ (fun j10 hj10 => ?_)
      · intro y9
        show Sim G _ _ 79 [(0, rf g 112), (1, .int x1), (2, .int x2), (3, .int x3), (6, .int x6_3)] [.long y9, .long x4_2] ν1
        refine s_ladd hX dX11_meanOf_79 ?_
        refine s_lstore (lv' := [(4, .long (x4_2 + y9)), (0, rf g 112), (1, .int x1), (2, .int x2), (3, .int x3), (6, .int x6_3)]) hX dX11_meanOf_80 (by decide) rfl ?_
        refine s_iinc (v := (x6_3 + 1)) (lv' := [(6, .int (x6_3 + 1)), (4, .long (x4_2 + y9)), (0, rf g 112), (1, .int x1), (2, .int x2), (3, .int x3)]) hX dX11_meanOf_82 5 rfl rfl (by decide) rfl ?_
        refine s_goto hX 10 dX11_meanOf_85 (by decide) ?_
        exact s_end hX (hIq5 ((x4_2 + y9), (x6_3 + 1))) [2, 3, 4, 5, 1, 0] rfl
      refine s_jn (C := fun j => Sim G (j) Kq5 78 [(0, rf g 112), (1, .int x1), (2, .int x2), (3, .int x3), (6, .int x6_3)] [.long x4_2] ν1) ?_ (fun j11 hj11 => ?_)
      · skip
        show Sim G _ _ 78 [(0, rf g 112), (1, .int x1), (2, .int x2), (3, .int x3), (6, .int x6_3)] [.long x4_2] ν1
        refine s_lconst (v := 0) hX dX11_meanOf_78 (by decide) ?_
        exact s_to hX [0, 1, 2, 3, 4] rfl (hj10 0)
      refine s_icmp_eq hX 78 dX11_meanOf_47 (by decide) ?_ ?_
      · exact s_to hX [1, 2, 3, 4, 6] rfl (hj11)
      · refine s_iload_n hX dX11_meanOf_50 rfl 2 rfl ?_
        refine s_iconst (v := (-1)) hX dX11_meanOf_51 (by decide) ?_
        refine s_jn (C := fun j => Sim G (j) Kq5 61 [(0, rf g 112), (1, .int x1), (2, .int x2), (3, .int x3), (6, .int x6_3), (7, .int r8)] [.long x4_2] ν1) ?_ (fun j12 hj12 => ?_)
        · skip
          show Sim G _ _ 61 [(0, rf g 112), (1, .int x1), (2, .int x2), (3, .int x3), (6, .int x6_3), (7, .int r8)] [.long x4_2] ν1
          refine s_aload_n hX dX11_meanOf_61 rfl 0 rfl ?_
          refine s_iload hX dX11_meanOf_62 4 rfl ?_
          refine s_callVlr hX [.int x6_3] (k := 112) (ci := 10) rfl hc10 vkX11_waysOf (fun r hF => c_X11_waysOf  hF) mkX11_waysOf cvX11_228 rfl rfl ⟨by omega, by decide, Nat.le_of_ble_eq_true rfl⟩ dX11_meanOf_64 (fun r13 => ?_)
          refine s_aload_n hX dX11_meanOf_67 rfl 0 rfl ?_
          refine s_iload hX dX11_meanOf_68 5 rfl ?_
          refine s_callVir hX [.int r8] (k := 112) (ci := 10) rfl hc10 vkX11_tithe (fun r hF => c_X11_tithe  hF) mkX11_tithe cvX11_199 rfl rfl ⟨by omega, by decide, Nat.le_of_ble_eq_true rfl⟩ dX11_meanOf_70 (fun r14 => ?_)
          refine s_i2l hX dX11_meanOf_73 ?_
          refine s_lmul hX dX11_meanOf_74 ?_
          refine s_goto hX 79 dX11_meanOf_75 (by decide) ?_
          exact s_to hX [0, 1, 2, 3, 4] rfl (hj10 (r13 * (r14 : Int32).toInt64))
        refine s_icmp_eq hX 61 dX11_meanOf_52 (by decide) ?_ ?_
        · exact s_to hX [1, 2, 3, 4, 6, 0] rfl (hj12)
        · refine s_iload hX dX11_meanOf_55 0 rfl ?_
          refine s_iload_n hX dX11_meanOf_57 rfl 2 rfl ?_
          refine s_icmp_ne hX 78 dX11_meanOf_58 (by decide) ?_ ?_
          · exact s_to hX [1, 2, 3, 4, 6] rfl (hj11)
          · exact s_to hX [1, 2, 3, 4, 6, 0] rfl (hj12)
  · intro sq
    obtain ⟨x4_4, rfl⟩ : ∃ z, z = sq := ⟨_, rfl⟩
    show Sim G _ _ 88 [(4, .long x4_4)] [] ν1
    refine s_lload hX dX11_meanOf_88 0 rfl ?_
    exact s_lreti hK hR dX11_meanOf_90
theorem dX11_reads_0 : decode cX11_reads 0 = .ok (.aload_n 0, 1) := by decide +kernel
theorem dX11_reads_1 : decode cX11_reads 1 = .ok (.iconst 0, 1) := by decide +kernel
theorem dX11_reads_2 : decode cX11_reads 2 = .ok (.putfield 96, 3) := by decide +kernel
theorem dX11_reads_5 : decode cX11_reads 5 = .ok (.aload_n 0, 1) := by decide +kernel
theorem dX11_reads_6 : decode cX11_reads 6 = .ok (.iconst 0, 1) := by decide +kernel
theorem dX11_reads_7 : decode cX11_reads 7 = .ok (.putfield 131, 3) := by decide +kernel
theorem dX11_reads_10 : decode cX11_reads 10 = .ok (.aload_n 0, 1) := by decide +kernel
theorem dX11_reads_11 : decode cX11_reads 11 = .ok (.invokevirtual 134, 3) := by decide +kernel
theorem dX11_reads_14 : decode cX11_reads 14 = .ok (.aload_n 0, 1) := by decide +kernel
theorem dX11_reads_15 : decode cX11_reads 15 = .ok (.getfield 117, 3) := by decide +kernel
theorem dX11_reads_18 : decode cX11_reads 18 = .ok (.ifCond .ne 10, 3) := by decide +kernel
theorem dX11_reads_21 : decode cX11_reads 21 = .ok (.aload_n 0, 1) := by decide +kernel
theorem dX11_reads_22 : decode cX11_reads 22 = .ok (.getfield 131, 3) := by decide +kernel
theorem dX11_reads_25 : decode cX11_reads 25 = .ok (.ifCond .ne 132, 3) := by decide +kernel
theorem dX11_reads_28 : decode cX11_reads 28 = .ok (.aload_n 0, 1) := by decide +kernel
theorem dX11_reads_29 : decode cX11_reads 29 = .ok (.getfield 117, 3) := by decide +kernel
theorem dX11_reads_32 : decode cX11_reads 32 = .ok (.iconst 4, 1) := by decide +kernel
theorem dX11_reads_33 : decode cX11_reads 33 = .ok (.isub, 1) := by decide +kernel
theorem dX11_reads_34 : decode cX11_reads 34 = .ok (.istore_n 1, 1) := by decide +kernel
theorem dX11_reads_35 : decode cX11_reads 35 = .ok (.iload_n 1, 1) := by decide +kernel
theorem dX11_reads_36 : decode cX11_reads 36 = .ok (.ifCond .lt 27, 3) := by decide +kernel
theorem dX11_reads_39 : decode cX11_reads 39 = .ok (.iload_n 1, 1) := by decide +kernel
theorem dX11_reads_40 : decode cX11_reads 40 = .ok (.ifCond .ne 7, 3) := by decide +kernel
theorem dX11_reads_43 : decode cX11_reads 43 = .ok (.iconst 1, 1) := by decide +kernel
theorem dX11_reads_44 : decode cX11_reads 44 = .ok (.goto 4, 3) := by decide +kernel
theorem dX11_reads_47 : decode cX11_reads 47 = .ok (.iconst 0, 1) := by decide +kernel
theorem dX11_reads_48 : decode cX11_reads 48 = .ok (.aload_n 0, 1) := by decide +kernel
theorem dX11_reads_49 : decode cX11_reads 49 = .ok (.getfield 131, 3) := by decide +kernel
theorem dX11_reads_52 : decode cX11_reads 52 = .ok (.ifCond .ne 7, 3) := by decide +kernel
theorem dX11_reads_55 : decode cX11_reads 55 = .ok (.iconst 1, 1) := by decide +kernel
theorem dX11_reads_56 : decode cX11_reads 56 = .ok (.goto 4, 3) := by decide +kernel
theorem dX11_reads_59 : decode cX11_reads 59 = .ok (.iconst 0, 1) := by decide +kernel
theorem dX11_reads_60 : decode cX11_reads 60 = .ok (.if_icmp .eq 5, 3) := by decide +kernel
theorem dX11_reads_63 : decode cX11_reads 63 = .ok (.iconst 0, 1) := by decide +kernel
theorem dX11_reads_64 : decode cX11_reads 64 = .ok (.ireturn, 1) := by decide +kernel
theorem dX11_reads_65 : decode cX11_reads 65 = .ok (.aload_n 0, 1) := by decide +kernel
theorem dX11_reads_66 : decode cX11_reads 66 = .ok (.getfield 29, 3) := by decide +kernel
theorem dX11_reads_69 : decode cX11_reads 69 = .ok (.iconst 4, 1) := by decide +kernel
theorem dX11_reads_70 : decode cX11_reads 70 = .ok (.aload_n 0, 1) := by decide +kernel
theorem dX11_reads_71 : decode cX11_reads 71 = .ok (.getfield 131, 3) := by decide +kernel
theorem dX11_reads_74 : decode cX11_reads 74 = .ok (.imul, 1) := by decide +kernel
theorem dX11_reads_75 : decode cX11_reads 75 = .ok (.iload_n 1, 1) := by decide +kernel
theorem dX11_reads_76 : decode cX11_reads 76 = .ok (.iastore, 1) := by decide +kernel
theorem dX11_reads_77 : decode cX11_reads 77 = .ok (.aload_n 0, 1) := by decide +kernel
theorem dX11_reads_78 : decode cX11_reads 78 = .ok (.invokevirtual 134, 3) := by decide +kernel
theorem dX11_reads_81 : decode cX11_reads 81 = .ok (.iconst 0, 1) := by decide +kernel
theorem dX11_reads_82 : decode cX11_reads 82 = .ok (.istore_n 2, 1) := by decide +kernel
theorem dX11_reads_83 : decode cX11_reads 83 = .ok (.iload_n 2, 1) := by decide +kernel
theorem dX11_reads_84 : decode cX11_reads 84 = .ok (.iload_n 1, 1) := by decide +kernel
theorem dX11_reads_85 : decode cX11_reads 85 = .ok (.invokestatic 137, 3) := by decide +kernel
theorem dX11_reads_88 : decode cX11_reads 88 = .ok (.if_icmp .ge 42, 3) := by decide +kernel
theorem dX11_reads_91 : decode cX11_reads 91 = .ok (.aload_n 0, 1) := by decide +kernel
theorem dX11_reads_92 : decode cX11_reads 92 = .ok (.getfield 117, 3) := by decide +kernel
theorem dX11_reads_95 : decode cX11_reads 95 = .ok (.iconst 2, 1) := by decide +kernel
theorem dX11_reads_96 : decode cX11_reads 96 = .ok (.if_icmp .eq 5, 3) := by decide +kernel
theorem dX11_reads_99 : decode cX11_reads 99 = .ok (.iconst 0, 1) := by decide +kernel
theorem dX11_reads_100 : decode cX11_reads 100 = .ok (.ireturn, 1) := by decide +kernel
theorem dX11_reads_101 : decode cX11_reads 101 = .ok (.aload_n 0, 1) := by decide +kernel
theorem dX11_reads_102 : decode cX11_reads 102 = .ok (.getfield 29, 3) := by decide +kernel
theorem dX11_reads_105 : decode cX11_reads 105 = .ok (.iconst 4, 1) := by decide +kernel
theorem dX11_reads_106 : decode cX11_reads 106 = .ok (.aload_n 0, 1) := by decide +kernel
theorem dX11_reads_107 : decode cX11_reads 107 = .ok (.getfield 131, 3) := by decide +kernel
theorem dX11_reads_110 : decode cX11_reads 110 = .ok (.imul, 1) := by decide +kernel
theorem dX11_reads_111 : decode cX11_reads 111 = .ok (.iconst 1, 1) := by decide +kernel
theorem dX11_reads_112 : decode cX11_reads 112 = .ok (.iadd, 1) := by decide +kernel
theorem dX11_reads_113 : decode cX11_reads 113 = .ok (.iload_n 2, 1) := by decide +kernel
theorem dX11_reads_114 : decode cX11_reads 114 = .ok (.iadd, 1) := by decide +kernel
theorem dX11_reads_115 : decode cX11_reads 115 = .ok (.aload_n 0, 1) := by decide +kernel
theorem dX11_reads_116 : decode cX11_reads 116 = .ok (.getfield 128, 3) := by decide +kernel
theorem dX11_reads_119 : decode cX11_reads 119 = .ok (.iastore, 1) := by decide +kernel
theorem dX11_reads_120 : decode cX11_reads 120 = .ok (.aload_n 0, 1) := by decide +kernel
theorem dX11_reads_121 : decode cX11_reads 121 = .ok (.invokevirtual 134, 3) := by decide +kernel
theorem dX11_reads_124 : decode cX11_reads 124 = .ok (.iinc 2 1, 3) := by decide +kernel
theorem dX11_reads_127 : decode cX11_reads 127 = .ok (.goto (-44), 3) := by decide +kernel
theorem dX11_reads_130 : decode cX11_reads 130 = .ok (.aload_n 0, 1) := by decide +kernel
theorem dX11_reads_131 : decode cX11_reads 131 = .ok (.getfield 117, 3) := by decide +kernel
theorem dX11_reads_134 : decode cX11_reads 134 = .ok (.iconst 3, 1) := by decide +kernel
theorem dX11_reads_135 : decode cX11_reads 135 = .ok (.if_icmp .eq 5, 3) := by decide +kernel
theorem dX11_reads_138 : decode cX11_reads 138 = .ok (.iconst 0, 1) := by decide +kernel
theorem dX11_reads_139 : decode cX11_reads 139 = .ok (.ireturn, 1) := by decide +kernel
theorem dX11_reads_140 : decode cX11_reads 140 = .ok (.aload_n 0, 1) := by decide +kernel
theorem dX11_reads_141 : decode cX11_reads 141 = .ok (.dup, 1) := by decide +kernel
theorem dX11_reads_142 : decode cX11_reads 142 = .ok (.getfield 131, 3) := by decide +kernel
theorem dX11_reads_145 : decode cX11_reads 145 = .ok (.iconst 1, 1) := by decide +kernel
theorem dX11_reads_146 : decode cX11_reads 146 = .ok (.iadd, 1) := by decide +kernel
theorem dX11_reads_147 : decode cX11_reads 147 = .ok (.putfield 131, 3) := by decide +kernel
theorem dX11_reads_150 : decode cX11_reads 150 = .ok (.aload_n 0, 1) := by decide +kernel
theorem dX11_reads_151 : decode cX11_reads 151 = .ok (.invokevirtual 134, 3) := by decide +kernel
theorem dX11_reads_154 : decode cX11_reads 154 = .ok (.goto (-140), 3) := by decide +kernel
theorem dX11_reads_157 : decode cX11_reads 157 = .ok (.iconst 1, 1) := by decide +kernel
theorem dX11_reads_158 : decode cX11_reads 158 = .ok (.ireturn, 1) := by decide +kernel
noncomputable def f_X11_reads  (μ : Mem) : Option (Int32 × Mem) :=
  lt (setI μ 112 10 0) fun ν1 =>
  lt (setI ν1 112 15 0) fun ν2 =>
  bd (f_X11_scans  ν2) fun ν3 =>
  bdr (lp (ε := (Mem) ⊕ (Int32 × Mem)) (fun (ν4 : Mem) =>
    jn (
      jn (
        some (.inr (.inr (0, ν4)))
        ) fun j8 =>
      if ((ν4.1 112 12) - 4) < 0 then
        j8
      else
        jn (fun (y9 : Int32) =>
          jn (fun (y11 : Int32) =>
            if y9 = y11 then
              chk (4 * (ν4.1 112 15)) 200 (lt (setI ν4 119 (ix (4 * (ν4.1 112 15))) ((ν4.1 112 12) - 4)) fun ν13 =>
                bd (f_X11_scans  ν13) fun ν14 =>
                bdr (lp (ε := (Mem) ⊕ (Int32 × Mem)) (cu2 fun (x2_15 : Int32) (ν16 : Mem) =>
                  bd (f_X11_numbers ((ν4.1 112 12) - 4)) fun r19 =>
                  if x2_15 < r19 then
                    if (ν16.1 112 12) = 2 then
                      chk (((4 * (ν16.1 112 15)) + 1) + x2_15) 200 (lt (setI ν16 119 (ix (((4 * (ν16.1 112 15)) + 1) + x2_15)) (ν16.1 112 13)) fun ν20 =>
                        bd (f_X11_scans  ν20) fun ν21 =>
                        some (.inl ((x2_15 + 1), ν21))
                        )
                    else
                      some (.inr (.inr (0, ν16)))
                  else
                    some (.inr (.inl ν16))
                  ) (0, ν14)) (fun (ν17 : Mem) =>
                  if (ν17.1 112 12) = 3 then
                    lt (setI ν17 112 15 ((ν17.1 112 15) + 1)) fun ν22 =>
                    bd (f_X11_scans  ν22) fun ν23 =>
                    some (.inl ν23)
                  else
                    some (.inr (.inl ν17))
                  ) (fun r => some (.inr (.inr r)))
                )
            else
              j8
            ) fun j12 =>
          if (ν4.1 112 15) = 0 then
            j12 1
          else
            j12 0
          ) fun j10 =>
        if ((ν4.1 112 12) - 4) = 0 then
          j10 1
        else
          j10 0
      ) fun j7 =>
    if (ν4.1 112 12) = 0 then
      if (ν4.1 112 15) = 0 then
        j7
      else
        some (.inr (.inr (1, ν4)))
    else
      j7
    ) ν3) (fun (ν5 : Mem) =>
    some (0, ν5)
    ) (fun r => some (r))
set_option maxHeartbeats 4000000 in
set_option maxRecDepth 100000 in
theorem c_X11_reads {g : GT}  {μ : Mem} {μ0 : Mem} {r0 : Int32} (hf : f_X11_reads  μ = some (r0, μ0)) : CI g yX11_reads cX11_reads 3 (some .boolean) 4 [rf g 112] μ r0 μ0 := by
  refine mk_z (by decide) (Nat.le_of_ble_eq_true rfl) ?_
  intro G hX hR
  have hX : CX g G cX11_reads RX11 3 4 := hX
  suffices S : ∀ K : (Int32 × Mem) → Prop, (∀ a, K a → a = (r0, μ0)) → Sim G (f_X11_reads  μ) K 0 [(0, rf g 112)] [] μ from S (fun a => a = (r0, μ0)) (fun a h => h) _ hf rfl
  intro K hK
  unfold f_X11_reads
  refine s_aload_n hX dX11_reads_0 rfl 0 rfl ?_
  refine s_iconst (v := 0) hX dX11_reads_1 (by decide) ?_
  refine s_putI hX flX11_96 rfl ⟨rfl, rfl⟩ dX11_reads_2 (fun ν1 => ?_)
  refine s_aload_n hX dX11_reads_5 rfl 0 rfl ?_
  refine s_iconst (v := 0) hX dX11_reads_6 (by decide) ?_
  refine s_putI hX flX11_131 rfl ⟨rfl, rfl⟩ dX11_reads_7 (fun ν2 => ?_)
  refine s_aload_n hX dX11_reads_10 rfl 0 rfl ?_
  refine s_callVvw hX [] (k := 112) (ci := 10) rfl hc10 vkX11_scans (fun ν hF => c_X11_scans  hF) mkX11_scans cvX11_134 rfl rfl ⟨by omega, by decide, Nat.le_of_ble_eq_true rfl⟩ dX11_reads_11 (fun ν3 => ?_)
  refine s_loopR hX 14 138 (fun s : Mem => [(0, rf g 112)]) (fun s : Mem => s) (fun s : Mem => []) (fun s : Mem => s) [0] rfl rfl rfl (fun r => r = (r0, μ0)) (fun r a h k => by cases h; exact hK _ k) ?_ ?_
  · intro Kq6 hIq6 hJq6 hKq6 sq
    obtain ⟨ν4, rfl⟩ : ∃ z, z = sq := ⟨_, rfl⟩
    show Sim G _ _ 14 [(0, rf g 112)] [] ν4
    refine s_aload_n hX dX11_reads_14 rfl 0 rfl ?_
    refine s_getI hX flX11_117 rfl dX11_reads_15 ?_
    refine s_jn (C := fun j => Sim G (j) Kq6 28 [(0, rf g 112)] [] ν4) ?_ (fun j7 hj7 => ?_)
    · skip
      show Sim G _ _ 28 [(0, rf g 112)] [] ν4
      refine s_aload_n hX dX11_reads_28 rfl 0 rfl ?_
      refine s_getI hX flX11_117 rfl dX11_reads_29 ?_
      refine s_iconst (v := 4) hX dX11_reads_32 (by decide) ?_
      refine s_isub hX dX11_reads_33 ?_
      refine s_istore_n (lv' := [(1, .int ((ν4.1 112 12) - 4)), (0, rf g 112)]) hX dX11_reads_34 rfl (by decide) rfl ?_
      refine s_iload_n hX dX11_reads_35 rfl 0 rfl ?_
      refine s_jn (C := fun j => Sim G (j) Kq6 63 [] [] ν4) ?_ (fun j8 hj8 => ?_)
      · skip
        show Sim G _ _ 63 [] [] ν4
        refine s_iconst (v := 0) hX dX11_reads_63 (by decide) ?_
        exact s_zreti (by decide) hKq6 hR dX11_reads_64
      refine s_if_lt hX 63 dX11_reads_36 (by decide) ?_ ?_
      · exact s_to hX [] rfl (hj8)
      · refine s_iload_n hX dX11_reads_39 rfl 0 rfl ?_
        refine s_jn (C := fun j => ∀ (y9 : Int32), Sim G (j y9) Kq6 48 [(0, rf g 112), (1, .int ((ν4.1 112 12) - 4))] [.int y9] ν4) ?_ (fun j10 hj10 => ?_)
        · intro y9
          show Sim G _ _ 48 [(0, rf g 112), (1, .int ((ν4.1 112 12) - 4))] [.int y9] ν4
          refine s_aload_n hX dX11_reads_48 rfl 0 rfl ?_
          refine s_getI hX flX11_131 rfl dX11_reads_49 ?_
          refine s_jn (C := fun j => ∀ (y11 : Int32), Sim G (j y11) Kq6 60 [(0, rf g 112), (1, .int ((ν4.1 112 12) - 4))] [.int y11, .int y9] ν4) ?_ (fun j12 hj12 => ?_)
          · intro y11
            show Sim G _ _ 60 [(0, rf g 112), (1, .int ((ν4.1 112 12) - 4))] [.int y11, .int y9] ν4
            refine s_icmp_eq hX 65 dX11_reads_60 (by decide) ?_ ?_
            · refine s_aload_n hX dX11_reads_65 rfl 0 rfl ?_
              refine s_getR hX (d := 7) 119 flX11_29 rfl rfl dX11_reads_66 ?_
              refine s_iconst (v := 4) hX dX11_reads_69 (by decide) ?_
              refine s_aload_n hX dX11_reads_70 rfl 0 rfl ?_
              refine s_getI hX flX11_131 rfl dX11_reads_71 ?_
              refine s_imul hX dX11_reads_74 ?_
              refine s_iload_n hX dX11_reads_75 rfl 1 rfl ?_
              refine s_iast hX rfl rfl dX11_reads_76 (fun ν13 => ?_)
              refine s_aload_n hX dX11_reads_77 rfl 0 rfl ?_
              refine s_callVvw hX [] (k := 112) (ci := 10) rfl hc10 vkX11_scans (fun ν hF => c_X11_scans  hF) mkX11_scans cvX11_134 rfl rfl ⟨by omega, by decide, Nat.le_of_ble_eq_true rfl⟩ dX11_reads_78 (fun ν14 => ?_)
              refine s_iconst (v := 0) hX dX11_reads_81 (by decide) ?_
              refine s_istore_n (lv' := [(2, .int 0), (0, rf g 112), (1, .int ((ν4.1 112 12) - 4))]) hX dX11_reads_82 rfl (by decide) rfl ?_
              refine s_loopR hX 83 130 (fun s : Int32 × Mem => [(0, rf g 112), (1, .int ((ν4.1 112 12) - 4)), (2, .int s.1)]) (fun s : Int32 × Mem => s.2) (fun s : Mem => [(0, rf g 112)]) (fun s : Mem => s) [1, 2, 0] rfl rfl rfl (fun r => r = (r0, μ0)) (fun r a h k => by cases h; exact hKq6 _ k) ?_ ?_
              · intro Kq18 hIq18 hJq18 hKq18 sq
                obtain ⟨x2_15, ν16⟩ := sq
                refine s_cu2 ?_
                show Sim G _ _ 83 [(0, rf g 112), (1, .int ((ν4.1 112 12) - 4)), (2, .int x2_15)] [] ν16
                refine s_iload_n hX dX11_reads_83 rfl 2 rfl ?_
                refine s_iload_n hX dX11_reads_84 rfl 1 rfl ?_
                refine s_callSir hX [.int ((ν4.1 112 12) - 4)] skX11_numbers (fun r hF => c_X11_numbers  hF) mkX11_numbers cvX11_137 rfl rfl ⟨by omega, by decide, Nat.le_of_ble_eq_true rfl⟩ dX11_reads_85 (fun r19 => ?_)
                refine s_icmp_ge hX 130 dX11_reads_88 (by decide) ?_ ?_
                · exact s_end hX (hJq18 ν16) [0] rfl
                · refine s_aload_n hX dX11_reads_91 rfl 0 rfl ?_
                  refine s_getI hX flX11_117 rfl dX11_reads_92 ?_
                  refine s_iconst (v := 2) hX dX11_reads_95 (by decide) ?_
                  refine s_icmp_eq hX 101 dX11_reads_96 (by decide) ?_ ?_
                  · refine s_aload_n hX dX11_reads_101 rfl 0 rfl ?_
                    refine s_getR hX (d := 7) 119 flX11_29 rfl rfl dX11_reads_102 ?_
                    refine s_iconst (v := 4) hX dX11_reads_105 (by decide) ?_
                    refine s_aload_n hX dX11_reads_106 rfl 0 rfl ?_
                    refine s_getI hX flX11_131 rfl dX11_reads_107 ?_
                    refine s_imul hX dX11_reads_110 ?_
                    refine s_iconst (v := 1) hX dX11_reads_111 (by decide) ?_
                    refine s_iadd hX dX11_reads_112 ?_
                    refine s_iload_n hX dX11_reads_113 rfl 2 rfl ?_
                    refine s_iadd hX dX11_reads_114 ?_
                    refine s_aload_n hX dX11_reads_115 rfl 0 rfl ?_
                    refine s_getI hX flX11_128 rfl dX11_reads_116 ?_
                    refine s_iast hX rfl rfl dX11_reads_119 (fun ν20 => ?_)
                    refine s_aload_n hX dX11_reads_120 rfl 0 rfl ?_
                    refine s_callVvw hX [] (k := 112) (ci := 10) rfl hc10 vkX11_scans (fun ν hF => c_X11_scans  hF) mkX11_scans cvX11_134 rfl rfl ⟨by omega, by decide, Nat.le_of_ble_eq_true rfl⟩ dX11_reads_121 (fun ν21 => ?_)
                    refine s_iinc (v := (x2_15 + 1)) (lv' := [(2, .int (x2_15 + 1)), (0, rf g 112), (1, .int ((ν4.1 112 12) - 4))]) hX dX11_reads_124 2 rfl rfl (by decide) rfl ?_
                    refine s_goto hX 83 dX11_reads_127 (by decide) ?_
                    exact s_end hX (hIq18 ((x2_15 + 1), ν21)) [1, 2, 0] rfl
                  · refine s_iconst (v := 0) hX dX11_reads_99 (by decide) ?_
                    exact s_zreti (by decide) hKq18 hR dX11_reads_100
              · intro sq
                obtain ⟨ν17, rfl⟩ : ∃ z, z = sq := ⟨_, rfl⟩
                show Sim G _ _ 130 [(0, rf g 112)] [] ν17
                refine s_aload_n hX dX11_reads_130 rfl 0 rfl ?_
                refine s_getI hX flX11_117 rfl dX11_reads_131 ?_
                refine s_iconst (v := 3) hX dX11_reads_134 (by decide) ?_
                refine s_icmp_eq hX 140 dX11_reads_135 (by decide) ?_ ?_
                · refine s_aload_n hX dX11_reads_140 rfl 0 rfl ?_
                  refine s_dup hX dX11_reads_141 rfl ?_
                  refine s_getI hX flX11_131 rfl dX11_reads_142 ?_
                  refine s_iconst (v := 1) hX dX11_reads_145 (by decide) ?_
                  refine s_iadd hX dX11_reads_146 ?_
                  refine s_putI hX flX11_131 rfl ⟨rfl, rfl⟩ dX11_reads_147 (fun ν22 => ?_)
                  refine s_aload_n hX dX11_reads_150 rfl 0 rfl ?_
                  refine s_callVvw hX [] (k := 112) (ci := 10) rfl hc10 vkX11_scans (fun ν hF => c_X11_scans  hF) mkX11_scans cvX11_134 rfl rfl ⟨by omega, by decide, Nat.le_of_ble_eq_true rfl⟩ dX11_reads_151 (fun ν23 => ?_)
                  refine s_goto hX 14 dX11_reads_154 (by decide) ?_
                  exact s_end hX (hIq6 ν23) [0] rfl
                · exact s_end hX (hJq6 ν17) [] rfl
            · exact s_to hX [] rfl (hj8)
          refine s_if_ne hX 59 dX11_reads_52 (by decide) ?_ ?_
          · refine s_iconst (v := 0) hX dX11_reads_59 (by decide) ?_
            exact s_to hX [0, 1] rfl (hj12 0)
          · refine s_iconst (v := 1) hX dX11_reads_55 (by decide) ?_
            refine s_goto hX 60 dX11_reads_56 (by decide) ?_
            exact s_to hX [0, 1] rfl (hj12 1)
        refine s_if_ne hX 47 dX11_reads_40 (by decide) ?_ ?_
        · refine s_iconst (v := 0) hX dX11_reads_47 (by decide) ?_
          exact s_to hX [1, 0] rfl (hj10 0)
        · refine s_iconst (v := 1) hX dX11_reads_43 (by decide) ?_
          refine s_goto hX 48 dX11_reads_44 (by decide) ?_
          exact s_to hX [1, 0] rfl (hj10 1)
    refine s_if_ne hX 28 dX11_reads_18 (by decide) ?_ ?_
    · exact s_to hX [0] rfl (hj7)
    · refine s_aload_n hX dX11_reads_21 rfl 0 rfl ?_
      refine s_getI hX flX11_131 rfl dX11_reads_22 ?_
      refine s_if_ne hX 157 dX11_reads_25 (by decide) ?_ ?_
      · refine s_iconst (v := 1) hX dX11_reads_157 (by decide) ?_
        exact s_zreti (by decide) hKq6 hR dX11_reads_158
      · exact s_to hX [0] rfl (hj7)
  · intro sq
    obtain ⟨ν5, rfl⟩ : ∃ z, z = sq := ⟨_, rfl⟩
    show Sim G _ _ 138 [] [] ν5
    refine s_iconst (v := 0) hX dX11_reads_138 (by decide) ?_
    exact s_zreti (by decide) hK hR dX11_reads_139
theorem dX11_road_0 : decode cX11_road 0 = .ok (.aload_n 0, 1) := by decide +kernel
theorem dX11_road_1 : decode cX11_road 1 = .ok (.iload_n 1, 1) := by decide +kernel
theorem dX11_road_2 : decode cX11_road 2 = .ok (.iload_n 2, 1) := by decide +kernel
theorem dX11_road_3 : decode cX11_road 3 = .ok (.invokevirtual 86, 3) := by decide +kernel
theorem dX11_road_6 : decode cX11_road 6 = .ok (.ifCond .ne 8, 3) := by decide +kernel
theorem dX11_road_9 : decode cX11_road 9 = .ok (.aload_n 0, 1) := by decide +kernel
theorem dX11_road_10 : decode cX11_road 10 = .ok (.invokevirtual 61, 3) := by decide +kernel
theorem dX11_road_13 : decode cX11_road 13 = .ok (.ireturn, 1) := by decide +kernel
theorem dX11_road_14 : decode cX11_road 14 = .ok (.iconst 0, 1) := by decide +kernel
theorem dX11_road_15 : decode cX11_road 15 = .ok (.istore_n 3, 1) := by decide +kernel
theorem dX11_road_16 : decode cX11_road 16 = .ok (.iload_n 3, 1) := by decide +kernel
theorem dX11_road_17 : decode cX11_road 17 = .ok (.aload_n 0, 1) := by decide +kernel
theorem dX11_road_18 : decode cX11_road 18 = .ok (.getfield 7, 3) := by decide +kernel
theorem dX11_road_21 : decode cX11_road 21 = .ok (.iconst 2, 1) := by decide +kernel
theorem dX11_road_22 : decode cX11_road 22 = .ok (.iaload, 1) := by decide +kernel
theorem dX11_road_23 : decode cX11_road 23 = .ok (.if_icmp .ge 66, 3) := by decide +kernel
theorem dX11_road_26 : decode cX11_road 26 = .ok (.aload_n 0, 1) := by decide +kernel
theorem dX11_road_27 : decode cX11_road 27 = .ok (.getfield 7, 3) := by decide +kernel
theorem dX11_road_30 : decode cX11_road 30 = .ok (.bipush 41, 2) := by decide +kernel
theorem dX11_road_32 : decode cX11_road 32 = .ok (.iconst 3, 1) := by decide +kernel
theorem dX11_road_33 : decode cX11_road 33 = .ok (.iload_n 3, 1) := by decide +kernel
theorem dX11_road_34 : decode cX11_road 34 = .ok (.imul, 1) := by decide +kernel
theorem dX11_road_35 : decode cX11_road 35 = .ok (.iadd, 1) := by decide +kernel
theorem dX11_road_36 : decode cX11_road 36 = .ok (.iaload, 1) := by decide +kernel
theorem dX11_road_37 : decode cX11_road 37 = .ok (.istore 4, 2) := by decide +kernel
theorem dX11_road_39 : decode cX11_road 39 = .ok (.aload_n 0, 1) := by decide +kernel
theorem dX11_road_40 : decode cX11_road 40 = .ok (.getfield 7, 3) := by decide +kernel
theorem dX11_road_43 : decode cX11_road 43 = .ok (.bipush 41, 2) := by decide +kernel
theorem dX11_road_45 : decode cX11_road 45 = .ok (.iconst 3, 1) := by decide +kernel
theorem dX11_road_46 : decode cX11_road 46 = .ok (.iload_n 3, 1) := by decide +kernel
theorem dX11_road_47 : decode cX11_road 47 = .ok (.imul, 1) := by decide +kernel
theorem dX11_road_48 : decode cX11_road 48 = .ok (.iadd, 1) := by decide +kernel
theorem dX11_road_49 : decode cX11_road 49 = .ok (.iconst 1, 1) := by decide +kernel
theorem dX11_road_50 : decode cX11_road 50 = .ok (.iadd, 1) := by decide +kernel
theorem dX11_road_51 : decode cX11_road 51 = .ok (.iaload, 1) := by decide +kernel
theorem dX11_road_52 : decode cX11_road 52 = .ok (.istore 5, 2) := by decide +kernel
theorem dX11_road_54 : decode cX11_road 54 = .ok (.iload 4, 2) := by decide +kernel
theorem dX11_road_56 : decode cX11_road 56 = .ok (.iload_n 1, 1) := by decide +kernel
theorem dX11_road_57 : decode cX11_road 57 = .ok (.if_icmp .ne 9, 3) := by decide +kernel
theorem dX11_road_60 : decode cX11_road 60 = .ok (.iload 5, 2) := by decide +kernel
theorem dX11_road_62 : decode cX11_road 62 = .ok (.iload_n 2, 1) := by decide +kernel
theorem dX11_road_63 : decode cX11_road 63 = .ok (.if_icmp .eq 15, 3) := by decide +kernel
theorem dX11_road_66 : decode cX11_road 66 = .ok (.iload 4, 2) := by decide +kernel
theorem dX11_road_68 : decode cX11_road 68 = .ok (.iload_n 2, 1) := by decide +kernel
theorem dX11_road_69 : decode cX11_road 69 = .ok (.if_icmp .ne 14, 3) := by decide +kernel
theorem dX11_road_72 : decode cX11_road 72 = .ok (.iload 5, 2) := by decide +kernel
theorem dX11_road_74 : decode cX11_road 74 = .ok (.iload_n 1, 1) := by decide +kernel
theorem dX11_road_75 : decode cX11_road 75 = .ok (.if_icmp .ne 8, 3) := by decide +kernel
theorem dX11_road_78 : decode cX11_road 78 = .ok (.aload_n 0, 1) := by decide +kernel
theorem dX11_road_79 : decode cX11_road 79 = .ok (.invokevirtual 76, 3) := by decide +kernel
theorem dX11_road_82 : decode cX11_road 82 = .ok (.ireturn, 1) := by decide +kernel
theorem dX11_road_83 : decode cX11_road 83 = .ok (.iinc 3 1, 3) := by decide +kernel
theorem dX11_road_86 : decode cX11_road 86 = .ok (.goto (-70), 3) := by decide +kernel
theorem dX11_road_89 : decode cX11_road 89 = .ok (.bipush 41, 2) := by decide +kernel
theorem dX11_road_91 : decode cX11_road 91 = .ok (.iconst 3, 1) := by decide +kernel
theorem dX11_road_92 : decode cX11_road 92 = .ok (.aload_n 0, 1) := by decide +kernel
theorem dX11_road_93 : decode cX11_road 93 = .ok (.getfield 7, 3) := by decide +kernel
theorem dX11_road_96 : decode cX11_road 96 = .ok (.iconst 2, 1) := by decide +kernel
theorem dX11_road_97 : decode cX11_road 97 = .ok (.iaload, 1) := by decide +kernel
theorem dX11_road_98 : decode cX11_road 98 = .ok (.imul, 1) := by decide +kernel
theorem dX11_road_99 : decode cX11_road 99 = .ok (.iadd, 1) := by decide +kernel
theorem dX11_road_100 : decode cX11_road 100 = .ok (.istore_n 3, 1) := by decide +kernel
theorem dX11_road_101 : decode cX11_road 101 = .ok (.aload_n 0, 1) := by decide +kernel
theorem dX11_road_102 : decode cX11_road 102 = .ok (.getfield 7, 3) := by decide +kernel
theorem dX11_road_105 : decode cX11_road 105 = .ok (.iload_n 3, 1) := by decide +kernel
theorem dX11_road_106 : decode cX11_road 106 = .ok (.iload_n 1, 1) := by decide +kernel
theorem dX11_road_107 : decode cX11_road 107 = .ok (.iastore, 1) := by decide +kernel
theorem dX11_road_108 : decode cX11_road 108 = .ok (.aload_n 0, 1) := by decide +kernel
theorem dX11_road_109 : decode cX11_road 109 = .ok (.getfield 7, 3) := by decide +kernel
theorem dX11_road_112 : decode cX11_road 112 = .ok (.iload_n 3, 1) := by decide +kernel
theorem dX11_road_113 : decode cX11_road 113 = .ok (.iconst 1, 1) := by decide +kernel
theorem dX11_road_114 : decode cX11_road 114 = .ok (.iadd, 1) := by decide +kernel
theorem dX11_road_115 : decode cX11_road 115 = .ok (.iload_n 2, 1) := by decide +kernel
theorem dX11_road_116 : decode cX11_road 116 = .ok (.iastore, 1) := by decide +kernel
theorem dX11_road_117 : decode cX11_road 117 = .ok (.aload_n 0, 1) := by decide +kernel
theorem dX11_road_118 : decode cX11_road 118 = .ok (.getfield 7, 3) := by decide +kernel
theorem dX11_road_121 : decode cX11_road 121 = .ok (.iload_n 3, 1) := by decide +kernel
theorem dX11_road_122 : decode cX11_road 122 = .ok (.iconst 2, 1) := by decide +kernel
theorem dX11_road_123 : decode cX11_road 123 = .ok (.iadd, 1) := by decide +kernel
theorem dX11_road_124 : decode cX11_road 124 = .ok (.iconst 0, 1) := by decide +kernel
theorem dX11_road_125 : decode cX11_road 125 = .ok (.iastore, 1) := by decide +kernel
theorem dX11_road_126 : decode cX11_road 126 = .ok (.aload_n 0, 1) := by decide +kernel
theorem dX11_road_127 : decode cX11_road 127 = .ok (.getfield 7, 3) := by decide +kernel
theorem dX11_road_130 : decode cX11_road 130 = .ok (.iconst 2, 1) := by decide +kernel
theorem dX11_road_131 : decode cX11_road 131 = .ok (.dup2, 1) := by decide +kernel
theorem dX11_road_132 : decode cX11_road 132 = .ok (.iaload, 1) := by decide +kernel
theorem dX11_road_133 : decode cX11_road 133 = .ok (.iconst 1, 1) := by decide +kernel
theorem dX11_road_134 : decode cX11_road 134 = .ok (.iadd, 1) := by decide +kernel
theorem dX11_road_135 : decode cX11_road 135 = .ok (.iastore, 1) := by decide +kernel
theorem dX11_road_136 : decode cX11_road 136 = .ok (.aload_n 0, 1) := by decide +kernel
theorem dX11_road_137 : decode cX11_road 137 = .ok (.getfield 7, 3) := by decide +kernel
theorem dX11_road_140 : decode cX11_road 140 = .ok (.iconst 2, 1) := by decide +kernel
theorem dX11_road_141 : decode cX11_road 141 = .ok (.iaload, 1) := by decide +kernel
theorem dX11_road_142 : decode cX11_road 142 = .ok (.iconst 1, 1) := by decide +kernel
theorem dX11_road_143 : decode cX11_road 143 = .ok (.isub, 1) := by decide +kernel
theorem dX11_road_144 : decode cX11_road 144 = .ok (.ireturn, 1) := by decide +kernel
noncomputable def f_X11_road (x1 : Int32) (x2 : Int32) (μ : Mem) : Option (Int32 × Mem) :=
  bd (f_X11_areTwo x1 x2 μ) fun r1 =>
  if r1 = 0 then
    bd2 (f_X11_bad  μ) fun r15 ν16 =>
    some (r15, ν16)
  else
    bdr (lp (ε := (Unit) ⊕ (Int32 × Mem)) (fun (x3_2 : Int32) =>
      if x3_2 < (μ.1 113 2) then
        chk (41 + (3 * x3_2)) 184 (
          lt (μ.1 113 (ix (41 + (3 * x3_2)))) fun x4_4 =>
          chk ((41 + (3 * x3_2)) + 1) 184 (
            lt (μ.1 113 (ix ((41 + (3 * x3_2)) + 1))) fun x5_5 =>
            jn (
              bd2 (f_X11_no  μ) fun r7 ν8 =>
              some (.inr (.inr (r7, ν8)))
              ) fun j6 =>
            jn (
              jn (
                some (.inl (x3_2 + 1))
                ) fun j10 =>
              if x4_4 = x2 then
                if x5_5 = x1 then
                  j6
                else
                  j10
              else
                j10
              ) fun j9 =>
            if x4_4 = x1 then
              if x5_5 = x2 then
                j6
              else
                j9
            else
              j9
            )
          )
      else
        some (.inr (.inl ()))
      ) 0) (fun (_ : Unit) =>
      chk (41 + (3 * (μ.1 113 2))) 184 (lt (setI μ 113 (ix (41 + (3 * (μ.1 113 2)))) x1) fun ν11 =>
        chk ((41 + (3 * (μ.1 113 2))) + 1) 184 (lt (setI ν11 113 (ix ((41 + (3 * (μ.1 113 2))) + 1)) x2) fun ν12 =>
          chk ((41 + (3 * (μ.1 113 2))) + 2) 184 (lt (setI ν12 113 (ix ((41 + (3 * (μ.1 113 2))) + 2)) 0) fun ν13 =>
            lt (setI ν13 113 2 ((ν13.1 113 2) + 1)) fun ν14 =>
            some (((ν14.1 113 2) - 1), ν14)
            )
          )
        )
      ) (fun r => some (r))
set_option maxHeartbeats 4000000 in
set_option maxRecDepth 100000 in
theorem c_X11_road {g : GT} {x1 : Int32} {x2 : Int32} {μ : Mem} {μ0 : Mem} {r0 : Int32} (hf : f_X11_road x1 x2 μ = some (r0, μ0)) : CI g yX11_road cX11_road 6 (some .int) 4 [rf g 112, .int x1, .int x2] μ r0 μ0 := by
  refine mk_i (by decide) (Nat.le_of_ble_eq_true rfl) ?_
  intro G hX hR
  have hX : CX g G cX11_road RX11 6 4 := hX
  suffices S : ∀ K : (Int32 × Mem) → Prop, (∀ a, K a → a = (r0, μ0)) → Sim G (f_X11_road x1 x2 μ) K 0 [(0, rf g 112), (1, .int x1), (2, .int x2)] [] μ from S (fun a => a = (r0, μ0)) (fun a h => h) _ hf rfl
  intro K hK
  unfold f_X11_road
  refine s_aload_n hX dX11_road_0 rfl 0 rfl ?_
  refine s_iload_n hX dX11_road_1 rfl 1 rfl ?_
  refine s_iload_n hX dX11_road_2 rfl 2 rfl ?_
  refine s_callVir hX [.int x1, .int x2] (k := 112) (ci := 10) rfl hc10 vkX11_areTwo (fun r hF => c_X11_areTwo  hF) mkX11_areTwo cvX11_86 rfl rfl ⟨by omega, by decide, Nat.le_of_ble_eq_true rfl⟩ dX11_road_3 (fun r1 => ?_)
  refine s_if_ne hX 14 dX11_road_6 (by decide) ?_ ?_
  · refine s_iconst (v := 0) hX dX11_road_14 (by decide) ?_
    refine s_istore_n (lv' := [(3, .int 0), (0, rf g 112), (1, .int x1), (2, .int x2)]) hX dX11_road_15 rfl (by decide) rfl ?_
    refine s_loopR hX 16 89 (fun s : Int32 => [(0, rf g 112), (1, .int x1), (2, .int x2), (3, .int s)]) (fun s : Int32 => μ) (fun _ : Unit => [(0, rf g 112), (1, .int x1), (2, .int x2)]) (fun _ : Unit => μ) [1, 2, 3, 0] rfl rfl rfl (fun r => r = (r0, μ0)) (fun r a h k => by cases h; exact hK _ k) ?_ ?_
    · intro Kq3 hIq3 hJq3 hKq3 sq
      obtain ⟨x3_2, rfl⟩ : ∃ z, z = sq := ⟨_, rfl⟩
      show Sim G _ _ 16 [(0, rf g 112), (1, .int x1), (2, .int x2), (3, .int x3_2)] [] μ
      refine s_iload_n hX dX11_road_16 rfl 3 rfl ?_
      refine s_aload_n hX dX11_road_17 rfl 0 rfl ?_
      refine s_getR hX (d := 1) 113 flX11_7 rfl rfl dX11_road_18 ?_
      refine s_iconst (v := 2) hX dX11_road_21 (by decide) ?_
      refine s_ialdK hX rfl rfl (by decide) rfl dX11_road_22 ?_
      refine s_icmp_ge hX 89 dX11_road_23 (by decide) ?_ ?_
      · exact s_end hX (hJq3 ()) [0, 1, 2] rfl
      · refine s_aload_n hX dX11_road_26 rfl 0 rfl ?_
        refine s_getR hX (d := 1) 113 flX11_7 rfl rfl dX11_road_27 ?_
        refine s_bipush (v := 41) hX dX11_road_30 (by decide) ?_
        refine s_iconst (v := 3) hX dX11_road_32 (by decide) ?_
        refine s_iload_n hX dX11_road_33 rfl 3 rfl ?_
        refine s_imul hX dX11_road_34 ?_
        refine s_iadd hX dX11_road_35 ?_
        refine s_iald hX rfl rfl dX11_road_36 ?_
        refine s_lti (fun x4_4 => ?_)
        refine s_istore (lv' := [(4, .int x4_4), (0, rf g 112), (1, .int x1), (2, .int x2), (3, .int x3_2)]) hX dX11_road_37 (by decide) rfl ?_
        refine s_aload_n hX dX11_road_39 rfl 1 rfl ?_
        refine s_getR hX (d := 1) 113 flX11_7 rfl rfl dX11_road_40 ?_
        refine s_bipush (v := 41) hX dX11_road_43 (by decide) ?_
        refine s_iconst (v := 3) hX dX11_road_45 (by decide) ?_
        refine s_iload_n hX dX11_road_46 rfl 4 rfl ?_
        refine s_imul hX dX11_road_47 ?_
        refine s_iadd hX dX11_road_48 ?_
        refine s_iconst (v := 1) hX dX11_road_49 (by decide) ?_
        refine s_iadd hX dX11_road_50 ?_
        refine s_iald hX rfl rfl dX11_road_51 ?_
        refine s_lti (fun x5_5 => ?_)
        refine s_istore (lv' := [(5, .int x5_5), (4, .int x4_4), (0, rf g 112), (1, .int x1), (2, .int x2), (3, .int x3_2)]) hX dX11_road_52 (by decide) rfl ?_
        refine s_iload hX dX11_road_54 1 rfl ?_
        refine s_iload_n hX dX11_road_56 rfl 3 rfl ?_
        refine s_jn (C := fun j => Sim G (j) Kq3 78 [(0, rf g 112)] [] μ) ?_ (fun j6 hj6 => ?_)
        · skip
          show Sim G _ _ 78 [(0, rf g 112)] [] μ
          refine s_aload_n hX dX11_road_78 rfl 0 rfl ?_
          refine s_callViw hX [] (k := 112) (ci := 10) rfl hc10 vkX11_no (fun r ν hF => c_X11_no  hF) mkX11_no cvX11_76 rfl rfl ⟨by omega, by decide, Nat.le_of_ble_eq_true rfl⟩ dX11_road_79 (fun r7 ν8 => ?_)
          exact s_ireti hKq3 hR dX11_road_82
        refine s_jn (C := fun j => Sim G (j) Kq3 66 [(0, rf g 112), (1, .int x1), (2, .int x2), (3, .int x3_2), (4, .int x4_4), (5, .int x5_5)] [] μ) ?_ (fun j9 hj9 => ?_)
        · skip
          show Sim G _ _ 66 [(0, rf g 112), (1, .int x1), (2, .int x2), (3, .int x3_2), (4, .int x4_4), (5, .int x5_5)] [] μ
          refine s_iload hX dX11_road_66 4 rfl ?_
          refine s_iload_n hX dX11_road_68 rfl 2 rfl ?_
          refine s_jn (C := fun j => Sim G (j) Kq3 83 [(0, rf g 112), (1, .int x1), (2, .int x2), (3, .int x3_2)] [] μ) ?_ (fun j10 hj10 => ?_)
          · skip
            show Sim G _ _ 83 [(0, rf g 112), (1, .int x1), (2, .int x2), (3, .int x3_2)] [] μ
            refine s_iinc (v := (x3_2 + 1)) (lv' := [(3, .int (x3_2 + 1)), (0, rf g 112), (1, .int x1), (2, .int x2)]) hX dX11_road_83 3 rfl rfl (by decide) rfl ?_
            refine s_goto hX 16 dX11_road_86 (by decide) ?_
            exact s_end hX (hIq3 (x3_2 + 1)) [1, 2, 3, 0] rfl
          refine s_icmp_ne hX 83 dX11_road_69 (by decide) ?_ ?_
          · exact s_to hX [0, 1, 2, 3] rfl (hj10)
          · refine s_iload hX dX11_road_72 5 rfl ?_
            refine s_iload_n hX dX11_road_74 rfl 1 rfl ?_
            refine s_icmp_ne hX 83 dX11_road_75 (by decide) ?_ ?_
            · exact s_to hX [0, 1, 2, 3] rfl (hj10)
            · exact s_to hX [0] rfl (hj6)
        refine s_icmp_ne hX 66 dX11_road_57 (by decide) ?_ ?_
        · exact s_to hX [2, 3, 4, 5, 1, 0] rfl (hj9)
        · refine s_iload hX dX11_road_60 0 rfl ?_
          refine s_iload_n hX dX11_road_62 rfl 4 rfl ?_
          refine s_icmp_eq hX 78 dX11_road_63 (by decide) ?_ ?_
          · exact s_to hX [2] rfl (hj6)
          · exact s_to hX [2, 3, 4, 5, 1, 0] rfl (hj9)
    · intro sq
      show Sim G _ _ 89 [(0, rf g 112), (1, .int x1), (2, .int x2)] [] μ
      refine s_bipush (v := 41) hX dX11_road_89 (by decide) ?_
      refine s_iconst (v := 3) hX dX11_road_91 (by decide) ?_
      refine s_aload_n hX dX11_road_92 rfl 0 rfl ?_
      refine s_getR hX (d := 1) 113 flX11_7 rfl rfl dX11_road_93 ?_
      refine s_iconst (v := 2) hX dX11_road_96 (by decide) ?_
      refine s_ialdK hX rfl rfl (by decide) rfl dX11_road_97 ?_
      refine s_imul hX dX11_road_98 ?_
      refine s_iadd hX dX11_road_99 ?_
      refine s_istore_n (lv' := [(3, .int (41 + (3 * (μ.1 113 2)))), (0, rf g 112), (1, .int x1), (2, .int x2)]) hX dX11_road_100 rfl (by decide) rfl ?_
      refine s_aload_n hX dX11_road_101 rfl 1 rfl ?_
      refine s_getR hX (d := 1) 113 flX11_7 rfl rfl dX11_road_102 ?_
      refine s_iload_n hX dX11_road_105 rfl 0 rfl ?_
      refine s_iload_n hX dX11_road_106 rfl 2 rfl ?_
      refine s_iast hX rfl rfl dX11_road_107 (fun ν11 => ?_)
      refine s_aload_n hX dX11_road_108 rfl 1 rfl ?_
      refine s_getR hX (d := 1) 113 flX11_7 rfl rfl dX11_road_109 ?_
      refine s_iload_n hX dX11_road_112 rfl 0 rfl ?_
      refine s_iconst (v := 1) hX dX11_road_113 (by decide) ?_
      refine s_iadd hX dX11_road_114 ?_
      refine s_iload_n hX dX11_road_115 rfl 3 rfl ?_
      refine s_iast hX rfl rfl dX11_road_116 (fun ν12 => ?_)
      refine s_aload_n hX dX11_road_117 rfl 1 rfl ?_
      refine s_getR hX (d := 1) 113 flX11_7 rfl rfl dX11_road_118 ?_
      refine s_iload_n hX dX11_road_121 rfl 0 rfl ?_
      refine s_iconst (v := 2) hX dX11_road_122 (by decide) ?_
      refine s_iadd hX dX11_road_123 ?_
      refine s_iconst (v := 0) hX dX11_road_124 (by decide) ?_
      refine s_iast hX rfl rfl dX11_road_125 (fun ν13 => ?_)
      refine s_aload_n hX dX11_road_126 rfl 1 rfl ?_
      refine s_getR hX (d := 1) 113 flX11_7 rfl rfl dX11_road_127 ?_
      refine s_iconst (v := 2) hX dX11_road_130 (by decide) ?_
      refine s_dup2 hX dX11_road_131 rfl rfl ?_
      refine s_ialdK hX rfl rfl (by decide) rfl dX11_road_132 ?_
      refine s_iconst (v := 1) hX dX11_road_133 (by decide) ?_
      refine s_iadd hX dX11_road_134 ?_
      refine s_iastK hX rfl rfl (by decide) rfl dX11_road_135 (fun ν14 => ?_)
      refine s_aload_n hX dX11_road_136 rfl 1 rfl ?_
      refine s_getR hX (d := 1) 113 flX11_7 rfl rfl dX11_road_137 ?_
      refine s_iconst (v := 2) hX dX11_road_140 (by decide) ?_
      refine s_ialdK hX rfl rfl (by decide) rfl dX11_road_141 ?_
      refine s_iconst (v := 1) hX dX11_road_142 (by decide) ?_
      refine s_isub hX dX11_road_143 ?_
      exact s_ireti hK hR dX11_road_144
  · refine s_aload_n hX dX11_road_9 rfl 0 rfl ?_
    refine s_callViw hX [] (k := 112) (ci := 10) rfl hc10 vkX11_bad (fun r ν hF => c_X11_bad  hF) mkX11_bad cvX11_61 rfl rfl ⟨by omega, by decide, Nat.le_of_ble_eq_true rfl⟩ dX11_road_10 (fun r15 ν16 => ?_)
    exact s_ireti hK hR dX11_road_13
theorem dX11_takenNow_0 : decode cX11_takenNow 0 = .ok (.aload_n 0, 1) := by decide +kernel
theorem dX11_takenNow_1 : decode cX11_takenNow 1 = .ok (.iload_n 1, 1) := by decide +kernel
theorem dX11_takenNow_2 : decode cX11_takenNow 2 = .ok (.aload_n 0, 1) := by decide +kernel
theorem dX11_takenNow_3 : decode cX11_takenNow 3 = .ok (.getfield 7, 3) := by decide +kernel
theorem dX11_takenNow_6 : decode cX11_takenNow 6 = .ok (.iconst 3, 1) := by decide +kernel
theorem dX11_takenNow_7 : decode cX11_takenNow 7 = .ok (.iaload, 1) := by decide +kernel
theorem dX11_takenNow_8 : decode cX11_takenNow 8 = .ok (.iconst (-1), 1) := by decide +kernel
theorem dX11_takenNow_9 : decode cX11_takenNow 9 = .ok (.iconst 0, 1) := by decide +kernel
theorem dX11_takenNow_10 : decode cX11_takenNow 10 = .ok (.invokevirtual 180, 3) := by decide +kernel
theorem dX11_takenNow_13 : decode cX11_takenNow 13 = .ok (.istore_n 2, 1) := by decide +kernel
theorem dX11_takenNow_14 : decode cX11_takenNow 14 = .ok (.iload_n 2, 1) := by decide +kernel
theorem dX11_takenNow_15 : decode cX11_takenNow 15 = .ok (.iconst (-1), 1) := by decide +kernel
theorem dX11_takenNow_16 : decode cX11_takenNow 16 = .ok (.if_icmp .ne 7, 3) := by decide +kernel
theorem dX11_takenNow_19 : decode cX11_takenNow 19 = .ok (.iconst 0, 1) := by decide +kernel
theorem dX11_takenNow_20 : decode cX11_takenNow 20 = .ok (.goto 8, 3) := by decide +kernel
theorem dX11_takenNow_23 : decode cX11_takenNow 23 = .ok (.aload_n 0, 1) := by decide +kernel
theorem dX11_takenNow_24 : decode cX11_takenNow 24 = .ok (.iload_n 2, 1) := by decide +kernel
theorem dX11_takenNow_25 : decode cX11_takenNow 25 = .ok (.invokevirtual 199, 3) := by decide +kernel
theorem dX11_takenNow_28 : decode cX11_takenNow 28 = .ok (.ireturn, 1) := by decide +kernel
noncomputable def f_X11_takenNow (x1 : Int32) (μ : Mem) : Option Int32 :=
  bd (f_X11_greatestOf x1 (μ.1 113 3) (-1) 0 μ) fun r1 =>
  jn (fun (y2 : Int32) =>
    some y2
    ) fun j3 =>
  if r1 = (-1) then
    j3 0
  else
    bd (f_X11_tithe r1 μ) fun r4 =>
    j3 r4
set_option maxHeartbeats 4000000 in
set_option maxRecDepth 100000 in
theorem c_X11_takenNow {g : GT} {x1 : Int32} {μ : Mem} {r0 : Int32} (hf : f_X11_takenNow x1 μ = some r0) : CI g yX11_takenNow cX11_takenNow 3 (some .int) 4 [rf g 112, .int x1] μ r0 μ := by
  refine mk_i (by decide) (Nat.le_of_ble_eq_true rfl) ?_
  intro G hX hR
  have hX : CX g G cX11_takenNow RX11 3 4 := hX
  suffices S : ∀ K : Int32 → Prop, (∀ a, K a → a = r0) → Sim G (f_X11_takenNow x1 μ) K 0 [(0, rf g 112), (1, .int x1)] [] μ from S (fun a => a = r0) (fun a h => h) _ hf rfl
  intro K hK
  unfold f_X11_takenNow
  refine s_aload_n hX dX11_takenNow_0 rfl 0 rfl ?_
  refine s_iload_n hX dX11_takenNow_1 rfl 1 rfl ?_
  refine s_aload_n hX dX11_takenNow_2 rfl 0 rfl ?_
  refine s_getR hX (d := 1) 113 flX11_7 rfl rfl dX11_takenNow_3 ?_
  refine s_iconst (v := 3) hX dX11_takenNow_6 (by decide) ?_
  refine s_ialdK hX rfl rfl (by decide) rfl dX11_takenNow_7 ?_
  refine s_iconst (v := (-1)) hX dX11_takenNow_8 (by decide) ?_
  refine s_iconst (v := 0) hX dX11_takenNow_9 (by decide) ?_
  refine s_callVir hX [.int x1, .int (μ.1 113 3), .int (-1), .int 0] (k := 112) (ci := 10) rfl hc10 vkX11_greatestOf (fun r hF => c_X11_greatestOf  hF) mkX11_greatestOf cvX11_180 rfl rfl ⟨by omega, by decide, Nat.le_of_ble_eq_true rfl⟩ dX11_takenNow_10 (fun r1 => ?_)
  refine s_istore_n (lv' := [(2, .int r1), (0, rf g 112), (1, .int x1)]) hX dX11_takenNow_13 rfl (by decide) rfl ?_
  refine s_iload_n hX dX11_takenNow_14 rfl 0 rfl ?_
  refine s_iconst (v := (-1)) hX dX11_takenNow_15 (by decide) ?_
  refine s_jn (C := fun j => ∀ (y2 : Int32), Sim G (j y2) K 28 [] [.int y2] μ) ?_ (fun j3 hj3 => ?_)
  · intro y2
    show Sim G _ _ 28 [] [.int y2] μ
    exact s_iretr hK hR dX11_takenNow_28
  refine s_icmp_ne hX 23 dX11_takenNow_16 (by decide) ?_ ?_
  · refine s_aload_n hX dX11_takenNow_23 rfl 1 rfl ?_
    refine s_iload_n hX dX11_takenNow_24 rfl 0 rfl ?_
    refine s_callVir hX [.int r1] (k := 112) (ci := 10) rfl hc10 vkX11_tithe (fun r hF => c_X11_tithe  hF) mkX11_tithe cvX11_199 rfl rfl ⟨by omega, by decide, Nat.le_of_ble_eq_true rfl⟩ dX11_takenNow_25 (fun r4 => ?_)
    exact s_to hX [] rfl (hj3 r4)
  · refine s_iconst (v := 0) hX dX11_takenNow_19 (by decide) ?_
    refine s_goto hX 28 dX11_takenNow_20 (by decide) ?_
    exact s_to hX [] rfl (hj3 0)
theorem dX11_unseen_0 : decode cX11_unseen 0 = .ok (.aload_n 0, 1) := by decide +kernel
theorem dX11_unseen_1 : decode cX11_unseen 1 = .ok (.iload_n 1, 1) := by decide +kernel
theorem dX11_unseen_2 : decode cX11_unseen 2 = .ok (.iload_n 2, 1) := by decide +kernel
theorem dX11_unseen_3 : decode cX11_unseen 3 = .ok (.invokevirtual 86, 3) := by decide +kernel
theorem dX11_unseen_6 : decode cX11_unseen 6 = .ok (.ifCond .ne 8, 3) := by decide +kernel
theorem dX11_unseen_9 : decode cX11_unseen 9 = .ok (.aload_n 0, 1) := by decide +kernel
theorem dX11_unseen_10 : decode cX11_unseen 10 = .ok (.invokevirtual 61, 3) := by decide +kernel
theorem dX11_unseen_13 : decode cX11_unseen 13 = .ok (.ireturn, 1) := by decide +kernel
theorem dX11_unseen_14 : decode cX11_unseen 14 = .ok (.iconst 1, 1) := by decide +kernel
theorem dX11_unseen_15 : decode cX11_unseen 15 = .ok (.iload_n 1, 1) := by decide +kernel
theorem dX11_unseen_16 : decode cX11_unseen 16 = .ok (.ishl, 1) := by decide +kernel
theorem dX11_unseen_17 : decode cX11_unseen 17 = .ok (.istore_n 3, 1) := by decide +kernel
theorem dX11_unseen_18 : decode cX11_unseen 18 = .ok (.iconst 1, 1) := by decide +kernel
theorem dX11_unseen_19 : decode cX11_unseen 19 = .ok (.istore 4, 2) := by decide +kernel
theorem dX11_unseen_21 : decode cX11_unseen 21 = .ok (.iload 4, 2) := by decide +kernel
theorem dX11_unseen_23 : decode cX11_unseen 23 = .ok (.iconst 5, 1) := by decide +kernel
theorem dX11_unseen_24 : decode cX11_unseen 24 = .ok (.if_icmp .ge 31, 3) := by decide +kernel
theorem dX11_unseen_27 : decode cX11_unseen 27 = .ok (.aload_n 0, 1) := by decide +kernel
theorem dX11_unseen_28 : decode cX11_unseen 28 = .ok (.iload_n 3, 1) := by decide +kernel
theorem dX11_unseen_29 : decode cX11_unseen 29 = .ok (.aload_n 0, 1) := by decide +kernel
theorem dX11_unseen_30 : decode cX11_unseen 30 = .ok (.invokevirtual 244, 3) := by decide +kernel
theorem dX11_unseen_33 : decode cX11_unseen 33 = .ok (.invokevirtual 247, 3) := by decide +kernel
theorem dX11_unseen_36 : decode cX11_unseen 36 = .ok (.istore_n 3, 1) := by decide +kernel
theorem dX11_unseen_37 : decode cX11_unseen 37 = .ok (.iload_n 3, 1) := by decide +kernel
theorem dX11_unseen_38 : decode cX11_unseen 38 = .ok (.iload_n 2, 1) := by decide +kernel
theorem dX11_unseen_39 : decode cX11_unseen 39 = .ok (.ishr, 1) := by decide +kernel
theorem dX11_unseen_40 : decode cX11_unseen 40 = .ok (.iconst 1, 1) := by decide +kernel
theorem dX11_unseen_41 : decode cX11_unseen 41 = .ok (.iand, 1) := by decide +kernel
theorem dX11_unseen_42 : decode cX11_unseen 42 = .ok (.iconst 1, 1) := by decide +kernel
theorem dX11_unseen_43 : decode cX11_unseen 43 = .ok (.if_icmp .ne 6, 3) := by decide +kernel
theorem dX11_unseen_46 : decode cX11_unseen 46 = .ok (.iload 4, 2) := by decide +kernel
theorem dX11_unseen_48 : decode cX11_unseen 48 = .ok (.ireturn, 1) := by decide +kernel
theorem dX11_unseen_49 : decode cX11_unseen 49 = .ok (.iinc 4 1, 3) := by decide +kernel
theorem dX11_unseen_52 : decode cX11_unseen 52 = .ok (.goto (-31), 3) := by decide +kernel
theorem dX11_unseen_55 : decode cX11_unseen 55 = .ok (.iconst (-1), 1) := by decide +kernel
theorem dX11_unseen_56 : decode cX11_unseen 56 = .ok (.ireturn, 1) := by decide +kernel
noncomputable def f_X11_unseen (x1 : Int32) (x2 : Int32) (μ : Mem) : Option (Int32 × Mem) :=
  bd (f_X11_areTwo x1 x2 μ) fun r1 =>
  if r1 = 0 then
    bd2 (f_X11_bad  μ) fun r7 ν8 =>
    some (r7, ν8)
  else
    bdr (lp (ε := (Unit) ⊕ (Int32 × Mem)) (cu2 fun (x3_2 : Int32) (x4_3 : Int32) =>
      if x4_3 < 5 then
        bd (f_X11_openRoads  μ) fun r5 =>
        bd (f_X11_steps x3_2 r5 μ) fun r6 =>
        if ((r6 >>> (x2 &&& 31)) &&& 1) = 1 then
          some (.inr (.inr (x4_3, μ)))
        else
          some (.inl (r6, (x4_3 + 1)))
      else
        some (.inr (.inl ()))
      ) (((1 : Int32) <<< (x1 &&& 31)), 1)) (fun (_ : Unit) =>
      some ((-1), μ)
      ) (fun r => some (r))
set_option maxHeartbeats 4000000 in
set_option maxRecDepth 100000 in
theorem c_X11_unseen {g : GT} {x1 : Int32} {x2 : Int32} {μ : Mem} {μ0 : Mem} {r0 : Int32} (hf : f_X11_unseen x1 x2 μ = some (r0, μ0)) : CI g yX11_unseen cX11_unseen 5 (some .int) 4 [rf g 112, .int x1, .int x2] μ r0 μ0 := by
  refine mk_i (by decide) (Nat.le_of_ble_eq_true rfl) ?_
  intro G hX hR
  have hX : CX g G cX11_unseen RX11 5 4 := hX
  suffices S : ∀ K : (Int32 × Mem) → Prop, (∀ a, K a → a = (r0, μ0)) → Sim G (f_X11_unseen x1 x2 μ) K 0 [(0, rf g 112), (1, .int x1), (2, .int x2)] [] μ from S (fun a => a = (r0, μ0)) (fun a h => h) _ hf rfl
  intro K hK
  unfold f_X11_unseen
  refine s_aload_n hX dX11_unseen_0 rfl 0 rfl ?_
  refine s_iload_n hX dX11_unseen_1 rfl 1 rfl ?_
  refine s_iload_n hX dX11_unseen_2 rfl 2 rfl ?_
  refine s_callVir hX [.int x1, .int x2] (k := 112) (ci := 10) rfl hc10 vkX11_areTwo (fun r hF => c_X11_areTwo  hF) mkX11_areTwo cvX11_86 rfl rfl ⟨by omega, by decide, Nat.le_of_ble_eq_true rfl⟩ dX11_unseen_3 (fun r1 => ?_)
  refine s_if_ne hX 14 dX11_unseen_6 (by decide) ?_ ?_
  · refine s_iconst (v := 1) hX dX11_unseen_14 (by decide) ?_
    refine s_iload_n hX dX11_unseen_15 rfl 1 rfl ?_
    refine s_ishl hX dX11_unseen_16 ?_
    refine s_istore_n (lv' := [(3, .int ((1 : Int32) <<< (x1 &&& 31))), (0, rf g 112), (1, .int x1), (2, .int x2)]) hX dX11_unseen_17 rfl (by decide) rfl ?_
    refine s_iconst (v := 1) hX dX11_unseen_18 (by decide) ?_
    refine s_istore (lv' := [(4, .int 1), (3, .int ((1 : Int32) <<< (x1 &&& 31))), (0, rf g 112), (1, .int x1), (2, .int x2)]) hX dX11_unseen_19 (by decide) rfl ?_
    refine s_loopR hX 21 55 (fun s : Int32 × Int32 => [(0, rf g 112), (2, .int x2), (3, .int s.1), (4, .int s.2)]) (fun s : Int32 × Int32 => μ) (fun _ : Unit => []) (fun _ : Unit => μ) [2, 4, 1, 0] rfl rfl rfl (fun r => r = (r0, μ0)) (fun r a h k => by cases h; exact hK _ k) ?_ ?_
    · intro Kq4 hIq4 hJq4 hKq4 sq
      obtain ⟨x3_2, x4_3⟩ := sq
      refine s_cu2 ?_
      show Sim G _ _ 21 [(0, rf g 112), (2, .int x2), (3, .int x3_2), (4, .int x4_3)] [] μ
      refine s_iload hX dX11_unseen_21 3 rfl ?_
      refine s_iconst (v := 5) hX dX11_unseen_23 (by decide) ?_
      refine s_icmp_ge hX 55 dX11_unseen_24 (by decide) ?_ ?_
      · exact s_end hX (hJq4 ()) [] rfl
      · refine s_aload_n hX dX11_unseen_27 rfl 0 rfl ?_
        refine s_iload_n hX dX11_unseen_28 rfl 2 rfl ?_
        refine s_aload_n hX dX11_unseen_29 rfl 0 rfl ?_
        refine s_callVir hX [] (k := 112) (ci := 10) rfl hc10 vkX11_openRoads (fun r hF => c_X11_openRoads  hF) mkX11_openRoads cvX11_244 rfl rfl ⟨by omega, by decide, Nat.le_of_ble_eq_true rfl⟩ dX11_unseen_30 (fun r5 => ?_)
        refine s_callVir hX [.int x3_2, .int r5] (k := 112) (ci := 10) rfl hc10 vkX11_steps (fun r hF => c_X11_steps  hF) mkX11_steps cvX11_247 rfl rfl ⟨by omega, by decide, Nat.le_of_ble_eq_true rfl⟩ dX11_unseen_33 (fun r6 => ?_)
        refine s_istore_n (lv' := [(3, .int r6), (0, rf g 112), (2, .int x2), (4, .int x4_3)]) hX dX11_unseen_36 rfl (by decide) rfl ?_
        refine s_iload_n hX dX11_unseen_37 rfl 0 rfl ?_
        refine s_iload_n hX dX11_unseen_38 rfl 2 rfl ?_
        refine s_ishr hX dX11_unseen_39 ?_
        refine s_iconst (v := 1) hX dX11_unseen_40 (by decide) ?_
        refine s_iand hX dX11_unseen_41 ?_
        refine s_iconst (v := 1) hX dX11_unseen_42 (by decide) ?_
        refine s_icmp_ne hX 49 dX11_unseen_43 (by decide) ?_ ?_
        · refine s_iinc (v := (x4_3 + 1)) (lv' := [(4, .int (x4_3 + 1)), (3, .int r6), (0, rf g 112), (2, .int x2)]) hX dX11_unseen_49 3 rfl rfl (by decide) rfl ?_
          refine s_goto hX 21 dX11_unseen_52 (by decide) ?_
          exact s_end hX (hIq4 (r6, (x4_3 + 1))) [2, 3, 1, 0] rfl
        · refine s_iload hX dX11_unseen_46 3 rfl ?_
          exact s_ireti hKq4 hR dX11_unseen_48
    · intro sq
      show Sim G _ _ 55 [] [] μ
      refine s_iconst (v := (-1)) hX dX11_unseen_55 (by decide) ?_
      exact s_ireti hK hR dX11_unseen_56
  · refine s_aload_n hX dX11_unseen_9 rfl 0 rfl ?_
    refine s_callViw hX [] (k := 112) (ci := 10) rfl hc10 vkX11_bad (fun r ν hF => c_X11_bad  hF) mkX11_bad cvX11_61 rfl rfl ⟨by omega, by decide, Nat.le_of_ble_eq_true rfl⟩ dX11_unseen_10 (fun r7 ν8 => ?_)
    exact s_ireti hK hR dX11_unseen_13
theorem dX1_sortClouds_0 : decode cX1_sortClouds 0 = .ok (.aload_n 0, 1) := by decide +kernel
theorem dX1_sortClouds_1 : decode cX1_sortClouds 1 = .ok (.getfield 11, 3) := by decide +kernel
theorem dX1_sortClouds_4 : decode cX1_sortClouds 4 = .ok (.iload_n 1, 1) := by decide +kernel
theorem dX1_sortClouds_5 : decode cX1_sortClouds 5 = .ok (.aaload, 1) := by decide +kernel
theorem dX1_sortClouds_6 : decode cX1_sortClouds 6 = .ok (.astore_n 2, 1) := by decide +kernel
theorem dX1_sortClouds_7 : decode cX1_sortClouds 7 = .ok (.iconst 0, 1) := by decide +kernel
theorem dX1_sortClouds_8 : decode cX1_sortClouds 8 = .ok (.istore_n 3, 1) := by decide +kernel
theorem dX1_sortClouds_9 : decode cX1_sortClouds 9 = .ok (.iload_n 3, 1) := by decide +kernel
theorem dX1_sortClouds_10 : decode cX1_sortClouds 10 = .ok (.bipush 6, 2) := by decide +kernel
theorem dX1_sortClouds_12 : decode cX1_sortClouds 12 = .ok (.if_icmp .ge 18, 3) := by decide +kernel
theorem dX1_sortClouds_15 : decode cX1_sortClouds 15 = .ok (.aload_n 0, 1) := by decide +kernel
theorem dX1_sortClouds_16 : decode cX1_sortClouds 16 = .ok (.getfield 19, 3) := by decide +kernel
theorem dX1_sortClouds_19 : decode cX1_sortClouds 19 = .ok (.iload_n 1, 1) := by decide +kernel
theorem dX1_sortClouds_20 : decode cX1_sortClouds 20 = .ok (.aaload, 1) := by decide +kernel
theorem dX1_sortClouds_21 : decode cX1_sortClouds 21 = .ok (.iload_n 3, 1) := by decide +kernel
theorem dX1_sortClouds_22 : decode cX1_sortClouds 22 = .ok (.iconst 0, 1) := by decide +kernel
theorem dX1_sortClouds_23 : decode cX1_sortClouds 23 = .ok (.iastore, 1) := by decide +kernel
theorem dX1_sortClouds_24 : decode cX1_sortClouds 24 = .ok (.iinc 3 1, 3) := by decide +kernel
theorem dX1_sortClouds_27 : decode cX1_sortClouds 27 = .ok (.goto (-18), 3) := by decide +kernel
theorem dX1_sortClouds_30 : decode cX1_sortClouds 30 = .ok (.aload_n 2, 1) := by decide +kernel
theorem dX1_sortClouds_31 : decode cX1_sortClouds 31 = .ok (.invokevirtual 61, 3) := by decide +kernel
theorem dX1_sortClouds_34 : decode cX1_sortClouds 34 = .ok (.iconst 0, 1) := by decide +kernel
theorem dX1_sortClouds_35 : decode cX1_sortClouds 35 = .ok (.istore_n 3, 1) := by decide +kernel
theorem dX1_sortClouds_36 : decode cX1_sortClouds 36 = .ok (.iload_n 3, 1) := by decide +kernel
theorem dX1_sortClouds_37 : decode cX1_sortClouds 37 = .ok (.iconst 1, 1) := by decide +kernel
theorem dX1_sortClouds_38 : decode cX1_sortClouds 38 = .ok (.aload_n 2, 1) := by decide +kernel
theorem dX1_sortClouds_39 : decode cX1_sortClouds 39 = .ok (.getfield 64, 3) := by decide +kernel
theorem dX1_sortClouds_42 : decode cX1_sortClouds 42 = .ok (.ishl, 1) := by decide +kernel
theorem dX1_sortClouds_43 : decode cX1_sortClouds 43 = .ok (.if_icmp .ge 53, 3) := by decide +kernel
theorem dX1_sortClouds_46 : decode cX1_sortClouds 46 = .ok (.aload_n 2, 1) := by decide +kernel
theorem dX1_sortClouds_47 : decode cX1_sortClouds 47 = .ok (.iload_n 3, 1) := by decide +kernel
theorem dX1_sortClouds_48 : decode cX1_sortClouds 48 = .ok (.invokevirtual 68, 3) := by decide +kernel
theorem dX1_sortClouds_51 : decode cX1_sortClouds 51 = .ok (.iconst 1, 1) := by decide +kernel
theorem dX1_sortClouds_52 : decode cX1_sortClouds 52 = .ok (.iadd, 1) := by decide +kernel
theorem dX1_sortClouds_53 : decode cX1_sortClouds 53 = .ok (.istore 4, 2) := by decide +kernel
theorem dX1_sortClouds_55 : decode cX1_sortClouds 55 = .ok (.aload_n 0, 1) := by decide +kernel
theorem dX1_sortClouds_56 : decode cX1_sortClouds 56 = .ok (.getfield 19, 3) := by decide +kernel
theorem dX1_sortClouds_59 : decode cX1_sortClouds 59 = .ok (.iload_n 1, 1) := by decide +kernel
theorem dX1_sortClouds_60 : decode cX1_sortClouds 60 = .ok (.aaload, 1) := by decide +kernel
theorem dX1_sortClouds_61 : decode cX1_sortClouds 61 = .ok (.iload 4, 2) := by decide +kernel
theorem dX1_sortClouds_63 : decode cX1_sortClouds 63 = .ok (.iaload, 1) := by decide +kernel
theorem dX1_sortClouds_64 : decode cX1_sortClouds 64 = .ok (.ifCond .ne 13, 3) := by decide +kernel
theorem dX1_sortClouds_67 : decode cX1_sortClouds 67 = .ok (.aload_n 0, 1) := by decide +kernel
theorem dX1_sortClouds_68 : decode cX1_sortClouds 68 = .ok (.getfield 22, 3) := by decide +kernel
theorem dX1_sortClouds_71 : decode cX1_sortClouds 71 = .ok (.iload_n 1, 1) := by decide +kernel
theorem dX1_sortClouds_72 : decode cX1_sortClouds 72 = .ok (.aaload, 1) := by decide +kernel
theorem dX1_sortClouds_73 : decode cX1_sortClouds 73 = .ok (.iload 4, 2) := by decide +kernel
theorem dX1_sortClouds_75 : decode cX1_sortClouds 75 = .ok (.iload_n 3, 1) := by decide +kernel
theorem dX1_sortClouds_76 : decode cX1_sortClouds 76 = .ok (.iastore, 1) := by decide +kernel
theorem dX1_sortClouds_77 : decode cX1_sortClouds 77 = .ok (.aload_n 0, 1) := by decide +kernel
theorem dX1_sortClouds_78 : decode cX1_sortClouds 78 = .ok (.getfield 19, 3) := by decide +kernel
theorem dX1_sortClouds_81 : decode cX1_sortClouds 81 = .ok (.iload_n 1, 1) := by decide +kernel
theorem dX1_sortClouds_82 : decode cX1_sortClouds 82 = .ok (.aaload, 1) := by decide +kernel
theorem dX1_sortClouds_83 : decode cX1_sortClouds 83 = .ok (.iload 4, 2) := by decide +kernel
theorem dX1_sortClouds_85 : decode cX1_sortClouds 85 = .ok (.dup2, 1) := by decide +kernel
theorem dX1_sortClouds_86 : decode cX1_sortClouds 86 = .ok (.iaload, 1) := by decide +kernel
theorem dX1_sortClouds_87 : decode cX1_sortClouds 87 = .ok (.iconst 1, 1) := by decide +kernel
theorem dX1_sortClouds_88 : decode cX1_sortClouds 88 = .ok (.iadd, 1) := by decide +kernel
theorem dX1_sortClouds_89 : decode cX1_sortClouds 89 = .ok (.iastore, 1) := by decide +kernel
theorem dX1_sortClouds_90 : decode cX1_sortClouds 90 = .ok (.iinc 3 1, 3) := by decide +kernel
theorem dX1_sortClouds_93 : decode cX1_sortClouds 93 = .ok (.goto (-57), 3) := by decide +kernel
theorem dX1_sortClouds_96 : decode cX1_sortClouds 96 = .ok (.return_, 1) := by decide +kernel
noncomputable def f_X1_sortClouds (x1 : Int32) (μ : Mem) : Option Mem :=
  chk x1 4 (lt (82 + 1 + 5 * ix x1) fun q1 =>
    bd (lp (ε := Mem) (cu2 fun (x3_2 : Int32) (ν3 : Mem) =>
      if x3_2 < 6 then
        chk x1 3 (lt (103 + 1 + 1 * ix x1) fun q6 =>
          chk x3_2 6 (lt (setI ν3 q6 (ix x3_2) 0) fun ν7 =>
            some (.inl ((x3_2 + 1), ν7))
            )
          )
      else
        some (.inr ν3)
      ) (0, μ)) (fun (ν4 : Mem) =>
      bd (f_X3_look q1 ν4) fun ν8 =>
      bd (lp (ε := Mem) (cu2 fun (x3_9 : Int32) (ν10 : Mem) =>
        if x3_9 < ((1 : Int32) <<< ((ν10.1 q1 0) &&& 31)) then
          bd (f_X3_greatestBut q1 x3_9 ν10) fun r13 =>
          chk x1 3 (lt (103 + 1 + 1 * ix x1) fun q14 =>
            chk (r13 + 1) 6 (
              jn (fun (ν15 : Mem) =>
                chk x1 3 (lt (103 + 1 + 1 * ix x1) fun q17 =>
                  chk (r13 + 1) 6 (
                    chk (r13 + 1) 6 (lt (setI ν15 q17 (ix (r13 + 1)) ((ν15.1 q17 (ix (r13 + 1))) + 1)) fun ν18 =>
                      some (.inl ((x3_9 + 1), ν18))
                      )
                    )
                  )
                ) fun j16 =>
              if (ν10.1 q14 (ix (r13 + 1))) = 0 then
                chk x1 3 (lt (107 + 1 + 1 * ix x1) fun q19 =>
                  chk (r13 + 1) 6 (lt (setI ν10 q19 (ix (r13 + 1)) x3_9) fun ν20 =>
                    j16 ν20
                    )
                  )
              else
                j16 ν10
              )
            )
        else
          some (.inr ν10)
        ) (0, ν8)) (fun (ν11 : Mem) =>
        some ν11
        )
      )
    )
set_option maxHeartbeats 4000000 in
set_option maxRecDepth 100000 in
theorem c_X1_sortClouds {g : GT} {x1 : Int32} {μ : Mem} {μ0 : Mem} (hf : f_X1_sortClouds x1 μ = some μ0) : CV g yX1_sortClouds cX1_sortClouds 5 (none) 4 [rf g 81, .int x1] μ μ0 := by
  refine mk_v (by decide) (Nat.le_of_ble_eq_true rfl) ?_
  intro G hX hR
  have hX : CX g G cX1_sortClouds RX1 5 4 := hX
  suffices S : ∀ K : Mem → Prop, (∀ a, K a → a = μ0) → Sim G (f_X1_sortClouds x1 μ) K 0 [(0, rf g 81), (1, .int x1)] [] μ from S (fun a => a = μ0) (fun a h => h) _ hf rfl
  intro K hK
  unfold f_X1_sortClouds
  refine s_aload_n hX dX1_sortClouds_0 rfl 0 rfl ?_
  refine s_getR hX (d := 1) 82 flX1_11 rfl rfl dX1_sortClouds_1 ?_
  refine s_iload_n hX dX1_sortClouds_4 rfl 1 rfl ?_
  refine s_aald16 (t := 3) (u := 0) hX rfl rfl (by decide) dX1_sortClouds_5 (fun q1 hq1 hq1n => ?_)
  refine s_astore_n (lv' := [(2, rf g q1), (0, rf g 81), (1, .int x1)]) hX dX1_sortClouds_6 rfl (by decide) rfl ?_
  refine s_iconst (v := 0) hX dX1_sortClouds_7 (by decide) ?_
  refine s_istore_n (lv' := [(3, .int 0), (2, rf g q1), (0, rf g 81), (1, .int x1)]) hX dX1_sortClouds_8 rfl (by decide) rfl ?_
  refine s_loop hX 9 30 (fun s : Int32 × Mem => [(0, rf g 81), (1, .int x1), (2, rf g q1), (3, .int s.1)]) (fun s : Int32 × Mem => s.2) (fun s : Mem => [(0, rf g 81), (1, .int x1), (2, rf g q1)]) (fun s : Mem => s) [2, 3, 1, 0] rfl rfl rfl ?_ ?_
  · intro Kq5 hIq5 hJq5 sq
    obtain ⟨x3_2, ν3⟩ := sq
    refine s_cu2 ?_
    show Sim G _ _ 9 [(0, rf g 81), (1, .int x1), (2, rf g q1), (3, .int x3_2)] [] ν3
    refine s_iload_n hX dX1_sortClouds_9 rfl 3 rfl ?_
    refine s_bipush (v := 6) hX dX1_sortClouds_10 (by decide) ?_
    refine s_icmp_ge hX 30 dX1_sortClouds_12 (by decide) ?_ ?_
    · exact s_end hX (hJq5 ν3) [0, 1, 2] rfl
    · refine s_aload_n hX dX1_sortClouds_15 rfl 0 rfl ?_
      refine s_getR hX (d := 22) 103 flX1_19 rfl rfl dX1_sortClouds_16 ?_
      refine s_iload_n hX dX1_sortClouds_19 rfl 1 rfl ?_
      refine s_aald17 (t := 11) (u := 6) hX rfl rfl (by decide) dX1_sortClouds_20 (fun q6 hq6 hq6n => ?_)
      refine s_iload_n hX dX1_sortClouds_21 rfl 3 rfl ?_
      refine s_iconst (v := 0) hX dX1_sortClouds_22 (by decide) ?_
      refine s_iast hX hq6 hq6n dX1_sortClouds_23 (fun ν7 => ?_)
      refine s_iinc (v := (x3_2 + 1)) (lv' := [(3, .int (x3_2 + 1)), (0, rf g 81), (1, .int x1), (2, rf g q1)]) hX dX1_sortClouds_24 3 rfl rfl (by decide) rfl ?_
      refine s_goto hX 9 dX1_sortClouds_27 (by decide) ?_
      exact s_end hX (hIq5 ((x3_2 + 1), ν7)) [1, 2, 3, 0] rfl
  · intro sq
    obtain ⟨ν4, rfl⟩ : ∃ z, z = sq := ⟨_, rfl⟩
    show Sim G _ _ 30 [(0, rf g 81), (1, .int x1), (2, rf g q1)] [] ν4
    refine s_aload_n hX dX1_sortClouds_30 rfl 2 rfl ?_
    refine s_callVvw hX [] (k := q1) (ci := 3) hq1 hc3 vkX3_look (fun ν hF => c_X3_look hq1 hF) mkX3_look cvX1_61 rfl rfl ⟨by omega, by decide, Nat.le_of_ble_eq_true rfl⟩ dX1_sortClouds_31 (fun ν8 => ?_)
    refine s_iconst (v := 0) hX dX1_sortClouds_34 (by decide) ?_
    refine s_istore_n (lv' := [(3, .int 0), (0, rf g 81), (1, .int x1), (2, rf g q1)]) hX dX1_sortClouds_35 rfl (by decide) rfl ?_
    refine s_loop hX 36 96 (fun s : Int32 × Mem => [(0, rf g 81), (1, .int x1), (2, rf g q1), (3, .int s.1)]) (fun s : Int32 × Mem => s.2) (fun s : Mem => []) (fun s : Mem => s) [1, 2, 3, 0] rfl rfl rfl ?_ ?_
    · intro Kq12 hIq12 hJq12 sq
      obtain ⟨x3_9, ν10⟩ := sq
      refine s_cu2 ?_
      show Sim G _ _ 36 [(0, rf g 81), (1, .int x1), (2, rf g q1), (3, .int x3_9)] [] ν10
      refine s_iload_n hX dX1_sortClouds_36 rfl 3 rfl ?_
      refine s_iconst (v := 1) hX dX1_sortClouds_37 (by decide) ?_
      refine s_aload_n hX dX1_sortClouds_38 rfl 2 rfl ?_
      refine s_getI hX flX1_64 hq1 dX1_sortClouds_39 ?_
      refine s_ishl hX dX1_sortClouds_42 ?_
      refine s_icmp_ge hX 96 dX1_sortClouds_43 (by decide) ?_ ?_
      · exact s_end hX (hJq12 ν10) [] rfl
      · refine s_aload_n hX dX1_sortClouds_46 rfl 2 rfl ?_
        refine s_iload_n hX dX1_sortClouds_47 rfl 3 rfl ?_
        refine s_callVir hX [.int x3_9] (k := q1) (ci := 3) hq1 hc3 vkX3_greatestBut (fun r hF => c_X3_greatestBut hq1 hF) mkX3_greatestBut cvX1_68 rfl rfl ⟨by omega, by decide, Nat.le_of_ble_eq_true rfl⟩ dX1_sortClouds_48 (fun r13 => ?_)
        refine s_iconst (v := 1) hX dX1_sortClouds_51 (by decide) ?_
        refine s_iadd hX dX1_sortClouds_52 ?_
        refine s_istore (lv' := [(4, .int (r13 + 1)), (0, rf g 81), (1, .int x1), (2, rf g q1), (3, .int x3_9)]) hX dX1_sortClouds_53 (by decide) rfl ?_
        refine s_aload_n hX dX1_sortClouds_55 rfl 1 rfl ?_
        refine s_getR hX (d := 22) 103 flX1_19 rfl rfl dX1_sortClouds_56 ?_
        refine s_iload_n hX dX1_sortClouds_59 rfl 2 rfl ?_
        refine s_aald17 (t := 11) (u := 6) hX rfl rfl (by decide) dX1_sortClouds_60 (fun q14 hq14 hq14n => ?_)
        refine s_iload hX dX1_sortClouds_61 0 rfl ?_
        refine s_iald hX hq14 hq14n dX1_sortClouds_63 ?_
        refine s_jn (C := fun j => ∀ (ν15 : Mem), Sim G (j ν15) Kq12 77 [(0, rf g 81), (1, .int x1), (2, rf g q1), (3, .int x3_9), (4, .int (r13 + 1))] [] ν15) ?_ (fun j16 hj16 => ?_)
        · intro ν15
          show Sim G _ _ 77 [(0, rf g 81), (1, .int x1), (2, rf g q1), (3, .int x3_9), (4, .int (r13 + 1))] [] ν15
          refine s_aload_n hX dX1_sortClouds_77 rfl 0 rfl ?_
          refine s_getR hX (d := 22) 103 flX1_19 rfl rfl dX1_sortClouds_78 ?_
          refine s_iload_n hX dX1_sortClouds_81 rfl 1 rfl ?_
          refine s_aald17 (t := 11) (u := 6) hX rfl rfl (by decide) dX1_sortClouds_82 (fun q17 hq17 hq17n => ?_)
          refine s_iload hX dX1_sortClouds_83 4 rfl ?_
          refine s_dup2 hX dX1_sortClouds_85 rfl rfl ?_
          refine s_iald hX hq17 hq17n dX1_sortClouds_86 ?_
          refine s_iconst (v := 1) hX dX1_sortClouds_87 (by decide) ?_
          refine s_iadd hX dX1_sortClouds_88 ?_
          refine s_iast hX hq17 hq17n dX1_sortClouds_89 (fun ν18 => ?_)
          refine s_iinc (v := (x3_9 + 1)) (lv' := [(3, .int (x3_9 + 1)), (0, rf g 81), (1, .int x1), (2, rf g q1), (4, .int (r13 + 1))]) hX dX1_sortClouds_90 3 rfl rfl (by decide) rfl ?_
          refine s_goto hX 36 dX1_sortClouds_93 (by decide) ?_
          exact s_end hX (hIq12 ((x3_9 + 1), ν18)) [1, 2, 3, 0] rfl
        refine s_if_ne hX 77 dX1_sortClouds_64 (by decide) ?_ ?_
        · exact s_to hX [1, 2, 3, 4, 0] rfl (hj16 ν10)
        · refine s_aload_n hX dX1_sortClouds_67 rfl 1 rfl ?_
          refine s_getR hX (d := 26) 107 flX1_22 rfl rfl dX1_sortClouds_68 ?_
          refine s_iload_n hX dX1_sortClouds_71 rfl 2 rfl ?_
          refine s_aald17 (t := 11) (u := 6) hX rfl rfl (by decide) dX1_sortClouds_72 (fun q19 hq19 hq19n => ?_)
          refine s_iload hX dX1_sortClouds_73 0 rfl ?_
          refine s_iload_n hX dX1_sortClouds_75 rfl 4 rfl ?_
          refine s_iast hX hq19 hq19n dX1_sortClouds_76 (fun ν20 => ?_)
          exact s_to hX [1, 2, 3, 4, 0] rfl (hj16 ν20)
    · intro sq
      obtain ⟨ν11, rfl⟩ : ∃ z, z = sq := ⟨_, rfl⟩
      show Sim G _ _ 96 [] [] ν11
      exact s_vreti hK hR dX1_sortClouds_96
theorem dX2_search_0 : decode cX2_search 0 = .ok (.aload_n 0, 1) := by decide +kernel
theorem dX2_search_1 : decode cX2_search 1 = .ok (.aload_n 1, 1) := by decide +kernel
theorem dX2_search_2 : decode cX2_search 2 = .ok (.iload_n 2, 1) := by decide +kernel
theorem dX2_search_3 : decode cX2_search 3 = .ok (.invokevirtual 28, 3) := by decide +kernel
theorem dX2_search_6 : decode cX2_search 6 = .ok (.putfield 9, 3) := by decide +kernel
theorem dX2_search_9 : decode cX2_search 9 = .ok (.aload_n 0, 1) := by decide +kernel
theorem dX2_search_10 : decode cX2_search 10 = .ok (.aload_n 1, 1) := by decide +kernel
theorem dX2_search_11 : decode cX2_search 11 = .ok (.iload_n 3, 1) := by decide +kernel
theorem dX2_search_12 : decode cX2_search 12 = .ok (.invokevirtual 28, 3) := by decide +kernel
theorem dX2_search_15 : decode cX2_search 15 = .ok (.putfield 15, 3) := by decide +kernel
theorem dX2_search_18 : decode cX2_search 18 = .ok (.aload_n 0, 1) := by decide +kernel
theorem dX2_search_19 : decode cX2_search 19 = .ok (.iload_n 2, 1) := by decide +kernel
theorem dX2_search_20 : decode cX2_search 20 = .ok (.iload_n 3, 1) := by decide +kernel
theorem dX2_search_21 : decode cX2_search 21 = .ok (.if_icmp .ge 7, 3) := by decide +kernel
theorem dX2_search_24 : decode cX2_search 24 = .ok (.iconst 1, 1) := by decide +kernel
theorem dX2_search_25 : decode cX2_search 25 = .ok (.goto 4, 3) := by decide +kernel
theorem dX2_search_28 : decode cX2_search 28 = .ok (.iconst 0, 1) := by decide +kernel
theorem dX2_search_29 : decode cX2_search 29 = .ok (.putfield 18, 3) := by decide +kernel
theorem dX2_search_32 : decode cX2_search 32 = .ok (.aload_n 0, 1) := by decide +kernel
theorem dX2_search_33 : decode cX2_search 33 = .ok (.iconst 0, 1) := by decide +kernel
theorem dX2_search_34 : decode cX2_search 34 = .ok (.putfield 22, 3) := by decide +kernel
theorem dX2_search_37 : decode cX2_search 37 = .ok (.aload_n 0, 1) := by decide +kernel
theorem dX2_search_38 : decode cX2_search 38 = .ok (.iconst (-1), 1) := by decide +kernel
theorem dX2_search_39 : decode cX2_search 39 = .ok (.putfield 25, 3) := by decide +kernel
theorem dX2_search_42 : decode cX2_search 42 = .ok (.iconst 0, 1) := by decide +kernel
theorem dX2_search_43 : decode cX2_search 43 = .ok (.istore 4, 2) := by decide +kernel
theorem dX2_search_45 : decode cX2_search 45 = .ok (.iload 4, 2) := by decide +kernel
theorem dX2_search_47 : decode cX2_search 47 = .ok (.bipush 10, 2) := by decide +kernel
theorem dX2_search_49 : decode cX2_search 49 = .ok (.if_icmp .ge 72, 3) := by decide +kernel
theorem dX2_search_52 : decode cX2_search 52 = .ok (.iconst 0, 1) := by decide +kernel
theorem dX2_search_53 : decode cX2_search 53 = .ok (.istore 5, 2) := by decide +kernel
theorem dX2_search_55 : decode cX2_search 55 = .ok (.iload 5, 2) := by decide +kernel
theorem dX2_search_57 : decode cX2_search 57 = .ok (.bipush 10, 2) := by decide +kernel
theorem dX2_search_59 : decode cX2_search 59 = .ok (.if_icmp .ge 56, 3) := by decide +kernel
theorem dX2_search_62 : decode cX2_search 62 = .ok (.aload_n 0, 1) := by decide +kernel
theorem dX2_search_63 : decode cX2_search 63 = .ok (.iload 4, 2) := by decide +kernel
theorem dX2_search_65 : decode cX2_search 65 = .ok (.iload 5, 2) := by decide +kernel
theorem dX2_search_67 : decode cX2_search 67 = .ok (.invokevirtual 34, 3) := by decide +kernel
theorem dX2_search_70 : decode cX2_search 70 = .ok (.ifCond .eq 39, 3) := by decide +kernel
theorem dX2_search_73 : decode cX2_search 73 = .ok (.aload_n 0, 1) := by decide +kernel
theorem dX2_search_74 : decode cX2_search 74 = .ok (.aload_n 0, 1) := by decide +kernel
theorem dX2_search_75 : decode cX2_search 75 = .ok (.getfield 22, 3) := by decide +kernel
theorem dX2_search_78 : decode cX2_search 78 = .ok (.ifCond .ne 14, 3) := by decide +kernel
theorem dX2_search_81 : decode cX2_search 81 = .ok (.bipush 10, 2) := by decide +kernel
theorem dX2_search_83 : decode cX2_search 83 = .ok (.iload 4, 2) := by decide +kernel
theorem dX2_search_85 : decode cX2_search 85 = .ok (.imul, 1) := by decide +kernel
theorem dX2_search_86 : decode cX2_search 86 = .ok (.iload 5, 2) := by decide +kernel
theorem dX2_search_88 : decode cX2_search 88 = .ok (.iadd, 1) := by decide +kernel
theorem dX2_search_89 : decode cX2_search 89 = .ok (.goto 7, 3) := by decide +kernel
theorem dX2_search_92 : decode cX2_search 92 = .ok (.aload_n 0, 1) := by decide +kernel
theorem dX2_search_93 : decode cX2_search 93 = .ok (.getfield 25, 3) := by decide +kernel
theorem dX2_search_96 : decode cX2_search 96 = .ok (.putfield 25, 3) := by decide +kernel
theorem dX2_search_99 : decode cX2_search 99 = .ok (.aload_n 0, 1) := by decide +kernel
theorem dX2_search_100 : decode cX2_search 100 = .ok (.dup, 1) := by decide +kernel
theorem dX2_search_101 : decode cX2_search 101 = .ok (.getfield 22, 3) := by decide +kernel
theorem dX2_search_104 : decode cX2_search 104 = .ok (.iconst 1, 1) := by decide +kernel
theorem dX2_search_105 : decode cX2_search 105 = .ok (.iadd, 1) := by decide +kernel
theorem dX2_search_106 : decode cX2_search 106 = .ok (.putfield 22, 3) := by decide +kernel
theorem dX2_search_109 : decode cX2_search 109 = .ok (.iinc 5 1, 3) := by decide +kernel
theorem dX2_search_112 : decode cX2_search 112 = .ok (.goto (-57), 3) := by decide +kernel
theorem dX2_search_115 : decode cX2_search 115 = .ok (.iinc 4 1, 3) := by decide +kernel
theorem dX2_search_118 : decode cX2_search 118 = .ok (.goto (-73), 3) := by decide +kernel
theorem dX2_search_121 : decode cX2_search 121 = .ok (.return_, 1) := by decide +kernel
noncomputable def f_X2_search (k1 : Nat) (x2 : Int32) (x3 : Int32) (μ : Mem) : Option Mem :=
  bd (f_X3_sightOf k1 x2 μ) fun r1 =>
  lt (setI μ 80 0 r1) fun ν2 =>
  bd (f_X3_sightOf k1 x3 ν2) fun r3 =>
  lt (setI ν2 80 1 r3) fun ν4 =>
  jn (fun (y5 : Int32) =>
    ckB y5 (
      lt (setI ν4 80 2 y5) fun ν7 =>
      lt (setI ν7 80 3 0) fun ν8 =>
      lt (setI ν8 80 4 (-1)) fun ν9 =>
      bd (lp (ε := Mem) (cu2 fun (x4_10 : Int32) (ν11 : Mem) =>
        if x4_10 < 10 then
          bd (lp (ε := Mem) (cu2 fun (x5_14 : Int32) (ν15 : Mem) =>
            if x5_14 < 10 then
              bd (f_X2_rests x4_10 x5_14 ν15) fun r18 =>
              jn (fun (ν19 : Mem) =>
                some (.inl ((x5_14 + 1), ν19))
                ) fun j20 =>
              if r18 = 0 then
                j20 ν15
              else
                jn (fun (y21 : Int32) =>
                  lt (setI ν15 80 4 y21) fun ν23 =>
                  lt (setI ν23 80 3 ((ν23.1 80 3) + 1)) fun ν24 =>
                  j20 ν24
                  ) fun j22 =>
                if (ν15.1 80 3) = 0 then
                  j22 ((10 * x4_10) + x5_14)
                else
                  j22 (ν15.1 80 4)
            else
              some (.inr ν15)
            ) (0, ν11)) (fun (ν16 : Mem) =>
            some (.inl ((x4_10 + 1), ν16))
            )
        else
          some (.inr ν11)
        ) (0, ν9)) (fun (ν12 : Mem) =>
        some ν12
        )
      )
    ) fun j6 =>
  if x2 < x3 then
    j6 1
  else
    j6 0
set_option maxHeartbeats 4000000 in
set_option maxRecDepth 100000 in
theorem c_X2_search {g : GT} {k1 : Nat} {x2 : Int32} {x3 : Int32} {μ : Mem} {μ0 : Mem} (hk1 : tyOf k1 = 3) (hf : f_X2_search k1 x2 x3 μ = some μ0) : CV g yX2_search cX2_search 6 (none) 4 [rf g 80, rf g k1, .int x2, .int x3] μ μ0 := by
  refine mk_v (by decide) (Nat.le_of_ble_eq_true rfl) ?_
  intro G hX hR
  have hX : CX g G cX2_search RX2 6 4 := hX
  suffices S : ∀ K : Mem → Prop, (∀ a, K a → a = μ0) → Sim G (f_X2_search k1 x2 x3 μ) K 0 [(0, rf g 80), (1, rf g k1), (2, .int x2), (3, .int x3)] [] μ from S (fun a => a = μ0) (fun a h => h) _ hf rfl
  intro K hK
  unfold f_X2_search
  refine s_aload_n hX dX2_search_0 rfl 0 rfl ?_
  refine s_aload_n hX dX2_search_1 rfl 1 rfl ?_
  refine s_iload_n hX dX2_search_2 rfl 2 rfl ?_
  refine s_callVir hX [.int x2] (k := k1) (ci := 3) hk1 hc3 vkX3_sightOf (fun r hF => c_X3_sightOf hk1 hF) mkX3_sightOf cvX2_28 rfl rfl ⟨by omega, by decide, Nat.le_of_ble_eq_true rfl⟩ dX2_search_3 (fun r1 => ?_)
  refine s_putI hX flX2_9 rfl ⟨rfl, rfl⟩ dX2_search_6 (fun ν2 => ?_)
  refine s_aload_n hX dX2_search_9 rfl 0 rfl ?_
  refine s_aload_n hX dX2_search_10 rfl 1 rfl ?_
  refine s_iload_n hX dX2_search_11 rfl 3 rfl ?_
  refine s_callVir hX [.int x3] (k := k1) (ci := 3) hk1 hc3 vkX3_sightOf (fun r hF => c_X3_sightOf hk1 hF) mkX3_sightOf cvX2_28 rfl rfl ⟨by omega, by decide, Nat.le_of_ble_eq_true rfl⟩ dX2_search_12 (fun r3 => ?_)
  refine s_putI hX flX2_15 rfl ⟨rfl, rfl⟩ dX2_search_15 (fun ν4 => ?_)
  refine s_aload_n hX dX2_search_18 rfl 0 rfl ?_
  refine s_iload_n hX dX2_search_19 rfl 2 rfl ?_
  refine s_iload_n hX dX2_search_20 rfl 3 rfl ?_
  refine s_jn (C := fun j => ∀ (y5 : Int32), Sim G (j y5) K 29 [(0, rf g 80)] [.int y5, rf g 80] ν4) ?_ (fun j6 hj6 => ?_)
  · intro y5
    show Sim G _ _ 29 [(0, rf g 80)] [.int y5, rf g 80] ν4
    refine s_ckB (fun hckb => ?_)
    refine s_putI hX flX2_18 rfl (nfB hckb) dX2_search_29 (fun ν7 => ?_)
    refine s_aload_n hX dX2_search_32 rfl 0 rfl ?_
    refine s_iconst (v := 0) hX dX2_search_33 (by decide) ?_
    refine s_putI hX flX2_22 rfl ⟨rfl, rfl⟩ dX2_search_34 (fun ν8 => ?_)
    refine s_aload_n hX dX2_search_37 rfl 0 rfl ?_
    refine s_iconst (v := (-1)) hX dX2_search_38 (by decide) ?_
    refine s_putI hX flX2_25 rfl ⟨rfl, rfl⟩ dX2_search_39 (fun ν9 => ?_)
    refine s_iconst (v := 0) hX dX2_search_42 (by decide) ?_
    refine s_istore (lv' := [(4, .int 0), (0, rf g 80)]) hX dX2_search_43 (by decide) rfl ?_
    refine s_loop hX 45 121 (fun s : Int32 × Mem => [(0, rf g 80), (4, .int s.1)]) (fun s : Int32 × Mem => s.2) (fun s : Mem => []) (fun s : Mem => s) [1, 0] rfl rfl rfl ?_ ?_
    · intro Kq13 hIq13 hJq13 sq
      obtain ⟨x4_10, ν11⟩ := sq
      refine s_cu2 ?_
      show Sim G _ _ 45 [(0, rf g 80), (4, .int x4_10)] [] ν11
      refine s_iload hX dX2_search_45 1 rfl ?_
      refine s_bipush (v := 10) hX dX2_search_47 (by decide) ?_
      refine s_icmp_ge hX 121 dX2_search_49 (by decide) ?_ ?_
      · exact s_end hX (hJq13 ν11) [] rfl
      · refine s_iconst (v := 0) hX dX2_search_52 (by decide) ?_
        refine s_istore (lv' := [(5, .int 0), (0, rf g 80), (4, .int x4_10)]) hX dX2_search_53 (by decide) rfl ?_
        refine s_loop hX 55 115 (fun s : Int32 × Mem => [(0, rf g 80), (4, .int x4_10), (5, .int s.1)]) (fun s : Int32 × Mem => s.2) (fun s : Mem => [(0, rf g 80), (4, .int x4_10)]) (fun s : Mem => s) [1, 2, 0] rfl rfl rfl ?_ ?_
        · intro Kq17 hIq17 hJq17 sq
          obtain ⟨x5_14, ν15⟩ := sq
          refine s_cu2 ?_
          show Sim G _ _ 55 [(0, rf g 80), (4, .int x4_10), (5, .int x5_14)] [] ν15
          refine s_iload hX dX2_search_55 2 rfl ?_
          refine s_bipush (v := 10) hX dX2_search_57 (by decide) ?_
          refine s_icmp_ge hX 115 dX2_search_59 (by decide) ?_ ?_
          · exact s_end hX (hJq17 ν15) [0, 1] rfl
          · refine s_aload_n hX dX2_search_62 rfl 0 rfl ?_
            refine s_iload hX dX2_search_63 1 rfl ?_
            refine s_iload hX dX2_search_65 2 rfl ?_
            refine s_callVir hX [.int x4_10, .int x5_14] (k := 80) (ci := 2) rfl hc2 vkX2_rests (fun r hF => c_X2_rests  hF) mkX2_rests cvX2_34 rfl rfl ⟨by omega, by decide, Nat.le_of_ble_eq_true rfl⟩ dX2_search_67 (fun r18 => ?_)
            refine s_jn (C := fun j => ∀ (ν19 : Mem), Sim G (j ν19) Kq17 109 [(0, rf g 80), (4, .int x4_10), (5, .int x5_14)] [] ν19) ?_ (fun j20 hj20 => ?_)
            · intro ν19
              show Sim G _ _ 109 [(0, rf g 80), (4, .int x4_10), (5, .int x5_14)] [] ν19
              refine s_iinc (v := (x5_14 + 1)) (lv' := [(5, .int (x5_14 + 1)), (0, rf g 80), (4, .int x4_10)]) hX dX2_search_109 2 rfl rfl (by decide) rfl ?_
              refine s_goto hX 55 dX2_search_112 (by decide) ?_
              exact s_end hX (hIq17 ((x5_14 + 1), ν19)) [1, 2, 0] rfl
            refine s_if_eq hX 109 dX2_search_70 (by decide) ?_ ?_
            · exact s_to hX [0, 1, 2] rfl (hj20 ν15)
            · refine s_aload_n hX dX2_search_73 rfl 0 rfl ?_
              refine s_aload_n hX dX2_search_74 rfl 0 rfl ?_
              refine s_getI hX flX2_22 rfl dX2_search_75 ?_
              refine s_jn (C := fun j => ∀ (y21 : Int32), Sim G (j y21) Kq17 96 [(0, rf g 80), (4, .int x4_10), (5, .int x5_14)] [.int y21, rf g 80] ν15) ?_ (fun j22 hj22 => ?_)
              · intro y21
                show Sim G _ _ 96 [(0, rf g 80), (4, .int x4_10), (5, .int x5_14)] [.int y21, rf g 80] ν15
                refine s_putI hX flX2_25 rfl ⟨rfl, rfl⟩ dX2_search_96 (fun ν23 => ?_)
                refine s_aload_n hX dX2_search_99 rfl 0 rfl ?_
                refine s_dup hX dX2_search_100 rfl ?_
                refine s_getI hX flX2_22 rfl dX2_search_101 ?_
                refine s_iconst (v := 1) hX dX2_search_104 (by decide) ?_
                refine s_iadd hX dX2_search_105 ?_
                refine s_putI hX flX2_22 rfl ⟨rfl, rfl⟩ dX2_search_106 (fun ν24 => ?_)
                exact s_to hX [0, 1, 2] rfl (hj20 ν24)
              refine s_if_ne hX 92 dX2_search_78 (by decide) ?_ ?_
              · refine s_aload_n hX dX2_search_92 rfl 0 rfl ?_
                refine s_getI hX flX2_25 rfl dX2_search_93 ?_
                exact s_to hX [0, 1, 2] rfl (hj22 (ν15.1 80 4))
              · refine s_bipush (v := 10) hX dX2_search_81 (by decide) ?_
                refine s_iload hX dX2_search_83 1 rfl ?_
                refine s_imul hX dX2_search_85 ?_
                refine s_iload hX dX2_search_86 2 rfl ?_
                refine s_iadd hX dX2_search_88 ?_
                refine s_goto hX 96 dX2_search_89 (by decide) ?_
                exact s_to hX [0, 1, 2] rfl (hj22 ((10 * x4_10) + x5_14))
        · intro sq
          obtain ⟨ν16, rfl⟩ : ∃ z, z = sq := ⟨_, rfl⟩
          show Sim G _ _ 115 [(0, rf g 80), (4, .int x4_10)] [] ν16
          refine s_iinc (v := (x4_10 + 1)) (lv' := [(4, .int (x4_10 + 1)), (0, rf g 80)]) hX dX2_search_115 1 rfl rfl (by decide) rfl ?_
          refine s_goto hX 45 dX2_search_118 (by decide) ?_
          exact s_end hX (hIq13 ((x4_10 + 1), ν16)) [1, 0] rfl
    · intro sq
      obtain ⟨ν12, rfl⟩ : ∃ z, z = sq := ⟨_, rfl⟩
      show Sim G _ _ 121 [] [] ν12
      exact s_vreti hK hR dX2_search_121
  refine s_icmp_ge hX 28 dX2_search_21 (by decide) ?_ ?_
  · refine s_iconst (v := 0) hX dX2_search_28 (by decide) ?_
    exact s_to hX [0] rfl (hj6 0)
  · refine s_iconst (v := 1) hX dX2_search_24 (by decide) ?_
    refine s_goto hX 29 dX2_search_25 (by decide) ?_
    exact s_to hX [0] rfl (hj6 1)
theorem dX3_takeFrom_0 : decode cX3_takeFrom 0 = .ok (.iconst 0, 1) := by decide +kernel
theorem dX3_takeFrom_1 : decode cX3_takeFrom 1 = .ok (.istore_n 2, 1) := by decide +kernel
theorem dX3_takeFrom_2 : decode cX3_takeFrom 2 = .ok (.iconst 0, 1) := by decide +kernel
theorem dX3_takeFrom_3 : decode cX3_takeFrom 3 = .ok (.istore_n 3, 1) := by decide +kernel
theorem dX3_takeFrom_4 : decode cX3_takeFrom 4 = .ok (.iload_n 3, 1) := by decide +kernel
theorem dX3_takeFrom_5 : decode cX3_takeFrom 5 = .ok (.aload_n 0, 1) := by decide +kernel
theorem dX3_takeFrom_6 : decode cX3_takeFrom 6 = .ok (.getfield 15, 3) := by decide +kernel
theorem dX3_takeFrom_9 : decode cX3_takeFrom 9 = .ok (.if_icmp .ge 42, 3) := by decide +kernel
theorem dX3_takeFrom_12 : decode cX3_takeFrom 12 = .ok (.aload_n 0, 1) := by decide +kernel
theorem dX3_takeFrom_13 : decode cX3_takeFrom 13 = .ok (.getfield 28, 3) := by decide +kernel
theorem dX3_takeFrom_16 : decode cX3_takeFrom 16 = .ok (.iload_n 3, 1) := by decide +kernel
theorem dX3_takeFrom_17 : decode cX3_takeFrom 17 = .ok (.iaload, 1) := by decide +kernel
theorem dX3_takeFrom_18 : decode cX3_takeFrom 18 = .ok (.iload_n 1, 1) := by decide +kernel
theorem dX3_takeFrom_19 : decode cX3_takeFrom 19 = .ok (.if_icmp .ne 26, 3) := by decide +kernel
theorem dX3_takeFrom_22 : decode cX3_takeFrom 22 = .ok (.aload_n 0, 1) := by decide +kernel
theorem dX3_takeFrom_23 : decode cX3_takeFrom 23 = .ok (.iload_n 3, 1) := by decide +kernel
theorem dX3_takeFrom_24 : decode cX3_takeFrom 24 = .ok (.invokevirtual 61, 3) := by decide +kernel
theorem dX3_takeFrom_27 : decode cX3_takeFrom 27 = .ok (.istore 4, 2) := by decide +kernel
theorem dX3_takeFrom_29 : decode cX3_takeFrom 29 = .ok (.aload_n 0, 1) := by decide +kernel
theorem dX3_takeFrom_30 : decode cX3_takeFrom 30 = .ok (.getfield 31, 3) := by decide +kernel
theorem dX3_takeFrom_33 : decode cX3_takeFrom 33 = .ok (.iload_n 3, 1) := by decide +kernel
theorem dX3_takeFrom_34 : decode cX3_takeFrom 34 = .ok (.dup2, 1) := by decide +kernel
theorem dX3_takeFrom_35 : decode cX3_takeFrom 35 = .ok (.iaload, 1) := by decide +kernel
theorem dX3_takeFrom_36 : decode cX3_takeFrom 36 = .ok (.iload 4, 2) := by decide +kernel
theorem dX3_takeFrom_38 : decode cX3_takeFrom 38 = .ok (.isub, 1) := by decide +kernel
theorem dX3_takeFrom_39 : decode cX3_takeFrom 39 = .ok (.iastore, 1) := by decide +kernel
theorem dX3_takeFrom_40 : decode cX3_takeFrom 40 = .ok (.iload_n 2, 1) := by decide +kernel
theorem dX3_takeFrom_41 : decode cX3_takeFrom 41 = .ok (.iload 4, 2) := by decide +kernel
theorem dX3_takeFrom_43 : decode cX3_takeFrom 43 = .ok (.iadd, 1) := by decide +kernel
theorem dX3_takeFrom_44 : decode cX3_takeFrom 44 = .ok (.istore_n 2, 1) := by decide +kernel
theorem dX3_takeFrom_45 : decode cX3_takeFrom 45 = .ok (.iinc 3 1, 3) := by decide +kernel
theorem dX3_takeFrom_48 : decode cX3_takeFrom 48 = .ok (.goto (-44), 3) := by decide +kernel
theorem dX3_takeFrom_51 : decode cX3_takeFrom 51 = .ok (.iload_n 2, 1) := by decide +kernel
theorem dX3_takeFrom_52 : decode cX3_takeFrom 52 = .ok (.ireturn, 1) := by decide +kernel
noncomputable def f_X3_takeFrom (k0 : Nat) (x1 : Int32) (μ : Mem) : Option (Int32 × Mem) :=
  bd (lp (ε := Int32 × Mem) (cu3 fun (x2_1 : Int32) (x3_2 : Int32) (ν3 : Mem) =>
    if x3_2 < (ν3.1 k0 1) then
      chk x3_2 10 (
        jn (fun (x2_7 : Int32) (ν8 : Mem) =>
          some (.inl (x2_7, (x3_2 + 1), ν8))
          ) fun j9 =>
        if (ν3.1 (k0 + 2) (ix x3_2)) = x1 then
          bd (f_X3_takenOf k0 x3_2 ν3) fun r10 =>
          chk x3_2 10 (
            chk x3_2 10 (lt (setI ν3 (k0 + 3) (ix x3_2) ((ν3.1 (k0 + 3) (ix x3_2)) - r10)) fun ν11 =>
              j9 (x2_1 + r10) ν11
              )
            )
        else
          j9 x2_1 ν3
        )
    else
      some (.inr (x2_1, ν3))
    ) (0, 0, μ)) (cu2 fun (x2_4 : Int32) (ν5 : Mem) =>
    some (x2_4, ν5)
    )
set_option maxHeartbeats 4000000 in
set_option maxRecDepth 100000 in
theorem c_X3_takeFrom {g : GT} {k0 : Nat} {x1 : Int32} {μ : Mem} {μ0 : Mem} {r0 : Int32} (hk0 : tyOf k0 = 3) (hf : f_X3_takeFrom k0 x1 μ = some (r0, μ0)) : CI g yX3_takeFrom cX3_takeFrom 5 (some .int) 4 [rf g k0, .int x1] μ r0 μ0 := by
  refine mk_i (by decide) (Nat.le_of_ble_eq_true rfl) ?_
  intro G hX hR
  have hX : CX g G cX3_takeFrom RX3 5 4 := hX
  suffices S : ∀ K : (Int32 × Mem) → Prop, (∀ a, K a → a = (r0, μ0)) → Sim G (f_X3_takeFrom k0 x1 μ) K 0 [(0, rf g k0), (1, .int x1)] [] μ from S (fun a => a = (r0, μ0)) (fun a h => h) _ hf rfl
  intro K hK
  unfold f_X3_takeFrom
  refine s_iconst (v := 0) hX dX3_takeFrom_0 (by decide) ?_
  refine s_istore_n (lv' := [(2, .int 0), (0, rf g k0), (1, .int x1)]) hX dX3_takeFrom_1 rfl (by decide) rfl ?_
  refine s_iconst (v := 0) hX dX3_takeFrom_2 (by decide) ?_
  refine s_istore_n (lv' := [(3, .int 0), (2, .int 0), (0, rf g k0), (1, .int x1)]) hX dX3_takeFrom_3 rfl (by decide) rfl ?_
  refine s_loop hX 4 51 (fun s : Int32 × Int32 × Mem => [(0, rf g k0), (1, .int x1), (2, .int s.1), (3, .int s.2.1)]) (fun s : Int32 × Int32 × Mem => s.2.2) (fun s : Int32 × Mem => [(2, .int s.1)]) (fun s : Int32 × Mem => s.2) [2, 3, 1, 0] rfl rfl rfl ?_ ?_
  · intro Kq6 hIq6 hJq6 sq
    obtain ⟨x2_1, x3_2, ν3⟩ := sq
    refine s_cu3 ?_
    show Sim G _ _ 4 [(0, rf g k0), (1, .int x1), (2, .int x2_1), (3, .int x3_2)] [] ν3
    refine s_iload_n hX dX3_takeFrom_4 rfl 3 rfl ?_
    refine s_aload_n hX dX3_takeFrom_5 rfl 0 rfl ?_
    refine s_getI hX flX3_15 hk0 dX3_takeFrom_6 ?_
    refine s_icmp_ge hX 51 dX3_takeFrom_9 (by decide) ?_ ?_
    · exact s_end hX (hJq6 (x2_1, ν3)) [2] rfl
    · refine s_aload_n hX dX3_takeFrom_12 rfl 0 rfl ?_
      refine s_getR hX (d := 2) (k0 + 2) flX3_28 hk0 rfl dX3_takeFrom_13 ?_
      refine s_iload_n hX dX3_takeFrom_16 rfl 3 rfl ?_
      refine s_iald hX (ty_3_2 hk0).1 (ty_3_2 hk0).2 dX3_takeFrom_17 ?_
      refine s_iload_n hX dX3_takeFrom_18 rfl 1 rfl ?_
      refine s_jn (C := fun j => ∀ (x2_7 : Int32) (ν8 : Mem), Sim G (j x2_7 ν8) Kq6 45 [(0, rf g k0), (1, .int x1), (2, .int x2_7), (3, .int x3_2)] [] ν8) ?_ (fun j9 hj9 => ?_)
      · intro x2_7 ν8
        show Sim G _ _ 45 [(0, rf g k0), (1, .int x1), (2, .int x2_7), (3, .int x3_2)] [] ν8
        refine s_iinc (v := (x3_2 + 1)) (lv' := [(3, .int (x3_2 + 1)), (0, rf g k0), (1, .int x1), (2, .int x2_7)]) hX dX3_takeFrom_45 3 rfl rfl (by decide) rfl ?_
        refine s_goto hX 4 dX3_takeFrom_48 (by decide) ?_
        exact s_end hX (hIq6 (x2_7, (x3_2 + 1), ν8)) [1, 2, 3, 0] rfl
      refine s_icmp_ne hX 45 dX3_takeFrom_19 (by decide) ?_ ?_
      · exact s_to hX [0, 1, 2, 3] rfl (hj9 x2_1 ν3)
      · refine s_aload_n hX dX3_takeFrom_22 rfl 0 rfl ?_
        refine s_iload_n hX dX3_takeFrom_23 rfl 3 rfl ?_
        refine s_callVir hX [.int x3_2] (k := k0) (ci := 3) hk0 hc3 vkX3_takenOf (fun r hF => c_X3_takenOf hk0 hF) mkX3_takenOf cvX3_61 rfl rfl ⟨by omega, by decide, Nat.le_of_ble_eq_true rfl⟩ dX3_takeFrom_24 (fun r10 => ?_)
        refine s_istore (lv' := [(4, .int r10), (0, rf g k0), (1, .int x1), (2, .int x2_1), (3, .int x3_2)]) hX dX3_takeFrom_27 (by decide) rfl ?_
        refine s_aload_n hX dX3_takeFrom_29 rfl 1 rfl ?_
        refine s_getR hX (d := 3) (k0 + 3) flX3_31 hk0 rfl dX3_takeFrom_30 ?_
        refine s_iload_n hX dX3_takeFrom_33 rfl 4 rfl ?_
        refine s_dup2 hX dX3_takeFrom_34 rfl rfl ?_
        refine s_iald hX (ty_3_3 hk0).1 (ty_3_3 hk0).2 dX3_takeFrom_35 ?_
        refine s_iload hX dX3_takeFrom_36 0 rfl ?_
        refine s_isub hX dX3_takeFrom_38 ?_
        refine s_iast hX (ty_3_3 hk0).1 (ty_3_3 hk0).2 dX3_takeFrom_39 (fun ν11 => ?_)
        refine s_iload_n hX dX3_takeFrom_40 rfl 3 rfl ?_
        refine s_iload hX dX3_takeFrom_41 0 rfl ?_
        refine s_iadd hX dX3_takeFrom_43 ?_
        refine s_istore_n (lv' := [(2, .int (x2_1 + r10)), (4, .int r10), (0, rf g k0), (1, .int x1), (3, .int x3_2)]) hX dX3_takeFrom_44 rfl (by decide) rfl ?_
        exact s_to hX [2, 3, 0, 4] rfl (hj9 (x2_1 + r10) ν11)
  · intro sq
    obtain ⟨x2_4, ν5⟩ := sq
    refine s_cu2 ?_
    show Sim G _ _ 51 [(2, .int x2_4)] [] ν5
    refine s_iload_n hX dX3_takeFrom_51 rfl 0 rfl ?_
    exact s_ireti hK hR dX3_takeFrom_52
theorem dX3_tollOf_0 : decode cX3_tollOf 0 = .ok (.iconst 0, 1) := by decide +kernel
theorem dX3_tollOf_1 : decode cX3_tollOf 1 = .ok (.istore_n 2, 1) := by decide +kernel
theorem dX3_tollOf_2 : decode cX3_tollOf 2 = .ok (.iconst 0, 1) := by decide +kernel
theorem dX3_tollOf_3 : decode cX3_tollOf 3 = .ok (.istore_n 3, 1) := by decide +kernel
theorem dX3_tollOf_4 : decode cX3_tollOf 4 = .ok (.iload_n 3, 1) := by decide +kernel
theorem dX3_tollOf_5 : decode cX3_tollOf 5 = .ok (.aload_n 0, 1) := by decide +kernel
theorem dX3_tollOf_6 : decode cX3_tollOf 6 = .ok (.getfield 15, 3) := by decide +kernel
theorem dX3_tollOf_9 : decode cX3_tollOf 9 = .ok (.if_icmp .ge 27, 3) := by decide +kernel
theorem dX3_tollOf_12 : decode cX3_tollOf 12 = .ok (.aload_n 0, 1) := by decide +kernel
theorem dX3_tollOf_13 : decode cX3_tollOf 13 = .ok (.getfield 28, 3) := by decide +kernel
theorem dX3_tollOf_16 : decode cX3_tollOf 16 = .ok (.iload_n 3, 1) := by decide +kernel
theorem dX3_tollOf_17 : decode cX3_tollOf 17 = .ok (.iaload, 1) := by decide +kernel
theorem dX3_tollOf_18 : decode cX3_tollOf 18 = .ok (.iload_n 1, 1) := by decide +kernel
theorem dX3_tollOf_19 : decode cX3_tollOf 19 = .ok (.if_icmp .ne 11, 3) := by decide +kernel
theorem dX3_tollOf_22 : decode cX3_tollOf 22 = .ok (.iload_n 2, 1) := by decide +kernel
theorem dX3_tollOf_23 : decode cX3_tollOf 23 = .ok (.aload_n 0, 1) := by decide +kernel
theorem dX3_tollOf_24 : decode cX3_tollOf 24 = .ok (.iload_n 3, 1) := by decide +kernel
theorem dX3_tollOf_25 : decode cX3_tollOf 25 = .ok (.invokevirtual 61, 3) := by decide +kernel
theorem dX3_tollOf_28 : decode cX3_tollOf 28 = .ok (.iadd, 1) := by decide +kernel
theorem dX3_tollOf_29 : decode cX3_tollOf 29 = .ok (.istore_n 2, 1) := by decide +kernel
theorem dX3_tollOf_30 : decode cX3_tollOf 30 = .ok (.iinc 3 1, 3) := by decide +kernel
theorem dX3_tollOf_33 : decode cX3_tollOf 33 = .ok (.goto (-29), 3) := by decide +kernel
theorem dX3_tollOf_36 : decode cX3_tollOf 36 = .ok (.iload_n 2, 1) := by decide +kernel
theorem dX3_tollOf_37 : decode cX3_tollOf 37 = .ok (.ireturn, 1) := by decide +kernel
noncomputable def f_X3_tollOf (k0 : Nat) (x1 : Int32) (μ : Mem) : Option Int32 :=
  bd (lp (ε := Int32) (cu2 fun (x2_1 : Int32) (x3_2 : Int32) =>
    if x3_2 < (μ.1 k0 1) then
      chk x3_2 10 (
        jn (fun (x2_5 : Int32) =>
          some (.inl (x2_5, (x3_2 + 1)))
          ) fun j6 =>
        if (μ.1 (k0 + 2) (ix x3_2)) = x1 then
          bd (f_X3_takenOf k0 x3_2 μ) fun r7 =>
          j6 (x2_1 + r7)
        else
          j6 x2_1
        )
    else
      some (.inr x2_1)
    ) (0, 0)) (fun (x2_3 : Int32) =>
    some x2_3
    )
set_option maxHeartbeats 4000000 in
set_option maxRecDepth 100000 in
theorem c_X3_tollOf {g : GT} {k0 : Nat} {x1 : Int32} {μ : Mem} {r0 : Int32} (hk0 : tyOf k0 = 3) (hf : f_X3_tollOf k0 x1 μ = some r0) : CI g yX3_tollOf cX3_tollOf 4 (some .int) 4 [rf g k0, .int x1] μ r0 μ := by
  refine mk_i (by decide) (Nat.le_of_ble_eq_true rfl) ?_
  intro G hX hR
  have hX : CX g G cX3_tollOf RX3 4 4 := hX
  suffices S : ∀ K : Int32 → Prop, (∀ a, K a → a = r0) → Sim G (f_X3_tollOf k0 x1 μ) K 0 [(0, rf g k0), (1, .int x1)] [] μ from S (fun a => a = r0) (fun a h => h) _ hf rfl
  intro K hK
  unfold f_X3_tollOf
  refine s_iconst (v := 0) hX dX3_tollOf_0 (by decide) ?_
  refine s_istore_n (lv' := [(2, .int 0), (0, rf g k0), (1, .int x1)]) hX dX3_tollOf_1 rfl (by decide) rfl ?_
  refine s_iconst (v := 0) hX dX3_tollOf_2 (by decide) ?_
  refine s_istore_n (lv' := [(3, .int 0), (2, .int 0), (0, rf g k0), (1, .int x1)]) hX dX3_tollOf_3 rfl (by decide) rfl ?_
  refine s_loop hX 4 36 (fun s : Int32 × Int32 => [(0, rf g k0), (1, .int x1), (2, .int s.1), (3, .int s.2)]) (fun s : Int32 × Int32 => μ) (fun s : Int32 => [(2, .int s)]) (fun s : Int32 => μ) [2, 3, 1, 0] rfl rfl rfl ?_ ?_
  · intro Kq4 hIq4 hJq4 sq
    obtain ⟨x2_1, x3_2⟩ := sq
    refine s_cu2 ?_
    show Sim G _ _ 4 [(0, rf g k0), (1, .int x1), (2, .int x2_1), (3, .int x3_2)] [] μ
    refine s_iload_n hX dX3_tollOf_4 rfl 3 rfl ?_
    refine s_aload_n hX dX3_tollOf_5 rfl 0 rfl ?_
    refine s_getI hX flX3_15 hk0 dX3_tollOf_6 ?_
    refine s_icmp_ge hX 36 dX3_tollOf_9 (by decide) ?_ ?_
    · exact s_end hX (hJq4 x2_1) [2] rfl
    · refine s_aload_n hX dX3_tollOf_12 rfl 0 rfl ?_
      refine s_getR hX (d := 2) (k0 + 2) flX3_28 hk0 rfl dX3_tollOf_13 ?_
      refine s_iload_n hX dX3_tollOf_16 rfl 3 rfl ?_
      refine s_iald hX (ty_3_2 hk0).1 (ty_3_2 hk0).2 dX3_tollOf_17 ?_
      refine s_iload_n hX dX3_tollOf_18 rfl 1 rfl ?_
      refine s_jn (C := fun j => ∀ (x2_5 : Int32), Sim G (j x2_5) Kq4 30 [(0, rf g k0), (1, .int x1), (2, .int x2_5), (3, .int x3_2)] [] μ) ?_ (fun j6 hj6 => ?_)
      · intro x2_5
        show Sim G _ _ 30 [(0, rf g k0), (1, .int x1), (2, .int x2_5), (3, .int x3_2)] [] μ
        refine s_iinc (v := (x3_2 + 1)) (lv' := [(3, .int (x3_2 + 1)), (0, rf g k0), (1, .int x1), (2, .int x2_5)]) hX dX3_tollOf_30 3 rfl rfl (by decide) rfl ?_
        refine s_goto hX 4 dX3_tollOf_33 (by decide) ?_
        exact s_end hX (hIq4 (x2_5, (x3_2 + 1))) [1, 2, 3, 0] rfl
      refine s_icmp_ne hX 30 dX3_tollOf_19 (by decide) ?_ ?_
      · exact s_to hX [0, 1, 2, 3] rfl (hj6 x2_1)
      · refine s_iload_n hX dX3_tollOf_22 rfl 2 rfl ?_
        refine s_aload_n hX dX3_tollOf_23 rfl 0 rfl ?_
        refine s_iload_n hX dX3_tollOf_24 rfl 3 rfl ?_
        refine s_callVir hX [.int x3_2] (k := k0) (ci := 3) hk0 hc3 vkX3_takenOf (fun r hF => c_X3_takenOf hk0 hF) mkX3_takenOf cvX3_61 rfl rfl ⟨by omega, by decide, Nat.le_of_ble_eq_true rfl⟩ dX3_tollOf_25 (fun r7 => ?_)
        refine s_iadd hX dX3_tollOf_28 ?_
        refine s_istore_n (lv' := [(2, .int (x2_1 + r7)), (0, rf g k0), (1, .int x1), (3, .int x3_2)]) hX dX3_tollOf_29 rfl (by decide) rfl ?_
        exact s_to hX [1, 2, 0, 3] rfl (hj6 (x2_1 + r7))
  · intro sq
    obtain ⟨x2_3, rfl⟩ : ∃ z, z = sq := ⟨_, rfl⟩
    show Sim G _ _ 36 [(2, .int x2_3)] [] μ
    refine s_iload_n hX dX3_tollOf_36 rfl 0 rfl ?_
    exact s_iretr hK hR dX3_tollOf_37
theorem dX5_shift_0 : decode cX5_shift 0 = .ok (.aload_n 0, 1) := by decide +kernel
theorem dX5_shift_1 : decode cX5_shift 1 = .ok (.getfield 22, 3) := by decide +kernel
theorem dX5_shift_4 : decode cX5_shift 4 = .ok (.iload_n 2, 1) := by decide +kernel
theorem dX5_shift_5 : decode cX5_shift 5 = .ok (.dup2, 1) := by decide +kernel
theorem dX5_shift_6 : decode cX5_shift 6 = .ok (.iaload, 1) := by decide +kernel
theorem dX5_shift_7 : decode cX5_shift 7 = .ok (.aload_n 0, 1) := by decide +kernel
theorem dX5_shift_8 : decode cX5_shift 8 = .ok (.getfield 12, 3) := by decide +kernel
theorem dX5_shift_11 : decode cX5_shift 11 = .ok (.iload_n 1, 1) := by decide +kernel
theorem dX5_shift_12 : decode cX5_shift 12 = .ok (.invokevirtual 76, 3) := by decide +kernel
theorem dX5_shift_15 : decode cX5_shift 15 = .ok (.isub, 1) := by decide +kernel
theorem dX5_shift_16 : decode cX5_shift 16 = .ok (.iastore, 1) := by decide +kernel
theorem dX5_shift_17 : decode cX5_shift 17 = .ok (.aload_n 0, 1) := by decide +kernel
theorem dX5_shift_18 : decode cX5_shift 18 = .ok (.getfield 22, 3) := by decide +kernel
theorem dX5_shift_21 : decode cX5_shift 21 = .ok (.iload_n 3, 1) := by decide +kernel
theorem dX5_shift_22 : decode cX5_shift 22 = .ok (.dup2, 1) := by decide +kernel
theorem dX5_shift_23 : decode cX5_shift 23 = .ok (.iaload, 1) := by decide +kernel
theorem dX5_shift_24 : decode cX5_shift 24 = .ok (.aload_n 0, 1) := by decide +kernel
theorem dX5_shift_25 : decode cX5_shift 25 = .ok (.getfield 12, 3) := by decide +kernel
theorem dX5_shift_28 : decode cX5_shift 28 = .ok (.iload_n 1, 1) := by decide +kernel
theorem dX5_shift_29 : decode cX5_shift 29 = .ok (.invokevirtual 76, 3) := by decide +kernel
theorem dX5_shift_32 : decode cX5_shift 32 = .ok (.iadd, 1) := by decide +kernel
theorem dX5_shift_33 : decode cX5_shift 33 = .ok (.iastore, 1) := by decide +kernel
theorem dX5_shift_34 : decode cX5_shift 34 = .ok (.aload_n 0, 1) := by decide +kernel
theorem dX5_shift_35 : decode cX5_shift 35 = .ok (.getfield 26, 3) := by decide +kernel
theorem dX5_shift_38 : decode cX5_shift 38 = .ok (.iload_n 2, 1) := by decide +kernel
theorem dX5_shift_39 : decode cX5_shift 39 = .ok (.dup2, 1) := by decide +kernel
theorem dX5_shift_40 : decode cX5_shift 40 = .ok (.iaload, 1) := by decide +kernel
theorem dX5_shift_41 : decode cX5_shift 41 = .ok (.aload_n 0, 1) := by decide +kernel
theorem dX5_shift_42 : decode cX5_shift 42 = .ok (.getfield 12, 3) := by decide +kernel
theorem dX5_shift_45 : decode cX5_shift 45 = .ok (.iload_n 1, 1) := by decide +kernel
theorem dX5_shift_46 : decode cX5_shift 46 = .ok (.invokevirtual 79, 3) := by decide +kernel
theorem dX5_shift_49 : decode cX5_shift 49 = .ok (.isub, 1) := by decide +kernel
theorem dX5_shift_50 : decode cX5_shift 50 = .ok (.iastore, 1) := by decide +kernel
theorem dX5_shift_51 : decode cX5_shift 51 = .ok (.aload_n 0, 1) := by decide +kernel
theorem dX5_shift_52 : decode cX5_shift 52 = .ok (.getfield 26, 3) := by decide +kernel
theorem dX5_shift_55 : decode cX5_shift 55 = .ok (.iload_n 3, 1) := by decide +kernel
theorem dX5_shift_56 : decode cX5_shift 56 = .ok (.dup2, 1) := by decide +kernel
theorem dX5_shift_57 : decode cX5_shift 57 = .ok (.iaload, 1) := by decide +kernel
theorem dX5_shift_58 : decode cX5_shift 58 = .ok (.aload_n 0, 1) := by decide +kernel
theorem dX5_shift_59 : decode cX5_shift 59 = .ok (.getfield 12, 3) := by decide +kernel
theorem dX5_shift_62 : decode cX5_shift 62 = .ok (.iload_n 1, 1) := by decide +kernel
theorem dX5_shift_63 : decode cX5_shift 63 = .ok (.invokevirtual 79, 3) := by decide +kernel
theorem dX5_shift_66 : decode cX5_shift 66 = .ok (.iadd, 1) := by decide +kernel
theorem dX5_shift_67 : decode cX5_shift 67 = .ok (.iastore, 1) := by decide +kernel
theorem dX5_shift_68 : decode cX5_shift 68 = .ok (.return_, 1) := by decide +kernel
noncomputable def f_X5_shift (x1 : Int32) (x2 : Int32) (x3 : Int32) (μ : Mem) : Option Mem :=
  chk x2 5 (
    bd (f_X3_seenOf 73 x1 μ) fun r1 =>
    chk x2 5 (lt (setI μ 78 (ix x2) ((μ.1 78 (ix x2)) - r1)) fun ν2 =>
      chk x3 5 (
        bd (f_X3_seenOf 73 x1 ν2) fun r3 =>
        chk x3 5 (lt (setI ν2 78 (ix x3) ((ν2.1 78 (ix x3)) + r3)) fun ν4 =>
          chk x2 5 (
            bd (f_X3_takenOf 73 x1 ν4) fun r5 =>
            chk x2 5 (lt (setI ν4 79 (ix x2) ((ν4.1 79 (ix x2)) - r5)) fun ν6 =>
              chk x3 5 (
                bd (f_X3_takenOf 73 x1 ν6) fun r7 =>
                chk x3 5 (lt (setI ν6 79 (ix x3) ((ν6.1 79 (ix x3)) + r7)) fun ν8 =>
                  some ν8
                  )
                )
              )
            )
          )
        )
      )
    )
set_option maxHeartbeats 4000000 in
set_option maxRecDepth 100000 in
theorem c_X5_shift {g : GT} {x1 : Int32} {x2 : Int32} {x3 : Int32} {μ : Mem} {μ0 : Mem} (hf : f_X5_shift x1 x2 x3 μ = some μ0) : CV g yX5_shift cX5_shift 4 (none) 4 [rf g 72, .int x1, .int x2, .int x3] μ μ0 := by
  refine mk_v (by decide) (Nat.le_of_ble_eq_true rfl) ?_
  intro G hX hR
  have hX : CX g G cX5_shift RX5 4 4 := hX
  suffices S : ∀ K : Mem → Prop, (∀ a, K a → a = μ0) → Sim G (f_X5_shift x1 x2 x3 μ) K 0 [(0, rf g 72), (1, .int x1), (2, .int x2), (3, .int x3)] [] μ from S (fun a => a = μ0) (fun a h => h) _ hf rfl
  intro K hK
  unfold f_X5_shift
  refine s_aload_n hX dX5_shift_0 rfl 0 rfl ?_
  refine s_getR hX (d := 6) 78 flX5_22 rfl rfl dX5_shift_1 ?_
  refine s_iload_n hX dX5_shift_4 rfl 2 rfl ?_
  refine s_dup2 hX dX5_shift_5 rfl rfl ?_
  refine s_iald hX rfl rfl dX5_shift_6 ?_
  refine s_aload_n hX dX5_shift_7 rfl 0 rfl ?_
  refine s_getR hX (d := 1) 73 flX5_12 rfl rfl dX5_shift_8 ?_
  refine s_iload_n hX dX5_shift_11 rfl 1 rfl ?_
  refine s_callVir hX [.int x1] (k := 73) (ci := 3) rfl hc3 vkX3_seenOf (fun r hF => c_X3_seenOf rfl hF) mkX3_seenOf cvX5_76 rfl rfl ⟨by omega, by decide, Nat.le_of_ble_eq_true rfl⟩ dX5_shift_12 (fun r1 => ?_)
  refine s_isub hX dX5_shift_15 ?_
  refine s_iast hX rfl rfl dX5_shift_16 (fun ν2 => ?_)
  refine s_aload_n hX dX5_shift_17 rfl 0 rfl ?_
  refine s_getR hX (d := 6) 78 flX5_22 rfl rfl dX5_shift_18 ?_
  refine s_iload_n hX dX5_shift_21 rfl 3 rfl ?_
  refine s_dup2 hX dX5_shift_22 rfl rfl ?_
  refine s_iald hX rfl rfl dX5_shift_23 ?_
  refine s_aload_n hX dX5_shift_24 rfl 0 rfl ?_
  refine s_getR hX (d := 1) 73 flX5_12 rfl rfl dX5_shift_25 ?_
  refine s_iload_n hX dX5_shift_28 rfl 1 rfl ?_
  refine s_callVir hX [.int x1] (k := 73) (ci := 3) rfl hc3 vkX3_seenOf (fun r hF => c_X3_seenOf rfl hF) mkX3_seenOf cvX5_76 rfl rfl ⟨by omega, by decide, Nat.le_of_ble_eq_true rfl⟩ dX5_shift_29 (fun r3 => ?_)
  refine s_iadd hX dX5_shift_32 ?_
  refine s_iast hX rfl rfl dX5_shift_33 (fun ν4 => ?_)
  refine s_aload_n hX dX5_shift_34 rfl 0 rfl ?_
  refine s_getR hX (d := 7) 79 flX5_26 rfl rfl dX5_shift_35 ?_
  refine s_iload_n hX dX5_shift_38 rfl 2 rfl ?_
  refine s_dup2 hX dX5_shift_39 rfl rfl ?_
  refine s_iald hX rfl rfl dX5_shift_40 ?_
  refine s_aload_n hX dX5_shift_41 rfl 0 rfl ?_
  refine s_getR hX (d := 1) 73 flX5_12 rfl rfl dX5_shift_42 ?_
  refine s_iload_n hX dX5_shift_45 rfl 1 rfl ?_
  refine s_callVir hX [.int x1] (k := 73) (ci := 3) rfl hc3 vkX3_takenOf (fun r hF => c_X3_takenOf rfl hF) mkX3_takenOf cvX5_79 rfl rfl ⟨by omega, by decide, Nat.le_of_ble_eq_true rfl⟩ dX5_shift_46 (fun r5 => ?_)
  refine s_isub hX dX5_shift_49 ?_
  refine s_iast hX rfl rfl dX5_shift_50 (fun ν6 => ?_)
  refine s_aload_n hX dX5_shift_51 rfl 0 rfl ?_
  refine s_getR hX (d := 7) 79 flX5_26 rfl rfl dX5_shift_52 ?_
  refine s_iload_n hX dX5_shift_55 rfl 3 rfl ?_
  refine s_dup2 hX dX5_shift_56 rfl rfl ?_
  refine s_iald hX rfl rfl dX5_shift_57 ?_
  refine s_aload_n hX dX5_shift_58 rfl 0 rfl ?_
  refine s_getR hX (d := 1) 73 flX5_12 rfl rfl dX5_shift_59 ?_
  refine s_iload_n hX dX5_shift_62 rfl 1 rfl ?_
  refine s_callVir hX [.int x1] (k := 73) (ci := 3) rfl hc3 vkX3_takenOf (fun r hF => c_X3_takenOf rfl hF) mkX3_takenOf cvX5_79 rfl rfl ⟨by omega, by decide, Nat.le_of_ble_eq_true rfl⟩ dX5_shift_63 (fun r7 => ?_)
  refine s_iadd hX dX5_shift_66 ?_
  refine s_iast hX rfl rfl dX5_shift_67 (fun ν8 => ?_)
  exact s_vreti hK hR dX5_shift_68
theorem dX10_game_0 : decode cX10_game 0 = .ok (.aload_n 0, 1) := by decide +kernel
theorem dX10_game_1 : decode cX10_game 1 = .ok (.getfield 10, 3) := by decide +kernel
theorem dX10_game_4 : decode cX10_game 4 = .ok (.getfield 146, 3) := by decide +kernel
theorem dX10_game_7 : decode cX10_game 7 = .ok (.iload_n 1, 1) := by decide +kernel
theorem dX10_game_8 : decode cX10_game 8 = .ok (.iload_n 2, 1) := by decide +kernel
theorem dX10_game_9 : decode cX10_game 9 = .ok (.invokevirtual 230, 3) := by decide +kernel
theorem dX10_game_12 : decode cX10_game 12 = .ok (.ifCond .eq 12, 3) := by decide +kernel
theorem dX10_game_15 : decode cX10_game 15 = .ok (.iload_n 3, 1) := by decide +kernel
theorem dX10_game_16 : decode cX10_game 16 = .ok (.ifCond .lt 8, 3) := by decide +kernel
theorem dX10_game_19 : decode cX10_game 19 = .ok (.iload_n 3, 1) := by decide +kernel
theorem dX10_game_20 : decode cX10_game 20 = .ok (.iconst 1, 1) := by decide +kernel
theorem dX10_game_21 : decode cX10_game 21 = .ok (.if_icmp .le 10, 3) := by decide +kernel
theorem dX10_game_24 : decode cX10_game 24 = .ok (.aload_n 0, 1) := by decide +kernel
theorem dX10_game_25 : decode cX10_game 25 = .ok (.bipush (-10), 2) := by decide +kernel
theorem dX10_game_27 : decode cX10_game 27 = .ok (.invokevirtual 181, 3) := by decide +kernel
theorem dX10_game_30 : decode cX10_game 30 = .ok (.ireturn, 1) := by decide +kernel
theorem dX10_game_31 : decode cX10_game 31 = .ok (.aload_n 0, 1) := by decide +kernel
theorem dX10_game_32 : decode cX10_game 32 = .ok (.getfield 58, 3) := by decide +kernel
theorem dX10_game_35 : decode cX10_game 35 = .ok (.aload_n 0, 1) := by decide +kernel
theorem dX10_game_36 : decode cX10_game 36 = .ok (.getfield 10, 3) := by decide +kernel
theorem dX10_game_39 : decode cX10_game 39 = .ok (.getfield 146, 3) := by decide +kernel
theorem dX10_game_42 : decode cX10_game 42 = .ok (.iload_n 1, 1) := by decide +kernel
theorem dX10_game_43 : decode cX10_game 43 = .ok (.iload_n 2, 1) := by decide +kernel
theorem dX10_game_44 : decode cX10_game 44 = .ok (.invokevirtual 257, 3) := by decide +kernel
theorem dX10_game_47 : decode cX10_game 47 = .ok (.iload_n 3, 1) := by decide +kernel
theorem dX10_game_48 : decode cX10_game 48 = .ok (.ifCond .ne 13, 3) := by decide +kernel
theorem dX10_game_51 : decode cX10_game 51 = .ok (.aload_n 0, 1) := by decide +kernel
theorem dX10_game_52 : decode cX10_game 52 = .ok (.getfield 58, 3) := by decide +kernel
theorem dX10_game_55 : decode cX10_game 55 = .ok (.getfield 258, 3) := by decide +kernel
theorem dX10_game_58 : decode cX10_game 58 = .ok (.goto 10, 3) := by decide +kernel
theorem dX10_game_61 : decode cX10_game 61 = .ok (.aload_n 0, 1) := by decide +kernel
theorem dX10_game_62 : decode cX10_game 62 = .ok (.getfield 58, 3) := by decide +kernel
theorem dX10_game_65 : decode cX10_game 65 = .ok (.getfield 261, 3) := by decide +kernel
theorem dX10_game_68 : decode cX10_game 68 = .ok (.ireturn, 1) := by decide +kernel
noncomputable def f_X10_game (x1 : Int32) (x2 : Int32) (x3 : Int32) (μ : Mem) : Option (Int32 × Mem) :=
  bd (f_X3_hasPair 2 x1 x2 μ) fun r1 =>
  jn (
    bd2 (f_X10_refuseAsBad (-10) μ) fun r3 ν4 =>
    some (r3, ν4)
    ) fun j2 =>
  if r1 = 0 then
    j2
  else
    if x3 < 0 then
      j2
    else
      if 1 < x3 then
        j2
      else
        bd (f_X2_search 2 x1 x2 μ) fun ν5 =>
        jn (fun (y6 : Int32) =>
          some (y6, ν5)
          ) fun j7 =>
        if x3 = 0 then
          j7 (ν5.1 80 3)
        else
          j7 (ν5.1 80 4)
set_option maxHeartbeats 4000000 in
set_option maxRecDepth 100000 in
theorem c_X10_game {g : GT} {x1 : Int32} {x2 : Int32} {x3 : Int32} {μ : Mem} {μ0 : Mem} {r0 : Int32} (hf : f_X10_game x1 x2 x3 μ = some (r0, μ0)) : CI g yX10_game cX10_game 4 (some .int) 5 [rf g 0, .int x1, .int x2, .int x3] μ r0 μ0 := by
  refine mk_i (by decide) (Nat.le_of_ble_eq_true rfl) ?_
  intro G hX hR
  have hX : CX g G cX10_game RX10 4 5 := hX
  suffices S : ∀ K : (Int32 × Mem) → Prop, (∀ a, K a → a = (r0, μ0)) → Sim G (f_X10_game x1 x2 x3 μ) K 0 [(0, rf g 0), (1, .int x1), (2, .int x2), (3, .int x3)] [] μ from S (fun a => a = (r0, μ0)) (fun a h => h) _ hf rfl
  intro K hK
  unfold f_X10_game
  refine s_aload_n hX dX10_game_0 rfl 0 rfl ?_
  refine s_getR hX (d := 1) 1 flX10_10 rfl rfl dX10_game_1 ?_
  refine s_getR hX (d := 1) 2 flX10_146 rfl rfl dX10_game_4 ?_
  refine s_iload_n hX dX10_game_7 rfl 1 rfl ?_
  refine s_iload_n hX dX10_game_8 rfl 2 rfl ?_
  refine s_callVir hX [.int x1, .int x2] (k := 2) (ci := 3) rfl hc3 vkX3_hasPair (fun r hF => c_X3_hasPair rfl hF) mkX3_hasPair cvX10_230 rfl rfl ⟨by omega, by decide, Nat.le_of_ble_eq_true rfl⟩ dX10_game_9 (fun r1 => ?_)
  refine s_jn (C := fun j => Sim G (j) K 24 [(0, rf g 0)] [] μ) ?_ (fun j2 hj2 => ?_)
  · skip
    show Sim G _ _ 24 [(0, rf g 0)] [] μ
    refine s_aload_n hX dX10_game_24 rfl 0 rfl ?_
    refine s_bipush (v := (-10)) hX dX10_game_25 (by decide) ?_
    refine s_callViw hX [.int (-10)] (k := 0) (ci := 9) rfl hc9 vkX10_refuseAsBad (fun r ν hF => c_X10_refuseAsBad  hF) mkX10_refuseAsBad cvX10_181 rfl rfl ⟨by omega, by decide, Nat.le_of_ble_eq_true rfl⟩ dX10_game_27 (fun r3 ν4 => ?_)
    exact s_ireti hK hR dX10_game_30
  refine s_if_eq hX 24 dX10_game_12 (by decide) ?_ ?_
  · exact s_to hX [0] rfl (hj2)
  · refine s_iload_n hX dX10_game_15 rfl 3 rfl ?_
    refine s_if_lt hX 24 dX10_game_16 (by decide) ?_ ?_
    · exact s_to hX [0] rfl (hj2)
    · refine s_iload_n hX dX10_game_19 rfl 3 rfl ?_
      refine s_iconst (v := 1) hX dX10_game_20 (by decide) ?_
      refine s_icmp_le hX 31 dX10_game_21 (by decide) ?_ ?_
      · refine s_aload_n hX dX10_game_31 rfl 0 rfl ?_
        refine s_getR hX (d := 80) 80 flX10_58 rfl rfl dX10_game_32 ?_
        refine s_aload_n hX dX10_game_35 rfl 0 rfl ?_
        refine s_getR hX (d := 1) 1 flX10_10 rfl rfl dX10_game_36 ?_
        refine s_getR hX (d := 1) 2 flX10_146 rfl rfl dX10_game_39 ?_
        refine s_iload_n hX dX10_game_42 rfl 1 rfl ?_
        refine s_iload_n hX dX10_game_43 rfl 2 rfl ?_
        refine s_callVvw hX [rf g 2, .int x1, .int x2] (k := 80) (ci := 2) rfl hc2 vkX2_search (fun ν hF => c_X2_search rfl hF) mkX2_search cvX10_257 rfl rfl ⟨by omega, by decide, Nat.le_of_ble_eq_true rfl⟩ dX10_game_44 (fun ν5 => ?_)
        refine s_iload_n hX dX10_game_47 rfl 3 rfl ?_
        refine s_jn (C := fun j => ∀ (y6 : Int32), Sim G (j y6) K 68 [] [.int y6] ν5) ?_ (fun j7 hj7 => ?_)
        · intro y6
          show Sim G _ _ 68 [] [.int y6] ν5
          exact s_ireti hK hR dX10_game_68
        refine s_if_ne hX 61 dX10_game_48 (by decide) ?_ ?_
        · refine s_aload_n hX dX10_game_61 rfl 0 rfl ?_
          refine s_getR hX (d := 80) 80 flX10_58 rfl rfl dX10_game_62 ?_
          refine s_getI hX flX10_261 rfl dX10_game_65 ?_
          exact s_to hX [] rfl (hj7 (ν5.1 80 4))
        · refine s_aload_n hX dX10_game_51 rfl 0 rfl ?_
          refine s_getR hX (d := 80) 80 flX10_58 rfl rfl dX10_game_52 ?_
          refine s_getI hX flX10_258 rfl dX10_game_55 ?_
          refine s_goto hX 68 dX10_game_58 (by decide) ?_
          exact s_to hX [] rfl (hj7 (ν5.1 80 3))
      · exact s_to hX [0] rfl (hj2)
theorem dX11_drawn_0 : decode cX11_drawn 0 = .ok (.iload_n 1, 1) := by decide +kernel
theorem dX11_drawn_1 : decode cX11_drawn 1 = .ok (.i2l, 1) := by decide +kernel
theorem dX11_drawn_2 : decode cX11_drawn 2 = .ok (.lconst 0, 1) := by decide +kernel
theorem dX11_drawn_3 : decode cX11_drawn 3 = .ok (.ldc2_w 269, 3) := by decide +kernel
theorem dX11_drawn_6 : decode cX11_drawn 6 = .ok (.invokestatic 51, 3) := by decide +kernel
theorem dX11_drawn_9 : decode cX11_drawn 9 = .ok (.ifCond .eq 15, 3) := by decide +kernel
theorem dX11_drawn_12 : decode cX11_drawn 12 = .ok (.iload_n 2, 1) := by decide +kernel
theorem dX11_drawn_13 : decode cX11_drawn 13 = .ok (.i2l, 1) := by decide +kernel
theorem dX11_drawn_14 : decode cX11_drawn 14 = .ok (.lconst 0, 1) := by decide +kernel
theorem dX11_drawn_15 : decode cX11_drawn 15 = .ok (.ldc2_w 271, 3) := by decide +kernel
theorem dX11_drawn_18 : decode cX11_drawn 18 = .ok (.invokestatic 51, 3) := by decide +kernel
theorem dX11_drawn_21 : decode cX11_drawn 21 = .ok (.ifCond .ne 8, 3) := by decide +kernel
theorem dX11_drawn_24 : decode cX11_drawn 24 = .ok (.aload_n 0, 1) := by decide +kernel
theorem dX11_drawn_25 : decode cX11_drawn 25 = .ok (.invokevirtual 61, 3) := by decide +kernel
theorem dX11_drawn_28 : decode cX11_drawn 28 = .ok (.ireturn, 1) := by decide +kernel
theorem dX11_drawn_29 : decode cX11_drawn 29 = .ok (.aload_n 0, 1) := by decide +kernel
theorem dX11_drawn_30 : decode cX11_drawn 30 = .ok (.invokevirtual 187, 3) := by decide +kernel
theorem dX11_drawn_33 : decode cX11_drawn 33 = .ok (.iload_n 2, 1) := by decide +kernel
theorem dX11_drawn_34 : decode cX11_drawn 34 = .ok (.i2l, 1) := by decide +kernel
theorem dX11_drawn_35 : decode cX11_drawn 35 = .ok (.lstore_n 3, 1) := by decide +kernel
theorem dX11_drawn_36 : decode cX11_drawn 36 = .ok (.iconst 0, 1) := by decide +kernel
theorem dX11_drawn_37 : decode cX11_drawn 37 = .ok (.istore 5, 2) := by decide +kernel
theorem dX11_drawn_39 : decode cX11_drawn 39 = .ok (.iconst 0, 1) := by decide +kernel
theorem dX11_drawn_40 : decode cX11_drawn 40 = .ok (.istore 6, 2) := by decide +kernel
theorem dX11_drawn_42 : decode cX11_drawn 42 = .ok (.iload 6, 2) := by decide +kernel
theorem dX11_drawn_44 : decode cX11_drawn 44 = .ok (.iload_n 1, 1) := by decide +kernel
theorem dX11_drawn_45 : decode cX11_drawn 45 = .ok (.if_icmp .ge 110, 3) := by decide +kernel
theorem dX11_drawn_48 : decode cX11_drawn 48 = .ok (.iconst 0, 1) := by decide +kernel
theorem dX11_drawn_49 : decode cX11_drawn 49 = .ok (.istore 7, 2) := by decide +kernel
theorem dX11_drawn_51 : decode cX11_drawn 51 = .ok (.iconst 0, 1) := by decide +kernel
theorem dX11_drawn_52 : decode cX11_drawn 52 = .ok (.istore 8, 2) := by decide +kernel
theorem dX11_drawn_54 : decode cX11_drawn 54 = .ok (.iload 8, 2) := by decide +kernel
theorem dX11_drawn_56 : decode cX11_drawn 56 = .ok (.aload_n 0, 1) := by decide +kernel
theorem dX11_drawn_57 : decode cX11_drawn 57 = .ok (.getfield 7, 3) := by decide +kernel
theorem dX11_drawn_60 : decode cX11_drawn 60 = .ok (.iconst 0, 1) := by decide +kernel
theorem dX11_drawn_61 : decode cX11_drawn 61 = .ok (.iaload, 1) := by decide +kernel
theorem dX11_drawn_62 : decode cX11_drawn 62 = .ok (.if_icmp .ge 60, 3) := by decide +kernel
theorem dX11_drawn_65 : decode cX11_drawn 65 = .ok (.lload_n 3, 1) := by decide +kernel
theorem dX11_drawn_66 : decode cX11_drawn 66 = .ok (.ldc2_w 273, 3) := by decide +kernel
theorem dX11_drawn_69 : decode cX11_drawn 69 = .ok (.lmul, 1) := by decide +kernel
theorem dX11_drawn_70 : decode cX11_drawn 70 = .ok (.ldc2_w 275, 3) := by decide +kernel
theorem dX11_drawn_73 : decode cX11_drawn 73 = .ok (.ladd, 1) := by decide +kernel
theorem dX11_drawn_74 : decode cX11_drawn 74 = .ok (.ldc2_w 277, 3) := by decide +kernel
theorem dX11_drawn_77 : decode cX11_drawn 77 = .ok (.lrem, 1) := by decide +kernel
theorem dX11_drawn_78 : decode cX11_drawn 78 = .ok (.lstore_n 3, 1) := by decide +kernel
theorem dX11_drawn_79 : decode cX11_drawn 79 = .ok (.iload 7, 2) := by decide +kernel
theorem dX11_drawn_81 : decode cX11_drawn 81 = .ok (.lload_n 3, 1) := by decide +kernel
theorem dX11_drawn_82 : decode cX11_drawn 82 = .ok (.ldc2_w 279, 3) := by decide +kernel
theorem dX11_drawn_85 : decode cX11_drawn 85 = .ok (.ldiv, 1) := by decide +kernel
theorem dX11_drawn_86 : decode cX11_drawn 86 = .ok (.ldc2_w 84, 3) := by decide +kernel
theorem dX11_drawn_89 : decode cX11_drawn 89 = .ok (.lrem, 1) := by decide +kernel
theorem dX11_drawn_90 : decode cX11_drawn 90 = .ok (.aload_n 0, 1) := by decide +kernel
theorem dX11_drawn_91 : decode cX11_drawn 91 = .ok (.getfield 7, 3) := by decide +kernel
theorem dX11_drawn_94 : decode cX11_drawn 94 = .ok (.bipush 36, 2) := by decide +kernel
theorem dX11_drawn_96 : decode cX11_drawn 96 = .ok (.iload 8, 2) := by decide +kernel
theorem dX11_drawn_98 : decode cX11_drawn 98 = .ok (.iadd, 1) := by decide +kernel
theorem dX11_drawn_99 : decode cX11_drawn 99 = .ok (.iaload, 1) := by decide +kernel
theorem dX11_drawn_100 : decode cX11_drawn 100 = .ok (.i2l, 1) := by decide +kernel
theorem dX11_drawn_101 : decode cX11_drawn 101 = .ok (.lcmp, 1) := by decide +kernel
theorem dX11_drawn_102 : decode cX11_drawn 102 = .ok (.ifCond .ge 10, 3) := by decide +kernel
theorem dX11_drawn_105 : decode cX11_drawn 105 = .ok (.iconst 1, 1) := by decide +kernel
theorem dX11_drawn_106 : decode cX11_drawn 106 = .ok (.iload 8, 2) := by decide +kernel
theorem dX11_drawn_108 : decode cX11_drawn 108 = .ok (.ishl, 1) := by decide +kernel
theorem dX11_drawn_109 : decode cX11_drawn 109 = .ok (.goto 4, 3) := by decide +kernel
theorem dX11_drawn_112 : decode cX11_drawn 112 = .ok (.iconst 0, 1) := by decide +kernel
theorem dX11_drawn_113 : decode cX11_drawn 113 = .ok (.ior, 1) := by decide +kernel
theorem dX11_drawn_114 : decode cX11_drawn 114 = .ok (.istore 7, 2) := by decide +kernel
theorem dX11_drawn_116 : decode cX11_drawn 116 = .ok (.iinc 8 1, 3) := by decide +kernel
theorem dX11_drawn_119 : decode cX11_drawn 119 = .ok (.goto (-65), 3) := by decide +kernel
theorem dX11_drawn_122 : decode cX11_drawn 122 = .ok (.iload 5, 2) := by decide +kernel
theorem dX11_drawn_124 : decode cX11_drawn 124 = .ok (.aload_n 0, 1) := by decide +kernel
theorem dX11_drawn_125 : decode cX11_drawn 125 = .ok (.iload 7, 2) := by decide +kernel
theorem dX11_drawn_127 : decode cX11_drawn 127 = .ok (.iconst 0, 1) := by decide +kernel
theorem dX11_drawn_128 : decode cX11_drawn 128 = .ok (.aload_n 0, 1) := by decide +kernel
theorem dX11_drawn_129 : decode cX11_drawn 129 = .ok (.getfield 7, 3) := by decide +kernel
theorem dX11_drawn_132 : decode cX11_drawn 132 = .ok (.iconst 3, 1) := by decide +kernel
theorem dX11_drawn_133 : decode cX11_drawn 133 = .ok (.iaload, 1) := by decide +kernel
theorem dX11_drawn_134 : decode cX11_drawn 134 = .ok (.iload 6, 2) := by decide +kernel
theorem dX11_drawn_136 : decode cX11_drawn 136 = .ok (.iadd, 1) := by decide +kernel
theorem dX11_drawn_137 : decode cX11_drawn 137 = .ok (.aload_n 0, 1) := by decide +kernel
theorem dX11_drawn_138 : decode cX11_drawn 138 = .ok (.getfield 7, 3) := by decide +kernel
theorem dX11_drawn_141 : decode cX11_drawn 141 = .ok (.iconst 5, 1) := by decide +kernel
theorem dX11_drawn_142 : decode cX11_drawn 142 = .ok (.iaload, 1) := by decide +kernel
theorem dX11_drawn_143 : decode cX11_drawn 143 = .ok (.invokevirtual 190, 3) := by decide +kernel
theorem dX11_drawn_146 : decode cX11_drawn 146 = .ok (.iadd, 1) := by decide +kernel
theorem dX11_drawn_147 : decode cX11_drawn 147 = .ok (.istore 5, 2) := by decide +kernel
theorem dX11_drawn_149 : decode cX11_drawn 149 = .ok (.iinc 6 1, 3) := by decide +kernel
theorem dX11_drawn_152 : decode cX11_drawn 152 = .ok (.goto (-110), 3) := by decide +kernel
theorem dX11_drawn_155 : decode cX11_drawn 155 = .ok (.iload 5, 2) := by decide +kernel
theorem dX11_drawn_157 : decode cX11_drawn 157 = .ok (.ireturn, 1) := by decide +kernel
noncomputable def f_X11_drawn (x1 : Int32) (x2 : Int32) (μ : Mem) : Option (Int32 × Mem) :=
  bd (f_X11_in ((x1 : Int32).toInt64) 0 60) fun r1 =>
  jn (
    bd2 (f_X11_bad  μ) fun r3 ν4 =>
    some (r3, ν4)
    ) fun j2 =>
  if r1 = 0 then
    j2
  else
    bd (f_X11_in ((x2 : Int32).toInt64) 0 999999) fun r5 =>
    if r5 = 0 then
      j2
    else
      bd (f_X11_asNow  μ) fun ν6 =>
      bd (lp (ε := Int32 × Mem) (cu4 fun (x3_7 : Int64) (x5_8 : Int32) (x6_9 : Int32) (ν10 : Mem) =>
        if x6_9 < x1 then
          bd (lp (ε := Int64 × Int32) (cu3 fun (x3_14 : Int64) (x7_15 : Int32) (x8_16 : Int32) =>
            if x8_16 < (ν10.1 113 0) then
              lt (((x3_14 * 1103515245) + 12345) - ((x3_14 * 1103515245) + 12345) / 2147483648 * 2147483648) fun x3_20 =>
              chk (36 + x8_16) 184 (
                jn (fun (y21 : Int32) =>
                  some (.inl (x3_20, (x7_15 ||| y21), (x8_16 + 1)))
                  ) fun j22 =>
                if ((x3_20 / 65536) - (x3_20 / 65536) / 10 * 10) < ((ν10.1 113 (ix (36 + x8_16))) : Int32).toInt64 then
                  j22 ((1 : Int32) <<< (x8_16 &&& 31))
                else
                  j22 0
                )
            else
              some (.inr (x3_14, x7_15))
            ) (x3_7, 0, 0)) (cu2 fun (x3_17 : Int64) (x7_18 : Int32) =>
            bd2 (f_X11_goes x7_18 0 ((ν10.1 113 3) + x6_9) (ν10.1 113 5) ν10) fun r23 ν24 =>
            some (.inl (x3_17, (x5_8 + r23), (x6_9 + 1), ν24))
            )
        else
          some (.inr (x5_8, ν10))
        ) ((x2 : Int32).toInt64, 0, 0, ν6)) (cu2 fun (x5_11 : Int32) (ν12 : Mem) =>
        some (x5_11, ν12)
        )
set_option maxHeartbeats 4000000 in
set_option maxRecDepth 100000 in
theorem c_X11_drawn {g : GT} {x1 : Int32} {x2 : Int32} {μ : Mem} {μ0 : Mem} {r0 : Int32} (hf : f_X11_drawn x1 x2 μ = some (r0, μ0)) : CI g yX11_drawn cX11_drawn 9 (some .int) 5 [rf g 112, .int x1, .int x2] μ r0 μ0 := by
  refine mk_i (by decide) (Nat.le_of_ble_eq_true rfl) ?_
  intro G hX hR
  have hX : CX g G cX11_drawn RX11 9 5 := hX
  suffices S : ∀ K : (Int32 × Mem) → Prop, (∀ a, K a → a = (r0, μ0)) → Sim G (f_X11_drawn x1 x2 μ) K 0 [(0, rf g 112), (1, .int x1), (2, .int x2)] [] μ from S (fun a => a = (r0, μ0)) (fun a h => h) _ hf rfl
  intro K hK
  unfold f_X11_drawn
  refine s_iload_n hX dX11_drawn_0 rfl 1 rfl ?_
  refine s_i2l hX dX11_drawn_1 ?_
  refine s_lconst (v := 0) hX dX11_drawn_2 (by decide) ?_
  refine s_ldc2 hX dX11_drawn_3 klX11_269 ?_
  refine s_callSir hX [.long (x1 : Int32).toInt64, .long 0, .long 60] skX11_in (fun r hF => c_X11_in  hF) mkX11_in cvX11_51 rfl rfl ⟨by omega, by decide, Nat.le_of_ble_eq_true rfl⟩ dX11_drawn_6 (fun r1 => ?_)
  refine s_jn (C := fun j => Sim G (j) K 24 [(0, rf g 112)] [] μ) ?_ (fun j2 hj2 => ?_)
  · skip
    show Sim G _ _ 24 [(0, rf g 112)] [] μ
    refine s_aload_n hX dX11_drawn_24 rfl 0 rfl ?_
    refine s_callViw hX [] (k := 112) (ci := 10) rfl hc10 vkX11_bad (fun r ν hF => c_X11_bad  hF) mkX11_bad cvX11_61 rfl rfl ⟨by omega, by decide, Nat.le_of_ble_eq_true rfl⟩ dX11_drawn_25 (fun r3 ν4 => ?_)
    exact s_ireti hK hR dX11_drawn_28
  refine s_if_eq hX 24 dX11_drawn_9 (by decide) ?_ ?_
  · exact s_to hX [0] rfl (hj2)
  · refine s_iload_n hX dX11_drawn_12 rfl 2 rfl ?_
    refine s_i2l hX dX11_drawn_13 ?_
    refine s_lconst (v := 0) hX dX11_drawn_14 (by decide) ?_
    refine s_ldc2 hX dX11_drawn_15 klX11_271 ?_
    refine s_callSir hX [.long (x2 : Int32).toInt64, .long 0, .long 999999] skX11_in (fun r hF => c_X11_in  hF) mkX11_in cvX11_51 rfl rfl ⟨by omega, by decide, Nat.le_of_ble_eq_true rfl⟩ dX11_drawn_18 (fun r5 => ?_)
    refine s_if_ne hX 29 dX11_drawn_21 (by decide) ?_ ?_
    · refine s_aload_n hX dX11_drawn_29 rfl 0 rfl ?_
      refine s_callVvw hX [] (k := 112) (ci := 10) rfl hc10 vkX11_asNow (fun ν hF => c_X11_asNow  hF) mkX11_asNow cvX11_187 rfl rfl ⟨by omega, by decide, Nat.le_of_ble_eq_true rfl⟩ dX11_drawn_30 (fun ν6 => ?_)
      refine s_iload_n hX dX11_drawn_33 rfl 2 rfl ?_
      refine s_i2l hX dX11_drawn_34 ?_
      refine s_lstore_n (lv' := [(3, .long (x2 : Int32).toInt64), (0, rf g 112), (1, .int x1), (2, .int x2)]) hX dX11_drawn_35 rfl (by decide) rfl ?_
      refine s_iconst (v := 0) hX dX11_drawn_36 (by decide) ?_
      refine s_istore (lv' := [(5, .int 0), (3, .long (x2 : Int32).toInt64), (0, rf g 112), (1, .int x1), (2, .int x2)]) hX dX11_drawn_37 (by decide) rfl ?_
      refine s_iconst (v := 0) hX dX11_drawn_39 (by decide) ?_
      refine s_istore (lv' := [(6, .int 0), (5, .int 0), (3, .long (x2 : Int32).toInt64), (0, rf g 112), (1, .int x1), (2, .int x2)]) hX dX11_drawn_40 (by decide) rfl ?_
      refine s_loop hX 42 155 (fun s : Int64 × Int32 × Int32 × Mem => [(0, rf g 112), (1, .int x1), (3, .long s.1), (5, .int s.2.1), (6, .int s.2.2.1)]) (fun s : Int64 × Int32 × Int32 × Mem => s.2.2.2) (fun s : Int32 × Mem => [(5, .int s.1)]) (fun s : Int32 × Mem => s.2) [3, 4, 2, 1, 0] rfl rfl rfl ?_ ?_
      · intro Kq13 hIq13 hJq13 sq
        obtain ⟨x3_7, x5_8, x6_9, ν10⟩ := sq
        refine s_cu4 ?_
        show Sim G _ _ 42 [(0, rf g 112), (1, .int x1), (3, .long x3_7), (5, .int x5_8), (6, .int x6_9)] [] ν10
        refine s_iload hX dX11_drawn_42 4 rfl ?_
        refine s_iload_n hX dX11_drawn_44 rfl 1 rfl ?_
        refine s_icmp_ge hX 155 dX11_drawn_45 (by decide) ?_ ?_
        · exact s_end hX (hJq13 (x5_8, ν10)) [3] rfl
        · refine s_iconst (v := 0) hX dX11_drawn_48 (by decide) ?_
          refine s_istore (lv' := [(7, .int 0), (0, rf g 112), (1, .int x1), (3, .long x3_7), (5, .int x5_8), (6, .int x6_9)]) hX dX11_drawn_49 (by decide) rfl ?_
          refine s_iconst (v := 0) hX dX11_drawn_51 (by decide) ?_
          refine s_istore (lv' := [(8, .int 0), (7, .int 0), (0, rf g 112), (1, .int x1), (3, .long x3_7), (5, .int x5_8), (6, .int x6_9)]) hX dX11_drawn_52 (by decide) rfl ?_
          refine s_loop hX 54 122 (fun s : Int64 × Int32 × Int32 => [(0, rf g 112), (1, .int x1), (3, .long s.1), (5, .int x5_8), (6, .int x6_9), (7, .int s.2.1), (8, .int s.2.2)]) (fun s : Int64 × Int32 × Int32 => ν10) (fun s : Int64 × Int32 => [(0, rf g 112), (1, .int x1), (3, .long s.1), (5, .int x5_8), (6, .int x6_9), (7, .int s.2)]) (fun s : Int64 × Int32 => ν10) [2, 3, 4, 5, 6, 1, 0] rfl rfl rfl ?_ ?_
          · intro Kq19 hIq19 hJq19 sq
            obtain ⟨x3_14, x7_15, x8_16⟩ := sq
            refine s_cu3 ?_
            show Sim G _ _ 54 [(0, rf g 112), (1, .int x1), (3, .long x3_14), (5, .int x5_8), (6, .int x6_9), (7, .int x7_15), (8, .int x8_16)] [] ν10
            refine s_iload hX dX11_drawn_54 6 rfl ?_
            refine s_aload_n hX dX11_drawn_56 rfl 0 rfl ?_
            refine s_getR hX (d := 1) 113 flX11_7 rfl rfl dX11_drawn_57 ?_
            refine s_iconst (v := 0) hX dX11_drawn_60 (by decide) ?_
            refine s_ialdK hX rfl rfl (by decide) rfl dX11_drawn_61 ?_
            refine s_icmp_ge hX 122 dX11_drawn_62 (by decide) ?_ ?_
            · exact s_end hX (hJq19 (x3_14, x7_15)) [0, 1, 2, 3, 4, 5] rfl
            · refine s_lload_n hX dX11_drawn_65 rfl 2 rfl ?_
              refine s_ldc2 hX dX11_drawn_66 klX11_273 ?_
              refine s_lmul hX dX11_drawn_69 ?_
              refine s_ldc2 hX dX11_drawn_70 klX11_275 ?_
              refine s_ladd hX dX11_drawn_73 ?_
              refine s_ldc2 hX dX11_drawn_74 klX11_277 ?_
              refine s_lrem hX dX11_drawn_77 (by decide) ?_
              refine s_ltl (fun x3_20 => ?_)
              refine s_lstore_n (lv' := [(3, .long x3_20), (0, rf g 112), (1, .int x1), (5, .int x5_8), (6, .int x6_9), (7, .int x7_15), (8, .int x8_16)]) hX dX11_drawn_78 rfl (by decide) rfl ?_
              refine s_iload hX dX11_drawn_79 5 rfl ?_
              refine s_lload_n hX dX11_drawn_81 rfl 0 rfl ?_
              refine s_ldc2 hX dX11_drawn_82 klX11_279 ?_
              refine s_ldiv hX dX11_drawn_85 (by decide) ?_
              refine s_ldc2 hX dX11_drawn_86 klX11_84 ?_
              refine s_lrem hX dX11_drawn_89 (by decide) ?_
              refine s_aload_n hX dX11_drawn_90 rfl 1 rfl ?_
              refine s_getR hX (d := 1) 113 flX11_7 rfl rfl dX11_drawn_91 ?_
              refine s_bipush (v := 36) hX dX11_drawn_94 (by decide) ?_
              refine s_iload hX dX11_drawn_96 6 rfl ?_
              refine s_iadd hX dX11_drawn_98 ?_
              refine s_iald hX rfl rfl dX11_drawn_99 ?_
              refine s_i2l hX dX11_drawn_100 ?_
              refine s_jn (C := fun j => ∀ (y21 : Int32), Sim G (j y21) Kq19 113 [(0, rf g 112), (1, .int x1), (3, .long x3_20), (5, .int x5_8), (6, .int x6_9), (8, .int x8_16)] [.int y21, .int x7_15] ν10) ?_ (fun j22 hj22 => ?_)
              · intro y21
                show Sim G _ _ 113 [(0, rf g 112), (1, .int x1), (3, .long x3_20), (5, .int x5_8), (6, .int x6_9), (8, .int x8_16)] [.int y21, .int x7_15] ν10
                refine s_ior hX dX11_drawn_113 ?_
                refine s_istore (lv' := [(7, .int (x7_15 ||| y21)), (0, rf g 112), (1, .int x1), (3, .long x3_20), (5, .int x5_8), (6, .int x6_9), (8, .int x8_16)]) hX dX11_drawn_114 (by decide) rfl ?_
                refine s_iinc (v := (x8_16 + 1)) (lv' := [(8, .int (x8_16 + 1)), (7, .int (x7_15 ||| y21)), (0, rf g 112), (1, .int x1), (3, .long x3_20), (5, .int x5_8), (6, .int x6_9)]) hX dX11_drawn_116 6 rfl rfl (by decide) rfl ?_
                refine s_goto hX 54 dX11_drawn_119 (by decide) ?_
                exact s_end hX (hIq19 (x3_20, (x7_15 ||| y21), (x8_16 + 1))) [2, 3, 4, 5, 6, 1, 0] rfl
              refine s_lcmp_ge hX 112 dX11_drawn_101 dX11_drawn_102 (by decide) ?_ ?_
              · refine s_iconst (v := 0) hX dX11_drawn_112 (by decide) ?_
                exact s_to hX [1, 2, 0, 3, 4, 6] rfl (hj22 0)
              · refine s_iconst (v := 1) hX dX11_drawn_105 (by decide) ?_
                refine s_iload hX dX11_drawn_106 6 rfl ?_
                refine s_ishl hX dX11_drawn_108 ?_
                refine s_goto hX 113 dX11_drawn_109 (by decide) ?_
                exact s_to hX [1, 2, 0, 3, 4, 6] rfl (hj22 ((1 : Int32) <<< (x8_16 &&& 31)))
          · intro sq
            obtain ⟨x3_17, x7_18⟩ := sq
            refine s_cu2 ?_
            show Sim G _ _ 122 [(0, rf g 112), (1, .int x1), (3, .long x3_17), (5, .int x5_8), (6, .int x6_9), (7, .int x7_18)] [] ν10
            refine s_iload hX dX11_drawn_122 3 rfl ?_
            refine s_aload_n hX dX11_drawn_124 rfl 0 rfl ?_
            refine s_iload hX dX11_drawn_125 5 rfl ?_
            refine s_iconst (v := 0) hX dX11_drawn_127 (by decide) ?_
            refine s_aload_n hX dX11_drawn_128 rfl 0 rfl ?_
            refine s_getR hX (d := 1) 113 flX11_7 rfl rfl dX11_drawn_129 ?_
            refine s_iconst (v := 3) hX dX11_drawn_132 (by decide) ?_
            refine s_ialdK hX rfl rfl (by decide) rfl dX11_drawn_133 ?_
            refine s_iload hX dX11_drawn_134 4 rfl ?_
            refine s_iadd hX dX11_drawn_136 ?_
            refine s_aload_n hX dX11_drawn_137 rfl 0 rfl ?_
            refine s_getR hX (d := 1) 113 flX11_7 rfl rfl dX11_drawn_138 ?_
            refine s_iconst (v := 5) hX dX11_drawn_141 (by decide) ?_
            refine s_ialdK hX rfl rfl (by decide) rfl dX11_drawn_142 ?_
            refine s_callViw hX [.int x7_18, .int 0, .int ((ν10.1 113 3) + x6_9), .int (ν10.1 113 5)] (k := 112) (ci := 10) rfl hc10 vkX11_goes (fun r ν hF => c_X11_goes  hF) mkX11_goes cvX11_190 rfl rfl ⟨by omega, by decide, Nat.le_of_ble_eq_true rfl⟩ dX11_drawn_143 (fun r23 ν24 => ?_)
            refine s_iadd hX dX11_drawn_146 ?_
            refine s_istore (lv' := [(5, .int (x5_8 + r23)), (0, rf g 112), (1, .int x1), (3, .long x3_17), (6, .int x6_9), (7, .int x7_18)]) hX dX11_drawn_147 (by decide) rfl ?_
            refine s_iinc (v := (x6_9 + 1)) (lv' := [(6, .int (x6_9 + 1)), (5, .int (x5_8 + r23)), (0, rf g 112), (1, .int x1), (3, .long x3_17), (7, .int x7_18)]) hX dX11_drawn_149 4 rfl rfl (by decide) rfl ?_
            refine s_goto hX 42 dX11_drawn_152 (by decide) ?_
            exact s_end hX (hIq13 (x3_17, (x5_8 + r23), (x6_9 + 1), ν24)) [2, 3, 4, 1, 0] rfl
      · intro sq
        obtain ⟨x5_11, ν12⟩ := sq
        refine s_cu2 ?_
        show Sim G _ _ 155 [(5, .int x5_11)] [] ν12
        refine s_iload hX dX11_drawn_155 0 rfl ?_
        exact s_ireti hK hR dX11_drawn_157
    · exact s_to hX [0] rfl (hj2)
theorem dX11_fit_0 : decode cX11_fit 0 = .ok (.iload_n 1, 1) := by decide +kernel
theorem dX11_fit_1 : decode cX11_fit 1 = .ok (.i2l, 1) := by decide +kernel
theorem dX11_fit_2 : decode cX11_fit 2 = .ok (.lconst 1, 1) := by decide +kernel
theorem dX11_fit_3 : decode cX11_fit 3 = .ok (.ldc2_w 267, 3) := by decide +kernel
theorem dX11_fit_6 : decode cX11_fit 6 = .ok (.invokestatic 51, 3) := by decide +kernel
theorem dX11_fit_9 : decode cX11_fit 9 = .ok (.ifCond .eq 13, 3) := by decide +kernel
theorem dX11_fit_12 : decode cX11_fit 12 = .ok (.iload_n 2, 1) := by decide +kernel
theorem dX11_fit_13 : decode cX11_fit 13 = .ok (.i2l, 1) := by decide +kernel
theorem dX11_fit_14 : decode cX11_fit 14 = .ok (.lconst 0, 1) := by decide +kernel
theorem dX11_fit_15 : decode cX11_fit 15 = .ok (.lconst 1, 1) := by decide +kernel
theorem dX11_fit_16 : decode cX11_fit 16 = .ok (.invokestatic 51, 3) := by decide +kernel
theorem dX11_fit_19 : decode cX11_fit 19 = .ok (.ifCond .ne 11, 3) := by decide +kernel
theorem dX11_fit_22 : decode cX11_fit 22 = .ok (.aload_n 0, 1) := by decide +kernel
theorem dX11_fit_23 : decode cX11_fit 23 = .ok (.iconst 0, 1) := by decide +kernel
theorem dX11_fit_24 : decode cX11_fit 24 = .ok (.bipush (-10), 2) := by decide +kernel
theorem dX11_fit_26 : decode cX11_fit 26 = .ok (.invokevirtual 47, 3) := by decide +kernel
theorem dX11_fit_29 : decode cX11_fit 29 = .ok (.ireturn, 1) := by decide +kernel
theorem dX11_fit_30 : decode cX11_fit 30 = .ok (.iconst 0, 1) := by decide +kernel
theorem dX11_fit_31 : decode cX11_fit 31 = .ok (.istore_n 3, 1) := by decide +kernel
theorem dX11_fit_32 : decode cX11_fit 32 = .ok (.iconst (-1), 1) := by decide +kernel
theorem dX11_fit_33 : decode cX11_fit 33 = .ok (.istore 4, 2) := by decide +kernel
theorem dX11_fit_35 : decode cX11_fit 35 = .ok (.iconst 0, 1) := by decide +kernel
theorem dX11_fit_36 : decode cX11_fit 36 = .ok (.istore 5, 2) := by decide +kernel
theorem dX11_fit_38 : decode cX11_fit 38 = .ok (.iload 5, 2) := by decide +kernel
theorem dX11_fit_40 : decode cX11_fit 40 = .ok (.iconst 1, 1) := by decide +kernel
theorem dX11_fit_41 : decode cX11_fit 41 = .ok (.iconst 5, 1) := by decide +kernel
theorem dX11_fit_42 : decode cX11_fit 42 = .ok (.iload_n 1, 1) := by decide +kernel
theorem dX11_fit_43 : decode cX11_fit 43 = .ok (.imul, 1) := by decide +kernel
theorem dX11_fit_44 : decode cX11_fit 44 = .ok (.ishl, 1) := by decide +kernel
theorem dX11_fit_45 : decode cX11_fit 45 = .ok (.if_icmp .ge 136, 3) := by decide +kernel
theorem dX11_fit_48 : decode cX11_fit 48 = .ok (.aload_n 0, 1) := by decide +kernel
theorem dX11_fit_49 : decode cX11_fit 49 = .ok (.invokevirtual 187, 3) := by decide +kernel
theorem dX11_fit_52 : decode cX11_fit 52 = .ok (.iconst 1, 1) := by decide +kernel
theorem dX11_fit_53 : decode cX11_fit 53 = .ok (.istore 6, 2) := by decide +kernel
theorem dX11_fit_55 : decode cX11_fit 55 = .ok (.iconst 0, 1) := by decide +kernel
theorem dX11_fit_56 : decode cX11_fit 56 = .ok (.istore 7, 2) := by decide +kernel
theorem dX11_fit_58 : decode cX11_fit 58 = .ok (.iload 7, 2) := by decide +kernel
theorem dX11_fit_60 : decode cX11_fit 60 = .ok (.iload_n 1, 1) := by decide +kernel
theorem dX11_fit_61 : decode cX11_fit 61 = .ok (.if_icmp .ge 81, 3) := by decide +kernel
theorem dX11_fit_64 : decode cX11_fit 64 = .ok (.iload 6, 2) := by decide +kernel
theorem dX11_fit_66 : decode cX11_fit 66 = .ok (.ifCond .eq 76, 3) := by decide +kernel
theorem dX11_fit_69 : decode cX11_fit 69 = .ok (.iload 5, 2) := by decide +kernel
theorem dX11_fit_71 : decode cX11_fit 71 = .ok (.iconst 5, 1) := by decide +kernel
theorem dX11_fit_72 : decode cX11_fit 72 = .ok (.iload_n 1, 1) := by decide +kernel
theorem dX11_fit_73 : decode cX11_fit 73 = .ok (.iconst 1, 1) := by decide +kernel
theorem dX11_fit_74 : decode cX11_fit 74 = .ok (.isub, 1) := by decide +kernel
theorem dX11_fit_75 : decode cX11_fit 75 = .ok (.iload 7, 2) := by decide +kernel
theorem dX11_fit_77 : decode cX11_fit 77 = .ok (.isub, 1) := by decide +kernel
theorem dX11_fit_78 : decode cX11_fit 78 = .ok (.imul, 1) := by decide +kernel
theorem dX11_fit_79 : decode cX11_fit 79 = .ok (.ishr, 1) := by decide +kernel
theorem dX11_fit_80 : decode cX11_fit 80 = .ok (.bipush 31, 2) := by decide +kernel
theorem dX11_fit_82 : decode cX11_fit 82 = .ok (.iand, 1) := by decide +kernel
theorem dX11_fit_83 : decode cX11_fit 83 = .ok (.istore 8, 2) := by decide +kernel
theorem dX11_fit_85 : decode cX11_fit 85 = .ok (.aload_n 0, 1) := by decide +kernel
theorem dX11_fit_86 : decode cX11_fit 86 = .ok (.iload 8, 2) := by decide +kernel
theorem dX11_fit_88 : decode cX11_fit 88 = .ok (.invokevirtual 184, 3) := by decide +kernel
theorem dX11_fit_91 : decode cX11_fit 91 = .ok (.ifCond .eq 42, 3) := by decide +kernel
theorem dX11_fit_94 : decode cX11_fit 94 = .ok (.aload_n 0, 1) := by decide +kernel
theorem dX11_fit_95 : decode cX11_fit 95 = .ok (.iload 8, 2) := by decide +kernel
theorem dX11_fit_97 : decode cX11_fit 97 = .ok (.iconst 0, 1) := by decide +kernel
theorem dX11_fit_98 : decode cX11_fit 98 = .ok (.aload_n 0, 1) := by decide +kernel
theorem dX11_fit_99 : decode cX11_fit 99 = .ok (.getfield 7, 3) := by decide +kernel
theorem dX11_fit_102 : decode cX11_fit 102 = .ok (.iconst 3, 1) := by decide +kernel
theorem dX11_fit_103 : decode cX11_fit 103 = .ok (.iaload, 1) := by decide +kernel
theorem dX11_fit_104 : decode cX11_fit 104 = .ok (.iload 7, 2) := by decide +kernel
theorem dX11_fit_106 : decode cX11_fit 106 = .ok (.iadd, 1) := by decide +kernel
theorem dX11_fit_107 : decode cX11_fit 107 = .ok (.aload_n 0, 1) := by decide +kernel
theorem dX11_fit_108 : decode cX11_fit 108 = .ok (.getfield 7, 3) := by decide +kernel
theorem dX11_fit_111 : decode cX11_fit 111 = .ok (.iconst 5, 1) := by decide +kernel
theorem dX11_fit_112 : decode cX11_fit 112 = .ok (.iaload, 1) := by decide +kernel
theorem dX11_fit_113 : decode cX11_fit 113 = .ok (.invokevirtual 190, 3) := by decide +kernel
theorem dX11_fit_116 : decode cX11_fit 116 = .ok (.aload_n 0, 1) := by decide +kernel
theorem dX11_fit_117 : decode cX11_fit 117 = .ok (.getfield 7, 3) := by decide +kernel
theorem dX11_fit_120 : decode cX11_fit 120 = .ok (.bipush 71, 2) := by decide +kernel
theorem dX11_fit_122 : decode cX11_fit 122 = .ok (.iload 7, 2) := by decide +kernel
theorem dX11_fit_124 : decode cX11_fit 124 = .ok (.iadd, 1) := by decide +kernel
theorem dX11_fit_125 : decode cX11_fit 125 = .ok (.iaload, 1) := by decide +kernel
theorem dX11_fit_126 : decode cX11_fit 126 = .ok (.if_icmp .ne 7, 3) := by decide +kernel
theorem dX11_fit_129 : decode cX11_fit 129 = .ok (.iconst 1, 1) := by decide +kernel
theorem dX11_fit_130 : decode cX11_fit 130 = .ok (.goto 4, 3) := by decide +kernel
theorem dX11_fit_133 : decode cX11_fit 133 = .ok (.iconst 0, 1) := by decide +kernel
theorem dX11_fit_134 : decode cX11_fit 134 = .ok (.istore 6, 2) := by decide +kernel
theorem dX11_fit_136 : decode cX11_fit 136 = .ok (.iinc 7 1, 3) := by decide +kernel
theorem dX11_fit_139 : decode cX11_fit 139 = .ok (.goto (-81), 3) := by decide +kernel
theorem dX11_fit_142 : decode cX11_fit 142 = .ok (.iload_n 3, 1) := by decide +kernel
theorem dX11_fit_143 : decode cX11_fit 143 = .ok (.iload 6, 2) := by decide +kernel
theorem dX11_fit_145 : decode cX11_fit 145 = .ok (.ifCond .eq 7, 3) := by decide +kernel
theorem dX11_fit_148 : decode cX11_fit 148 = .ok (.iconst 1, 1) := by decide +kernel
theorem dX11_fit_149 : decode cX11_fit 149 = .ok (.goto 4, 3) := by decide +kernel
theorem dX11_fit_152 : decode cX11_fit 152 = .ok (.iconst 0, 1) := by decide +kernel
theorem dX11_fit_153 : decode cX11_fit 153 = .ok (.iadd, 1) := by decide +kernel
theorem dX11_fit_154 : decode cX11_fit 154 = .ok (.istore_n 3, 1) := by decide +kernel
theorem dX11_fit_155 : decode cX11_fit 155 = .ok (.iload 6, 2) := by decide +kernel
theorem dX11_fit_157 : decode cX11_fit 157 = .ok (.ifCond .eq 14, 3) := by decide +kernel
theorem dX11_fit_160 : decode cX11_fit 160 = .ok (.iload 4, 2) := by decide +kernel
theorem dX11_fit_162 : decode cX11_fit 162 = .ok (.iconst (-1), 1) := by decide +kernel
theorem dX11_fit_163 : decode cX11_fit 163 = .ok (.if_icmp .ne 8, 3) := by decide +kernel
theorem dX11_fit_166 : decode cX11_fit 166 = .ok (.iload 5, 2) := by decide +kernel
theorem dX11_fit_168 : decode cX11_fit 168 = .ok (.goto 5, 3) := by decide +kernel
theorem dX11_fit_171 : decode cX11_fit 171 = .ok (.iload 4, 2) := by decide +kernel
theorem dX11_fit_173 : decode cX11_fit 173 = .ok (.istore 4, 2) := by decide +kernel
theorem dX11_fit_175 : decode cX11_fit 175 = .ok (.iinc 5 1, 3) := by decide +kernel
theorem dX11_fit_178 : decode cX11_fit 178 = .ok (.goto (-140), 3) := by decide +kernel
theorem dX11_fit_181 : decode cX11_fit 181 = .ok (.iload_n 2, 1) := by decide +kernel
theorem dX11_fit_182 : decode cX11_fit 182 = .ok (.ifCond .ne 7, 3) := by decide +kernel
theorem dX11_fit_185 : decode cX11_fit 185 = .ok (.iload_n 3, 1) := by decide +kernel
theorem dX11_fit_186 : decode cX11_fit 186 = .ok (.goto 5, 3) := by decide +kernel
theorem dX11_fit_189 : decode cX11_fit 189 = .ok (.iload 4, 2) := by decide +kernel
theorem dX11_fit_191 : decode cX11_fit 191 = .ok (.ireturn, 1) := by decide +kernel
noncomputable def f_X11_fit (x1 : Int32) (x2 : Int32) (μ : Mem) : Option (Int32 × Mem) :=
  bd (f_X11_in ((x1 : Int32).toInt64) 1 3) fun r1 =>
  jn (
    bd2 (f_X11_refuses 0 (-10) μ) fun r3 ν4 =>
    some (r3, ν4)
    ) fun j2 =>
  if r1 = 0 then
    j2
  else
    bd (f_X11_in ((x2 : Int32).toInt64) 0 1) fun r5 =>
    if r5 = 0 then
      j2
    else
      bd (lp (ε := Int32 × Int32 × Mem) (cu4 fun (x3_6 : Int32) (x4_7 : Int32) (x5_8 : Int32) (ν9 : Mem) =>
        if x5_8 < ((1 : Int32) <<< ((5 * x1) &&& 31)) then
          bd (f_X11_asNow  ν9) fun ν14 =>
          bd (lp (ε := Int32 × Mem) (cu3 fun (x6_15 : Int32) (x7_16 : Int32) (ν17 : Mem) =>
            if x7_16 < x1 then
              if x6_15 = 0 then
                some (.inr (x6_15, ν17))
              else
                lt ((x5_8 >>> ((5 * ((x1 - 1) - x7_16)) &&& 31)) &&& 31) fun x8_21 =>
                bd (f_X11_isSet x8_21 ν17) fun r22 =>
                jn (fun (y23 : Int32) (ν24 : Mem) =>
                  some (.inl (y23, (x7_16 + 1), ν24))
                  ) fun j25 =>
                jn (fun (ν26 : Mem) =>
                  j25 0 ν26
                  ) fun j27 =>
                if r22 = 0 then
                  j27 ν17
                else
                  bd2 (f_X11_goes x8_21 0 ((ν17.1 113 3) + x7_16) (ν17.1 113 5) ν17) fun r28 ν29 =>
                  chk (71 + x7_16) 184 (
                    if r28 = (ν29.1 113 (ix (71 + x7_16))) then
                      j25 1 ν29
                    else
                      j27 ν29
                    )
            else
              some (.inr (x6_15, ν17))
            ) (1, 0, ν14)) (cu2 fun (x6_18 : Int32) (ν19 : Mem) =>
            jn (fun (y30 : Int32) =>
              jn (fun (y32 : Int32) =>
                some (.inl ((x3_6 + y30), y32, (x5_8 + 1), ν19))
                ) fun j33 =>
              jn (
                j33 x4_7
                ) fun j34 =>
              if x6_18 = 0 then
                j34
              else
                if x4_7 = (-1) then
                  j33 x5_8
                else
                  j34
              ) fun j31 =>
            if x6_18 = 0 then
              j31 0
            else
              j31 1
            )
        else
          some (.inr (x3_6, x4_7, ν9))
        ) (0, (-1), 0, μ)) (cu3 fun (x3_10 : Int32) (x4_11 : Int32) (ν12 : Mem) =>
        jn (fun (y35 : Int32) =>
          some (y35, ν12)
          ) fun j36 =>
        if x2 = 0 then
          j36 x3_10
        else
          j36 x4_11
        )
set_option maxHeartbeats 4000000 in
set_option maxRecDepth 100000 in
theorem c_X11_fit {g : GT} {x1 : Int32} {x2 : Int32} {μ : Mem} {μ0 : Mem} {r0 : Int32} (hf : f_X11_fit x1 x2 μ = some (r0, μ0)) : CI g yX11_fit cX11_fit 9 (some .int) 5 [rf g 112, .int x1, .int x2] μ r0 μ0 := by
  refine mk_i (by decide) (Nat.le_of_ble_eq_true rfl) ?_
  intro G hX hR
  have hX : CX g G cX11_fit RX11 9 5 := hX
  suffices S : ∀ K : (Int32 × Mem) → Prop, (∀ a, K a → a = (r0, μ0)) → Sim G (f_X11_fit x1 x2 μ) K 0 [(0, rf g 112), (1, .int x1), (2, .int x2)] [] μ from S (fun a => a = (r0, μ0)) (fun a h => h) _ hf rfl
  intro K hK
  unfold f_X11_fit
  refine s_iload_n hX dX11_fit_0 rfl 1 rfl ?_
  refine s_i2l hX dX11_fit_1 ?_
  refine s_lconst (v := 1) hX dX11_fit_2 (by decide) ?_
  refine s_ldc2 hX dX11_fit_3 klX11_267 ?_
  refine s_callSir hX [.long (x1 : Int32).toInt64, .long 1, .long 3] skX11_in (fun r hF => c_X11_in  hF) mkX11_in cvX11_51 rfl rfl ⟨by omega, by decide, Nat.le_of_ble_eq_true rfl⟩ dX11_fit_6 (fun r1 => ?_)
  refine s_jn (C := fun j => Sim G (j) K 22 [(0, rf g 112)] [] μ) ?_ (fun j2 hj2 => ?_)
  · skip
    show Sim G _ _ 22 [(0, rf g 112)] [] μ
    refine s_aload_n hX dX11_fit_22 rfl 0 rfl ?_
    refine s_iconst (v := 0) hX dX11_fit_23 (by decide) ?_
    refine s_bipush (v := (-10)) hX dX11_fit_24 (by decide) ?_
    refine s_callViw hX [.int 0, .int (-10)] (k := 112) (ci := 10) rfl hc10 vkX11_refuses (fun r ν hF => c_X11_refuses  hF) mkX11_refuses cvX11_47 rfl rfl ⟨by omega, by decide, Nat.le_of_ble_eq_true rfl⟩ dX11_fit_26 (fun r3 ν4 => ?_)
    exact s_ireti hK hR dX11_fit_29
  refine s_if_eq hX 22 dX11_fit_9 (by decide) ?_ ?_
  · exact s_to hX [0] rfl (hj2)
  · refine s_iload_n hX dX11_fit_12 rfl 2 rfl ?_
    refine s_i2l hX dX11_fit_13 ?_
    refine s_lconst (v := 0) hX dX11_fit_14 (by decide) ?_
    refine s_lconst (v := 1) hX dX11_fit_15 (by decide) ?_
    refine s_callSir hX [.long (x2 : Int32).toInt64, .long 0, .long 1] skX11_in (fun r hF => c_X11_in  hF) mkX11_in cvX11_51 rfl rfl ⟨by omega, by decide, Nat.le_of_ble_eq_true rfl⟩ dX11_fit_16 (fun r5 => ?_)
    refine s_if_ne hX 30 dX11_fit_19 (by decide) ?_ ?_
    · refine s_iconst (v := 0) hX dX11_fit_30 (by decide) ?_
      refine s_istore_n (lv' := [(3, .int 0), (0, rf g 112), (1, .int x1), (2, .int x2)]) hX dX11_fit_31 rfl (by decide) rfl ?_
      refine s_iconst (v := (-1)) hX dX11_fit_32 (by decide) ?_
      refine s_istore (lv' := [(4, .int (-1)), (3, .int 0), (0, rf g 112), (1, .int x1), (2, .int x2)]) hX dX11_fit_33 (by decide) rfl ?_
      refine s_iconst (v := 0) hX dX11_fit_35 (by decide) ?_
      refine s_istore (lv' := [(5, .int 0), (4, .int (-1)), (3, .int 0), (0, rf g 112), (1, .int x1), (2, .int x2)]) hX dX11_fit_36 (by decide) rfl ?_
      refine s_loop hX 38 181 (fun s : Int32 × Int32 × Int32 × Mem => [(0, rf g 112), (1, .int x1), (2, .int x2), (3, .int s.1), (4, .int s.2.1), (5, .int s.2.2.1)]) (fun s : Int32 × Int32 × Int32 × Mem => s.2.2.2) (fun s : Int32 × Int32 × Mem => [(2, .int x2), (3, .int s.1), (4, .int s.2.1)]) (fun s : Int32 × Int32 × Mem => s.2.2) [3, 4, 5, 2, 1, 0] rfl rfl rfl ?_ ?_
      · intro Kq13 hIq13 hJq13 sq
        obtain ⟨x3_6, x4_7, x5_8, ν9⟩ := sq
        refine s_cu4 ?_
        show Sim G _ _ 38 [(0, rf g 112), (1, .int x1), (2, .int x2), (3, .int x3_6), (4, .int x4_7), (5, .int x5_8)] [] ν9
        refine s_iload hX dX11_fit_38 5 rfl ?_
        refine s_iconst (v := 1) hX dX11_fit_40 (by decide) ?_
        refine s_iconst (v := 5) hX dX11_fit_41 (by decide) ?_
        refine s_iload_n hX dX11_fit_42 rfl 1 rfl ?_
        refine s_imul hX dX11_fit_43 ?_
        refine s_ishl hX dX11_fit_44 ?_
        refine s_icmp_ge hX 181 dX11_fit_45 (by decide) ?_ ?_
        · exact s_end hX (hJq13 (x3_6, x4_7, ν9)) [2, 3, 4] rfl
        · refine s_aload_n hX dX11_fit_48 rfl 0 rfl ?_
          refine s_callVvw hX [] (k := 112) (ci := 10) rfl hc10 vkX11_asNow (fun ν hF => c_X11_asNow  hF) mkX11_asNow cvX11_187 rfl rfl ⟨by omega, by decide, Nat.le_of_ble_eq_true rfl⟩ dX11_fit_49 (fun ν14 => ?_)
          refine s_iconst (v := 1) hX dX11_fit_52 (by decide) ?_
          refine s_istore (lv' := [(6, .int 1), (0, rf g 112), (1, .int x1), (2, .int x2), (3, .int x3_6), (4, .int x4_7), (5, .int x5_8)]) hX dX11_fit_53 (by decide) rfl ?_
          refine s_iconst (v := 0) hX dX11_fit_55 (by decide) ?_
          refine s_istore (lv' := [(7, .int 0), (6, .int 1), (0, rf g 112), (1, .int x1), (2, .int x2), (3, .int x3_6), (4, .int x4_7), (5, .int x5_8)]) hX dX11_fit_56 (by decide) rfl ?_
          refine s_loop hX 58 142 (fun s : Int32 × Int32 × Mem => [(0, rf g 112), (1, .int x1), (2, .int x2), (3, .int x3_6), (4, .int x4_7), (5, .int x5_8), (6, .int s.1), (7, .int s.2.1)]) (fun s : Int32 × Int32 × Mem => s.2.2) (fun s : Int32 × Mem => [(0, rf g 112), (1, .int x1), (2, .int x2), (3, .int x3_6), (4, .int x4_7), (5, .int x5_8), (6, .int s.1)]) (fun s : Int32 × Mem => s.2) [2, 3, 4, 5, 6, 7, 1, 0] rfl rfl rfl ?_ ?_
          · intro Kq20 hIq20 hJq20 sq
            obtain ⟨x6_15, x7_16, ν17⟩ := sq
            refine s_cu3 ?_
            show Sim G _ _ 58 [(0, rf g 112), (1, .int x1), (2, .int x2), (3, .int x3_6), (4, .int x4_7), (5, .int x5_8), (6, .int x6_15), (7, .int x7_16)] [] ν17
            refine s_iload hX dX11_fit_58 7 rfl ?_
            refine s_iload_n hX dX11_fit_60 rfl 1 rfl ?_
            refine s_icmp_ge hX 142 dX11_fit_61 (by decide) ?_ ?_
            · exact s_end hX (hJq20 (x6_15, ν17)) [0, 1, 2, 3, 4, 5, 6] rfl
            · refine s_iload hX dX11_fit_64 6 rfl ?_
              refine s_if_eq hX 142 dX11_fit_66 (by decide) ?_ ?_
              · exact s_end hX (hJq20 (x6_15, ν17)) [0, 1, 2, 3, 4, 5, 6] rfl
              · refine s_iload hX dX11_fit_69 5 rfl ?_
                refine s_iconst (v := 5) hX dX11_fit_71 (by decide) ?_
                refine s_iload_n hX dX11_fit_72 rfl 1 rfl ?_
                refine s_iconst (v := 1) hX dX11_fit_73 (by decide) ?_
                refine s_isub hX dX11_fit_74 ?_
                refine s_iload hX dX11_fit_75 7 rfl ?_
                refine s_isub hX dX11_fit_77 ?_
                refine s_imul hX dX11_fit_78 ?_
                refine s_ishr hX dX11_fit_79 ?_
                refine s_bipush (v := 31) hX dX11_fit_80 (by decide) ?_
                refine s_iand hX dX11_fit_82 ?_
                refine s_lti (fun x8_21 => ?_)
                refine s_istore (lv' := [(8, .int x8_21), (0, rf g 112), (1, .int x1), (2, .int x2), (3, .int x3_6), (4, .int x4_7), (5, .int x5_8), (6, .int x6_15), (7, .int x7_16)]) hX dX11_fit_83 (by decide) rfl ?_
                refine s_aload_n hX dX11_fit_85 rfl 1 rfl ?_
                refine s_iload hX dX11_fit_86 0 rfl ?_
                refine s_callVir hX [.int x8_21] (k := 112) (ci := 10) rfl hc10 vkX11_isSet (fun r hF => c_X11_isSet  hF) mkX11_isSet cvX11_184 rfl rfl ⟨by omega, by decide, Nat.le_of_ble_eq_true rfl⟩ dX11_fit_88 (fun r22 => ?_)
                refine s_jn (C := fun j => ∀ (y23 : Int32) (ν24 : Mem), Sim G (j y23 ν24) Kq20 134 [(0, rf g 112), (1, .int x1), (2, .int x2), (3, .int x3_6), (4, .int x4_7), (5, .int x5_8), (7, .int x7_16)] [.int y23] ν24) ?_ (fun j25 hj25 => ?_)
                · intro y23 ν24
                  show Sim G _ _ 134 [(0, rf g 112), (1, .int x1), (2, .int x2), (3, .int x3_6), (4, .int x4_7), (5, .int x5_8), (7, .int x7_16)] [.int y23] ν24
                  refine s_istore (lv' := [(6, .int y23), (0, rf g 112), (1, .int x1), (2, .int x2), (3, .int x3_6), (4, .int x4_7), (5, .int x5_8), (7, .int x7_16)]) hX dX11_fit_134 (by decide) rfl ?_
                  refine s_iinc (v := (x7_16 + 1)) (lv' := [(7, .int (x7_16 + 1)), (6, .int y23), (0, rf g 112), (1, .int x1), (2, .int x2), (3, .int x3_6), (4, .int x4_7), (5, .int x5_8)]) hX dX11_fit_136 7 rfl rfl (by decide) rfl ?_
                  refine s_goto hX 58 dX11_fit_139 (by decide) ?_
                  exact s_end hX (hIq20 (y23, (x7_16 + 1), ν24)) [2, 3, 4, 5, 6, 7, 1, 0] rfl
                refine s_jn (C := fun j => ∀ (ν26 : Mem), Sim G (j ν26) Kq20 133 [(0, rf g 112), (1, .int x1), (2, .int x2), (3, .int x3_6), (4, .int x4_7), (5, .int x5_8), (7, .int x7_16)] [] ν26) ?_ (fun j27 hj27 => ?_)
                · intro ν26
                  show Sim G _ _ 133 [(0, rf g 112), (1, .int x1), (2, .int x2), (3, .int x3_6), (4, .int x4_7), (5, .int x5_8), (7, .int x7_16)] [] ν26
                  refine s_iconst (v := 0) hX dX11_fit_133 (by decide) ?_
                  exact s_to hX [0, 1, 2, 3, 4, 5, 6] rfl (hj25 0 ν26)
                refine s_if_eq hX 133 dX11_fit_91 (by decide) ?_ ?_
                · exact s_to hX [1, 2, 3, 4, 5, 6, 8] rfl (hj27 ν17)
                · refine s_aload_n hX dX11_fit_94 rfl 1 rfl ?_
                  refine s_iload hX dX11_fit_95 0 rfl ?_
                  refine s_iconst (v := 0) hX dX11_fit_97 (by decide) ?_
                  refine s_aload_n hX dX11_fit_98 rfl 1 rfl ?_
                  refine s_getR hX (d := 1) 113 flX11_7 rfl rfl dX11_fit_99 ?_
                  refine s_iconst (v := 3) hX dX11_fit_102 (by decide) ?_
                  refine s_ialdK hX rfl rfl (by decide) rfl dX11_fit_103 ?_
                  refine s_iload hX dX11_fit_104 8 rfl ?_
                  refine s_iadd hX dX11_fit_106 ?_
                  refine s_aload_n hX dX11_fit_107 rfl 1 rfl ?_
                  refine s_getR hX (d := 1) 113 flX11_7 rfl rfl dX11_fit_108 ?_
                  refine s_iconst (v := 5) hX dX11_fit_111 (by decide) ?_
                  refine s_ialdK hX rfl rfl (by decide) rfl dX11_fit_112 ?_
                  refine s_callViw hX [.int x8_21, .int 0, .int ((ν17.1 113 3) + x7_16), .int (ν17.1 113 5)] (k := 112) (ci := 10) rfl hc10 vkX11_goes (fun r ν hF => c_X11_goes  hF) mkX11_goes cvX11_190 rfl rfl ⟨by omega, by decide, Nat.le_of_ble_eq_true rfl⟩ dX11_fit_113 (fun r28 ν29 => ?_)
                  refine s_aload_n hX dX11_fit_116 rfl 1 rfl ?_
                  refine s_getR hX (d := 1) 113 flX11_7 rfl rfl dX11_fit_117 ?_
                  refine s_bipush (v := 71) hX dX11_fit_120 (by decide) ?_
                  refine s_iload hX dX11_fit_122 8 rfl ?_
                  refine s_iadd hX dX11_fit_124 ?_
                  refine s_iald hX rfl rfl dX11_fit_125 ?_
                  refine s_icmp_ne hX 133 dX11_fit_126 (by decide) ?_ ?_
                  · exact s_to hX [1, 2, 3, 4, 5, 6, 8] rfl (hj27 ν29)
                  · refine s_iconst (v := 1) hX dX11_fit_129 (by decide) ?_
                    refine s_goto hX 134 dX11_fit_130 (by decide) ?_
                    exact s_to hX [1, 2, 3, 4, 5, 6, 8] rfl (hj25 1 ν29)
          · intro sq
            obtain ⟨x6_18, ν19⟩ := sq
            refine s_cu2 ?_
            show Sim G _ _ 142 [(0, rf g 112), (1, .int x1), (2, .int x2), (3, .int x3_6), (4, .int x4_7), (5, .int x5_8), (6, .int x6_18)] [] ν19
            refine s_iload_n hX dX11_fit_142 rfl 3 rfl ?_
            refine s_iload hX dX11_fit_143 6 rfl ?_
            refine s_jn (C := fun j => ∀ (y30 : Int32), Sim G (j y30) Kq13 153 [(0, rf g 112), (1, .int x1), (2, .int x2), (4, .int x4_7), (5, .int x5_8), (6, .int x6_18)] [.int y30, .int x3_6] ν19) ?_ (fun j31 hj31 => ?_)
            · intro y30
              show Sim G _ _ 153 [(0, rf g 112), (1, .int x1), (2, .int x2), (4, .int x4_7), (5, .int x5_8), (6, .int x6_18)] [.int y30, .int x3_6] ν19
              refine s_iadd hX dX11_fit_153 ?_
              refine s_istore_n (lv' := [(3, .int (x3_6 + y30)), (0, rf g 112), (1, .int x1), (2, .int x2), (4, .int x4_7), (5, .int x5_8), (6, .int x6_18)]) hX dX11_fit_154 rfl (by decide) rfl ?_
              refine s_iload hX dX11_fit_155 6 rfl ?_
              refine s_jn (C := fun j => ∀ (y32 : Int32), Sim G (j y32) Kq13 173 [(0, rf g 112), (1, .int x1), (2, .int x2), (3, .int (x3_6 + y30)), (5, .int x5_8)] [.int y32] ν19) ?_ (fun j33 hj33 => ?_)
              · intro y32
                show Sim G _ _ 173 [(0, rf g 112), (1, .int x1), (2, .int x2), (3, .int (x3_6 + y30)), (5, .int x5_8)] [.int y32] ν19
                refine s_istore (lv' := [(4, .int y32), (0, rf g 112), (1, .int x1), (2, .int x2), (3, .int (x3_6 + y30)), (5, .int x5_8)]) hX dX11_fit_173 (by decide) rfl ?_
                refine s_iinc (v := (x5_8 + 1)) (lv' := [(5, .int (x5_8 + 1)), (4, .int y32), (0, rf g 112), (1, .int x1), (2, .int x2), (3, .int (x3_6 + y30))]) hX dX11_fit_175 5 rfl rfl (by decide) rfl ?_
                refine s_goto hX 38 dX11_fit_178 (by decide) ?_
                exact s_end hX (hIq13 ((x3_6 + y30), y32, (x5_8 + 1), ν19)) [2, 3, 4, 5, 1, 0] rfl
              refine s_jn (C := fun j => Sim G (j) Kq13 171 [(0, rf g 112), (1, .int x1), (2, .int x2), (3, .int (x3_6 + y30)), (4, .int x4_7), (5, .int x5_8)] [] ν19) ?_ (fun j34 hj34 => ?_)
              · skip
                show Sim G _ _ 171 [(0, rf g 112), (1, .int x1), (2, .int x2), (3, .int (x3_6 + y30)), (4, .int x4_7), (5, .int x5_8)] [] ν19
                refine s_iload hX dX11_fit_171 4 rfl ?_
                exact s_to hX [0, 1, 2, 3, 5] rfl (hj33 x4_7)
              refine s_if_eq hX 171 dX11_fit_157 (by decide) ?_ ?_
              · exact s_to hX [1, 2, 3, 0, 4, 5] rfl (hj34)
              · refine s_iload hX dX11_fit_160 4 rfl ?_
                refine s_iconst (v := (-1)) hX dX11_fit_162 (by decide) ?_
                refine s_icmp_ne hX 171 dX11_fit_163 (by decide) ?_ ?_
                · exact s_to hX [1, 2, 3, 0, 4, 5] rfl (hj34)
                · refine s_iload hX dX11_fit_166 5 rfl ?_
                  refine s_goto hX 173 dX11_fit_168 (by decide) ?_
                  exact s_to hX [1, 2, 3, 0, 5] rfl (hj33 x5_8)
            refine s_if_eq hX 152 dX11_fit_145 (by decide) ?_ ?_
            · refine s_iconst (v := 0) hX dX11_fit_152 (by decide) ?_
              exact s_to hX [0, 1, 2, 4, 5, 6] rfl (hj31 0)
            · refine s_iconst (v := 1) hX dX11_fit_148 (by decide) ?_
              refine s_goto hX 153 dX11_fit_149 (by decide) ?_
              exact s_to hX [0, 1, 2, 4, 5, 6] rfl (hj31 1)
      · intro sq
        obtain ⟨x3_10, x4_11, ν12⟩ := sq
        refine s_cu3 ?_
        show Sim G _ _ 181 [(2, .int x2), (3, .int x3_10), (4, .int x4_11)] [] ν12
        refine s_iload_n hX dX11_fit_181 rfl 0 rfl ?_
        refine s_jn (C := fun j => ∀ (y35 : Int32), Sim G (j y35) K 191 [] [.int y35] ν12) ?_ (fun j36 hj36 => ?_)
        · intro y35
          show Sim G _ _ 191 [] [.int y35] ν12
          exact s_ireti hK hR dX11_fit_191
        refine s_if_ne hX 189 dX11_fit_182 (by decide) ?_ ?_
        · refine s_iload hX dX11_fit_189 2 rfl ?_
          exact s_to hX [] rfl (hj36 x4_11)
        · refine s_iload_n hX dX11_fit_185 rfl 1 rfl ?_
          refine s_goto hX 191 dX11_fit_186 (by decide) ?_
          exact s_to hX [] rfl (hj36 x3_10)
    · exact s_to hX [0] rfl (hj2)
theorem dX11_league_0 : decode cX11_league 0 = .ok (.aload_n 0, 1) := by decide +kernel
theorem dX11_league_1 : decode cX11_league 1 = .ok (.iload_n 1, 1) := by decide +kernel
theorem dX11_league_2 : decode cX11_league 2 = .ok (.invokevirtual 184, 3) := by decide +kernel
theorem dX11_league_5 : decode cX11_league 5 = .ok (.ifCond .ne 8, 3) := by decide +kernel
theorem dX11_league_8 : decode cX11_league 8 = .ok (.aload_n 0, 1) := by decide +kernel
theorem dX11_league_9 : decode cX11_league 9 = .ok (.invokevirtual 61, 3) := by decide +kernel
theorem dX11_league_12 : decode cX11_league 12 = .ok (.ireturn, 1) := by decide +kernel
theorem dX11_league_13 : decode cX11_league 13 = .ok (.aload_n 0, 1) := by decide +kernel
theorem dX11_league_14 : decode cX11_league 14 = .ok (.invokevirtual 187, 3) := by decide +kernel
theorem dX11_league_17 : decode cX11_league 17 = .ok (.aload_n 0, 1) := by decide +kernel
theorem dX11_league_18 : decode cX11_league 18 = .ok (.iload_n 1, 1) := by decide +kernel
theorem dX11_league_19 : decode cX11_league 19 = .ok (.invokevirtual 202, 3) := by decide +kernel
theorem dX11_league_22 : decode cX11_league 22 = .ok (.ireturn, 1) := by decide +kernel
noncomputable def f_X11_league (x1 : Int32) (μ : Mem) : Option (Int32 × Mem) :=
  bd (f_X11_isSet x1 μ) fun r1 =>
  if r1 = 0 then
    bd2 (f_X11_bad  μ) fun r4 ν5 =>
    some (r4, ν5)
  else
    bd (f_X11_asNow  μ) fun ν2 =>
    bd (f_X11_takenNow x1 ν2) fun r3 =>
    some (r3, ν2)
set_option maxHeartbeats 4000000 in
set_option maxRecDepth 100000 in
theorem c_X11_league {g : GT} {x1 : Int32} {μ : Mem} {μ0 : Mem} {r0 : Int32} (hf : f_X11_league x1 μ = some (r0, μ0)) : CI g yX11_league cX11_league 2 (some .int) 5 [rf g 112, .int x1] μ r0 μ0 := by
  refine mk_i (by decide) (Nat.le_of_ble_eq_true rfl) ?_
  intro G hX hR
  have hX : CX g G cX11_league RX11 2 5 := hX
  suffices S : ∀ K : (Int32 × Mem) → Prop, (∀ a, K a → a = (r0, μ0)) → Sim G (f_X11_league x1 μ) K 0 [(0, rf g 112), (1, .int x1)] [] μ from S (fun a => a = (r0, μ0)) (fun a h => h) _ hf rfl
  intro K hK
  unfold f_X11_league
  refine s_aload_n hX dX11_league_0 rfl 0 rfl ?_
  refine s_iload_n hX dX11_league_1 rfl 1 rfl ?_
  refine s_callVir hX [.int x1] (k := 112) (ci := 10) rfl hc10 vkX11_isSet (fun r hF => c_X11_isSet  hF) mkX11_isSet cvX11_184 rfl rfl ⟨by omega, by decide, Nat.le_of_ble_eq_true rfl⟩ dX11_league_2 (fun r1 => ?_)
  refine s_if_ne hX 13 dX11_league_5 (by decide) ?_ ?_
  · refine s_aload_n hX dX11_league_13 rfl 0 rfl ?_
    refine s_callVvw hX [] (k := 112) (ci := 10) rfl hc10 vkX11_asNow (fun ν hF => c_X11_asNow  hF) mkX11_asNow cvX11_187 rfl rfl ⟨by omega, by decide, Nat.le_of_ble_eq_true rfl⟩ dX11_league_14 (fun ν2 => ?_)
    refine s_aload_n hX dX11_league_17 rfl 0 rfl ?_
    refine s_iload_n hX dX11_league_18 rfl 1 rfl ?_
    refine s_callVir hX [.int x1] (k := 112) (ci := 10) rfl hc10 vkX11_takenNow (fun r hF => c_X11_takenNow  hF) mkX11_takenNow cvX11_202 rfl rfl ⟨by omega, by decide, Nat.le_of_ble_eq_true rfl⟩ dX11_league_19 (fun r3 => ?_)
    exact s_ireti hK hR dX11_league_22
  · refine s_aload_n hX dX11_league_8 rfl 0 rfl ?_
    refine s_callViw hX [] (k := 112) (ci := 10) rfl hc10 vkX11_bad (fun r ν hF => c_X11_bad  hF) mkX11_bad cvX11_61 rfl rfl ⟨by omega, by decide, Nat.le_of_ble_eq_true rfl⟩ dX11_league_9 (fun r4 ν5 => ?_)
    exact s_ireti hK hR dX11_league_12
theorem dX11_mean_0 : decode cX11_mean 0 = .ok (.iload_n 1, 1) := by decide +kernel
theorem dX11_mean_1 : decode cX11_mean 1 = .ok (.iconst (-1), 1) := by decide +kernel
theorem dX11_mean_2 : decode cX11_mean 2 = .ok (.if_icmp .eq 16, 3) := by decide +kernel
theorem dX11_mean_5 : decode cX11_mean 5 = .ok (.aload_n 0, 1) := by decide +kernel
theorem dX11_mean_6 : decode cX11_mean 6 = .ok (.iload_n 1, 1) := by decide +kernel
theorem dX11_mean_7 : decode cX11_mean 7 = .ok (.invokevirtual 55, 3) := by decide +kernel
theorem dX11_mean_10 : decode cX11_mean 10 = .ok (.ifCond .ne 8, 3) := by decide +kernel
theorem dX11_mean_13 : decode cX11_mean 13 = .ok (.aload_n 0, 1) := by decide +kernel
theorem dX11_mean_14 : decode cX11_mean 14 = .ok (.invokevirtual 61, 3) := by decide +kernel
theorem dX11_mean_17 : decode cX11_mean 17 = .ok (.ireturn, 1) := by decide +kernel
theorem dX11_mean_18 : decode cX11_mean 18 = .ok (.aload_n 0, 1) := by decide +kernel
theorem dX11_mean_19 : decode cX11_mean 19 = .ok (.aload_n 0, 1) := by decide +kernel
theorem dX11_mean_20 : decode cX11_mean 20 = .ok (.iload_n 1, 1) := by decide +kernel
theorem dX11_mean_21 : decode cX11_mean 21 = .ok (.iconst (-1), 1) := by decide +kernel
theorem dX11_mean_22 : decode cX11_mean 22 = .ok (.iconst 0, 1) := by decide +kernel
theorem dX11_mean_23 : decode cX11_mean 23 = .ok (.invokevirtual 240, 3) := by decide +kernel
theorem dX11_mean_26 : decode cX11_mean 26 = .ok (.aload_n 0, 1) := by decide +kernel
theorem dX11_mean_27 : decode cX11_mean 27 = .ok (.invokevirtual 232, 3) := by decide +kernel
theorem dX11_mean_30 : decode cX11_mean 30 = .ok (.invokevirtual 236, 3) := by decide +kernel
theorem dX11_mean_33 : decode cX11_mean 33 = .ok (.ireturn, 1) := by decide +kernel
noncomputable def f_X11_mean (x1 : Int32) (μ : Mem) : Option (Int32 × Mem) :=
  jn (
    bd2 (f_X11_meanOf x1 (-1) 0 μ) fun r2 ν3 =>
    bd (f_X11_whole  ν3) fun r4 =>
    bd2 (f_X11_keeps r2 r4 ν3) fun r5 ν6 =>
    some (r5, ν6)
    ) fun j1 =>
  if x1 = (-1) then
    j1
  else
    bd (f_X11_isVillage x1 μ) fun r7 =>
    if r7 = 0 then
      bd2 (f_X11_bad  μ) fun r8 ν9 =>
      some (r8, ν9)
    else
      j1
set_option maxHeartbeats 4000000 in
set_option maxRecDepth 100000 in
theorem c_X11_mean {g : GT} {x1 : Int32} {μ : Mem} {μ0 : Mem} {r0 : Int32} (hf : f_X11_mean x1 μ = some (r0, μ0)) : CI g yX11_mean cX11_mean 2 (some .int) 5 [rf g 112, .int x1] μ r0 μ0 := by
  refine mk_i (by decide) (Nat.le_of_ble_eq_true rfl) ?_
  intro G hX hR
  have hX : CX g G cX11_mean RX11 2 5 := hX
  suffices S : ∀ K : (Int32 × Mem) → Prop, (∀ a, K a → a = (r0, μ0)) → Sim G (f_X11_mean x1 μ) K 0 [(0, rf g 112), (1, .int x1)] [] μ from S (fun a => a = (r0, μ0)) (fun a h => h) _ hf rfl
  intro K hK
  unfold f_X11_mean
  refine s_iload_n hX dX11_mean_0 rfl 1 rfl ?_
  refine s_iconst (v := (-1)) hX dX11_mean_1 (by decide) ?_
  refine s_jn (C := fun j => Sim G (j) K 18 [(0, rf g 112), (1, .int x1)] [] μ) ?_ (fun j1 hj1 => ?_)
  · skip
    show Sim G _ _ 18 [(0, rf g 112), (1, .int x1)] [] μ
    refine s_aload_n hX dX11_mean_18 rfl 0 rfl ?_
    refine s_aload_n hX dX11_mean_19 rfl 0 rfl ?_
    refine s_iload_n hX dX11_mean_20 rfl 1 rfl ?_
    refine s_iconst (v := (-1)) hX dX11_mean_21 (by decide) ?_
    refine s_iconst (v := 0) hX dX11_mean_22 (by decide) ?_
    refine s_callVlw hX [.int x1, .int (-1), .int 0] (k := 112) (ci := 10) rfl hc10 vkX11_meanOf (fun r ν hF => c_X11_meanOf  hF) mkX11_meanOf cvX11_240 rfl rfl ⟨by omega, by decide, Nat.le_of_ble_eq_true rfl⟩ dX11_mean_23 (fun r2 ν3 => ?_)
    refine s_aload_n hX dX11_mean_26 rfl 0 rfl ?_
    refine s_callVlr hX [] (k := 112) (ci := 10) rfl hc10 vkX11_whole (fun r hF => c_X11_whole  hF) mkX11_whole cvX11_232 rfl rfl ⟨by omega, by decide, Nat.le_of_ble_eq_true rfl⟩ dX11_mean_27 (fun r4 => ?_)
    refine s_callViw hX [.long r2, .long r4] (k := 112) (ci := 10) rfl hc10 vkX11_keeps (fun r ν hF => c_X11_keeps  hF) mkX11_keeps cvX11_236 rfl rfl ⟨by omega, by decide, Nat.le_of_ble_eq_true rfl⟩ dX11_mean_30 (fun r5 ν6 => ?_)
    exact s_ireti hK hR dX11_mean_33
  refine s_icmp_eq hX 18 dX11_mean_2 (by decide) ?_ ?_
  · exact s_to hX [0, 1] rfl (hj1)
  · refine s_aload_n hX dX11_mean_5 rfl 0 rfl ?_
    refine s_iload_n hX dX11_mean_6 rfl 1 rfl ?_
    refine s_callVir hX [.int x1] (k := 112) (ci := 10) rfl hc10 vkX11_isVillage (fun r hF => c_X11_isVillage  hF) mkX11_isVillage cvX11_55 rfl rfl ⟨by omega, by decide, Nat.le_of_ble_eq_true rfl⟩ dX11_mean_7 (fun r7 => ?_)
    refine s_if_ne hX 18 dX11_mean_10 (by decide) ?_ ?_
    · exact s_to hX [0, 1] rfl (hj1)
    · refine s_aload_n hX dX11_mean_13 rfl 0 rfl ?_
      refine s_callViw hX [] (k := 112) (ci := 10) rfl hc10 vkX11_bad (fun r ν hF => c_X11_bad  hF) mkX11_bad cvX11_61 rfl rfl ⟨by omega, by decide, Nat.le_of_ble_eq_true rfl⟩ dX11_mean_14 (fun r8 ν9 => ?_)
      exact s_ireti hK hR dX11_mean_17
theorem dX11_moon_0 : decode cX11_moon 0 = .ok (.aload_n 0, 1) := by decide +kernel
theorem dX11_moon_1 : decode cX11_moon 1 = .ok (.iload_n 1, 1) := by decide +kernel
theorem dX11_moon_2 : decode cX11_moon 2 = .ok (.invokevirtual 184, 3) := by decide +kernel
theorem dX11_moon_5 : decode cX11_moon 5 = .ok (.ifCond .ne 8, 3) := by decide +kernel
theorem dX11_moon_8 : decode cX11_moon 8 = .ok (.aload_n 0, 1) := by decide +kernel
theorem dX11_moon_9 : decode cX11_moon 9 = .ok (.invokevirtual 61, 3) := by decide +kernel
theorem dX11_moon_12 : decode cX11_moon 12 = .ok (.ireturn, 1) := by decide +kernel
theorem dX11_moon_13 : decode cX11_moon 13 = .ok (.aload_n 0, 1) := by decide +kernel
theorem dX11_moon_14 : decode cX11_moon 14 = .ok (.invokevirtual 79, 3) := by decide +kernel
theorem dX11_moon_17 : decode cX11_moon 17 = .ok (.aload_n 0, 1) := by decide +kernel
theorem dX11_moon_18 : decode cX11_moon 18 = .ok (.invokevirtual 187, 3) := by decide +kernel
theorem dX11_moon_21 : decode cX11_moon 21 = .ok (.aload_n 0, 1) := by decide +kernel
theorem dX11_moon_22 : decode cX11_moon 22 = .ok (.iload_n 1, 1) := by decide +kernel
theorem dX11_moon_23 : decode cX11_moon 23 = .ok (.iload_n 2, 1) := by decide +kernel
theorem dX11_moon_24 : decode cX11_moon 24 = .ok (.aload_n 0, 1) := by decide +kernel
theorem dX11_moon_25 : decode cX11_moon 25 = .ok (.getfield 7, 3) := by decide +kernel
theorem dX11_moon_28 : decode cX11_moon 28 = .ok (.iconst 3, 1) := by decide +kernel
theorem dX11_moon_29 : decode cX11_moon 29 = .ok (.iaload, 1) := by decide +kernel
theorem dX11_moon_30 : decode cX11_moon 30 = .ok (.aload_n 0, 1) := by decide +kernel
theorem dX11_moon_31 : decode cX11_moon 31 = .ok (.getfield 7, 3) := by decide +kernel
theorem dX11_moon_34 : decode cX11_moon 34 = .ok (.iconst 5, 1) := by decide +kernel
theorem dX11_moon_35 : decode cX11_moon 35 = .ok (.iaload, 1) := by decide +kernel
theorem dX11_moon_36 : decode cX11_moon 36 = .ok (.invokevirtual 190, 3) := by decide +kernel
theorem dX11_moon_39 : decode cX11_moon 39 = .ok (.istore_n 3, 1) := by decide +kernel
theorem dX11_moon_40 : decode cX11_moon 40 = .ok (.iconst 0, 1) := by decide +kernel
theorem dX11_moon_41 : decode cX11_moon 41 = .ok (.istore 4, 2) := by decide +kernel
theorem dX11_moon_43 : decode cX11_moon 43 = .ok (.iload 4, 2) := by decide +kernel
theorem dX11_moon_45 : decode cX11_moon 45 = .ok (.bipush 10, 2) := by decide +kernel
theorem dX11_moon_47 : decode cX11_moon 47 = .ok (.if_icmp .ge 26, 3) := by decide +kernel
theorem dX11_moon_50 : decode cX11_moon 50 = .ok (.aload_n 0, 1) := by decide +kernel
theorem dX11_moon_51 : decode cX11_moon 51 = .ok (.getfield 7, 3) := by decide +kernel
theorem dX11_moon_54 : decode cX11_moon 54 = .ok (.bipush 26, 2) := by decide +kernel
theorem dX11_moon_56 : decode cX11_moon 56 = .ok (.iload 4, 2) := by decide +kernel
theorem dX11_moon_58 : decode cX11_moon 58 = .ok (.iadd, 1) := by decide +kernel
theorem dX11_moon_59 : decode cX11_moon 59 = .ok (.aload_n 0, 1) := by decide +kernel
theorem dX11_moon_60 : decode cX11_moon 60 = .ok (.getfield 32, 3) := by decide +kernel
theorem dX11_moon_63 : decode cX11_moon 63 = .ok (.iload 4, 2) := by decide +kernel
theorem dX11_moon_65 : decode cX11_moon 65 = .ok (.iaload, 1) := by decide +kernel
theorem dX11_moon_66 : decode cX11_moon 66 = .ok (.iastore, 1) := by decide +kernel
theorem dX11_moon_67 : decode cX11_moon 67 = .ok (.iinc 4 1, 3) := by decide +kernel
theorem dX11_moon_70 : decode cX11_moon 70 = .ok (.goto (-27), 3) := by decide +kernel
theorem dX11_moon_73 : decode cX11_moon 73 = .ok (.aload_n 0, 1) := by decide +kernel
theorem dX11_moon_74 : decode cX11_moon 74 = .ok (.getfield 7, 3) := by decide +kernel
theorem dX11_moon_77 : decode cX11_moon 77 = .ok (.iconst 3, 1) := by decide +kernel
theorem dX11_moon_78 : decode cX11_moon 78 = .ok (.dup2, 1) := by decide +kernel
theorem dX11_moon_79 : decode cX11_moon 79 = .ok (.iaload, 1) := by decide +kernel
theorem dX11_moon_80 : decode cX11_moon 80 = .ok (.iconst 1, 1) := by decide +kernel
theorem dX11_moon_81 : decode cX11_moon 81 = .ok (.iadd, 1) := by decide +kernel
theorem dX11_moon_82 : decode cX11_moon 82 = .ok (.iastore, 1) := by decide +kernel
theorem dX11_moon_83 : decode cX11_moon 83 = .ok (.iload_n 3, 1) := by decide +kernel
theorem dX11_moon_84 : decode cX11_moon 84 = .ok (.ireturn, 1) := by decide +kernel
noncomputable def f_X11_moon (x1 : Int32) (x2 : Int32) (μ : Mem) : Option (Int32 × Mem) :=
  bd (f_X11_isSet x1 μ) fun r1 =>
  if r1 = 0 then
    bd2 (f_X11_bad  μ) fun r12 ν13 =>
    some (r12, ν13)
  else
    bd (f_X11_remembers  μ) fun ν2 =>
    bd (f_X11_asNow  ν2) fun ν3 =>
    bd2 (f_X11_goes x1 x2 (ν3.1 113 3) (ν3.1 113 5) ν3) fun r4 ν5 =>
    bd (lp (ε := Mem) (cu2 fun (x4_6 : Int32) (ν7 : Mem) =>
      if x4_6 < 10 then
        chk x4_6 10 (
          chk (26 + x4_6) 184 (lt (setI ν7 113 (ix (26 + x4_6)) (ν7.1 120 (ix x4_6))) fun ν10 =>
            some (.inl ((x4_6 + 1), ν10))
            )
          )
      else
        some (.inr ν7)
      ) (0, ν5)) (fun (ν8 : Mem) =>
      lt (setI ν8 113 3 ((ν8.1 113 3) + 1)) fun ν11 =>
      some (r4, ν11)
      )
set_option maxHeartbeats 4000000 in
set_option maxRecDepth 100000 in
theorem c_X11_moon {g : GT} {x1 : Int32} {x2 : Int32} {μ : Mem} {μ0 : Mem} {r0 : Int32} (hf : f_X11_moon x1 x2 μ = some (r0, μ0)) : CI g yX11_moon cX11_moon 5 (some .int) 5 [rf g 112, .int x1, .int x2] μ r0 μ0 := by
  refine mk_i (by decide) (Nat.le_of_ble_eq_true rfl) ?_
  intro G hX hR
  have hX : CX g G cX11_moon RX11 5 5 := hX
  suffices S : ∀ K : (Int32 × Mem) → Prop, (∀ a, K a → a = (r0, μ0)) → Sim G (f_X11_moon x1 x2 μ) K 0 [(0, rf g 112), (1, .int x1), (2, .int x2)] [] μ from S (fun a => a = (r0, μ0)) (fun a h => h) _ hf rfl
  intro K hK
  unfold f_X11_moon
  refine s_aload_n hX dX11_moon_0 rfl 0 rfl ?_
  refine s_iload_n hX dX11_moon_1 rfl 1 rfl ?_
  refine s_callVir hX [.int x1] (k := 112) (ci := 10) rfl hc10 vkX11_isSet (fun r hF => c_X11_isSet  hF) mkX11_isSet cvX11_184 rfl rfl ⟨by omega, by decide, Nat.le_of_ble_eq_true rfl⟩ dX11_moon_2 (fun r1 => ?_)
  refine s_if_ne hX 13 dX11_moon_5 (by decide) ?_ ?_
  · refine s_aload_n hX dX11_moon_13 rfl 0 rfl ?_
    refine s_callVvw hX [] (k := 112) (ci := 10) rfl hc10 vkX11_remembers (fun ν hF => c_X11_remembers  hF) mkX11_remembers cvX11_79 rfl rfl ⟨by omega, by decide, Nat.le_of_ble_eq_true rfl⟩ dX11_moon_14 (fun ν2 => ?_)
    refine s_aload_n hX dX11_moon_17 rfl 0 rfl ?_
    refine s_callVvw hX [] (k := 112) (ci := 10) rfl hc10 vkX11_asNow (fun ν hF => c_X11_asNow  hF) mkX11_asNow cvX11_187 rfl rfl ⟨by omega, by decide, Nat.le_of_ble_eq_true rfl⟩ dX11_moon_18 (fun ν3 => ?_)
    refine s_aload_n hX dX11_moon_21 rfl 0 rfl ?_
    refine s_iload_n hX dX11_moon_22 rfl 1 rfl ?_
    refine s_iload_n hX dX11_moon_23 rfl 2 rfl ?_
    refine s_aload_n hX dX11_moon_24 rfl 0 rfl ?_
    refine s_getR hX (d := 1) 113 flX11_7 rfl rfl dX11_moon_25 ?_
    refine s_iconst (v := 3) hX dX11_moon_28 (by decide) ?_
    refine s_ialdK hX rfl rfl (by decide) rfl dX11_moon_29 ?_
    refine s_aload_n hX dX11_moon_30 rfl 0 rfl ?_
    refine s_getR hX (d := 1) 113 flX11_7 rfl rfl dX11_moon_31 ?_
    refine s_iconst (v := 5) hX dX11_moon_34 (by decide) ?_
    refine s_ialdK hX rfl rfl (by decide) rfl dX11_moon_35 ?_
    refine s_callViw hX [.int x1, .int x2, .int (ν3.1 113 3), .int (ν3.1 113 5)] (k := 112) (ci := 10) rfl hc10 vkX11_goes (fun r ν hF => c_X11_goes  hF) mkX11_goes cvX11_190 rfl rfl ⟨by omega, by decide, Nat.le_of_ble_eq_true rfl⟩ dX11_moon_36 (fun r4 ν5 => ?_)
    refine s_istore_n (lv' := [(3, .int r4), (0, rf g 112), (1, .int x1), (2, .int x2)]) hX dX11_moon_39 rfl (by decide) rfl ?_
    refine s_iconst (v := 0) hX dX11_moon_40 (by decide) ?_
    refine s_istore (lv' := [(4, .int 0), (3, .int r4), (0, rf g 112), (1, .int x1), (2, .int x2)]) hX dX11_moon_41 (by decide) rfl ?_
    refine s_loop hX 43 73 (fun s : Int32 × Mem => [(0, rf g 112), (3, .int r4), (4, .int s.1)]) (fun s : Int32 × Mem => s.2) (fun s : Mem => [(0, rf g 112), (3, .int r4)]) (fun s : Mem => s) [2, 1, 0] rfl rfl rfl ?_ ?_
    · intro Kq9 hIq9 hJq9 sq
      obtain ⟨x4_6, ν7⟩ := sq
      refine s_cu2 ?_
      show Sim G _ _ 43 [(0, rf g 112), (3, .int r4), (4, .int x4_6)] [] ν7
      refine s_iload hX dX11_moon_43 2 rfl ?_
      refine s_bipush (v := 10) hX dX11_moon_45 (by decide) ?_
      refine s_icmp_ge hX 73 dX11_moon_47 (by decide) ?_ ?_
      · exact s_end hX (hJq9 ν7) [0, 1] rfl
      · refine s_aload_n hX dX11_moon_50 rfl 0 rfl ?_
        refine s_getR hX (d := 1) 113 flX11_7 rfl rfl dX11_moon_51 ?_
        refine s_bipush (v := 26) hX dX11_moon_54 (by decide) ?_
        refine s_iload hX dX11_moon_56 2 rfl ?_
        refine s_iadd hX dX11_moon_58 ?_
        refine s_aload_n hX dX11_moon_59 rfl 0 rfl ?_
        refine s_getR hX (d := 8) 120 flX11_32 rfl rfl dX11_moon_60 ?_
        refine s_iload hX dX11_moon_63 2 rfl ?_
        refine s_iald hX rfl rfl dX11_moon_65 ?_
        refine s_iast hX rfl rfl dX11_moon_66 (fun ν10 => ?_)
        refine s_iinc (v := (x4_6 + 1)) (lv' := [(4, .int (x4_6 + 1)), (0, rf g 112), (3, .int r4)]) hX dX11_moon_67 2 rfl rfl (by decide) rfl ?_
        refine s_goto hX 43 dX11_moon_70 (by decide) ?_
        exact s_end hX (hIq9 ((x4_6 + 1), ν10)) [1, 2, 0] rfl
    · intro sq
      obtain ⟨ν8, rfl⟩ : ∃ z, z = sq := ⟨_, rfl⟩
      show Sim G _ _ 73 [(0, rf g 112), (3, .int r4)] [] ν8
      refine s_aload_n hX dX11_moon_73 rfl 0 rfl ?_
      refine s_getR hX (d := 1) 113 flX11_7 rfl rfl dX11_moon_74 ?_
      refine s_iconst (v := 3) hX dX11_moon_77 (by decide) ?_
      refine s_dup2 hX dX11_moon_78 rfl rfl ?_
      refine s_ialdK hX rfl rfl (by decide) rfl dX11_moon_79 ?_
      refine s_iconst (v := 1) hX dX11_moon_80 (by decide) ?_
      refine s_iadd hX dX11_moon_81 ?_
      refine s_iastK hX rfl rfl (by decide) rfl dX11_moon_82 (fun ν11 => ?_)
      refine s_iload_n hX dX11_moon_83 rfl 1 rfl ?_
      exact s_ireti hK hR dX11_moon_84
  · refine s_aload_n hX dX11_moon_8 rfl 0 rfl ?_
    refine s_callViw hX [] (k := 112) (ci := 10) rfl hc10 vkX11_bad (fun r ν hF => c_X11_bad  hF) mkX11_bad cvX11_61 rfl rfl ⟨by omega, by decide, Nat.le_of_ble_eq_true rfl⟩ dX11_moon_9 (fun r12 ν13 => ?_)
    exact s_ireti hK hR dX11_moon_12
theorem dX11_painting_0 : decode cX11_painting 0 = .ok (.aload_n 0, 1) := by decide +kernel
theorem dX11_painting_1 : decode cX11_painting 1 = .ok (.iload_n 1, 1) := by decide +kernel
theorem dX11_painting_2 : decode cX11_painting 2 = .ok (.invokevirtual 55, 3) := by decide +kernel
theorem dX11_painting_5 : decode cX11_painting 5 = .ok (.ifCond .eq 15, 3) := by decide +kernel
theorem dX11_painting_8 : decode cX11_painting 8 = .ok (.iload_n 2, 1) := by decide +kernel
theorem dX11_painting_9 : decode cX11_painting 9 = .ok (.i2l, 1) := by decide +kernel
theorem dX11_painting_10 : decode cX11_painting 10 = .ok (.lconst 0, 1) := by decide +kernel
theorem dX11_painting_11 : decode cX11_painting 11 = .ok (.ldc2_w 65, 3) := by decide +kernel
theorem dX11_painting_14 : decode cX11_painting 14 = .ok (.invokestatic 51, 3) := by decide +kernel
theorem dX11_painting_17 : decode cX11_painting 17 = .ok (.ifCond .ne 8, 3) := by decide +kernel
theorem dX11_painting_20 : decode cX11_painting 20 = .ok (.aload_n 0, 1) := by decide +kernel
theorem dX11_painting_21 : decode cX11_painting 21 = .ok (.invokevirtual 61, 3) := by decide +kernel
theorem dX11_painting_24 : decode cX11_painting 24 = .ok (.ireturn, 1) := by decide +kernel
theorem dX11_painting_25 : decode cX11_painting 25 = .ok (.aload_n 0, 1) := by decide +kernel
theorem dX11_painting_26 : decode cX11_painting 26 = .ok (.iload_n 1, 1) := by decide +kernel
theorem dX11_painting_27 : decode cX11_painting 27 = .ok (.iconst (-1), 1) := by decide +kernel
theorem dX11_painting_28 : decode cX11_painting 28 = .ok (.iconst 0, 1) := by decide +kernel
theorem dX11_painting_29 : decode cX11_painting 29 = .ok (.invokevirtual 240, 3) := by decide +kernel
theorem dX11_painting_32 : decode cX11_painting 32 = .ok (.lstore_n 3, 1) := by decide +kernel
theorem dX11_painting_33 : decode cX11_painting 33 = .ok (.iconst (-1), 1) := by decide +kernel
theorem dX11_painting_34 : decode cX11_painting 34 = .ok (.istore 5, 2) := by decide +kernel
theorem dX11_painting_36 : decode cX11_painting 36 = .ok (.iconst 0, 1) := by decide +kernel
theorem dX11_painting_37 : decode cX11_painting 37 = .ok (.istore 6, 2) := by decide +kernel
theorem dX11_painting_39 : decode cX11_painting 39 = .ok (.iload 6, 2) := by decide +kernel
theorem dX11_painting_41 : decode cX11_painting 41 = .ok (.aload_n 0, 1) := by decide +kernel
theorem dX11_painting_42 : decode cX11_painting 42 = .ok (.getfield 7, 3) := by decide +kernel
theorem dX11_painting_45 : decode cX11_painting 45 = .ok (.iconst 0, 1) := by decide +kernel
theorem dX11_painting_46 : decode cX11_painting 46 = .ok (.iaload, 1) := by decide +kernel
theorem dX11_painting_47 : decode cX11_painting 47 = .ok (.if_icmp .ge 52, 3) := by decide +kernel
theorem dX11_painting_50 : decode cX11_painting 50 = .ok (.aload_n 0, 1) := by decide +kernel
theorem dX11_painting_51 : decode cX11_painting 51 = .ok (.iload_n 1, 1) := by decide +kernel
theorem dX11_painting_52 : decode cX11_painting 52 = .ok (.iload 6, 2) := by decide +kernel
theorem dX11_painting_54 : decode cX11_painting 54 = .ok (.iload_n 2, 1) := by decide +kernel
theorem dX11_painting_55 : decode cX11_painting 55 = .ok (.bipush 10, 2) := by decide +kernel
theorem dX11_painting_57 : decode cX11_painting 57 = .ok (.iadd, 1) := by decide +kernel
theorem dX11_painting_58 : decode cX11_painting 58 = .ok (.invokevirtual 240, 3) := by decide +kernel
theorem dX11_painting_61 : decode cX11_painting 61 = .ok (.lstore 7, 2) := by decide +kernel
theorem dX11_painting_63 : decode cX11_painting 63 = .ok (.lload 7, 2) := by decide +kernel
theorem dX11_painting_65 : decode cX11_painting 65 = .ok (.lload_n 3, 1) := by decide +kernel
theorem dX11_painting_66 : decode cX11_painting 66 = .ok (.lcmp, 1) := by decide +kernel
theorem dX11_painting_67 : decode cX11_painting 67 = .ok (.ifCond .ge 8, 3) := by decide +kernel
theorem dX11_painting_70 : decode cX11_painting 70 = .ok (.iload 6, 2) := by decide +kernel
theorem dX11_painting_72 : decode cX11_painting 72 = .ok (.goto 5, 3) := by decide +kernel
theorem dX11_painting_75 : decode cX11_painting 75 = .ok (.iload 5, 2) := by decide +kernel
theorem dX11_painting_77 : decode cX11_painting 77 = .ok (.istore 5, 2) := by decide +kernel
theorem dX11_painting_79 : decode cX11_painting 79 = .ok (.lload 7, 2) := by decide +kernel
theorem dX11_painting_81 : decode cX11_painting 81 = .ok (.lload_n 3, 1) := by decide +kernel
theorem dX11_painting_82 : decode cX11_painting 82 = .ok (.lcmp, 1) := by decide +kernel
theorem dX11_painting_83 : decode cX11_painting 83 = .ok (.ifCond .ge 8, 3) := by decide +kernel
theorem dX11_painting_86 : decode cX11_painting 86 = .ok (.lload 7, 2) := by decide +kernel
theorem dX11_painting_88 : decode cX11_painting 88 = .ok (.goto 4, 3) := by decide +kernel
theorem dX11_painting_91 : decode cX11_painting 91 = .ok (.lload_n 3, 1) := by decide +kernel
theorem dX11_painting_92 : decode cX11_painting 92 = .ok (.lstore_n 3, 1) := by decide +kernel
theorem dX11_painting_93 : decode cX11_painting 93 = .ok (.iinc 6 1, 3) := by decide +kernel
theorem dX11_painting_96 : decode cX11_painting 96 = .ok (.goto (-57), 3) := by decide +kernel
theorem dX11_painting_99 : decode cX11_painting 99 = .ok (.iload 5, 2) := by decide +kernel
theorem dX11_painting_101 : decode cX11_painting 101 = .ok (.ireturn, 1) := by decide +kernel
noncomputable def f_X11_painting (x1 : Int32) (x2 : Int32) (μ : Mem) : Option (Int32 × Mem) :=
  bd (f_X11_isVillage x1 μ) fun r1 =>
  jn (
    bd2 (f_X11_bad  μ) fun r3 ν4 =>
    some (r3, ν4)
    ) fun j2 =>
  if r1 = 0 then
    j2
  else
    bd (f_X11_in ((x2 : Int32).toInt64) 0 99) fun r5 =>
    if r5 = 0 then
      j2
    else
      bd2 (f_X11_meanOf x1 (-1) 0 μ) fun r6 ν7 =>
      bd (lp (ε := Int32 × Mem) (cu4 fun (x3_8 : Int64) (x5_9 : Int32) (x6_10 : Int32) (ν11 : Mem) =>
        if x6_10 < (ν11.1 113 0) then
          bd2 (f_X11_meanOf x1 x6_10 (x2 + 10) ν11) fun r15 ν16 =>
          jn (fun (y17 : Int32) =>
            jn (fun (y19 : Int64) =>
              some (.inl (y19, y17, (x6_10 + 1), ν16))
              ) fun j20 =>
            if r15 < x3_8 then
              j20 r15
            else
              j20 x3_8
            ) fun j18 =>
          if r15 < x3_8 then
            j18 x6_10
          else
            j18 x5_9
        else
          some (.inr (x5_9, ν11))
        ) (r6, (-1), 0, ν7)) (cu2 fun (x5_12 : Int32) (ν13 : Mem) =>
        some (x5_12, ν13)
        )
set_option maxHeartbeats 4000000 in
set_option maxRecDepth 100000 in
theorem c_X11_painting {g : GT} {x1 : Int32} {x2 : Int32} {μ : Mem} {μ0 : Mem} {r0 : Int32} (hf : f_X11_painting x1 x2 μ = some (r0, μ0)) : CI g yX11_painting cX11_painting 9 (some .int) 5 [rf g 112, .int x1, .int x2] μ r0 μ0 := by
  refine mk_i (by decide) (Nat.le_of_ble_eq_true rfl) ?_
  intro G hX hR
  have hX : CX g G cX11_painting RX11 9 5 := hX
  suffices S : ∀ K : (Int32 × Mem) → Prop, (∀ a, K a → a = (r0, μ0)) → Sim G (f_X11_painting x1 x2 μ) K 0 [(0, rf g 112), (1, .int x1), (2, .int x2)] [] μ from S (fun a => a = (r0, μ0)) (fun a h => h) _ hf rfl
  intro K hK
  unfold f_X11_painting
  refine s_aload_n hX dX11_painting_0 rfl 0 rfl ?_
  refine s_iload_n hX dX11_painting_1 rfl 1 rfl ?_
  refine s_callVir hX [.int x1] (k := 112) (ci := 10) rfl hc10 vkX11_isVillage (fun r hF => c_X11_isVillage  hF) mkX11_isVillage cvX11_55 rfl rfl ⟨by omega, by decide, Nat.le_of_ble_eq_true rfl⟩ dX11_painting_2 (fun r1 => ?_)
  refine s_jn (C := fun j => Sim G (j) K 20 [(0, rf g 112)] [] μ) ?_ (fun j2 hj2 => ?_)
  · skip
    show Sim G _ _ 20 [(0, rf g 112)] [] μ
    refine s_aload_n hX dX11_painting_20 rfl 0 rfl ?_
    refine s_callViw hX [] (k := 112) (ci := 10) rfl hc10 vkX11_bad (fun r ν hF => c_X11_bad  hF) mkX11_bad cvX11_61 rfl rfl ⟨by omega, by decide, Nat.le_of_ble_eq_true rfl⟩ dX11_painting_21 (fun r3 ν4 => ?_)
    exact s_ireti hK hR dX11_painting_24
  refine s_if_eq hX 20 dX11_painting_5 (by decide) ?_ ?_
  · exact s_to hX [0] rfl (hj2)
  · refine s_iload_n hX dX11_painting_8 rfl 2 rfl ?_
    refine s_i2l hX dX11_painting_9 ?_
    refine s_lconst (v := 0) hX dX11_painting_10 (by decide) ?_
    refine s_ldc2 hX dX11_painting_11 klX11_65 ?_
    refine s_callSir hX [.long (x2 : Int32).toInt64, .long 0, .long 99] skX11_in (fun r hF => c_X11_in  hF) mkX11_in cvX11_51 rfl rfl ⟨by omega, by decide, Nat.le_of_ble_eq_true rfl⟩ dX11_painting_14 (fun r5 => ?_)
    refine s_if_ne hX 25 dX11_painting_17 (by decide) ?_ ?_
    · refine s_aload_n hX dX11_painting_25 rfl 0 rfl ?_
      refine s_iload_n hX dX11_painting_26 rfl 1 rfl ?_
      refine s_iconst (v := (-1)) hX dX11_painting_27 (by decide) ?_
      refine s_iconst (v := 0) hX dX11_painting_28 (by decide) ?_
      refine s_callVlw hX [.int x1, .int (-1), .int 0] (k := 112) (ci := 10) rfl hc10 vkX11_meanOf (fun r ν hF => c_X11_meanOf  hF) mkX11_meanOf cvX11_240 rfl rfl ⟨by omega, by decide, Nat.le_of_ble_eq_true rfl⟩ dX11_painting_29 (fun r6 ν7 => ?_)
      refine s_lstore_n (lv' := [(3, .long r6), (0, rf g 112), (1, .int x1), (2, .int x2)]) hX dX11_painting_32 rfl (by decide) rfl ?_
      refine s_iconst (v := (-1)) hX dX11_painting_33 (by decide) ?_
      refine s_istore (lv' := [(5, .int (-1)), (3, .long r6), (0, rf g 112), (1, .int x1), (2, .int x2)]) hX dX11_painting_34 (by decide) rfl ?_
      refine s_iconst (v := 0) hX dX11_painting_36 (by decide) ?_
      refine s_istore (lv' := [(6, .int 0), (5, .int (-1)), (3, .long r6), (0, rf g 112), (1, .int x1), (2, .int x2)]) hX dX11_painting_37 (by decide) rfl ?_
      refine s_loop hX 39 99 (fun s : Int64 × Int32 × Int32 × Mem => [(0, rf g 112), (1, .int x1), (2, .int x2), (3, .long s.1), (5, .int s.2.1), (6, .int s.2.2.1)]) (fun s : Int64 × Int32 × Int32 × Mem => s.2.2.2) (fun s : Int32 × Mem => [(5, .int s.1)]) (fun s : Int32 × Mem => s.2) [3, 4, 5, 2, 1, 0] rfl rfl rfl ?_ ?_
      · intro Kq14 hIq14 hJq14 sq
        obtain ⟨x3_8, x5_9, x6_10, ν11⟩ := sq
        refine s_cu4 ?_
        show Sim G _ _ 39 [(0, rf g 112), (1, .int x1), (2, .int x2), (3, .long x3_8), (5, .int x5_9), (6, .int x6_10)] [] ν11
        refine s_iload hX dX11_painting_39 5 rfl ?_
        refine s_aload_n hX dX11_painting_41 rfl 0 rfl ?_
        refine s_getR hX (d := 1) 113 flX11_7 rfl rfl dX11_painting_42 ?_
        refine s_iconst (v := 0) hX dX11_painting_45 (by decide) ?_
        refine s_ialdK hX rfl rfl (by decide) rfl dX11_painting_46 ?_
        refine s_icmp_ge hX 99 dX11_painting_47 (by decide) ?_ ?_
        · exact s_end hX (hJq14 (x5_9, ν11)) [4] rfl
        · refine s_aload_n hX dX11_painting_50 rfl 0 rfl ?_
          refine s_iload_n hX dX11_painting_51 rfl 1 rfl ?_
          refine s_iload hX dX11_painting_52 5 rfl ?_
          refine s_iload_n hX dX11_painting_54 rfl 2 rfl ?_
          refine s_bipush (v := 10) hX dX11_painting_55 (by decide) ?_
          refine s_iadd hX dX11_painting_57 ?_
          refine s_callVlw hX [.int x1, .int x6_10, .int (x2 + 10)] (k := 112) (ci := 10) rfl hc10 vkX11_meanOf (fun r ν hF => c_X11_meanOf  hF) mkX11_meanOf cvX11_240 rfl rfl ⟨by omega, by decide, Nat.le_of_ble_eq_true rfl⟩ dX11_painting_58 (fun r15 ν16 => ?_)
          refine s_lstore (lv' := [(7, .long r15), (0, rf g 112), (1, .int x1), (2, .int x2), (3, .long x3_8), (5, .int x5_9), (6, .int x6_10)]) hX dX11_painting_61 (by decide) rfl ?_
          refine s_lload hX dX11_painting_63 0 rfl ?_
          refine s_lload_n hX dX11_painting_65 rfl 4 rfl ?_
          refine s_jn (C := fun j => ∀ (y17 : Int32), Sim G (j y17) Kq14 77 [(0, rf g 112), (1, .int x1), (2, .int x2), (3, .long x3_8), (6, .int x6_10), (7, .long r15)] [.int y17] ν16) ?_ (fun j18 hj18 => ?_)
          · intro y17
            show Sim G _ _ 77 [(0, rf g 112), (1, .int x1), (2, .int x2), (3, .long x3_8), (6, .int x6_10), (7, .long r15)] [.int y17] ν16
            refine s_istore (lv' := [(5, .int y17), (0, rf g 112), (1, .int x1), (2, .int x2), (3, .long x3_8), (6, .int x6_10), (7, .long r15)]) hX dX11_painting_77 (by decide) rfl ?_
            refine s_lload hX dX11_painting_79 6 rfl ?_
            refine s_lload_n hX dX11_painting_81 rfl 4 rfl ?_
            refine s_jn (C := fun j => ∀ (y19 : Int64), Sim G (j y19) Kq14 92 [(0, rf g 112), (1, .int x1), (2, .int x2), (5, .int y17), (6, .int x6_10)] [.long y19] ν16) ?_ (fun j20 hj20 => ?_)
            · intro y19
              show Sim G _ _ 92 [(0, rf g 112), (1, .int x1), (2, .int x2), (5, .int y17), (6, .int x6_10)] [.long y19] ν16
              refine s_lstore_n (lv' := [(3, .long y19), (0, rf g 112), (1, .int x1), (2, .int x2), (5, .int y17), (6, .int x6_10)]) hX dX11_painting_92 rfl (by decide) rfl ?_
              refine s_iinc (v := (x6_10 + 1)) (lv' := [(6, .int (x6_10 + 1)), (3, .long y19), (0, rf g 112), (1, .int x1), (2, .int x2), (5, .int y17)]) hX dX11_painting_93 5 rfl rfl (by decide) rfl ?_
              refine s_goto hX 39 dX11_painting_96 (by decide) ?_
              exact s_end hX (hIq14 (y19, y17, (x6_10 + 1), ν16)) [2, 3, 4, 1, 5, 0] rfl
            refine s_lcmp_ge hX 91 dX11_painting_82 dX11_painting_83 (by decide) ?_ ?_
            · refine s_lload_n hX dX11_painting_91 rfl 4 rfl ?_
              exact s_to hX [1, 2, 3, 0, 5] rfl (hj20 x3_8)
            · refine s_lload hX dX11_painting_86 6 rfl ?_
              refine s_goto hX 92 dX11_painting_88 (by decide) ?_
              exact s_to hX [1, 2, 3, 0, 5] rfl (hj20 r15)
          refine s_lcmp_ge hX 75 dX11_painting_66 dX11_painting_67 (by decide) ?_ ?_
          · refine s_iload hX dX11_painting_75 5 rfl ?_
            exact s_to hX [1, 2, 3, 4, 6, 0] rfl (hj18 x5_9)
          · refine s_iload hX dX11_painting_70 6 rfl ?_
            refine s_goto hX 77 dX11_painting_72 (by decide) ?_
            exact s_to hX [1, 2, 3, 4, 6, 0] rfl (hj18 x6_10)
      · intro sq
        obtain ⟨x5_12, ν13⟩ := sq
        refine s_cu2 ?_
        show Sim G _ _ 99 [(5, .int x5_12)] [] ν13
        refine s_iload hX dX11_painting_99 0 rfl ?_
        exact s_ireti hK hR dX11_painting_101
    · exact s_to hX [0] rfl (hj2)
