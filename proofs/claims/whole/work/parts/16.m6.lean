theorem dX11_pays_0 : decode cX11_pays 0 = .ok (.aload_n 0, 1) := by decide +kernel
theorem dX11_pays_1 : decode cX11_pays 1 = .ok (.iload_n 1, 1) := by decide +kernel
theorem dX11_pays_2 : decode cX11_pays 2 = .ok (.invokevirtual 55, 3) := by decide +kernel
theorem dX11_pays_5 : decode cX11_pays 5 = .ok (.ifCond .eq 15, 3) := by decide +kernel
theorem dX11_pays_8 : decode cX11_pays 8 = .ok (.iload_n 2, 1) := by decide +kernel
theorem dX11_pays_9 : decode cX11_pays 9 = .ok (.i2l, 1) := by decide +kernel
theorem dX11_pays_10 : decode cX11_pays 10 = .ok (.lconst 0, 1) := by decide +kernel
theorem dX11_pays_11 : decode cX11_pays 11 = .ok (.ldc2_w 263, 3) := by decide +kernel
theorem dX11_pays_14 : decode cX11_pays 14 = .ok (.invokestatic 51, 3) := by decide +kernel
theorem dX11_pays_17 : decode cX11_pays 17 = .ok (.ifCond .ne 8, 3) := by decide +kernel
theorem dX11_pays_20 : decode cX11_pays 20 = .ok (.aload_n 0, 1) := by decide +kernel
theorem dX11_pays_21 : decode cX11_pays 21 = .ok (.invokevirtual 61, 3) := by decide +kernel
theorem dX11_pays_24 : decode cX11_pays 24 = .ok (.ireturn, 1) := by decide +kernel
theorem dX11_pays_25 : decode cX11_pays 25 = .ok (.iconst 0, 1) := by decide +kernel
theorem dX11_pays_26 : decode cX11_pays 26 = .ok (.istore_n 3, 1) := by decide +kernel
theorem dX11_pays_27 : decode cX11_pays 27 = .ok (.iload_n 3, 1) := by decide +kernel
theorem dX11_pays_28 : decode cX11_pays 28 = .ok (.bipush 10, 2) := by decide +kernel
theorem dX11_pays_30 : decode cX11_pays 30 = .ok (.if_icmp .ge 64, 3) := by decide +kernel
theorem dX11_pays_33 : decode cX11_pays 33 = .ok (.aload_n 0, 1) := by decide +kernel
theorem dX11_pays_34 : decode cX11_pays 34 = .ok (.invokevirtual 187, 3) := by decide +kernel
theorem dX11_pays_37 : decode cX11_pays 37 = .ok (.aload_n 0, 1) := by decide +kernel
theorem dX11_pays_38 : decode cX11_pays 38 = .ok (.iload_n 1, 1) := by decide +kernel
theorem dX11_pays_39 : decode cX11_pays 39 = .ok (.invokevirtual 196, 3) := by decide +kernel
theorem dX11_pays_42 : decode cX11_pays 42 = .ok (.istore 4, 2) := by decide +kernel
theorem dX11_pays_44 : decode cX11_pays 44 = .ok (.iconst 0, 1) := by decide +kernel
theorem dX11_pays_45 : decode cX11_pays 45 = .ok (.istore 5, 2) := by decide +kernel
theorem dX11_pays_47 : decode cX11_pays 47 = .ok (.iload 5, 2) := by decide +kernel
theorem dX11_pays_49 : decode cX11_pays 49 = .ok (.iload_n 2, 1) := by decide +kernel
theorem dX11_pays_50 : decode cX11_pays 50 = .ok (.if_icmp .ge 26, 3) := by decide +kernel
theorem dX11_pays_53 : decode cX11_pays 53 = .ok (.aload_n 0, 1) := by decide +kernel
theorem dX11_pays_54 : decode cX11_pays 54 = .ok (.iconst 0, 1) := by decide +kernel
theorem dX11_pays_55 : decode cX11_pays 55 = .ok (.iconst 0, 1) := by decide +kernel
theorem dX11_pays_56 : decode cX11_pays 56 = .ok (.aload_n 0, 1) := by decide +kernel
theorem dX11_pays_57 : decode cX11_pays 57 = .ok (.getfield 7, 3) := by decide +kernel
theorem dX11_pays_60 : decode cX11_pays 60 = .ok (.iconst 3, 1) := by decide +kernel
theorem dX11_pays_61 : decode cX11_pays 61 = .ok (.iaload, 1) := by decide +kernel
theorem dX11_pays_62 : decode cX11_pays 62 = .ok (.iload 5, 2) := by decide +kernel
theorem dX11_pays_64 : decode cX11_pays 64 = .ok (.iadd, 1) := by decide +kernel
theorem dX11_pays_65 : decode cX11_pays 65 = .ok (.iload_n 3, 1) := by decide +kernel
theorem dX11_pays_66 : decode cX11_pays 66 = .ok (.invokevirtual 190, 3) := by decide +kernel
theorem dX11_pays_69 : decode cX11_pays 69 = .ok (.pop, 1) := by decide +kernel
theorem dX11_pays_70 : decode cX11_pays 70 = .ok (.iinc 5 1, 3) := by decide +kernel
theorem dX11_pays_73 : decode cX11_pays 73 = .ok (.goto (-26), 3) := by decide +kernel
theorem dX11_pays_76 : decode cX11_pays 76 = .ok (.aload_n 0, 1) := by decide +kernel
theorem dX11_pays_77 : decode cX11_pays 77 = .ok (.iload_n 1, 1) := by decide +kernel
theorem dX11_pays_78 : decode cX11_pays 78 = .ok (.invokevirtual 196, 3) := by decide +kernel
theorem dX11_pays_81 : decode cX11_pays 81 = .ok (.iload 4, 2) := by decide +kernel
theorem dX11_pays_83 : decode cX11_pays 83 = .ok (.if_icmp .lt 5, 3) := by decide +kernel
theorem dX11_pays_86 : decode cX11_pays 86 = .ok (.iload_n 3, 1) := by decide +kernel
theorem dX11_pays_87 : decode cX11_pays 87 = .ok (.ireturn, 1) := by decide +kernel
theorem dX11_pays_88 : decode cX11_pays 88 = .ok (.iinc 3 1, 3) := by decide +kernel
theorem dX11_pays_91 : decode cX11_pays 91 = .ok (.goto (-64), 3) := by decide +kernel
theorem dX11_pays_94 : decode cX11_pays 94 = .ok (.iconst (-1), 1) := by decide +kernel
theorem dX11_pays_95 : decode cX11_pays 95 = .ok (.ireturn, 1) := by decide +kernel
noncomputable def f_X11_pays (x1 : Int32) (x2 : Int32) (μ : Mem) : Option (Int32 × Mem) :=
  bd (f_X11_isVillage x1 μ) fun r1 =>
  jn (
    bd2 (f_X11_bad  μ) fun r3 ν4 =>
    some (r3, ν4)
    ) fun j2 =>
  if r1 = 0 then
    j2
  else
    bd (f_X11_in ((x2 : Int32).toInt64) 0 40) fun r5 =>
    if r5 = 0 then
      j2
    else
      bdr (lp (ε := (Mem) ⊕ (Int32 × Mem)) (cu2 fun (x3_6 : Int32) (ν7 : Mem) =>
        if x3_6 < 10 then
          bd (f_X11_asNow  ν7) fun ν10 =>
          bd (f_X11_headsOf x1 ν10) fun r11 =>
          bd (lp (ε := Mem) (cu2 fun (x5_12 : Int32) (ν13 : Mem) =>
            if x5_12 < x2 then
              bd2 (f_X11_goes 0 0 ((ν13.1 113 3) + x5_12) x3_6 ν13) fun r16 ν17 =>
              some (.inl ((x5_12 + 1), ν17))
            else
              some (.inr ν13)
            ) (0, ν10)) (fun (ν14 : Mem) =>
            bd (f_X11_headsOf x1 ν14) fun r18 =>
            if r18 < r11 then
              some (.inl ((x3_6 + 1), ν14))
            else
              some (.inr (.inr (x3_6, ν14)))
            )
        else
          some (.inr (.inl ν7))
        ) (0, μ)) (fun (ν8 : Mem) =>
        some ((-1), ν8)
        ) (fun r => some (r))
set_option maxHeartbeats 4000000 in
set_option maxRecDepth 100000 in
theorem c_X11_pays {g : GT} {x1 : Int32} {x2 : Int32} {μ : Mem} {μ0 : Mem} {r0 : Int32} (hf : f_X11_pays x1 x2 μ = some (r0, μ0)) : CI g yX11_pays cX11_pays 6 (some .int) 5 [rf g 112, .int x1, .int x2] μ r0 μ0 := by
  refine mk_i (by decide) (Nat.le_of_ble_eq_true rfl) ?_
  intro G hX hR
  have hX : CX g G cX11_pays RX11 6 5 := hX
  suffices S : ∀ K : (Int32 × Mem) → Prop, (∀ a, K a → a = (r0, μ0)) → Sim G (f_X11_pays x1 x2 μ) K 0 [(0, rf g 112), (1, .int x1), (2, .int x2)] [] μ from S (fun a => a = (r0, μ0)) (fun a h => h) _ hf rfl
  intro K hK
  unfold f_X11_pays
  refine s_aload_n hX dX11_pays_0 rfl 0 rfl ?_
  refine s_iload_n hX dX11_pays_1 rfl 1 rfl ?_
  refine s_callVir hX [.int x1] (k := 112) (ci := 10) rfl hc10 vkX11_isVillage (fun r hF => c_X11_isVillage  hF) mkX11_isVillage cvX11_55 rfl rfl ⟨by omega, by decide, Nat.le_of_ble_eq_true rfl⟩ dX11_pays_2 (fun r1 => ?_)
  refine s_jn (C := fun j => Sim G (j) K 20 [(0, rf g 112)] [] μ) ?_ (fun j2 hj2 => ?_)
  · skip
    show Sim G _ _ 20 [(0, rf g 112)] [] μ
    refine s_aload_n hX dX11_pays_20 rfl 0 rfl ?_
    refine s_callViw hX [] (k := 112) (ci := 10) rfl hc10 vkX11_bad (fun r ν hF => c_X11_bad  hF) mkX11_bad cvX11_61 rfl rfl ⟨by omega, by decide, Nat.le_of_ble_eq_true rfl⟩ dX11_pays_21 (fun r3 ν4 => ?_)
    exact s_ireti hK hR dX11_pays_24
  refine s_if_eq hX 20 dX11_pays_5 (by decide) ?_ ?_
  · exact s_to hX [0] rfl (hj2)
  · refine s_iload_n hX dX11_pays_8 rfl 2 rfl ?_
    refine s_i2l hX dX11_pays_9 ?_
    refine s_lconst (v := 0) hX dX11_pays_10 (by decide) ?_
    refine s_ldc2 hX dX11_pays_11 klX11_263 ?_
    refine s_callSir hX [.long (x2 : Int32).toInt64, .long 0, .long 40] skX11_in (fun r hF => c_X11_in  hF) mkX11_in cvX11_51 rfl rfl ⟨by omega, by decide, Nat.le_of_ble_eq_true rfl⟩ dX11_pays_14 (fun r5 => ?_)
    refine s_if_ne hX 25 dX11_pays_17 (by decide) ?_ ?_
    · refine s_iconst (v := 0) hX dX11_pays_25 (by decide) ?_
      refine s_istore_n (lv' := [(3, .int 0), (0, rf g 112), (1, .int x1), (2, .int x2)]) hX dX11_pays_26 rfl (by decide) rfl ?_
      refine s_loopR hX 27 94 (fun s : Int32 × Mem => [(0, rf g 112), (1, .int x1), (2, .int x2), (3, .int s.1)]) (fun s : Int32 × Mem => s.2) (fun s : Mem => []) (fun s : Mem => s) [1, 2, 3, 0] rfl rfl rfl (fun r => r = (r0, μ0)) (fun r a h k => by cases h; exact hK _ k) ?_ ?_
      · intro Kq9 hIq9 hJq9 hKq9 sq
        obtain ⟨x3_6, ν7⟩ := sq
        refine s_cu2 ?_
        show Sim G _ _ 27 [(0, rf g 112), (1, .int x1), (2, .int x2), (3, .int x3_6)] [] ν7
        refine s_iload_n hX dX11_pays_27 rfl 3 rfl ?_
        refine s_bipush (v := 10) hX dX11_pays_28 (by decide) ?_
        refine s_icmp_ge hX 94 dX11_pays_30 (by decide) ?_ ?_
        · exact s_end hX (hJq9 ν7) [] rfl
        · refine s_aload_n hX dX11_pays_33 rfl 0 rfl ?_
          refine s_callVvw hX [] (k := 112) (ci := 10) rfl hc10 vkX11_asNow (fun ν hF => c_X11_asNow  hF) mkX11_asNow cvX11_187 rfl rfl ⟨by omega, by decide, Nat.le_of_ble_eq_true rfl⟩ dX11_pays_34 (fun ν10 => ?_)
          refine s_aload_n hX dX11_pays_37 rfl 0 rfl ?_
          refine s_iload_n hX dX11_pays_38 rfl 1 rfl ?_
          refine s_callVir hX [.int x1] (k := 112) (ci := 10) rfl hc10 vkX11_headsOf (fun r hF => c_X11_headsOf  hF) mkX11_headsOf cvX11_196 rfl rfl ⟨by omega, by decide, Nat.le_of_ble_eq_true rfl⟩ dX11_pays_39 (fun r11 => ?_)
          refine s_istore (lv' := [(4, .int r11), (0, rf g 112), (1, .int x1), (2, .int x2), (3, .int x3_6)]) hX dX11_pays_42 (by decide) rfl ?_
          refine s_iconst (v := 0) hX dX11_pays_44 (by decide) ?_
          refine s_istore (lv' := [(5, .int 0), (4, .int r11), (0, rf g 112), (1, .int x1), (2, .int x2), (3, .int x3_6)]) hX dX11_pays_45 (by decide) rfl ?_
          refine s_loop hX 47 76 (fun s : Int32 × Mem => [(0, rf g 112), (1, .int x1), (2, .int x2), (3, .int x3_6), (4, .int r11), (5, .int s.1)]) (fun s : Int32 × Mem => s.2) (fun s : Mem => [(0, rf g 112), (1, .int x1), (2, .int x2), (3, .int x3_6), (4, .int r11)]) (fun s : Mem => s) [2, 3, 4, 5, 1, 0] rfl rfl rfl ?_ ?_
          · intro Kq15 hIq15 hJq15 sq
            obtain ⟨x5_12, ν13⟩ := sq
            refine s_cu2 ?_
            show Sim G _ _ 47 [(0, rf g 112), (1, .int x1), (2, .int x2), (3, .int x3_6), (4, .int r11), (5, .int x5_12)] [] ν13
            refine s_iload hX dX11_pays_47 5 rfl ?_
            refine s_iload_n hX dX11_pays_49 rfl 2 rfl ?_
            refine s_icmp_ge hX 76 dX11_pays_50 (by decide) ?_ ?_
            · exact s_end hX (hJq15 ν13) [0, 1, 2, 3, 4] rfl
            · refine s_aload_n hX dX11_pays_53 rfl 0 rfl ?_
              refine s_iconst (v := 0) hX dX11_pays_54 (by decide) ?_
              refine s_iconst (v := 0) hX dX11_pays_55 (by decide) ?_
              refine s_aload_n hX dX11_pays_56 rfl 0 rfl ?_
              refine s_getR hX (d := 1) 113 flX11_7 rfl rfl dX11_pays_57 ?_
              refine s_iconst (v := 3) hX dX11_pays_60 (by decide) ?_
              refine s_ialdK hX rfl rfl (by decide) rfl dX11_pays_61 ?_
              refine s_iload hX dX11_pays_62 5 rfl ?_
              refine s_iadd hX dX11_pays_64 ?_
              refine s_iload_n hX dX11_pays_65 rfl 3 rfl ?_
              refine s_callViw hX [.int 0, .int 0, .int ((ν13.1 113 3) + x5_12), .int x3_6] (k := 112) (ci := 10) rfl hc10 vkX11_goes (fun r ν hF => c_X11_goes  hF) mkX11_goes cvX11_190 rfl rfl ⟨by omega, by decide, Nat.le_of_ble_eq_true rfl⟩ dX11_pays_66 (fun r16 ν17 => ?_)
              refine s_pop hX dX11_pays_69 rfl ?_
              refine s_iinc (v := (x5_12 + 1)) (lv' := [(5, .int (x5_12 + 1)), (0, rf g 112), (1, .int x1), (2, .int x2), (3, .int x3_6), (4, .int r11)]) hX dX11_pays_70 5 rfl rfl (by decide) rfl ?_
              refine s_goto hX 47 dX11_pays_73 (by decide) ?_
              exact s_end hX (hIq15 ((x5_12 + 1), ν17)) [1, 2, 3, 4, 5, 0] rfl
          · intro sq
            obtain ⟨ν14, rfl⟩ : ∃ z, z = sq := ⟨_, rfl⟩
            show Sim G _ _ 76 [(0, rf g 112), (1, .int x1), (2, .int x2), (3, .int x3_6), (4, .int r11)] [] ν14
            refine s_aload_n hX dX11_pays_76 rfl 0 rfl ?_
            refine s_iload_n hX dX11_pays_77 rfl 1 rfl ?_
            refine s_callVir hX [.int x1] (k := 112) (ci := 10) rfl hc10 vkX11_headsOf (fun r hF => c_X11_headsOf  hF) mkX11_headsOf cvX11_196 rfl rfl ⟨by omega, by decide, Nat.le_of_ble_eq_true rfl⟩ dX11_pays_78 (fun r18 => ?_)
            refine s_iload hX dX11_pays_81 4 rfl ?_
            refine s_icmp_lt hX 88 dX11_pays_83 (by decide) ?_ ?_
            · refine s_iinc (v := (x3_6 + 1)) (lv' := [(3, .int (x3_6 + 1)), (0, rf g 112), (1, .int x1), (2, .int x2), (4, .int r11)]) hX dX11_pays_88 3 rfl rfl (by decide) rfl ?_
              refine s_goto hX 27 dX11_pays_91 (by decide) ?_
              exact s_end hX (hIq9 ((x3_6 + 1), ν14)) [1, 2, 3, 0] rfl
            · refine s_iload_n hX dX11_pays_86 rfl 3 rfl ?_
              exact s_ireti hKq9 hR dX11_pays_87
      · intro sq
        obtain ⟨ν8, rfl⟩ : ∃ z, z = sq := ⟨_, rfl⟩
        show Sim G _ _ 94 [] [] ν8
        refine s_iconst (v := (-1)) hX dX11_pays_94 (by decide) ?_
        exact s_ireti hK hR dX11_pays_95
    · exact s_to hX [0] rfl (hj2)
theorem dX11_share_0 : decode cX11_share 0 = .ok (.aload_n 0, 1) := by decide +kernel
theorem dX11_share_1 : decode cX11_share 1 = .ok (.iload_n 1, 1) := by decide +kernel
theorem dX11_share_2 : decode cX11_share 2 = .ok (.invokevirtual 55, 3) := by decide +kernel
theorem dX11_share_5 : decode cX11_share 5 = .ok (.ifCond .ne 8, 3) := by decide +kernel
theorem dX11_share_8 : decode cX11_share 8 = .ok (.aload_n 0, 1) := by decide +kernel
theorem dX11_share_9 : decode cX11_share 9 = .ok (.invokevirtual 61, 3) := by decide +kernel
theorem dX11_share_12 : decode cX11_share 12 = .ok (.ireturn, 1) := by decide +kernel
theorem dX11_share_13 : decode cX11_share 13 = .ok (.aload_n 0, 1) := by decide +kernel
theorem dX11_share_14 : decode cX11_share 14 = .ok (.invokevirtual 187, 3) := by decide +kernel
theorem dX11_share_17 : decode cX11_share 17 = .ok (.lconst 0, 1) := by decide +kernel
theorem dX11_share_18 : decode cX11_share 18 = .ok (.lstore_n 2, 1) := by decide +kernel
theorem dX11_share_19 : decode cX11_share 19 = .ok (.iconst 1, 1) := by decide +kernel
theorem dX11_share_20 : decode cX11_share 20 = .ok (.iload_n 1, 1) := by decide +kernel
theorem dX11_share_21 : decode cX11_share 21 = .ok (.ishl, 1) := by decide +kernel
theorem dX11_share_22 : decode cX11_share 22 = .ok (.istore 4, 2) := by decide +kernel
theorem dX11_share_24 : decode cX11_share 24 = .ok (.iconst 0, 1) := by decide +kernel
theorem dX11_share_25 : decode cX11_share 25 = .ok (.istore 5, 2) := by decide +kernel
theorem dX11_share_27 : decode cX11_share 27 = .ok (.iload 5, 2) := by decide +kernel
theorem dX11_share_29 : decode cX11_share 29 = .ok (.aload_n 0, 1) := by decide +kernel
theorem dX11_share_30 : decode cX11_share 30 = .ok (.invokevirtual 177, 3) := by decide +kernel
theorem dX11_share_33 : decode cX11_share 33 = .ok (.if_icmp .gt 70, 3) := by decide +kernel
theorem dX11_share_36 : decode cX11_share 36 = .ok (.iload 5, 2) := by decide +kernel
theorem dX11_share_38 : decode cX11_share 38 = .ok (.iload 4, 2) := by decide +kernel
theorem dX11_share_40 : decode cX11_share 40 = .ok (.iand, 1) := by decide +kernel
theorem dX11_share_41 : decode cX11_share 41 = .ok (.ifCond .ne 56, 3) := by decide +kernel
theorem dX11_share_44 : decode cX11_share 44 = .ok (.iload 5, 2) := by decide +kernel
theorem dX11_share_46 : decode cX11_share 46 = .ok (.invokestatic 250, 3) := by decide +kernel
theorem dX11_share_49 : decode cX11_share 49 = .ok (.istore 6, 2) := by decide +kernel
theorem dX11_share_51 : decode cX11_share 51 = .ok (.aload_n 0, 1) := by decide +kernel
theorem dX11_share_52 : decode cX11_share 52 = .ok (.iload 5, 2) := by decide +kernel
theorem dX11_share_54 : decode cX11_share 54 = .ok (.iload 4, 2) := by decide +kernel
theorem dX11_share_56 : decode cX11_share 56 = .ok (.ior, 1) := by decide +kernel
theorem dX11_share_57 : decode cX11_share 57 = .ok (.invokevirtual 202, 3) := by decide +kernel
theorem dX11_share_60 : decode cX11_share 60 = .ok (.aload_n 0, 1) := by decide +kernel
theorem dX11_share_61 : decode cX11_share 61 = .ok (.iload 5, 2) := by decide +kernel
theorem dX11_share_63 : decode cX11_share 63 = .ok (.invokevirtual 202, 3) := by decide +kernel
theorem dX11_share_66 : decode cX11_share 66 = .ok (.isub, 1) := by decide +kernel
theorem dX11_share_67 : decode cX11_share 67 = .ok (.i2l, 1) := by decide +kernel
theorem dX11_share_68 : decode cX11_share 68 = .ok (.lstore 7, 2) := by decide +kernel
theorem dX11_share_70 : decode cX11_share 70 = .ok (.lload_n 2, 1) := by decide +kernel
theorem dX11_share_71 : decode cX11_share 71 = .ok (.iload 6, 2) := by decide +kernel
theorem dX11_share_73 : decode cX11_share 73 = .ok (.invokestatic 260, 3) := by decide +kernel
theorem dX11_share_76 : decode cX11_share 76 = .ok (.aload_n 0, 1) := by decide +kernel
theorem dX11_share_77 : decode cX11_share 77 = .ok (.getfield 7, 3) := by decide +kernel
theorem dX11_share_80 : decode cX11_share 80 = .ok (.iconst 0, 1) := by decide +kernel
theorem dX11_share_81 : decode cX11_share 81 = .ok (.iaload, 1) := by decide +kernel
theorem dX11_share_82 : decode cX11_share 82 = .ok (.iconst 1, 1) := by decide +kernel
theorem dX11_share_83 : decode cX11_share 83 = .ok (.isub, 1) := by decide +kernel
theorem dX11_share_84 : decode cX11_share 84 = .ok (.iload 6, 2) := by decide +kernel
theorem dX11_share_86 : decode cX11_share 86 = .ok (.isub, 1) := by decide +kernel
theorem dX11_share_87 : decode cX11_share 87 = .ok (.invokestatic 260, 3) := by decide +kernel
theorem dX11_share_90 : decode cX11_share 90 = .ok (.imul, 1) := by decide +kernel
theorem dX11_share_91 : decode cX11_share 91 = .ok (.i2l, 1) := by decide +kernel
theorem dX11_share_92 : decode cX11_share 92 = .ok (.lload 7, 2) := by decide +kernel
theorem dX11_share_94 : decode cX11_share 94 = .ok (.lmul, 1) := by decide +kernel
theorem dX11_share_95 : decode cX11_share 95 = .ok (.ladd, 1) := by decide +kernel
theorem dX11_share_96 : decode cX11_share 96 = .ok (.lstore_n 2, 1) := by decide +kernel
theorem dX11_share_97 : decode cX11_share 97 = .ok (.iinc 5 1, 3) := by decide +kernel
theorem dX11_share_100 : decode cX11_share 100 = .ok (.goto (-73), 3) := by decide +kernel
theorem dX11_share_103 : decode cX11_share 103 = .ok (.aload_n 0, 1) := by decide +kernel
theorem dX11_share_104 : decode cX11_share 104 = .ok (.lload_n 2, 1) := by decide +kernel
theorem dX11_share_105 : decode cX11_share 105 = .ok (.aload_n 0, 1) := by decide +kernel
theorem dX11_share_106 : decode cX11_share 106 = .ok (.getfield 7, 3) := by decide +kernel
theorem dX11_share_109 : decode cX11_share 109 = .ok (.iconst 0, 1) := by decide +kernel
theorem dX11_share_110 : decode cX11_share 110 = .ok (.iaload, 1) := by decide +kernel
theorem dX11_share_111 : decode cX11_share 111 = .ok (.invokestatic 260, 3) := by decide +kernel
theorem dX11_share_114 : decode cX11_share 114 = .ok (.i2l, 1) := by decide +kernel
theorem dX11_share_115 : decode cX11_share 115 = .ok (.invokevirtual 236, 3) := by decide +kernel
theorem dX11_share_118 : decode cX11_share 118 = .ok (.ireturn, 1) := by decide +kernel
noncomputable def f_X11_share (x1 : Int32) (μ : Mem) : Option (Int32 × Mem) :=
  bd (f_X11_isVillage x1 μ) fun r1 =>
  if r1 = 0 then
    bd2 (f_X11_bad  μ) fun r19 ν20 =>
    some (r19, ν20)
  else
    bd (f_X11_asNow  μ) fun ν2 =>
    bd (lp (ε := Int64) (cu2 fun (x2_3 : Int64) (x5_4 : Int32) =>
      bd (f_X11_all  ν2) fun r7 =>
      if r7 < x5_4 then
        some (.inr x2_3)
      else
        jn (fun (x2_8 : Int64) =>
          some (.inl (x2_8, (x5_4 + 1)))
          ) fun j9 =>
        if (x5_4 &&& ((1 : Int32) <<< (x1 &&& 31))) = 0 then
          bd (f_X11_bits x5_4) fun r10 =>
          bd (f_X11_takenNow (x5_4 ||| ((1 : Int32) <<< (x1 &&& 31))) ν2) fun r11 =>
          bd (f_X11_takenNow x5_4 ν2) fun r12 =>
          bd (f_X11_orders r10) fun r13 =>
          bd (f_X11_orders (((ν2.1 113 0) - 1) - r10)) fun r14 =>
          lt (x2_3 + (((r13 * r14) : Int32).toInt64 * ((r11 - r12) : Int32).toInt64)) fun x2_15 =>
          j9 x2_15
        else
          j9 x2_3
      ) (0, 0)) (fun (x2_5 : Int64) =>
      bd (f_X11_orders (ν2.1 113 0)) fun r16 =>
      bd2 (f_X11_keeps x2_5 ((r16 : Int32).toInt64) ν2) fun r17 ν18 =>
      some (r17, ν18)
      )
set_option maxHeartbeats 4000000 in
set_option maxRecDepth 100000 in
theorem c_X11_share {g : GT} {x1 : Int32} {μ : Mem} {μ0 : Mem} {r0 : Int32} (hf : f_X11_share x1 μ = some (r0, μ0)) : CI g yX11_share cX11_share 9 (some .int) 5 [rf g 112, .int x1] μ r0 μ0 := by
  refine mk_i (by decide) (Nat.le_of_ble_eq_true rfl) ?_
  intro G hX hR
  have hX : CX g G cX11_share RX11 9 5 := hX
  suffices S : ∀ K : (Int32 × Mem) → Prop, (∀ a, K a → a = (r0, μ0)) → Sim G (f_X11_share x1 μ) K 0 [(0, rf g 112), (1, .int x1)] [] μ from S (fun a => a = (r0, μ0)) (fun a h => h) _ hf rfl
  intro K hK
  unfold f_X11_share
  refine s_aload_n hX dX11_share_0 rfl 0 rfl ?_
  refine s_iload_n hX dX11_share_1 rfl 1 rfl ?_
  refine s_callVir hX [.int x1] (k := 112) (ci := 10) rfl hc10 vkX11_isVillage (fun r hF => c_X11_isVillage  hF) mkX11_isVillage cvX11_55 rfl rfl ⟨by omega, by decide, Nat.le_of_ble_eq_true rfl⟩ dX11_share_2 (fun r1 => ?_)
  refine s_if_ne hX 13 dX11_share_5 (by decide) ?_ ?_
  · refine s_aload_n hX dX11_share_13 rfl 0 rfl ?_
    refine s_callVvw hX [] (k := 112) (ci := 10) rfl hc10 vkX11_asNow (fun ν hF => c_X11_asNow  hF) mkX11_asNow cvX11_187 rfl rfl ⟨by omega, by decide, Nat.le_of_ble_eq_true rfl⟩ dX11_share_14 (fun ν2 => ?_)
    refine s_lconst (v := 0) hX dX11_share_17 (by decide) ?_
    refine s_lstore_n (lv' := [(2, .long 0), (0, rf g 112), (1, .int x1)]) hX dX11_share_18 rfl (by decide) rfl ?_
    refine s_iconst (v := 1) hX dX11_share_19 (by decide) ?_
    refine s_iload_n hX dX11_share_20 rfl 2 rfl ?_
    refine s_ishl hX dX11_share_21 ?_
    refine s_istore (lv' := [(4, .int ((1 : Int32) <<< (x1 &&& 31))), (2, .long 0), (0, rf g 112), (1, .int x1)]) hX dX11_share_22 (by decide) rfl ?_
    refine s_iconst (v := 0) hX dX11_share_24 (by decide) ?_
    refine s_istore (lv' := [(5, .int 0), (4, .int ((1 : Int32) <<< (x1 &&& 31))), (2, .long 0), (0, rf g 112), (1, .int x1)]) hX dX11_share_25 (by decide) rfl ?_
    refine s_loop hX 27 103 (fun s : Int64 × Int32 => [(0, rf g 112), (2, .long s.1), (4, .int ((1 : Int32) <<< (x1 &&& 31))), (5, .int s.2)]) (fun s : Int64 × Int32 => ν2) (fun s : Int64 => [(0, rf g 112), (2, .long s)]) (fun s : Int64 => ν2) [3, 2, 1, 0] rfl rfl rfl ?_ ?_
    · intro Kq6 hIq6 hJq6 sq
      obtain ⟨x2_3, x5_4⟩ := sq
      refine s_cu2 ?_
      show Sim G _ _ 27 [(0, rf g 112), (2, .long x2_3), (4, .int ((1 : Int32) <<< (x1 &&& 31))), (5, .int x5_4)] [] ν2
      refine s_iload hX dX11_share_27 3 rfl ?_
      refine s_aload_n hX dX11_share_29 rfl 0 rfl ?_
      refine s_callVir hX [] (k := 112) (ci := 10) rfl hc10 vkX11_all (fun r hF => c_X11_all  hF) mkX11_all cvX11_177 rfl rfl ⟨by omega, by decide, Nat.le_of_ble_eq_true rfl⟩ dX11_share_30 (fun r7 => ?_)
      refine s_icmp_gt hX 103 dX11_share_33 (by decide) ?_ ?_
      · exact s_end hX (hJq6 x2_3) [0, 1] rfl
      · refine s_iload hX dX11_share_36 3 rfl ?_
        refine s_iload hX dX11_share_38 2 rfl ?_
        refine s_iand hX dX11_share_40 ?_
        refine s_jn (C := fun j => ∀ (x2_8 : Int64), Sim G (j x2_8) Kq6 97 [(0, rf g 112), (2, .long x2_8), (4, .int ((1 : Int32) <<< (x1 &&& 31))), (5, .int x5_4)] [] ν2) ?_ (fun j9 hj9 => ?_)
        · intro x2_8
          show Sim G _ _ 97 [(0, rf g 112), (2, .long x2_8), (4, .int ((1 : Int32) <<< (x1 &&& 31))), (5, .int x5_4)] [] ν2
          refine s_iinc (v := (x5_4 + 1)) (lv' := [(5, .int (x5_4 + 1)), (0, rf g 112), (2, .long x2_8), (4, .int ((1 : Int32) <<< (x1 &&& 31)))]) hX dX11_share_97 3 rfl rfl (by decide) rfl ?_
          refine s_goto hX 27 dX11_share_100 (by decide) ?_
          exact s_end hX (hIq6 (x2_8, (x5_4 + 1))) [1, 2, 3, 0] rfl
        refine s_if_ne hX 97 dX11_share_41 (by decide) ?_ ?_
        · exact s_to hX [0, 1, 2, 3] rfl (hj9 x2_3)
        · refine s_iload hX dX11_share_44 3 rfl ?_
          refine s_callSir hX [.int x5_4] skX11_bits (fun r hF => c_X11_bits  hF) mkX11_bits cvX11_250 rfl rfl ⟨by omega, by decide, Nat.le_of_ble_eq_true rfl⟩ dX11_share_46 (fun r10 => ?_)
          refine s_istore (lv' := [(6, .int r10), (0, rf g 112), (2, .long x2_3), (4, .int ((1 : Int32) <<< (x1 &&& 31))), (5, .int x5_4)]) hX dX11_share_49 (by decide) rfl ?_
          refine s_aload_n hX dX11_share_51 rfl 1 rfl ?_
          refine s_iload hX dX11_share_52 4 rfl ?_
          refine s_iload hX dX11_share_54 3 rfl ?_
          refine s_ior hX dX11_share_56 ?_
          refine s_callVir hX [.int (x5_4 ||| ((1 : Int32) <<< (x1 &&& 31)))] (k := 112) (ci := 10) rfl hc10 vkX11_takenNow (fun r hF => c_X11_takenNow  hF) mkX11_takenNow cvX11_202 rfl rfl ⟨by omega, by decide, Nat.le_of_ble_eq_true rfl⟩ dX11_share_57 (fun r11 => ?_)
          refine s_aload_n hX dX11_share_60 rfl 1 rfl ?_
          refine s_iload hX dX11_share_61 4 rfl ?_
          refine s_callVir hX [.int x5_4] (k := 112) (ci := 10) rfl hc10 vkX11_takenNow (fun r hF => c_X11_takenNow  hF) mkX11_takenNow cvX11_202 rfl rfl ⟨by omega, by decide, Nat.le_of_ble_eq_true rfl⟩ dX11_share_63 (fun r12 => ?_)
          refine s_isub hX dX11_share_66 ?_
          refine s_i2l hX dX11_share_67 ?_
          refine s_lstore (lv' := [(7, .long ((r11 - r12) : Int32).toInt64), (6, .int r10), (0, rf g 112), (2, .long x2_3), (4, .int ((1 : Int32) <<< (x1 &&& 31))), (5, .int x5_4)]) hX dX11_share_68 (by decide) rfl ?_
          refine s_lload_n hX dX11_share_70 rfl 3 rfl ?_
          refine s_iload hX dX11_share_71 1 rfl ?_
          refine s_callSir hX [.int r10] skX11_orders (fun r hF => c_X11_orders  hF) mkX11_orders cvX11_260 rfl rfl ⟨by omega, by decide, Nat.le_of_ble_eq_true rfl⟩ dX11_share_73 (fun r13 => ?_)
          refine s_aload_n hX dX11_share_76 rfl 2 rfl ?_
          refine s_getR hX (d := 1) 113 flX11_7 rfl rfl dX11_share_77 ?_
          refine s_iconst (v := 0) hX dX11_share_80 (by decide) ?_
          refine s_ialdK hX rfl rfl (by decide) rfl dX11_share_81 ?_
          refine s_iconst (v := 1) hX dX11_share_82 (by decide) ?_
          refine s_isub hX dX11_share_83 ?_
          refine s_iload hX dX11_share_84 1 rfl ?_
          refine s_isub hX dX11_share_86 ?_
          refine s_callSir hX [.int (((ν2.1 113 0) - 1) - r10)] skX11_orders (fun r hF => c_X11_orders  hF) mkX11_orders cvX11_260 rfl rfl ⟨by omega, by decide, Nat.le_of_ble_eq_true rfl⟩ dX11_share_87 (fun r14 => ?_)
          refine s_imul hX dX11_share_90 ?_
          refine s_i2l hX dX11_share_91 ?_
          refine s_lload hX dX11_share_92 0 rfl ?_
          refine s_lmul hX dX11_share_94 ?_
          refine s_ladd hX dX11_share_95 ?_
          refine s_ltl (fun x2_15 => ?_)
          refine s_lstore_n (lv' := [(2, .long x2_15), (7, .long ((r11 - r12) : Int32).toInt64), (6, .int r10), (0, rf g 112), (4, .int ((1 : Int32) <<< (x1 &&& 31))), (5, .int x5_4)]) hX dX11_share_96 rfl (by decide) rfl ?_
          exact s_to hX [3, 0, 4, 5] rfl (hj9 x2_15)
    · intro sq
      obtain ⟨x2_5, rfl⟩ : ∃ z, z = sq := ⟨_, rfl⟩
      show Sim G _ _ 103 [(0, rf g 112), (2, .long x2_5)] [] ν2
      refine s_aload_n hX dX11_share_103 rfl 0 rfl ?_
      refine s_lload_n hX dX11_share_104 rfl 1 rfl ?_
      refine s_aload_n hX dX11_share_105 rfl 0 rfl ?_
      refine s_getR hX (d := 1) 113 flX11_7 rfl rfl dX11_share_106 ?_
      refine s_iconst (v := 0) hX dX11_share_109 (by decide) ?_
      refine s_ialdK hX rfl rfl (by decide) rfl dX11_share_110 ?_
      refine s_callSir hX [.int (ν2.1 113 0)] skX11_orders (fun r hF => c_X11_orders  hF) mkX11_orders cvX11_260 rfl rfl ⟨by omega, by decide, Nat.le_of_ble_eq_true rfl⟩ dX11_share_111 (fun r16 => ?_)
      refine s_i2l hX dX11_share_114 ?_
      refine s_callViw hX [.long x2_5, .long (r16 : Int32).toInt64] (k := 112) (ci := 10) rfl hc10 vkX11_keeps (fun r ν hF => c_X11_keeps  hF) mkX11_keeps cvX11_236 rfl rfl ⟨by omega, by decide, Nat.le_of_ble_eq_true rfl⟩ dX11_share_115 (fun r17 ν18 => ?_)
      exact s_ireti hK hR dX11_share_118
  · refine s_aload_n hX dX11_share_8 rfl 0 rfl ?_
    refine s_callViw hX [] (k := 112) (ci := 10) rfl hc10 vkX11_bad (fun r ν hF => c_X11_bad  hF) mkX11_bad cvX11_61 rfl rfl ⟨by omega, by decide, Nat.le_of_ble_eq_true rfl⟩ dX11_share_9 (fun r19 ν20 => ?_)
    exact s_ireti hK hR dX11_share_12
theorem dX11_tellsItem_0 : decode cX11_tellsItem 0 = .ok (.aload_n 0, 1) := by decide +kernel
theorem dX11_tellsItem_1 : decode cX11_tellsItem 1 = .ok (.getfield 29, 3) := by decide +kernel
theorem dX11_tellsItem_4 : decode cX11_tellsItem 4 = .ok (.iconst 4, 1) := by decide +kernel
theorem dX11_tellsItem_5 : decode cX11_tellsItem 5 = .ok (.iload_n 1, 1) := by decide +kernel
theorem dX11_tellsItem_6 : decode cX11_tellsItem 6 = .ok (.imul, 1) := by decide +kernel
theorem dX11_tellsItem_7 : decode cX11_tellsItem 7 = .ok (.iconst 1, 1) := by decide +kernel
theorem dX11_tellsItem_8 : decode cX11_tellsItem 8 = .ok (.iadd, 1) := by decide +kernel
theorem dX11_tellsItem_9 : decode cX11_tellsItem 9 = .ok (.iaload, 1) := by decide +kernel
theorem dX11_tellsItem_10 : decode cX11_tellsItem 10 = .ok (.istore_n 2, 1) := by decide +kernel
theorem dX11_tellsItem_11 : decode cX11_tellsItem 11 = .ok (.aload_n 0, 1) := by decide +kernel
theorem dX11_tellsItem_12 : decode cX11_tellsItem 12 = .ok (.getfield 29, 3) := by decide +kernel
theorem dX11_tellsItem_15 : decode cX11_tellsItem 15 = .ok (.iconst 4, 1) := by decide +kernel
theorem dX11_tellsItem_16 : decode cX11_tellsItem 16 = .ok (.iload_n 1, 1) := by decide +kernel
theorem dX11_tellsItem_17 : decode cX11_tellsItem 17 = .ok (.imul, 1) := by decide +kernel
theorem dX11_tellsItem_18 : decode cX11_tellsItem 18 = .ok (.iconst 2, 1) := by decide +kernel
theorem dX11_tellsItem_19 : decode cX11_tellsItem 19 = .ok (.iadd, 1) := by decide +kernel
theorem dX11_tellsItem_20 : decode cX11_tellsItem 20 = .ok (.iaload, 1) := by decide +kernel
theorem dX11_tellsItem_21 : decode cX11_tellsItem 21 = .ok (.istore_n 3, 1) := by decide +kernel
theorem dX11_tellsItem_22 : decode cX11_tellsItem 22 = .ok (.aload_n 0, 1) := by decide +kernel
theorem dX11_tellsItem_23 : decode cX11_tellsItem 23 = .ok (.getfield 29, 3) := by decide +kernel
theorem dX11_tellsItem_26 : decode cX11_tellsItem 26 = .ok (.iconst 4, 1) := by decide +kernel
theorem dX11_tellsItem_27 : decode cX11_tellsItem 27 = .ok (.iload_n 1, 1) := by decide +kernel
theorem dX11_tellsItem_28 : decode cX11_tellsItem 28 = .ok (.imul, 1) := by decide +kernel
theorem dX11_tellsItem_29 : decode cX11_tellsItem 29 = .ok (.iaload, 1) := by decide +kernel
theorem dX11_tellsItem_30 : decode cX11_tellsItem 30 = .ok (.istore 4, 2) := by decide +kernel
theorem dX11_tellsItem_32 : decode cX11_tellsItem 32 = .ok (.iload 4, 2) := by decide +kernel
theorem dX11_tellsItem_34 : decode cX11_tellsItem 34 = .ok (.ifCond .ne 11, 3) := by decide +kernel
theorem dX11_tellsItem_37 : decode cX11_tellsItem 37 = .ok (.aload_n 0, 1) := by decide +kernel
theorem dX11_tellsItem_38 : decode cX11_tellsItem 38 = .ok (.iload_n 2, 1) := by decide +kernel
theorem dX11_tellsItem_39 : decode cX11_tellsItem 39 = .ok (.invokevirtual 141, 3) := by decide +kernel
theorem dX11_tellsItem_42 : decode cX11_tellsItem 42 = .ok (.goto 29, 3) := by decide +kernel
theorem dX11_tellsItem_45 : decode cX11_tellsItem 45 = .ok (.iload 4, 2) := by decide +kernel
theorem dX11_tellsItem_47 : decode cX11_tellsItem 47 = .ok (.iconst 1, 1) := by decide +kernel
theorem dX11_tellsItem_48 : decode cX11_tellsItem 48 = .ok (.if_icmp .ne 22, 3) := by decide +kernel
theorem dX11_tellsItem_51 : decode cX11_tellsItem 51 = .ok (.aload_n 0, 1) := by decide +kernel
theorem dX11_tellsItem_52 : decode cX11_tellsItem 52 = .ok (.iload_n 2, 1) := by decide +kernel
theorem dX11_tellsItem_53 : decode cX11_tellsItem 53 = .ok (.iload_n 3, 1) := by decide +kernel
theorem dX11_tellsItem_54 : decode cX11_tellsItem 54 = .ok (.aload_n 0, 1) := by decide +kernel
theorem dX11_tellsItem_55 : decode cX11_tellsItem 55 = .ok (.getfield 29, 3) := by decide +kernel
theorem dX11_tellsItem_58 : decode cX11_tellsItem 58 = .ok (.iconst 4, 1) := by decide +kernel
theorem dX11_tellsItem_59 : decode cX11_tellsItem 59 = .ok (.iload_n 1, 1) := by decide +kernel
theorem dX11_tellsItem_60 : decode cX11_tellsItem 60 = .ok (.imul, 1) := by decide +kernel
theorem dX11_tellsItem_61 : decode cX11_tellsItem 61 = .ok (.iconst 3, 1) := by decide +kernel
theorem dX11_tellsItem_62 : decode cX11_tellsItem 62 = .ok (.iadd, 1) := by decide +kernel
theorem dX11_tellsItem_63 : decode cX11_tellsItem 63 = .ok (.iaload, 1) := by decide +kernel
theorem dX11_tellsItem_64 : decode cX11_tellsItem 64 = .ok (.invokevirtual 144, 3) := by decide +kernel
theorem dX11_tellsItem_67 : decode cX11_tellsItem 67 = .ok (.goto 4, 3) := by decide +kernel
theorem dX11_tellsItem_70 : decode cX11_tellsItem 70 = .ok (.iconst 0, 1) := by decide +kernel
theorem dX11_tellsItem_71 : decode cX11_tellsItem 71 = .ok (.istore 5, 2) := by decide +kernel
theorem dX11_tellsItem_73 : decode cX11_tellsItem 73 = .ok (.iload 4, 2) := by decide +kernel
theorem dX11_tellsItem_75 : decode cX11_tellsItem 75 = .ok (.iconst 2, 1) := by decide +kernel
theorem dX11_tellsItem_76 : decode cX11_tellsItem 76 = .ok (.if_icmp .ne 11, 3) := by decide +kernel
theorem dX11_tellsItem_79 : decode cX11_tellsItem 79 = .ok (.aload_n 0, 1) := by decide +kernel
theorem dX11_tellsItem_80 : decode cX11_tellsItem 80 = .ok (.iload_n 2, 1) := by decide +kernel
theorem dX11_tellsItem_81 : decode cX11_tellsItem 81 = .ok (.invokevirtual 148, 3) := by decide +kernel
theorem dX11_tellsItem_84 : decode cX11_tellsItem 84 = .ok (.goto 49, 3) := by decide +kernel
theorem dX11_tellsItem_87 : decode cX11_tellsItem 87 = .ok (.iload 4, 2) := by decide +kernel
theorem dX11_tellsItem_89 : decode cX11_tellsItem 89 = .ok (.iconst 3, 1) := by decide +kernel
theorem dX11_tellsItem_90 : decode cX11_tellsItem 90 = .ok (.if_icmp .ne 12, 3) := by decide +kernel
theorem dX11_tellsItem_93 : decode cX11_tellsItem 93 = .ok (.aload_n 0, 1) := by decide +kernel
theorem dX11_tellsItem_94 : decode cX11_tellsItem 94 = .ok (.iload_n 2, 1) := by decide +kernel
theorem dX11_tellsItem_95 : decode cX11_tellsItem 95 = .ok (.iload_n 3, 1) := by decide +kernel
theorem dX11_tellsItem_96 : decode cX11_tellsItem 96 = .ok (.invokevirtual 151, 3) := by decide +kernel
theorem dX11_tellsItem_99 : decode cX11_tellsItem 99 = .ok (.goto 34, 3) := by decide +kernel
theorem dX11_tellsItem_102 : decode cX11_tellsItem 102 = .ok (.iload 4, 2) := by decide +kernel
theorem dX11_tellsItem_104 : decode cX11_tellsItem 104 = .ok (.iconst 4, 1) := by decide +kernel
theorem dX11_tellsItem_105 : decode cX11_tellsItem 105 = .ok (.if_icmp .ne 12, 3) := by decide +kernel
theorem dX11_tellsItem_108 : decode cX11_tellsItem 108 = .ok (.aload_n 0, 1) := by decide +kernel
theorem dX11_tellsItem_109 : decode cX11_tellsItem 109 = .ok (.iload_n 2, 1) := by decide +kernel
theorem dX11_tellsItem_110 : decode cX11_tellsItem 110 = .ok (.iload_n 3, 1) := by decide +kernel
theorem dX11_tellsItem_111 : decode cX11_tellsItem 111 = .ok (.invokevirtual 154, 3) := by decide +kernel
theorem dX11_tellsItem_114 : decode cX11_tellsItem 114 = .ok (.goto 19, 3) := by decide +kernel
theorem dX11_tellsItem_117 : decode cX11_tellsItem 117 = .ok (.iload 4, 2) := by decide +kernel
theorem dX11_tellsItem_119 : decode cX11_tellsItem 119 = .ok (.iconst 5, 1) := by decide +kernel
theorem dX11_tellsItem_120 : decode cX11_tellsItem 120 = .ok (.if_icmp .ne 12, 3) := by decide +kernel
theorem dX11_tellsItem_123 : decode cX11_tellsItem 123 = .ok (.aload_n 0, 1) := by decide +kernel
theorem dX11_tellsItem_124 : decode cX11_tellsItem 124 = .ok (.iload_n 2, 1) := by decide +kernel
theorem dX11_tellsItem_125 : decode cX11_tellsItem 125 = .ok (.iconst 1, 1) := by decide +kernel
theorem dX11_tellsItem_126 : decode cX11_tellsItem 126 = .ok (.invokevirtual 157, 3) := by decide +kernel
theorem dX11_tellsItem_129 : decode cX11_tellsItem 129 = .ok (.goto 4, 3) := by decide +kernel
theorem dX11_tellsItem_132 : decode cX11_tellsItem 132 = .ok (.iconst 0, 1) := by decide +kernel
theorem dX11_tellsItem_133 : decode cX11_tellsItem 133 = .ok (.istore 6, 2) := by decide +kernel
theorem dX11_tellsItem_135 : decode cX11_tellsItem 135 = .ok (.iload 5, 2) := by decide +kernel
theorem dX11_tellsItem_137 : decode cX11_tellsItem 137 = .ok (.ifCond .lt 12, 3) := by decide +kernel
theorem dX11_tellsItem_140 : decode cX11_tellsItem 140 = .ok (.iload 6, 2) := by decide +kernel
theorem dX11_tellsItem_142 : decode cX11_tellsItem 142 = .ok (.ifCond .lt 7, 3) := by decide +kernel
theorem dX11_tellsItem_145 : decode cX11_tellsItem 145 = .ok (.iconst 1, 1) := by decide +kernel
theorem dX11_tellsItem_146 : decode cX11_tellsItem 146 = .ok (.goto 4, 3) := by decide +kernel
theorem dX11_tellsItem_149 : decode cX11_tellsItem 149 = .ok (.iconst 0, 1) := by decide +kernel
theorem dX11_tellsItem_150 : decode cX11_tellsItem 150 = .ok (.ireturn, 1) := by decide +kernel
noncomputable def f_X11_tellsItem (x1 : Int32) (μ : Mem) : Option (Int32 × Mem) :=
  chk ((4 * x1) + 1) 200 (
    chk ((4 * x1) + 2) 200 (
      chk (4 * x1) 200 (
        jn (fun (y1 : Int32) (ν2 : Mem) =>
          jn (fun (y4 : Int32) (ν5 : Mem) =>
            jn (fun (y7 : Int32) =>
              ckB y7 (
                some (y7, ν5)
                )
              ) fun j8 =>
            jn (
              j8 0
              ) fun j9 =>
            if y1 < 0 then
              j9
            else
              if y4 < 0 then
                j9
              else
                j8 1
            ) fun j6 =>
          if (μ.1 119 (ix (4 * x1))) = 2 then
            bd2 (f_X11_growth (μ.1 119 (ix ((4 * x1) + 1))) ν2) fun r16 ν17 =>
            j6 r16 ν17
          else
            if (μ.1 119 (ix (4 * x1))) = 3 then
              bd2 (f_X11_cloud (μ.1 119 (ix ((4 * x1) + 1))) (μ.1 119 (ix ((4 * x1) + 2))) ν2) fun r14 ν15 =>
              j6 r14 ν15
            else
              if (μ.1 119 (ix (4 * x1))) = 4 then
                bd2 (f_X11_road (μ.1 119 (ix ((4 * x1) + 1))) (μ.1 119 (ix ((4 * x1) + 2))) ν2) fun r12 ν13 =>
                j6 r12 ν13
              else
                if (μ.1 119 (ix (4 * x1))) = 5 then
                  bd2 (f_X11_guard (μ.1 119 (ix ((4 * x1) + 1))) 1 ν2) fun r10 ν11 =>
                  j6 r10 ν11
                else
                  j6 0 ν2
          ) fun j3 =>
        if (μ.1 119 (ix (4 * x1))) = 0 then
          bd2 (f_X11_county (μ.1 119 (ix ((4 * x1) + 1))) μ) fun r20 ν21 =>
          j3 r20 ν21
        else
          if (μ.1 119 (ix (4 * x1))) = 1 then
            chk ((4 * x1) + 3) 200 (
              bd2 (f_X11_lot (μ.1 119 (ix ((4 * x1) + 1))) (μ.1 119 (ix ((4 * x1) + 2))) (μ.1 119 (ix ((4 * x1) + 3))) μ) fun r18 ν19 =>
              j3 r18 ν19
              )
          else
            j3 0 μ
        )
      )
    )
set_option maxHeartbeats 4000000 in
set_option maxRecDepth 100000 in
theorem c_X11_tellsItem {g : GT} {x1 : Int32} {μ : Mem} {μ0 : Mem} {r0 : Int32} (hf : f_X11_tellsItem x1 μ = some (r0, μ0)) : CI g yX11_tellsItem cX11_tellsItem 7 (some .boolean) 5 [rf g 112, .int x1] μ r0 μ0 := by
  refine mk_z (by decide) (Nat.le_of_ble_eq_true rfl) ?_
  intro G hX hR
  have hX : CX g G cX11_tellsItem RX11 7 5 := hX
  suffices S : ∀ K : (Int32 × Mem) → Prop, (∀ a, K a → a = (r0, μ0)) → Sim G (f_X11_tellsItem x1 μ) K 0 [(0, rf g 112), (1, .int x1)] [] μ from S (fun a => a = (r0, μ0)) (fun a h => h) _ hf rfl
  intro K hK
  unfold f_X11_tellsItem
  refine s_aload_n hX dX11_tellsItem_0 rfl 0 rfl ?_
  refine s_getR hX (d := 7) 119 flX11_29 rfl rfl dX11_tellsItem_1 ?_
  refine s_iconst (v := 4) hX dX11_tellsItem_4 (by decide) ?_
  refine s_iload_n hX dX11_tellsItem_5 rfl 1 rfl ?_
  refine s_imul hX dX11_tellsItem_6 ?_
  refine s_iconst (v := 1) hX dX11_tellsItem_7 (by decide) ?_
  refine s_iadd hX dX11_tellsItem_8 ?_
  refine s_iald hX rfl rfl dX11_tellsItem_9 ?_
  refine s_istore_n (lv' := [(2, .int (μ.1 119 (ix ((4 * x1) + 1)))), (0, rf g 112), (1, .int x1)]) hX dX11_tellsItem_10 rfl (by decide) rfl ?_
  refine s_aload_n hX dX11_tellsItem_11 rfl 1 rfl ?_
  refine s_getR hX (d := 7) 119 flX11_29 rfl rfl dX11_tellsItem_12 ?_
  refine s_iconst (v := 4) hX dX11_tellsItem_15 (by decide) ?_
  refine s_iload_n hX dX11_tellsItem_16 rfl 2 rfl ?_
  refine s_imul hX dX11_tellsItem_17 ?_
  refine s_iconst (v := 2) hX dX11_tellsItem_18 (by decide) ?_
  refine s_iadd hX dX11_tellsItem_19 ?_
  refine s_iald hX rfl rfl dX11_tellsItem_20 ?_
  refine s_istore_n (lv' := [(3, .int (μ.1 119 (ix ((4 * x1) + 2)))), (2, .int (μ.1 119 (ix ((4 * x1) + 1)))), (0, rf g 112), (1, .int x1)]) hX dX11_tellsItem_21 rfl (by decide) rfl ?_
  refine s_aload_n hX dX11_tellsItem_22 rfl 2 rfl ?_
  refine s_getR hX (d := 7) 119 flX11_29 rfl rfl dX11_tellsItem_23 ?_
  refine s_iconst (v := 4) hX dX11_tellsItem_26 (by decide) ?_
  refine s_iload_n hX dX11_tellsItem_27 rfl 3 rfl ?_
  refine s_imul hX dX11_tellsItem_28 ?_
  refine s_iald hX rfl rfl dX11_tellsItem_29 ?_
  refine s_istore (lv' := [(4, .int (μ.1 119 (ix (4 * x1)))), (3, .int (μ.1 119 (ix ((4 * x1) + 2)))), (2, .int (μ.1 119 (ix ((4 * x1) + 1)))), (0, rf g 112), (1, .int x1)]) hX dX11_tellsItem_30 (by decide) rfl ?_
  refine s_iload hX dX11_tellsItem_32 0 rfl ?_
  refine s_jn (C := fun j => ∀ (y1 : Int32) (ν2 : Mem), Sim G (j y1 ν2) K 71 [(0, rf g 112), (2, .int (μ.1 119 (ix ((4 * x1) + 1)))), (3, .int (μ.1 119 (ix ((4 * x1) + 2)))), (4, .int (μ.1 119 (ix (4 * x1))))] [.int y1] ν2) ?_ (fun j3 hj3 => ?_)
  · intro y1 ν2
    show Sim G _ _ 71 [(0, rf g 112), (2, .int (μ.1 119 (ix ((4 * x1) + 1)))), (3, .int (μ.1 119 (ix ((4 * x1) + 2)))), (4, .int (μ.1 119 (ix (4 * x1))))] [.int y1] ν2
    refine s_istore (lv' := [(5, .int y1), (0, rf g 112), (2, .int (μ.1 119 (ix ((4 * x1) + 1)))), (3, .int (μ.1 119 (ix ((4 * x1) + 2)))), (4, .int (μ.1 119 (ix (4 * x1))))]) hX dX11_tellsItem_71 (by decide) rfl ?_
    refine s_iload hX dX11_tellsItem_73 4 rfl ?_
    refine s_iconst (v := 2) hX dX11_tellsItem_75 (by decide) ?_
    refine s_jn (C := fun j => ∀ (y4 : Int32) (ν5 : Mem), Sim G (j y4 ν5) K 133 [(5, .int y1)] [.int y4] ν5) ?_ (fun j6 hj6 => ?_)
    · intro y4 ν5
      show Sim G _ _ 133 [(5, .int y1)] [.int y4] ν5
      refine s_istore (lv' := [(6, .int y4), (5, .int y1)]) hX dX11_tellsItem_133 (by decide) rfl ?_
      refine s_iload hX dX11_tellsItem_135 1 rfl ?_
      refine s_jn (C := fun j => ∀ (y7 : Int32), Sim G (j y7) K 150 [] [.int y7] ν5) ?_ (fun j8 hj8 => ?_)
      · intro y7
        show Sim G _ _ 150 [] [.int y7] ν5
        refine s_ckB (fun hzb => ?_)
        exact s_zreti hzb hK hR dX11_tellsItem_150
      refine s_jn (C := fun j => Sim G (j) K 149 [] [] ν5) ?_ (fun j9 hj9 => ?_)
      · skip
        show Sim G _ _ 149 [] [] ν5
        refine s_iconst (v := 0) hX dX11_tellsItem_149 (by decide) ?_
        exact s_to hX [] rfl (hj8 0)
      refine s_if_lt hX 149 dX11_tellsItem_137 (by decide) ?_ ?_
      · exact s_to hX [] rfl (hj9)
      · refine s_iload hX dX11_tellsItem_140 0 rfl ?_
        refine s_if_lt hX 149 dX11_tellsItem_142 (by decide) ?_ ?_
        · exact s_to hX [] rfl (hj9)
        · refine s_iconst (v := 1) hX dX11_tellsItem_145 (by decide) ?_
          refine s_goto hX 150 dX11_tellsItem_146 (by decide) ?_
          exact s_to hX [] rfl (hj8 1)
    refine s_icmp_ne hX 87 dX11_tellsItem_76 (by decide) ?_ ?_
    · refine s_iload hX dX11_tellsItem_87 4 rfl ?_
      refine s_iconst (v := 3) hX dX11_tellsItem_89 (by decide) ?_
      refine s_icmp_ne hX 102 dX11_tellsItem_90 (by decide) ?_ ?_
      · refine s_iload hX dX11_tellsItem_102 4 rfl ?_
        refine s_iconst (v := 4) hX dX11_tellsItem_104 (by decide) ?_
        refine s_icmp_ne hX 117 dX11_tellsItem_105 (by decide) ?_ ?_
        · refine s_iload hX dX11_tellsItem_117 4 rfl ?_
          refine s_iconst (v := 5) hX dX11_tellsItem_119 (by decide) ?_
          refine s_icmp_ne hX 132 dX11_tellsItem_120 (by decide) ?_ ?_
          · refine s_iconst (v := 0) hX dX11_tellsItem_132 (by decide) ?_
            exact s_to hX [0] rfl (hj6 0 ν2)
          · refine s_aload_n hX dX11_tellsItem_123 rfl 1 rfl ?_
            refine s_iload_n hX dX11_tellsItem_124 rfl 2 rfl ?_
            refine s_iconst (v := 1) hX dX11_tellsItem_125 (by decide) ?_
            refine s_callViw hX [.int (μ.1 119 (ix ((4 * x1) + 1))), .int 1] (k := 112) (ci := 10) rfl hc10 vkX11_guard (fun r ν hF => c_X11_guard  hF) mkX11_guard cvX11_157 rfl rfl ⟨by omega, by decide, Nat.le_of_ble_eq_true rfl⟩ dX11_tellsItem_126 (fun r10 ν11 => ?_)
            refine s_goto hX 133 dX11_tellsItem_129 (by decide) ?_
            exact s_to hX [0] rfl (hj6 r10 ν11)
        · refine s_aload_n hX dX11_tellsItem_108 rfl 1 rfl ?_
          refine s_iload_n hX dX11_tellsItem_109 rfl 2 rfl ?_
          refine s_iload_n hX dX11_tellsItem_110 rfl 3 rfl ?_
          refine s_callViw hX [.int (μ.1 119 (ix ((4 * x1) + 1))), .int (μ.1 119 (ix ((4 * x1) + 2)))] (k := 112) (ci := 10) rfl hc10 vkX11_road (fun r ν hF => c_X11_road  hF) mkX11_road cvX11_154 rfl rfl ⟨by omega, by decide, Nat.le_of_ble_eq_true rfl⟩ dX11_tellsItem_111 (fun r12 ν13 => ?_)
          refine s_goto hX 133 dX11_tellsItem_114 (by decide) ?_
          exact s_to hX [0] rfl (hj6 r12 ν13)
      · refine s_aload_n hX dX11_tellsItem_93 rfl 1 rfl ?_
        refine s_iload_n hX dX11_tellsItem_94 rfl 2 rfl ?_
        refine s_iload_n hX dX11_tellsItem_95 rfl 3 rfl ?_
        refine s_callViw hX [.int (μ.1 119 (ix ((4 * x1) + 1))), .int (μ.1 119 (ix ((4 * x1) + 2)))] (k := 112) (ci := 10) rfl hc10 vkX11_cloud (fun r ν hF => c_X11_cloud  hF) mkX11_cloud cvX11_151 rfl rfl ⟨by omega, by decide, Nat.le_of_ble_eq_true rfl⟩ dX11_tellsItem_96 (fun r14 ν15 => ?_)
        refine s_goto hX 133 dX11_tellsItem_99 (by decide) ?_
        exact s_to hX [0] rfl (hj6 r14 ν15)
    · refine s_aload_n hX dX11_tellsItem_79 rfl 1 rfl ?_
      refine s_iload_n hX dX11_tellsItem_80 rfl 2 rfl ?_
      refine s_callViw hX [.int (μ.1 119 (ix ((4 * x1) + 1)))] (k := 112) (ci := 10) rfl hc10 vkX11_growth (fun r ν hF => c_X11_growth  hF) mkX11_growth cvX11_148 rfl rfl ⟨by omega, by decide, Nat.le_of_ble_eq_true rfl⟩ dX11_tellsItem_81 (fun r16 ν17 => ?_)
      refine s_goto hX 133 dX11_tellsItem_84 (by decide) ?_
      exact s_to hX [0] rfl (hj6 r16 ν17)
  refine s_if_ne hX 45 dX11_tellsItem_34 (by decide) ?_ ?_
  · refine s_iload hX dX11_tellsItem_45 0 rfl ?_
    refine s_iconst (v := 1) hX dX11_tellsItem_47 (by decide) ?_
    refine s_icmp_ne hX 70 dX11_tellsItem_48 (by decide) ?_ ?_
    · refine s_iconst (v := 0) hX dX11_tellsItem_70 (by decide) ?_
      exact s_to hX [3, 2, 1, 0] rfl (hj3 0 μ)
    · refine s_aload_n hX dX11_tellsItem_51 rfl 3 rfl ?_
      refine s_iload_n hX dX11_tellsItem_52 rfl 2 rfl ?_
      refine s_iload_n hX dX11_tellsItem_53 rfl 1 rfl ?_
      refine s_aload_n hX dX11_tellsItem_54 rfl 3 rfl ?_
      refine s_getR hX (d := 7) 119 flX11_29 rfl rfl dX11_tellsItem_55 ?_
      refine s_iconst (v := 4) hX dX11_tellsItem_58 (by decide) ?_
      refine s_iload_n hX dX11_tellsItem_59 rfl 4 rfl ?_
      refine s_imul hX dX11_tellsItem_60 ?_
      refine s_iconst (v := 3) hX dX11_tellsItem_61 (by decide) ?_
      refine s_iadd hX dX11_tellsItem_62 ?_
      refine s_iald hX rfl rfl dX11_tellsItem_63 ?_
      refine s_callViw hX [.int (μ.1 119 (ix ((4 * x1) + 1))), .int (μ.1 119 (ix ((4 * x1) + 2))), .int (μ.1 119 (ix ((4 * x1) + 3)))] (k := 112) (ci := 10) rfl hc10 vkX11_lot (fun r ν hF => c_X11_lot  hF) mkX11_lot cvX11_144 rfl rfl ⟨by omega, by decide, Nat.le_of_ble_eq_true rfl⟩ dX11_tellsItem_64 (fun r18 ν19 => ?_)
      refine s_goto hX 71 dX11_tellsItem_67 (by decide) ?_
      exact s_to hX [3, 2, 1, 0] rfl (hj3 r18 ν19)
  · refine s_aload_n hX dX11_tellsItem_37 rfl 3 rfl ?_
    refine s_iload_n hX dX11_tellsItem_38 rfl 2 rfl ?_
    refine s_callViw hX [.int (μ.1 119 (ix ((4 * x1) + 1)))] (k := 112) (ci := 10) rfl hc10 vkX11_county (fun r ν hF => c_X11_county  hF) mkX11_county cvX11_141 rfl rfl ⟨by omega, by decide, Nat.le_of_ble_eq_true rfl⟩ dX11_tellsItem_39 (fun r20 ν21 => ?_)
    refine s_goto hX 71 dX11_tellsItem_42 (by decide) ?_
    exact s_to hX [3, 2, 1, 0] rfl (hj3 r20 ν21)
theorem dX11_tries_0 : decode cX11_tries 0 = .ok (.aload_n 0, 1) := by decide +kernel
theorem dX11_tries_1 : decode cX11_tries 1 = .ok (.aload_n 0, 1) := by decide +kernel
theorem dX11_tries_2 : decode cX11_tries 2 = .ok (.invokevirtual 177, 3) := by decide +kernel
theorem dX11_tries_5 : decode cX11_tries 5 = .ok (.iload_n 1, 1) := by decide +kernel
theorem dX11_tries_6 : decode cX11_tries 6 = .ok (.iconst (-1), 1) := by decide +kernel
theorem dX11_tries_7 : decode cX11_tries 7 = .ok (.ixor, 1) := by decide +kernel
theorem dX11_tries_8 : decode cX11_tries 8 = .ok (.iand, 1) := by decide +kernel
theorem dX11_tries_9 : decode cX11_tries 9 = .ok (.invokevirtual 202, 3) := by decide +kernel
theorem dX11_tries_12 : decode cX11_tries 12 = .ok (.istore 4, 2) := by decide +kernel
theorem dX11_tries_14 : decode cX11_tries 14 = .ok (.iload 4, 2) := by decide +kernel
theorem dX11_tries_16 : decode cX11_tries 16 = .ok (.aload_n 0, 1) := by decide +kernel
theorem dX11_tries_17 : decode cX11_tries 17 = .ok (.getfield 205, 3) := by decide +kernel
theorem dX11_tries_20 : decode cX11_tries 20 = .ok (.if_icmp .ge 19, 3) := by decide +kernel
theorem dX11_tries_23 : decode cX11_tries 23 = .ok (.aload_n 0, 1) := by decide +kernel
theorem dX11_tries_24 : decode cX11_tries 24 = .ok (.iload 4, 2) := by decide +kernel
theorem dX11_tries_26 : decode cX11_tries 26 = .ok (.putfield 205, 3) := by decide +kernel
theorem dX11_tries_29 : decode cX11_tries 29 = .ok (.aload_n 0, 1) := by decide +kernel
theorem dX11_tries_30 : decode cX11_tries 30 = .ok (.iload_n 2, 1) := by decide +kernel
theorem dX11_tries_31 : decode cX11_tries 31 = .ok (.putfield 208, 3) := by decide +kernel
theorem dX11_tries_34 : decode cX11_tries 34 = .ok (.aload_n 0, 1) := by decide +kernel
theorem dX11_tries_35 : decode cX11_tries 35 = .ok (.iload_n 3, 1) := by decide +kernel
theorem dX11_tries_36 : decode cX11_tries 36 = .ok (.putfield 211, 3) := by decide +kernel
theorem dX11_tries_39 : decode cX11_tries 39 = .ok (.return_, 1) := by decide +kernel
noncomputable def f_X11_tries (x1 : Int32) (x2 : Int32) (x3 : Int32) (μ : Mem) : Option Mem :=
  bd (f_X11_all  μ) fun r1 =>
  bd (f_X11_takenNow (r1 &&& (x1 ^^^ (-1))) μ) fun r2 =>
  jn (fun (ν3 : Mem) =>
    some ν3
    ) fun j4 =>
  if r2 < (μ.1 112 17) then
    lt (setI μ 112 17 r2) fun ν5 =>
    lt (setI ν5 112 18 x2) fun ν6 =>
    lt (setI ν6 112 19 x3) fun ν7 =>
    j4 ν7
  else
    j4 μ
set_option maxHeartbeats 4000000 in
set_option maxRecDepth 100000 in
theorem c_X11_tries {g : GT} {x1 : Int32} {x2 : Int32} {x3 : Int32} {μ : Mem} {μ0 : Mem} (hf : f_X11_tries x1 x2 x3 μ = some μ0) : CV g yX11_tries cX11_tries 5 (none) 5 [rf g 112, .int x1, .int x2, .int x3] μ μ0 := by
  refine mk_v (by decide) (Nat.le_of_ble_eq_true rfl) ?_
  intro G hX hR
  have hX : CX g G cX11_tries RX11 5 5 := hX
  suffices S : ∀ K : Mem → Prop, (∀ a, K a → a = μ0) → Sim G (f_X11_tries x1 x2 x3 μ) K 0 [(0, rf g 112), (1, .int x1), (2, .int x2), (3, .int x3)] [] μ from S (fun a => a = μ0) (fun a h => h) _ hf rfl
  intro K hK
  unfold f_X11_tries
  refine s_aload_n hX dX11_tries_0 rfl 0 rfl ?_
  refine s_aload_n hX dX11_tries_1 rfl 0 rfl ?_
  refine s_callVir hX [] (k := 112) (ci := 10) rfl hc10 vkX11_all (fun r hF => c_X11_all  hF) mkX11_all cvX11_177 rfl rfl ⟨by omega, by decide, Nat.le_of_ble_eq_true rfl⟩ dX11_tries_2 (fun r1 => ?_)
  refine s_iload_n hX dX11_tries_5 rfl 1 rfl ?_
  refine s_iconst (v := (-1)) hX dX11_tries_6 (by decide) ?_
  refine s_ixor hX dX11_tries_7 ?_
  refine s_iand hX dX11_tries_8 ?_
  refine s_callVir hX [.int (r1 &&& (x1 ^^^ (-1)))] (k := 112) (ci := 10) rfl hc10 vkX11_takenNow (fun r hF => c_X11_takenNow  hF) mkX11_takenNow cvX11_202 rfl rfl ⟨by omega, by decide, Nat.le_of_ble_eq_true rfl⟩ dX11_tries_9 (fun r2 => ?_)
  refine s_istore (lv' := [(4, .int r2), (0, rf g 112), (1, .int x1), (2, .int x2), (3, .int x3)]) hX dX11_tries_12 (by decide) rfl ?_
  refine s_iload hX dX11_tries_14 0 rfl ?_
  refine s_aload_n hX dX11_tries_16 rfl 1 rfl ?_
  refine s_getI hX flX11_205 rfl dX11_tries_17 ?_
  refine s_jn (C := fun j => ∀ (ν3 : Mem), Sim G (j ν3) K 39 [] [] ν3) ?_ (fun j4 hj4 => ?_)
  · intro ν3
    show Sim G _ _ 39 [] [] ν3
    exact s_vreti hK hR dX11_tries_39
  refine s_icmp_ge hX 39 dX11_tries_20 (by decide) ?_ ?_
  · exact s_to hX [] rfl (hj4 μ)
  · refine s_aload_n hX dX11_tries_23 rfl 1 rfl ?_
    refine s_iload hX dX11_tries_24 0 rfl ?_
    refine s_putI hX flX11_205 rfl ⟨rfl, rfl⟩ dX11_tries_26 (fun ν5 => ?_)
    refine s_aload_n hX dX11_tries_29 rfl 1 rfl ?_
    refine s_iload_n hX dX11_tries_30 rfl 3 rfl ?_
    refine s_putI hX flX11_208 rfl ⟨rfl, rfl⟩ dX11_tries_31 (fun ν6 => ?_)
    refine s_aload_n hX dX11_tries_34 rfl 1 rfl ?_
    refine s_iload_n hX dX11_tries_35 rfl 4 rfl ?_
    refine s_putI hX flX11_211 rfl ⟨rfl, rfl⟩ dX11_tries_36 (fun ν7 => ?_)
    exact s_to hX [] rfl (hj4 ν7)
theorem dX3_fullMoon_0 : decode cX3_fullMoon 0 = .ok (.aload_n 0, 1) := by decide +kernel
theorem dX3_fullMoon_1 : decode cX3_fullMoon 1 = .ok (.invokevirtual 74, 3) := by decide +kernel
theorem dX3_fullMoon_4 : decode cX3_fullMoon 4 = .ok (.iconst 0, 1) := by decide +kernel
theorem dX3_fullMoon_5 : decode cX3_fullMoon 5 = .ok (.istore_n 3, 1) := by decide +kernel
theorem dX3_fullMoon_6 : decode cX3_fullMoon 6 = .ok (.aload_n 0, 1) := by decide +kernel
theorem dX3_fullMoon_7 : decode cX3_fullMoon 7 = .ok (.iload_n 1, 1) := by decide +kernel
theorem dX3_fullMoon_8 : decode cX3_fullMoon 8 = .ok (.invokevirtual 68, 3) := by decide +kernel
theorem dX3_fullMoon_11 : decode cX3_fullMoon 11 = .ok (.istore 4, 2) := by decide +kernel
theorem dX3_fullMoon_13 : decode cX3_fullMoon 13 = .ok (.iload 4, 2) := by decide +kernel
theorem dX3_fullMoon_15 : decode cX3_fullMoon 15 = .ok (.iconst (-1), 1) := by decide +kernel
theorem dX3_fullMoon_16 : decode cX3_fullMoon 16 = .ok (.if_icmp .eq 47, 3) := by decide +kernel
theorem dX3_fullMoon_19 : decode cX3_fullMoon 19 = .ok (.iload_n 3, 1) := by decide +kernel
theorem dX3_fullMoon_20 : decode cX3_fullMoon 20 = .ok (.aload_n 0, 1) := by decide +kernel
theorem dX3_fullMoon_21 : decode cX3_fullMoon 21 = .ok (.iload 4, 2) := by decide +kernel
theorem dX3_fullMoon_23 : decode cX3_fullMoon 23 = .ok (.invokevirtual 77, 3) := by decide +kernel
theorem dX3_fullMoon_26 : decode cX3_fullMoon 26 = .ok (.iadd, 1) := by decide +kernel
theorem dX3_fullMoon_27 : decode cX3_fullMoon 27 = .ok (.istore_n 3, 1) := by decide +kernel
theorem dX3_fullMoon_28 : decode cX3_fullMoon 28 = .ok (.iload_n 2, 1) := by decide +kernel
theorem dX3_fullMoon_29 : decode cX3_fullMoon 29 = .ok (.ifCond .eq 16, 3) := by decide +kernel
theorem dX3_fullMoon_32 : decode cX3_fullMoon 32 = .ok (.aload_n 0, 1) := by decide +kernel
theorem dX3_fullMoon_33 : decode cX3_fullMoon 33 = .ok (.iload_n 1, 1) := by decide +kernel
theorem dX3_fullMoon_34 : decode cX3_fullMoon 34 = .ok (.iconst 1, 1) := by decide +kernel
theorem dX3_fullMoon_35 : decode cX3_fullMoon 35 = .ok (.iload 4, 2) := by decide +kernel
theorem dX3_fullMoon_37 : decode cX3_fullMoon 37 = .ok (.ishl, 1) := by decide +kernel
theorem dX3_fullMoon_38 : decode cX3_fullMoon 38 = .ok (.ior, 1) := by decide +kernel
theorem dX3_fullMoon_39 : decode cX3_fullMoon 39 = .ok (.invokevirtual 68, 3) := by decide +kernel
theorem dX3_fullMoon_42 : decode cX3_fullMoon 42 = .ok (.goto 4, 3) := by decide +kernel
theorem dX3_fullMoon_45 : decode cX3_fullMoon 45 = .ok (.iconst (-1), 1) := by decide +kernel
theorem dX3_fullMoon_46 : decode cX3_fullMoon 46 = .ok (.istore 5, 2) := by decide +kernel
theorem dX3_fullMoon_48 : decode cX3_fullMoon 48 = .ok (.iload 5, 2) := by decide +kernel
theorem dX3_fullMoon_50 : decode cX3_fullMoon 50 = .ok (.iconst (-1), 1) := by decide +kernel
theorem dX3_fullMoon_51 : decode cX3_fullMoon 51 = .ok (.if_icmp .eq 12, 3) := by decide +kernel
theorem dX3_fullMoon_54 : decode cX3_fullMoon 54 = .ok (.iload_n 3, 1) := by decide +kernel
theorem dX3_fullMoon_55 : decode cX3_fullMoon 55 = .ok (.aload_n 0, 1) := by decide +kernel
theorem dX3_fullMoon_56 : decode cX3_fullMoon 56 = .ok (.iload 5, 2) := by decide +kernel
theorem dX3_fullMoon_58 : decode cX3_fullMoon 58 = .ok (.invokevirtual 77, 3) := by decide +kernel
theorem dX3_fullMoon_61 : decode cX3_fullMoon 61 = .ok (.iadd, 1) := by decide +kernel
theorem dX3_fullMoon_62 : decode cX3_fullMoon 62 = .ok (.istore_n 3, 1) := by decide +kernel
theorem dX3_fullMoon_63 : decode cX3_fullMoon 63 = .ok (.aload_n 0, 1) := by decide +kernel
theorem dX3_fullMoon_64 : decode cX3_fullMoon 64 = .ok (.invokevirtual 80, 3) := by decide +kernel
theorem dX3_fullMoon_67 : decode cX3_fullMoon 67 = .ok (.aload_n 0, 1) := by decide +kernel
theorem dX3_fullMoon_68 : decode cX3_fullMoon 68 = .ok (.dup, 1) := by decide +kernel
theorem dX3_fullMoon_69 : decode cX3_fullMoon 69 = .ok (.getfield 18, 3) := by decide +kernel
theorem dX3_fullMoon_72 : decode cX3_fullMoon 72 = .ok (.iconst 1, 1) := by decide +kernel
theorem dX3_fullMoon_73 : decode cX3_fullMoon 73 = .ok (.iadd, 1) := by decide +kernel
theorem dX3_fullMoon_74 : decode cX3_fullMoon 74 = .ok (.putfield 18, 3) := by decide +kernel
theorem dX3_fullMoon_77 : decode cX3_fullMoon 77 = .ok (.iload_n 3, 1) := by decide +kernel
theorem dX3_fullMoon_78 : decode cX3_fullMoon 78 = .ok (.ireturn, 1) := by decide +kernel
noncomputable def f_X3_fullMoon (k0 : Nat) (x1 : Int32) (x2 : Int32) (μ : Mem) : Option (Int32 × Mem) :=
  bd (f_X3_look k0 μ) fun ν1 =>
  bd (f_X3_greatestBut k0 x1 ν1) fun r2 =>
  jn (fun (x3_3 : Int32) (ν4 : Mem) =>
    bd (f_X3_growAll k0 ν4) fun ν6 =>
    lt (setI ν6 k0 2 ((ν6.1 k0 2) + 1)) fun ν7 =>
    some (x3_3, ν7)
    ) fun j5 =>
  if r2 = (-1) then
    j5 0 ν1
  else
    bd2 (f_X3_takeFrom k0 r2 ν1) fun r8 ν9 =>
    jn (fun (y10 : Int32) =>
      if y10 = (-1) then
        j5 (0 + r8) ν9
      else
        bd2 (f_X3_takeFrom k0 y10 ν9) fun r12 ν13 =>
        j5 ((0 + r8) + r12) ν13
      ) fun j11 =>
    if x2 = 0 then
      j11 (-1)
    else
      bd (f_X3_greatestBut k0 (x1 ||| ((1 : Int32) <<< (r2 &&& 31))) ν9) fun r14 =>
      j11 r14
set_option maxHeartbeats 4000000 in
set_option maxRecDepth 100000 in
theorem c_X3_fullMoon {g : GT} {k0 : Nat} {x1 : Int32} {x2 : Int32} {μ : Mem} {μ0 : Mem} {r0 : Int32} (hk0 : tyOf k0 = 3) (hf : f_X3_fullMoon k0 x1 x2 μ = some (r0, μ0)) : CI g yX3_fullMoon cX3_fullMoon 6 (some .int) 5 [rf g k0, .int x1, .int x2] μ r0 μ0 := by
  refine mk_i (by decide) (Nat.le_of_ble_eq_true rfl) ?_
  intro G hX hR
  have hX : CX g G cX3_fullMoon RX3 6 5 := hX
  suffices S : ∀ K : (Int32 × Mem) → Prop, (∀ a, K a → a = (r0, μ0)) → Sim G (f_X3_fullMoon k0 x1 x2 μ) K 0 [(0, rf g k0), (1, .int x1), (2, .int x2)] [] μ from S (fun a => a = (r0, μ0)) (fun a h => h) _ hf rfl
  intro K hK
  unfold f_X3_fullMoon
  refine s_aload_n hX dX3_fullMoon_0 rfl 0 rfl ?_
  refine s_callVvw hX [] (k := k0) (ci := 3) hk0 hc3 vkX3_look (fun ν hF => c_X3_look hk0 hF) mkX3_look cvX3_74 rfl rfl ⟨by omega, by decide, Nat.le_of_ble_eq_true rfl⟩ dX3_fullMoon_1 (fun ν1 => ?_)
  refine s_iconst (v := 0) hX dX3_fullMoon_4 (by decide) ?_
  refine s_istore_n (lv' := [(3, .int 0), (0, rf g k0), (1, .int x1), (2, .int x2)]) hX dX3_fullMoon_5 rfl (by decide) rfl ?_
  refine s_aload_n hX dX3_fullMoon_6 rfl 1 rfl ?_
  refine s_iload_n hX dX3_fullMoon_7 rfl 2 rfl ?_
  refine s_callVir hX [.int x1] (k := k0) (ci := 3) hk0 hc3 vkX3_greatestBut (fun r hF => c_X3_greatestBut hk0 hF) mkX3_greatestBut cvX3_68 rfl rfl ⟨by omega, by decide, Nat.le_of_ble_eq_true rfl⟩ dX3_fullMoon_8 (fun r2 => ?_)
  refine s_istore (lv' := [(4, .int r2), (3, .int 0), (0, rf g k0), (1, .int x1), (2, .int x2)]) hX dX3_fullMoon_11 (by decide) rfl ?_
  refine s_iload hX dX3_fullMoon_13 0 rfl ?_
  refine s_iconst (v := (-1)) hX dX3_fullMoon_15 (by decide) ?_
  refine s_jn (C := fun j => ∀ (x3_3 : Int32) (ν4 : Mem), Sim G (j x3_3 ν4) K 63 [(0, rf g k0), (3, .int x3_3)] [] ν4) ?_ (fun j5 hj5 => ?_)
  · intro x3_3 ν4
    show Sim G _ _ 63 [(0, rf g k0), (3, .int x3_3)] [] ν4
    refine s_aload_n hX dX3_fullMoon_63 rfl 0 rfl ?_
    refine s_callVvw hX [] (k := k0) (ci := 3) hk0 hc3 vkX3_growAll (fun ν hF => c_X3_growAll hk0 hF) mkX3_growAll cvX3_80 rfl rfl ⟨by omega, by decide, Nat.le_of_ble_eq_true rfl⟩ dX3_fullMoon_64 (fun ν6 => ?_)
    refine s_aload_n hX dX3_fullMoon_67 rfl 0 rfl ?_
    refine s_dup hX dX3_fullMoon_68 rfl ?_
    refine s_getI hX flX3_18 hk0 dX3_fullMoon_69 ?_
    refine s_iconst (v := 1) hX dX3_fullMoon_72 (by decide) ?_
    refine s_iadd hX dX3_fullMoon_73 ?_
    refine s_putI hX flX3_18 hk0 ⟨rfl, rfl⟩ dX3_fullMoon_74 (fun ν7 => ?_)
    refine s_iload_n hX dX3_fullMoon_77 rfl 1 rfl ?_
    exact s_ireti hK hR dX3_fullMoon_78
  refine s_icmp_eq hX 63 dX3_fullMoon_16 (by decide) ?_ ?_
  · exact s_to hX [2, 1] rfl (hj5 0 ν1)
  · refine s_iload_n hX dX3_fullMoon_19 rfl 1 rfl ?_
    refine s_aload_n hX dX3_fullMoon_20 rfl 2 rfl ?_
    refine s_iload hX dX3_fullMoon_21 0 rfl ?_
    refine s_callViw hX [.int r2] (k := k0) (ci := 3) hk0 hc3 vkX3_takeFrom (fun r ν hF => c_X3_takeFrom hk0 hF) mkX3_takeFrom cvX3_77 rfl rfl ⟨by omega, by decide, Nat.le_of_ble_eq_true rfl⟩ dX3_fullMoon_23 (fun r8 ν9 => ?_)
    refine s_iadd hX dX3_fullMoon_26 ?_
    refine s_istore_n (lv' := [(3, .int (0 + r8)), (4, .int r2), (0, rf g k0), (1, .int x1), (2, .int x2)]) hX dX3_fullMoon_27 rfl (by decide) rfl ?_
    refine s_iload_n hX dX3_fullMoon_28 rfl 4 rfl ?_
    refine s_jn (C := fun j => ∀ (y10 : Int32), Sim G (j y10) K 46 [(0, rf g k0), (3, .int (0 + r8))] [.int y10] ν9) ?_ (fun j11 hj11 => ?_)
    · intro y10
      show Sim G _ _ 46 [(0, rf g k0), (3, .int (0 + r8))] [.int y10] ν9
      refine s_istore (lv' := [(5, .int y10), (0, rf g k0), (3, .int (0 + r8))]) hX dX3_fullMoon_46 (by decide) rfl ?_
      refine s_iload hX dX3_fullMoon_48 0 rfl ?_
      refine s_iconst (v := (-1)) hX dX3_fullMoon_50 (by decide) ?_
      refine s_icmp_eq hX 63 dX3_fullMoon_51 (by decide) ?_ ?_
      · exact s_to hX [1, 2] rfl (hj5 (0 + r8) ν9)
      · refine s_iload_n hX dX3_fullMoon_54 rfl 2 rfl ?_
        refine s_aload_n hX dX3_fullMoon_55 rfl 1 rfl ?_
        refine s_iload hX dX3_fullMoon_56 0 rfl ?_
        refine s_callViw hX [.int y10] (k := k0) (ci := 3) hk0 hc3 vkX3_takeFrom (fun r ν hF => c_X3_takeFrom hk0 hF) mkX3_takeFrom cvX3_77 rfl rfl ⟨by omega, by decide, Nat.le_of_ble_eq_true rfl⟩ dX3_fullMoon_58 (fun r12 ν13 => ?_)
        refine s_iadd hX dX3_fullMoon_61 ?_
        refine s_istore_n (lv' := [(3, .int ((0 + r8) + r12)), (5, .int y10), (0, rf g k0)]) hX dX3_fullMoon_62 rfl (by decide) rfl ?_
        exact s_to hX [2, 0] rfl (hj5 ((0 + r8) + r12) ν13)
    refine s_if_eq hX 45 dX3_fullMoon_29 (by decide) ?_ ?_
    · refine s_iconst (v := (-1)) hX dX3_fullMoon_45 (by decide) ?_
      exact s_to hX [2, 0] rfl (hj11 (-1))
    · refine s_aload_n hX dX3_fullMoon_32 rfl 2 rfl ?_
      refine s_iload_n hX dX3_fullMoon_33 rfl 3 rfl ?_
      refine s_iconst (v := 1) hX dX3_fullMoon_34 (by decide) ?_
      refine s_iload hX dX3_fullMoon_35 1 rfl ?_
      refine s_ishl hX dX3_fullMoon_37 ?_
      refine s_ior hX dX3_fullMoon_38 ?_
      refine s_callVir hX [.int (x1 ||| ((1 : Int32) <<< (r2 &&& 31)))] (k := k0) (ci := 3) hk0 hc3 vkX3_greatestBut (fun r hF => c_X3_greatestBut hk0 hF) mkX3_greatestBut cvX3_68 rfl rfl ⟨by omega, by decide, Nat.le_of_ble_eq_true rfl⟩ dX3_fullMoon_39 (fun r14 => ?_)
      refine s_goto hX 46 dX3_fullMoon_42 (by decide) ?_
      exact s_to hX [2, 0] rfl (hj11 r14)
theorem dX3_takenFromLeague_0 : decode cX3_takenFromLeague 0 = .ok (.aload_n 0, 1) := by decide +kernel
theorem dX3_takenFromLeague_1 : decode cX3_takenFromLeague 1 = .ok (.iload_n 1, 1) := by decide +kernel
theorem dX3_takenFromLeague_2 : decode cX3_takenFromLeague 2 = .ok (.iconst (-1), 1) := by decide +kernel
theorem dX3_takenFromLeague_3 : decode cX3_takenFromLeague 3 = .ok (.ixor, 1) := by decide +kernel
theorem dX3_takenFromLeague_4 : decode cX3_takenFromLeague 4 = .ok (.invokevirtual 68, 3) := by decide +kernel
theorem dX3_takenFromLeague_7 : decode cX3_takenFromLeague 7 = .ok (.istore_n 2, 1) := by decide +kernel
theorem dX3_takenFromLeague_8 : decode cX3_takenFromLeague 8 = .ok (.iload_n 2, 1) := by decide +kernel
theorem dX3_takenFromLeague_9 : decode cX3_takenFromLeague 9 = .ok (.iconst (-1), 1) := by decide +kernel
theorem dX3_takenFromLeague_10 : decode cX3_takenFromLeague 10 = .ok (.if_icmp .ne 7, 3) := by decide +kernel
theorem dX3_takenFromLeague_13 : decode cX3_takenFromLeague 13 = .ok (.iconst 0, 1) := by decide +kernel
theorem dX3_takenFromLeague_14 : decode cX3_takenFromLeague 14 = .ok (.goto 8, 3) := by decide +kernel
theorem dX3_takenFromLeague_17 : decode cX3_takenFromLeague 17 = .ok (.aload_n 0, 1) := by decide +kernel
theorem dX3_takenFromLeague_18 : decode cX3_takenFromLeague 18 = .ok (.iload_n 2, 1) := by decide +kernel
theorem dX3_takenFromLeague_19 : decode cX3_takenFromLeague 19 = .ok (.invokevirtual 71, 3) := by decide +kernel
theorem dX3_takenFromLeague_22 : decode cX3_takenFromLeague 22 = .ok (.ireturn, 1) := by decide +kernel
noncomputable def f_X3_takenFromLeague (k0 : Nat) (x1 : Int32) (μ : Mem) : Option Int32 :=
  bd (f_X3_greatestBut k0 (x1 ^^^ (-1)) μ) fun r1 =>
  jn (fun (y2 : Int32) =>
    some y2
    ) fun j3 =>
  if r1 = (-1) then
    j3 0
  else
    bd (f_X3_tollOf k0 r1 μ) fun r4 =>
    j3 r4
set_option maxHeartbeats 4000000 in
set_option maxRecDepth 100000 in
theorem c_X3_takenFromLeague {g : GT} {k0 : Nat} {x1 : Int32} {μ : Mem} {r0 : Int32} (hk0 : tyOf k0 = 3) (hf : f_X3_takenFromLeague k0 x1 μ = some r0) : CI g yX3_takenFromLeague cX3_takenFromLeague 3 (some .int) 5 [rf g k0, .int x1] μ r0 μ := by
  refine mk_i (by decide) (Nat.le_of_ble_eq_true rfl) ?_
  intro G hX hR
  have hX : CX g G cX3_takenFromLeague RX3 3 5 := hX
  suffices S : ∀ K : Int32 → Prop, (∀ a, K a → a = r0) → Sim G (f_X3_takenFromLeague k0 x1 μ) K 0 [(0, rf g k0), (1, .int x1)] [] μ from S (fun a => a = r0) (fun a h => h) _ hf rfl
  intro K hK
  unfold f_X3_takenFromLeague
  refine s_aload_n hX dX3_takenFromLeague_0 rfl 0 rfl ?_
  refine s_iload_n hX dX3_takenFromLeague_1 rfl 1 rfl ?_
  refine s_iconst (v := (-1)) hX dX3_takenFromLeague_2 (by decide) ?_
  refine s_ixor hX dX3_takenFromLeague_3 ?_
  refine s_callVir hX [.int (x1 ^^^ (-1))] (k := k0) (ci := 3) hk0 hc3 vkX3_greatestBut (fun r hF => c_X3_greatestBut hk0 hF) mkX3_greatestBut cvX3_68 rfl rfl ⟨by omega, by decide, Nat.le_of_ble_eq_true rfl⟩ dX3_takenFromLeague_4 (fun r1 => ?_)
  refine s_istore_n (lv' := [(2, .int r1), (0, rf g k0), (1, .int x1)]) hX dX3_takenFromLeague_7 rfl (by decide) rfl ?_
  refine s_iload_n hX dX3_takenFromLeague_8 rfl 0 rfl ?_
  refine s_iconst (v := (-1)) hX dX3_takenFromLeague_9 (by decide) ?_
  refine s_jn (C := fun j => ∀ (y2 : Int32), Sim G (j y2) K 22 [] [.int y2] μ) ?_ (fun j3 hj3 => ?_)
  · intro y2
    show Sim G _ _ 22 [] [.int y2] μ
    exact s_iretr hK hR dX3_takenFromLeague_22
  refine s_icmp_ne hX 17 dX3_takenFromLeague_10 (by decide) ?_ ?_
  · refine s_aload_n hX dX3_takenFromLeague_17 rfl 1 rfl ?_
    refine s_iload_n hX dX3_takenFromLeague_18 rfl 0 rfl ?_
    refine s_callVir hX [.int r1] (k := k0) (ci := 3) hk0 hc3 vkX3_tollOf (fun r hF => c_X3_tollOf hk0 hF) mkX3_tollOf cvX3_71 rfl rfl ⟨by omega, by decide, Nat.le_of_ble_eq_true rfl⟩ dX3_takenFromLeague_19 (fun r4 => ?_)
    exact s_to hX [] rfl (hj3 r4)
  · refine s_iconst (v := 0) hX dX3_takenFromLeague_13 (by decide) ?_
    refine s_goto hX 22 dX3_takenFromLeague_14 (by decide) ?_
    exact s_to hX [] rfl (hj3 0)
theorem dX5_tryLastMove_0 : decode cX5_tryLastMove 0 = .ok (.iload_n 1, 1) := by decide +kernel
theorem dX5_tryLastMove_1 : decode cX5_tryLastMove 1 = .ok (.istore_n 3, 1) := by decide +kernel
theorem dX5_tryLastMove_2 : decode cX5_tryLastMove 2 = .ok (.iload_n 3, 1) := by decide +kernel
theorem dX5_tryLastMove_3 : decode cX5_tryLastMove 3 = .ok (.aload_n 0, 1) := by decide +kernel
theorem dX5_tryLastMove_4 : decode cX5_tryLastMove 4 = .ok (.getfield 12, 3) := by decide +kernel
theorem dX5_tryLastMove_7 : decode cX5_tryLastMove 7 = .ok (.getfield 63, 3) := by decide +kernel
theorem dX5_tryLastMove_10 : decode cX5_tryLastMove 10 = .ok (.if_icmp .ge 78, 3) := by decide +kernel
theorem dX5_tryLastMove_13 : decode cX5_tryLastMove 13 = .ok (.aload_n 0, 1) := by decide +kernel
theorem dX5_tryLastMove_14 : decode cX5_tryLastMove 14 = .ok (.getfield 12, 3) := by decide +kernel
theorem dX5_tryLastMove_17 : decode cX5_tryLastMove 17 = .ok (.getfield 66, 3) := by decide +kernel
theorem dX5_tryLastMove_20 : decode cX5_tryLastMove 20 = .ok (.iload_n 3, 1) := by decide +kernel
theorem dX5_tryLastMove_21 : decode cX5_tryLastMove 21 = .ok (.iaload, 1) := by decide +kernel
theorem dX5_tryLastMove_22 : decode cX5_tryLastMove 22 = .ok (.istore 4, 2) := by decide +kernel
theorem dX5_tryLastMove_24 : decode cX5_tryLastMove 24 = .ok (.iconst 0, 1) := by decide +kernel
theorem dX5_tryLastMove_25 : decode cX5_tryLastMove 25 = .ok (.istore 5, 2) := by decide +kernel
theorem dX5_tryLastMove_27 : decode cX5_tryLastMove 27 = .ok (.iload 5, 2) := by decide +kernel
theorem dX5_tryLastMove_29 : decode cX5_tryLastMove 29 = .ok (.aload_n 0, 1) := by decide +kernel
theorem dX5_tryLastMove_30 : decode cX5_tryLastMove 30 = .ok (.getfield 12, 3) := by decide +kernel
theorem dX5_tryLastMove_33 : decode cX5_tryLastMove 33 = .ok (.getfield 42, 3) := by decide +kernel
theorem dX5_tryLastMove_36 : decode cX5_tryLastMove 36 = .ok (.if_icmp .ge 46, 3) := by decide +kernel
theorem dX5_tryLastMove_39 : decode cX5_tryLastMove 39 = .ok (.iload 5, 2) := by decide +kernel
theorem dX5_tryLastMove_41 : decode cX5_tryLastMove 41 = .ok (.iload 4, 2) := by decide +kernel
theorem dX5_tryLastMove_43 : decode cX5_tryLastMove 43 = .ok (.if_icmp .eq 33, 3) := by decide +kernel
theorem dX5_tryLastMove_46 : decode cX5_tryLastMove 46 = .ok (.aload_n 0, 1) := by decide +kernel
theorem dX5_tryLastMove_47 : decode cX5_tryLastMove 47 = .ok (.iload_n 3, 1) := by decide +kernel
theorem dX5_tryLastMove_48 : decode cX5_tryLastMove 48 = .ok (.iload 4, 2) := by decide +kernel
theorem dX5_tryLastMove_50 : decode cX5_tryLastMove 50 = .ok (.iload 5, 2) := by decide +kernel
theorem dX5_tryLastMove_52 : decode cX5_tryLastMove 52 = .ok (.invokevirtual 69, 3) := by decide +kernel
theorem dX5_tryLastMove_55 : decode cX5_tryLastMove 55 = .ok (.aload_n 0, 1) := by decide +kernel
theorem dX5_tryLastMove_56 : decode cX5_tryLastMove 56 = .ok (.iload_n 2, 1) := by decide +kernel
theorem dX5_tryLastMove_57 : decode cX5_tryLastMove 57 = .ok (.bipush 10, 2) := by decide +kernel
theorem dX5_tryLastMove_59 : decode cX5_tryLastMove 59 = .ok (.iload_n 3, 1) := by decide +kernel
theorem dX5_tryLastMove_60 : decode cX5_tryLastMove 60 = .ok (.imul, 1) := by decide +kernel
theorem dX5_tryLastMove_61 : decode cX5_tryLastMove 61 = .ok (.iload 5, 2) := by decide +kernel
theorem dX5_tryLastMove_63 : decode cX5_tryLastMove 63 = .ok (.iadd, 1) := by decide +kernel
theorem dX5_tryLastMove_64 : decode cX5_tryLastMove 64 = .ok (.invokevirtual 73, 3) := by decide +kernel
theorem dX5_tryLastMove_67 : decode cX5_tryLastMove 67 = .ok (.aload_n 0, 1) := by decide +kernel
theorem dX5_tryLastMove_68 : decode cX5_tryLastMove 68 = .ok (.iload_n 3, 1) := by decide +kernel
theorem dX5_tryLastMove_69 : decode cX5_tryLastMove 69 = .ok (.iload 5, 2) := by decide +kernel
theorem dX5_tryLastMove_71 : decode cX5_tryLastMove 71 = .ok (.iload 4, 2) := by decide +kernel
theorem dX5_tryLastMove_73 : decode cX5_tryLastMove 73 = .ok (.invokevirtual 69, 3) := by decide +kernel
theorem dX5_tryLastMove_76 : decode cX5_tryLastMove 76 = .ok (.iinc 5 1, 3) := by decide +kernel
theorem dX5_tryLastMove_79 : decode cX5_tryLastMove 79 = .ok (.goto (-52), 3) := by decide +kernel
theorem dX5_tryLastMove_82 : decode cX5_tryLastMove 82 = .ok (.iinc 3 1, 3) := by decide +kernel
theorem dX5_tryLastMove_85 : decode cX5_tryLastMove 85 = .ok (.goto (-83), 3) := by decide +kernel
theorem dX5_tryLastMove_88 : decode cX5_tryLastMove 88 = .ok (.return_, 1) := by decide +kernel
noncomputable def f_X5_tryLastMove (x1 : Int32) (x2 : Int32) (μ : Mem) : Option Mem :=
  bd (lp (ε := Mem) (cu2 fun (x3_1 : Int32) (ν2 : Mem) =>
    if x3_1 < (ν2.1 73 1) then
      chk x3_1 10 (
        bd (lp (ε := Mem) (cu2 fun (x5_5 : Int32) (ν6 : Mem) =>
          if x5_5 < (ν6.1 73 0) then
            jn (fun (ν9 : Mem) =>
              some (.inl ((x5_5 + 1), ν9))
              ) fun j10 =>
            if x5_5 = (ν2.1 75 (ix x3_1)) then
              j10 ν6
            else
              bd (f_X5_shift x3_1 (ν2.1 75 (ix x3_1)) x5_5 ν6) fun ν11 =>
              bd (f_X5_weigh x2 ((10 * x3_1) + x5_5) ν11) fun ν12 =>
              bd (f_X5_shift x3_1 x5_5 (ν2.1 75 (ix x3_1)) ν12) fun ν13 =>
              j10 ν13
          else
            some (.inr ν6)
          ) (0, ν2)) (fun (ν7 : Mem) =>
          some (.inl ((x3_1 + 1), ν7))
          )
        )
    else
      some (.inr ν2)
    ) (x1, μ)) (fun (ν3 : Mem) =>
    some ν3
    )
set_option maxHeartbeats 4000000 in
set_option maxRecDepth 100000 in
theorem c_X5_tryLastMove {g : GT} {x1 : Int32} {x2 : Int32} {μ : Mem} {μ0 : Mem} (hf : f_X5_tryLastMove x1 x2 μ = some μ0) : CV g yX5_tryLastMove cX5_tryLastMove 6 (none) 5 [rf g 72, .int x1, .int x2] μ μ0 := by
  refine mk_v (by decide) (Nat.le_of_ble_eq_true rfl) ?_
  intro G hX hR
  have hX : CX g G cX5_tryLastMove RX5 6 5 := hX
  suffices S : ∀ K : Mem → Prop, (∀ a, K a → a = μ0) → Sim G (f_X5_tryLastMove x1 x2 μ) K 0 [(0, rf g 72), (1, .int x1), (2, .int x2)] [] μ from S (fun a => a = μ0) (fun a h => h) _ hf rfl
  intro K hK
  unfold f_X5_tryLastMove
  refine s_iload_n hX dX5_tryLastMove_0 rfl 1 rfl ?_
  refine s_istore_n (lv' := [(3, .int x1), (0, rf g 72), (1, .int x1), (2, .int x2)]) hX dX5_tryLastMove_1 rfl (by decide) rfl ?_
  refine s_loop hX 2 88 (fun s : Int32 × Mem => [(0, rf g 72), (2, .int x2), (3, .int s.1)]) (fun s : Int32 × Mem => s.2) (fun s : Mem => []) (fun s : Mem => s) [1, 3, 0] rfl rfl rfl ?_ ?_
  · intro Kq4 hIq4 hJq4 sq
    obtain ⟨x3_1, ν2⟩ := sq
    refine s_cu2 ?_
    show Sim G _ _ 2 [(0, rf g 72), (2, .int x2), (3, .int x3_1)] [] ν2
    refine s_iload_n hX dX5_tryLastMove_2 rfl 2 rfl ?_
    refine s_aload_n hX dX5_tryLastMove_3 rfl 0 rfl ?_
    refine s_getR hX (d := 1) 73 flX5_12 rfl rfl dX5_tryLastMove_4 ?_
    refine s_getI hX flX5_63 rfl dX5_tryLastMove_7 ?_
    refine s_icmp_ge hX 88 dX5_tryLastMove_10 (by decide) ?_ ?_
    · exact s_end hX (hJq4 ν2) [] rfl
    · refine s_aload_n hX dX5_tryLastMove_13 rfl 0 rfl ?_
      refine s_getR hX (d := 1) 73 flX5_12 rfl rfl dX5_tryLastMove_14 ?_
      refine s_getR hX (d := 2) 75 flX5_66 rfl rfl dX5_tryLastMove_17 ?_
      refine s_iload_n hX dX5_tryLastMove_20 rfl 2 rfl ?_
      refine s_iald hX rfl rfl dX5_tryLastMove_21 ?_
      refine s_istore (lv' := [(4, .int (ν2.1 75 (ix x3_1))), (0, rf g 72), (2, .int x2), (3, .int x3_1)]) hX dX5_tryLastMove_22 (by decide) rfl ?_
      refine s_iconst (v := 0) hX dX5_tryLastMove_24 (by decide) ?_
      refine s_istore (lv' := [(5, .int 0), (4, .int (ν2.1 75 (ix x3_1))), (0, rf g 72), (2, .int x2), (3, .int x3_1)]) hX dX5_tryLastMove_25 (by decide) rfl ?_
      refine s_loop hX 27 82 (fun s : Int32 × Mem => [(0, rf g 72), (2, .int x2), (3, .int x3_1), (4, .int (ν2.1 75 (ix x3_1))), (5, .int s.1)]) (fun s : Int32 × Mem => s.2) (fun s : Mem => [(0, rf g 72), (2, .int x2), (3, .int x3_1)]) (fun s : Mem => s) [2, 3, 4, 1, 0] rfl rfl rfl ?_ ?_
      · intro Kq8 hIq8 hJq8 sq
        obtain ⟨x5_5, ν6⟩ := sq
        refine s_cu2 ?_
        show Sim G _ _ 27 [(0, rf g 72), (2, .int x2), (3, .int x3_1), (4, .int (ν2.1 75 (ix x3_1))), (5, .int x5_5)] [] ν6
        refine s_iload hX dX5_tryLastMove_27 4 rfl ?_
        refine s_aload_n hX dX5_tryLastMove_29 rfl 0 rfl ?_
        refine s_getR hX (d := 1) 73 flX5_12 rfl rfl dX5_tryLastMove_30 ?_
        refine s_getI hX flX5_42 rfl dX5_tryLastMove_33 ?_
        refine s_icmp_ge hX 82 dX5_tryLastMove_36 (by decide) ?_ ?_
        · exact s_end hX (hJq8 ν6) [0, 1, 2] rfl
        · refine s_iload hX dX5_tryLastMove_39 4 rfl ?_
          refine s_iload hX dX5_tryLastMove_41 3 rfl ?_
          refine s_jn (C := fun j => ∀ (ν9 : Mem), Sim G (j ν9) Kq8 76 [(0, rf g 72), (2, .int x2), (3, .int x3_1), (4, .int (ν2.1 75 (ix x3_1))), (5, .int x5_5)] [] ν9) ?_ (fun j10 hj10 => ?_)
          · intro ν9
            show Sim G _ _ 76 [(0, rf g 72), (2, .int x2), (3, .int x3_1), (4, .int (ν2.1 75 (ix x3_1))), (5, .int x5_5)] [] ν9
            refine s_iinc (v := (x5_5 + 1)) (lv' := [(5, .int (x5_5 + 1)), (0, rf g 72), (2, .int x2), (3, .int x3_1), (4, .int (ν2.1 75 (ix x3_1)))]) hX dX5_tryLastMove_76 4 rfl rfl (by decide) rfl ?_
            refine s_goto hX 27 dX5_tryLastMove_79 (by decide) ?_
            exact s_end hX (hIq8 ((x5_5 + 1), ν9)) [1, 2, 3, 4, 0] rfl
          refine s_icmp_eq hX 76 dX5_tryLastMove_43 (by decide) ?_ ?_
          · exact s_to hX [0, 1, 2, 3, 4] rfl (hj10 ν6)
          · refine s_aload_n hX dX5_tryLastMove_46 rfl 0 rfl ?_
            refine s_iload_n hX dX5_tryLastMove_47 rfl 2 rfl ?_
            refine s_iload hX dX5_tryLastMove_48 3 rfl ?_
            refine s_iload hX dX5_tryLastMove_50 4 rfl ?_
            refine s_callVvw hX [.int x3_1, .int (ν2.1 75 (ix x3_1)), .int x5_5] (k := 72) (ci := 4) rfl hc4 vkX5_shift (fun ν hF => c_X5_shift  hF) mkX5_shift cvX5_69 rfl rfl ⟨by omega, by decide, Nat.le_of_ble_eq_true rfl⟩ dX5_tryLastMove_52 (fun ν11 => ?_)
            refine s_aload_n hX dX5_tryLastMove_55 rfl 0 rfl ?_
            refine s_iload_n hX dX5_tryLastMove_56 rfl 1 rfl ?_
            refine s_bipush (v := 10) hX dX5_tryLastMove_57 (by decide) ?_
            refine s_iload_n hX dX5_tryLastMove_59 rfl 2 rfl ?_
            refine s_imul hX dX5_tryLastMove_60 ?_
            refine s_iload hX dX5_tryLastMove_61 4 rfl ?_
            refine s_iadd hX dX5_tryLastMove_63 ?_
            refine s_callVvw hX [.int x2, .int ((10 * x3_1) + x5_5)] (k := 72) (ci := 4) rfl hc4 vkX5_weigh (fun ν hF => c_X5_weigh  hF) mkX5_weigh cvX5_73 rfl rfl ⟨by omega, by decide, Nat.le_of_ble_eq_true rfl⟩ dX5_tryLastMove_64 (fun ν12 => ?_)
            refine s_aload_n hX dX5_tryLastMove_67 rfl 0 rfl ?_
            refine s_iload_n hX dX5_tryLastMove_68 rfl 2 rfl ?_
            refine s_iload hX dX5_tryLastMove_69 4 rfl ?_
            refine s_iload hX dX5_tryLastMove_71 3 rfl ?_
            refine s_callVvw hX [.int x3_1, .int x5_5, .int (ν2.1 75 (ix x3_1))] (k := 72) (ci := 4) rfl hc4 vkX5_shift (fun ν hF => c_X5_shift  hF) mkX5_shift cvX5_69 rfl rfl ⟨by omega, by decide, Nat.le_of_ble_eq_true rfl⟩ dX5_tryLastMove_73 (fun ν13 => ?_)
            exact s_to hX [0, 1, 2, 3, 4] rfl (hj10 ν13)
      · intro sq
        obtain ⟨ν7, rfl⟩ : ∃ z, z = sq := ⟨_, rfl⟩
        show Sim G _ _ 82 [(0, rf g 72), (2, .int x2), (3, .int x3_1)] [] ν7
        refine s_iinc (v := (x3_1 + 1)) (lv' := [(3, .int (x3_1 + 1)), (0, rf g 72), (2, .int x2)]) hX dX5_tryLastMove_82 2 rfl rfl (by decide) rfl ?_
        refine s_goto hX 2 dX5_tryLastMove_85 (by decide) ?_
        exact s_end hX (hIq4 ((x3_1 + 1), ν7)) [1, 2, 0] rfl
  · intro sq
    obtain ⟨ν3, rfl⟩ : ∃ z, z = sq := ⟨_, rfl⟩
    show Sim G _ _ 88 [] [] ν3
    exact s_vreti hK hR dX5_tryLastMove_88
theorem dX8_tokenIs_0 : decode cX8_tokenIs 0 = .ok (.aload_n 0, 1) := by decide +kernel
theorem dX8_tokenIs_1 : decode cX8_tokenIs 1 = .ok (.getfield 32, 3) := by decide +kernel
theorem dX8_tokenIs_4 : decode cX8_tokenIs 4 = .ok (.aload_n 0, 1) := by decide +kernel
theorem dX8_tokenIs_5 : decode cX8_tokenIs 5 = .ok (.getfield 29, 3) := by decide +kernel
theorem dX8_tokenIs_8 : decode cX8_tokenIs 8 = .ok (.isub, 1) := by decide +kernel
theorem dX8_tokenIs_9 : decode cX8_tokenIs 9 = .ok (.aload_n 1, 1) := by decide +kernel
theorem dX8_tokenIs_10 : decode cX8_tokenIs 10 = .ok (.invokevirtual 71, 3) := by decide +kernel
theorem dX8_tokenIs_13 : decode cX8_tokenIs 13 = .ok (.if_icmp .eq 5, 3) := by decide +kernel
theorem dX8_tokenIs_16 : decode cX8_tokenIs 16 = .ok (.iconst 0, 1) := by decide +kernel
theorem dX8_tokenIs_17 : decode cX8_tokenIs 17 = .ok (.ireturn, 1) := by decide +kernel
theorem dX8_tokenIs_18 : decode cX8_tokenIs 18 = .ok (.iconst 0, 1) := by decide +kernel
theorem dX8_tokenIs_19 : decode cX8_tokenIs 19 = .ok (.istore_n 2, 1) := by decide +kernel
theorem dX8_tokenIs_20 : decode cX8_tokenIs 20 = .ok (.iload_n 2, 1) := by decide +kernel
theorem dX8_tokenIs_21 : decode cX8_tokenIs 21 = .ok (.aload_n 1, 1) := by decide +kernel
theorem dX8_tokenIs_22 : decode cX8_tokenIs 22 = .ok (.invokevirtual 71, 3) := by decide +kernel
theorem dX8_tokenIs_25 : decode cX8_tokenIs 25 = .ok (.if_icmp .ge 30, 3) := by decide +kernel
theorem dX8_tokenIs_28 : decode cX8_tokenIs 28 = .ok (.aload_n 0, 1) := by decide +kernel
theorem dX8_tokenIs_29 : decode cX8_tokenIs 29 = .ok (.getfield 9, 3) := by decide +kernel
theorem dX8_tokenIs_32 : decode cX8_tokenIs 32 = .ok (.aload_n 0, 1) := by decide +kernel
theorem dX8_tokenIs_33 : decode cX8_tokenIs 33 = .ok (.getfield 29, 3) := by decide +kernel
theorem dX8_tokenIs_36 : decode cX8_tokenIs 36 = .ok (.iload_n 2, 1) := by decide +kernel
theorem dX8_tokenIs_37 : decode cX8_tokenIs 37 = .ok (.iadd, 1) := by decide +kernel
theorem dX8_tokenIs_38 : decode cX8_tokenIs 38 = .ok (.caload, 1) := by decide +kernel
theorem dX8_tokenIs_39 : decode cX8_tokenIs 39 = .ok (.aload_n 1, 1) := by decide +kernel
theorem dX8_tokenIs_40 : decode cX8_tokenIs 40 = .ok (.iload_n 2, 1) := by decide +kernel
theorem dX8_tokenIs_41 : decode cX8_tokenIs 41 = .ok (.invokevirtual 76, 3) := by decide +kernel
theorem dX8_tokenIs_44 : decode cX8_tokenIs 44 = .ok (.if_icmp .eq 5, 3) := by decide +kernel
theorem dX8_tokenIs_47 : decode cX8_tokenIs 47 = .ok (.iconst 0, 1) := by decide +kernel
theorem dX8_tokenIs_48 : decode cX8_tokenIs 48 = .ok (.ireturn, 1) := by decide +kernel
theorem dX8_tokenIs_49 : decode cX8_tokenIs 49 = .ok (.iinc 2 1, 3) := by decide +kernel
theorem dX8_tokenIs_52 : decode cX8_tokenIs 52 = .ok (.goto (-32), 3) := by decide +kernel
theorem dX8_tokenIs_55 : decode cX8_tokenIs 55 = .ok (.iconst 1, 1) := by decide +kernel
theorem dX8_tokenIs_56 : decode cX8_tokenIs 56 = .ok (.ireturn, 1) := by decide +kernel
noncomputable def f_X8_tokenIs (w1 : Nat) (μ : Mem) : Option Int32 :=
  bd (f_J0_length_8abf5 w1) fun r1 =>
  if ((μ.1 45 6) - (μ.1 45 5)) = r1 then
    bdr (lp (ε := (Unit) ⊕ Int32) (fun (x2_2 : Int32) =>
      bd (f_J0_length_8abf5 w1) fun r4 =>
      if x2_2 < r4 then
        chk ((μ.1 45 5) + x2_2) 150 (
          bd (f_J0_charAt_5068e w1 x2_2) fun r5 =>
          if (μ.1 46 (ix ((μ.1 45 5) + x2_2))) = r5 then
            some (.inl (x2_2 + 1))
          else
            some (.inr (.inr 0))
          )
      else
        some (.inr (.inl ()))
      ) 0) (fun (_ : Unit) =>
      some 1
      ) (fun r => some (r))
  else
    some 0
set_option maxHeartbeats 4000000 in
set_option maxRecDepth 100000 in
theorem c_X8_tokenIs {g : GT} {w1 : Nat} {μ : Mem} {r0 : Int32} (hw1 : w1 < 6) (hf : f_X8_tokenIs w1 μ = some r0) : CI g yX8_tokenIs cX8_tokenIs 3 (some .boolean) 5 [rf g 45, rfS g w1] μ r0 μ := by
  refine mk_z (by decide) (Nat.le_of_ble_eq_true rfl) ?_
  intro G hX hR
  have hX : CX g G cX8_tokenIs RX8 3 5 := hX
  suffices S : ∀ K : Int32 → Prop, (∀ a, K a → a = r0) → Sim G (f_X8_tokenIs w1 μ) K 0 [(0, rf g 45), (1, rfS g w1)] [] μ from S (fun a => a = r0) (fun a h => h) _ hf rfl
  intro K hK
  unfold f_X8_tokenIs
  refine s_aload_n hX dX8_tokenIs_0 rfl 0 rfl ?_
  refine s_getI hX flX8_32 rfl dX8_tokenIs_1 ?_
  refine s_aload_n hX dX8_tokenIs_4 rfl 0 rfl ?_
  refine s_getI hX flX8_29 rfl dX8_tokenIs_5 ?_
  refine s_isub hX dX8_tokenIs_8 ?_
  refine s_Sload_n hX dX8_tokenIs_9 rfl 1 rfl ?_
  refine s_callUir hX [] hw1 vkJ0_length_8abf5 (fun r hF => c_J0_length_8abf5 hw1 hF) mkJ0_length_8abf5 cvX8_71 rfl rfl ⟨by omega, by decide, Nat.le_of_ble_eq_true rfl⟩ dX8_tokenIs_10 (fun r1 => ?_)
  refine s_icmp_eq hX 18 dX8_tokenIs_13 (by decide) ?_ ?_
  · refine s_iconst (v := 0) hX dX8_tokenIs_18 (by decide) ?_
    refine s_istore_n (lv' := [(2, .int 0), (0, rf g 45), (1, rfS g w1)]) hX dX8_tokenIs_19 rfl (by decide) rfl ?_
    refine s_loopR hX 20 55 (fun s : Int32 => [(0, rf g 45), (1, rfS g w1), (2, .int s)]) (fun s : Int32 => μ) (fun _ : Unit => []) (fun _ : Unit => μ) [1, 2, 0] rfl rfl rfl (fun r => r = r0) (fun r a h k => by cases h; exact hK _ k) ?_ ?_
    · intro Kq3 hIq3 hJq3 hKq3 sq
      obtain ⟨x2_2, rfl⟩ : ∃ z, z = sq := ⟨_, rfl⟩
      show Sim G _ _ 20 [(0, rf g 45), (1, rfS g w1), (2, .int x2_2)] [] μ
      refine s_iload_n hX dX8_tokenIs_20 rfl 2 rfl ?_
      refine s_Sload_n hX dX8_tokenIs_21 rfl 1 rfl ?_
      refine s_callUir hX [] hw1 vkJ0_length_8abf5 (fun r hF => c_J0_length_8abf5 hw1 hF) mkJ0_length_8abf5 cvX8_71 rfl rfl ⟨by omega, by decide, Nat.le_of_ble_eq_true rfl⟩ dX8_tokenIs_22 (fun r4 => ?_)
      refine s_icmp_ge hX 55 dX8_tokenIs_25 (by decide) ?_ ?_
      · exact s_end hX (hJq3 ()) [] rfl
      · refine s_aload_n hX dX8_tokenIs_28 rfl 0 rfl ?_
        refine s_getR hX (d := 1) 46 flX8_9 rfl rfl dX8_tokenIs_29 ?_
        refine s_aload_n hX dX8_tokenIs_32 rfl 0 rfl ?_
        refine s_getI hX flX8_29 rfl dX8_tokenIs_33 ?_
        refine s_iload_n hX dX8_tokenIs_36 rfl 2 rfl ?_
        refine s_iadd hX dX8_tokenIs_37 ?_
        refine s_cald hX rfl rfl dX8_tokenIs_38 ?_
        refine s_Sload_n hX dX8_tokenIs_39 rfl 1 rfl ?_
        refine s_iload_n hX dX8_tokenIs_40 rfl 2 rfl ?_
        refine s_callUir hX [.int x2_2] hw1 vkJ0_charAt_5068e (fun r hF => c_J0_charAt_5068e hw1 hF) mkJ0_charAt_5068e cvX8_76 rfl rfl ⟨by omega, by decide, Nat.le_of_ble_eq_true rfl⟩ dX8_tokenIs_41 (fun r5 => ?_)
        refine s_icmp_eq hX 49 dX8_tokenIs_44 (by decide) ?_ ?_
        · refine s_iinc (v := (x2_2 + 1)) (lv' := [(2, .int (x2_2 + 1)), (0, rf g 45), (1, rfS g w1)]) hX dX8_tokenIs_49 2 rfl rfl (by decide) rfl ?_
          refine s_goto hX 20 dX8_tokenIs_52 (by decide) ?_
          exact s_end hX (hIq3 (x2_2 + 1)) [1, 2, 0] rfl
        · refine s_iconst (v := 0) hX dX8_tokenIs_47 (by decide) ?_
          exact s_zretr (by decide) hKq3 hR dX8_tokenIs_48
    · intro sq
      show Sim G _ _ 55 [] [] μ
      refine s_iconst (v := 1) hX dX8_tokenIs_55 (by decide) ?_
      exact s_zretr (by decide) hK hR dX8_tokenIs_56
  · refine s_iconst (v := 0) hX dX8_tokenIs_16 (by decide) ?_
    exact s_zretr (by decide) hK hR dX8_tokenIs_17
theorem dX9_foresee_0 : decode cX9_foresee 0 = .ok (.aload_n 0, 1) := by decide +kernel
theorem dX9_foresee_1 : decode cX9_foresee 1 = .ok (.aload_n 1, 1) := by decide +kernel
theorem dX9_foresee_2 : decode cX9_foresee 2 = .ok (.getfield 30, 3) := by decide +kernel
theorem dX9_foresee_5 : decode cX9_foresee 5 = .ok (.getfield 36, 3) := by decide +kernel
theorem dX9_foresee_8 : decode cX9_foresee 8 = .ok (.putfield 26, 3) := by decide +kernel
theorem dX9_foresee_11 : decode cX9_foresee 11 = .ok (.aload_n 0, 1) := by decide +kernel
theorem dX9_foresee_12 : decode cX9_foresee 12 = .ok (.lconst 1, 1) := by decide +kernel
theorem dX9_foresee_13 : decode cX9_foresee 13 = .ok (.putfield 22, 3) := by decide +kernel
theorem dX9_foresee_16 : decode cX9_foresee 16 = .ok (.iconst 0, 1) := by decide +kernel
theorem dX9_foresee_17 : decode cX9_foresee 17 = .ok (.istore 4, 2) := by decide +kernel
theorem dX9_foresee_19 : decode cX9_foresee 19 = .ok (.iload 4, 2) := by decide +kernel
theorem dX9_foresee_21 : decode cX9_foresee 21 = .ok (.aload_n 0, 1) := by decide +kernel
theorem dX9_foresee_22 : decode cX9_foresee 22 = .ok (.getfield 26, 3) := by decide +kernel
theorem dX9_foresee_25 : decode cX9_foresee 25 = .ok (.if_icmp .ge 73, 3) := by decide +kernel
theorem dX9_foresee_28 : decode cX9_foresee 28 = .ok (.aload_n 0, 1) := by decide +kernel
theorem dX9_foresee_29 : decode cX9_foresee 29 = .ok (.getfield 9, 3) := by decide +kernel
theorem dX9_foresee_32 : decode cX9_foresee 32 = .ok (.iload 4, 2) := by decide +kernel
theorem dX9_foresee_34 : decode cX9_foresee 34 = .ok (.aload_n 1, 1) := by decide +kernel
theorem dX9_foresee_35 : decode cX9_foresee 35 = .ok (.getfield 30, 3) := by decide +kernel
theorem dX9_foresee_38 : decode cX9_foresee 38 = .ok (.iload 4, 2) := by decide +kernel
theorem dX9_foresee_40 : decode cX9_foresee 40 = .ok (.invokevirtual 39, 3) := by decide +kernel
theorem dX9_foresee_43 : decode cX9_foresee 43 = .ok (.iload 4, 2) := by decide +kernel
theorem dX9_foresee_45 : decode cX9_foresee 45 = .ok (.iload_n 2, 1) := by decide +kernel
theorem dX9_foresee_46 : decode cX9_foresee 46 = .ok (.if_icmp .ne 7, 3) := by decide +kernel
theorem dX9_foresee_49 : decode cX9_foresee 49 = .ok (.iload_n 3, 1) := by decide +kernel
theorem dX9_foresee_50 : decode cX9_foresee 50 = .ok (.goto 4, 3) := by decide +kernel
theorem dX9_foresee_53 : decode cX9_foresee 53 = .ok (.iconst 0, 1) := by decide +kernel
theorem dX9_foresee_54 : decode cX9_foresee 54 = .ok (.iadd, 1) := by decide +kernel
theorem dX9_foresee_55 : decode cX9_foresee 55 = .ok (.iastore, 1) := by decide +kernel
theorem dX9_foresee_56 : decode cX9_foresee 56 = .ok (.aload_n 0, 1) := by decide +kernel
theorem dX9_foresee_57 : decode cX9_foresee 57 = .ok (.getfield 15, 3) := by decide +kernel
theorem dX9_foresee_60 : decode cX9_foresee 60 = .ok (.iload 4, 2) := by decide +kernel
theorem dX9_foresee_62 : decode cX9_foresee 62 = .ok (.aload_n 1, 1) := by decide +kernel
theorem dX9_foresee_63 : decode cX9_foresee 63 = .ok (.getfield 30, 3) := by decide +kernel
theorem dX9_foresee_66 : decode cX9_foresee 66 = .ok (.iload 4, 2) := by decide +kernel
theorem dX9_foresee_68 : decode cX9_foresee 68 = .ok (.invokevirtual 43, 3) := by decide +kernel
theorem dX9_foresee_71 : decode cX9_foresee 71 = .ok (.iastore, 1) := by decide +kernel
theorem dX9_foresee_72 : decode cX9_foresee 72 = .ok (.aload_n 0, 1) := by decide +kernel
theorem dX9_foresee_73 : decode cX9_foresee 73 = .ok (.getfield 18, 3) := by decide +kernel
theorem dX9_foresee_76 : decode cX9_foresee 76 = .ok (.iload 4, 2) := by decide +kernel
theorem dX9_foresee_78 : decode cX9_foresee 78 = .ok (.lconst 0, 1) := by decide +kernel
theorem dX9_foresee_79 : decode cX9_foresee 79 = .ok (.lastore, 1) := by decide +kernel
theorem dX9_foresee_80 : decode cX9_foresee 80 = .ok (.aload_n 0, 1) := by decide +kernel
theorem dX9_foresee_81 : decode cX9_foresee 81 = .ok (.dup, 1) := by decide +kernel
theorem dX9_foresee_82 : decode cX9_foresee 82 = .ok (.getfield 22, 3) := by decide +kernel
theorem dX9_foresee_85 : decode cX9_foresee 85 = .ok (.ldc2_w 46, 3) := by decide +kernel
theorem dX9_foresee_88 : decode cX9_foresee 88 = .ok (.lmul, 1) := by decide +kernel
theorem dX9_foresee_89 : decode cX9_foresee 89 = .ok (.putfield 22, 3) := by decide +kernel
theorem dX9_foresee_92 : decode cX9_foresee 92 = .ok (.iinc 4 1, 3) := by decide +kernel
theorem dX9_foresee_95 : decode cX9_foresee 95 = .ok (.goto (-76), 3) := by decide +kernel
theorem dX9_foresee_98 : decode cX9_foresee 98 = .ok (.iconst 0, 1) := by decide +kernel
theorem dX9_foresee_99 : decode cX9_foresee 99 = .ok (.istore 4, 2) := by decide +kernel
theorem dX9_foresee_101 : decode cX9_foresee 101 = .ok (.iload 4, 2) := by decide +kernel
theorem dX9_foresee_103 : decode cX9_foresee 103 = .ok (.iconst 1, 1) := by decide +kernel
theorem dX9_foresee_104 : decode cX9_foresee 104 = .ok (.aload_n 0, 1) := by decide +kernel
theorem dX9_foresee_105 : decode cX9_foresee 105 = .ok (.getfield 26, 3) := by decide +kernel
theorem dX9_foresee_108 : decode cX9_foresee 108 = .ok (.ishl, 1) := by decide +kernel
theorem dX9_foresee_109 : decode cX9_foresee 109 = .ok (.if_icmp .ge 50, 3) := by decide +kernel
theorem dX9_foresee_112 : decode cX9_foresee 112 = .ok (.aload_n 0, 1) := by decide +kernel
theorem dX9_foresee_113 : decode cX9_foresee 113 = .ok (.getfield 9, 3) := by decide +kernel
theorem dX9_foresee_116 : decode cX9_foresee 116 = .ok (.aload_n 0, 1) := by decide +kernel
theorem dX9_foresee_117 : decode cX9_foresee 117 = .ok (.getfield 26, 3) := by decide +kernel
theorem dX9_foresee_120 : decode cX9_foresee 120 = .ok (.iload 4, 2) := by decide +kernel
theorem dX9_foresee_122 : decode cX9_foresee 122 = .ok (.invokestatic 48, 3) := by decide +kernel
theorem dX9_foresee_125 : decode cX9_foresee 125 = .ok (.istore 5, 2) := by decide +kernel
theorem dX9_foresee_127 : decode cX9_foresee 127 = .ok (.iload 5, 2) := by decide +kernel
theorem dX9_foresee_129 : decode cX9_foresee 129 = .ok (.iconst (-1), 1) := by decide +kernel
theorem dX9_foresee_130 : decode cX9_foresee 130 = .ok (.if_icmp .eq 23, 3) := by decide +kernel
theorem dX9_foresee_133 : decode cX9_foresee 133 = .ok (.aload_n 0, 1) := by decide +kernel
theorem dX9_foresee_134 : decode cX9_foresee 134 = .ok (.getfield 18, 3) := by decide +kernel
theorem dX9_foresee_137 : decode cX9_foresee 137 = .ok (.iload 5, 2) := by decide +kernel
theorem dX9_foresee_139 : decode cX9_foresee 139 = .ok (.dup2, 1) := by decide +kernel
theorem dX9_foresee_140 : decode cX9_foresee 140 = .ok (.laload, 1) := by decide +kernel
theorem dX9_foresee_141 : decode cX9_foresee 141 = .ok (.aload_n 0, 1) := by decide +kernel
theorem dX9_foresee_142 : decode cX9_foresee 142 = .ok (.iload 4, 2) := by decide +kernel
theorem dX9_foresee_144 : decode cX9_foresee 144 = .ok (.aload_n 1, 1) := by decide +kernel
theorem dX9_foresee_145 : decode cX9_foresee 145 = .ok (.getfield 52, 3) := by decide +kernel
theorem dX9_foresee_148 : decode cX9_foresee 148 = .ok (.invokevirtual 55, 3) := by decide +kernel
theorem dX9_foresee_151 : decode cX9_foresee 151 = .ok (.ladd, 1) := by decide +kernel
theorem dX9_foresee_152 : decode cX9_foresee 152 = .ok (.lastore, 1) := by decide +kernel
theorem dX9_foresee_153 : decode cX9_foresee 153 = .ok (.iinc 4 1, 3) := by decide +kernel
theorem dX9_foresee_156 : decode cX9_foresee 156 = .ok (.goto (-55), 3) := by decide +kernel
theorem dX9_foresee_159 : decode cX9_foresee 159 = .ok (.return_, 1) := by decide +kernel
noncomputable def f_X9_foresee (k1 : Nat) (x2 : Int32) (x3 : Int32) (μ : Mem) : Option Mem :=
  lt (setI μ 68 4 (μ.1 (k1 + 1) 0)) fun ν1 =>
  lt (setL ν1 68 3 1) fun ν2 =>
  bd (lp (ε := Mem) (cu2 fun (x4_3 : Int32) (ν4 : Mem) =>
    if x4_3 < (ν4.1 68 4) then
      bd (f_X3_sightOf (k1 + 1) x4_3 ν4) fun r7 =>
      jn (fun (y8 : Int32) =>
        chk x4_3 5 (lt (setI ν4 69 (ix x4_3) (r7 + y8)) fun ν10 =>
          bd (f_X3_tollOf (k1 + 1) x4_3 ν10) fun r11 =>
          chk x4_3 5 (lt (setI ν10 70 (ix x4_3) r11) fun ν12 =>
            chk x4_3 5 (lt (setL ν12 71 (ix x4_3) 0) fun ν13 =>
              lt (setL ν13 68 3 ((ν13.2 68 3) * 10)) fun ν14 =>
              some (.inl ((x4_3 + 1), ν14))
              )
            )
          )
        ) fun j9 =>
      if x4_3 = x2 then
        j9 x3
      else
        j9 0
    else
      some (.inr ν4)
    ) (0, ν2)) (fun (ν5 : Mem) =>
    bd (lp (ε := Mem) (cu2 fun (x4_15 : Int32) (ν16 : Mem) =>
      if x4_15 < ((1 : Int32) <<< ((ν16.1 68 4) &&& 31)) then
        bd (f_X3_greatestIn 69 (ν16.1 68 4) x4_15 ν16) fun r19 =>
        jn (fun (ν20 : Mem) =>
          some (.inl ((x4_15 + 1), ν20))
          ) fun j21 =>
        if r19 = (-1) then
          j21 ν16
        else
          chk r19 5 (
            bd (f_X9_casesOf x4_15 (k1 + 12) ν16) fun r22 =>
            chk r19 5 (lt (setL ν16 71 (ix r19) ((ν16.2 71 (ix r19)) + r22)) fun ν23 =>
              j21 ν23
              )
            )
      else
        some (.inr ν16)
      ) (0, ν5)) (fun (ν17 : Mem) =>
      some ν17
      )
    )
set_option maxHeartbeats 4000000 in
set_option maxRecDepth 100000 in
theorem c_X9_foresee {g : GT} {k1 : Nat} {x2 : Int32} {x3 : Int32} {μ : Mem} {μ0 : Mem} (hk1 : tyOf k1 = 0) (hf : f_X9_foresee k1 x2 x3 μ = some μ0) : CV g yX9_foresee cX9_foresee 6 (none) 5 [rf g 68, rf g k1, .int x2, .int x3] μ μ0 := by
  refine mk_v (by decide) (Nat.le_of_ble_eq_true rfl) ?_
  intro G hX hR
  have hX : CX g G cX9_foresee RX9 6 5 := hX
  suffices S : ∀ K : Mem → Prop, (∀ a, K a → a = μ0) → Sim G (f_X9_foresee k1 x2 x3 μ) K 0 [(0, rf g 68), (1, rf g k1), (2, .int x2), (3, .int x3)] [] μ from S (fun a => a = μ0) (fun a h => h) _ hf rfl
  intro K hK
  unfold f_X9_foresee
  refine s_aload_n hX dX9_foresee_0 rfl 0 rfl ?_
  refine s_aload_n hX dX9_foresee_1 rfl 1 rfl ?_
  refine s_getR hX (d := 1) (k1 + 1) flX9_30 hk1 rfl dX9_foresee_2 ?_
  refine s_getI hX flX9_36 (ty_0_1 hk1).1 dX9_foresee_5 ?_
  refine s_putI hX flX9_26 rfl ⟨rfl, rfl⟩ dX9_foresee_8 (fun ν1 => ?_)
  refine s_aload_n hX dX9_foresee_11 rfl 0 rfl ?_
  refine s_lconst (v := 1) hX dX9_foresee_12 (by decide) ?_
  refine s_putL hX flX9_22 rfl ⟨rfl, rfl⟩ dX9_foresee_13 (fun ν2 => ?_)
  refine s_iconst (v := 0) hX dX9_foresee_16 (by decide) ?_
  refine s_istore (lv' := [(4, .int 0), (0, rf g 68), (1, rf g k1), (2, .int x2), (3, .int x3)]) hX dX9_foresee_17 (by decide) rfl ?_
  refine s_loop hX 19 98 (fun s : Int32 × Mem => [(0, rf g 68), (1, rf g k1), (2, .int x2), (3, .int x3), (4, .int s.1)]) (fun s : Int32 × Mem => s.2) (fun s : Mem => [(0, rf g 68), (1, rf g k1)]) (fun s : Mem => s) [1, 2, 3, 4, 0] rfl rfl rfl ?_ ?_
  · intro Kq6 hIq6 hJq6 sq
    obtain ⟨x4_3, ν4⟩ := sq
    refine s_cu2 ?_
    show Sim G _ _ 19 [(0, rf g 68), (1, rf g k1), (2, .int x2), (3, .int x3), (4, .int x4_3)] [] ν4
    refine s_iload hX dX9_foresee_19 4 rfl ?_
    refine s_aload_n hX dX9_foresee_21 rfl 0 rfl ?_
    refine s_getI hX flX9_26 rfl dX9_foresee_22 ?_
    refine s_icmp_ge hX 98 dX9_foresee_25 (by decide) ?_ ?_
    · exact s_end hX (hJq6 ν4) [0, 1] rfl
    · refine s_aload_n hX dX9_foresee_28 rfl 0 rfl ?_
      refine s_getR hX (d := 1) 69 flX9_9 rfl rfl dX9_foresee_29 ?_
      refine s_iload hX dX9_foresee_32 4 rfl ?_
      refine s_aload_n hX dX9_foresee_34 rfl 1 rfl ?_
      refine s_getR hX (d := 1) (k1 + 1) flX9_30 hk1 rfl dX9_foresee_35 ?_
      refine s_iload hX dX9_foresee_38 4 rfl ?_
      refine s_callVir hX [.int x4_3] (k := (k1 + 1)) (ci := 3) (ty_0_1 hk1).1 hc3 vkX3_sightOf (fun r hF => c_X3_sightOf (ty_0_1 hk1).1 hF) mkX3_sightOf cvX9_39 rfl rfl ⟨by omega, by decide, Nat.le_of_ble_eq_true rfl⟩ dX9_foresee_40 (fun r7 => ?_)
      refine s_iload hX dX9_foresee_43 4 rfl ?_
      refine s_iload_n hX dX9_foresee_45 rfl 2 rfl ?_
      refine s_jn (C := fun j => ∀ (y8 : Int32), Sim G (j y8) Kq6 54 [(0, rf g 68), (1, rf g k1), (2, .int x2), (3, .int x3), (4, .int x4_3)] [.int y8, .int r7, .int x4_3, rf g 69] ν4) ?_ (fun j9 hj9 => ?_)
      · intro y8
        show Sim G _ _ 54 [(0, rf g 68), (1, rf g k1), (2, .int x2), (3, .int x3), (4, .int x4_3)] [.int y8, .int r7, .int x4_3, rf g 69] ν4
        refine s_iadd hX dX9_foresee_54 ?_
        refine s_iast hX rfl rfl dX9_foresee_55 (fun ν10 => ?_)
        refine s_aload_n hX dX9_foresee_56 rfl 0 rfl ?_
        refine s_getR hX (d := 2) 70 flX9_15 rfl rfl dX9_foresee_57 ?_
        refine s_iload hX dX9_foresee_60 4 rfl ?_
        refine s_aload_n hX dX9_foresee_62 rfl 1 rfl ?_
        refine s_getR hX (d := 1) (k1 + 1) flX9_30 hk1 rfl dX9_foresee_63 ?_
        refine s_iload hX dX9_foresee_66 4 rfl ?_
        refine s_callVir hX [.int x4_3] (k := (k1 + 1)) (ci := 3) (ty_0_1 hk1).1 hc3 vkX3_tollOf (fun r hF => c_X3_tollOf (ty_0_1 hk1).1 hF) mkX3_tollOf cvX9_43 rfl rfl ⟨by omega, by decide, Nat.le_of_ble_eq_true rfl⟩ dX9_foresee_68 (fun r11 => ?_)
        refine s_iast hX rfl rfl dX9_foresee_71 (fun ν12 => ?_)
        refine s_aload_n hX dX9_foresee_72 rfl 0 rfl ?_
        refine s_getR hX (d := 3) 71 flX9_18 rfl rfl dX9_foresee_73 ?_
        refine s_iload hX dX9_foresee_76 4 rfl ?_
        refine s_lconst (v := 0) hX dX9_foresee_78 (by decide) ?_
        refine s_last hX rfl rfl dX9_foresee_79 (fun ν13 => ?_)
        refine s_aload_n hX dX9_foresee_80 rfl 0 rfl ?_
        refine s_dup hX dX9_foresee_81 rfl ?_
        refine s_getL hX flX9_22 rfl dX9_foresee_82 ?_
        refine s_ldc2 hX dX9_foresee_85 klX9_46 ?_
        refine s_lmul hX dX9_foresee_88 ?_
        refine s_putL hX flX9_22 rfl ⟨rfl, rfl⟩ dX9_foresee_89 (fun ν14 => ?_)
        refine s_iinc (v := (x4_3 + 1)) (lv' := [(4, .int (x4_3 + 1)), (0, rf g 68), (1, rf g k1), (2, .int x2), (3, .int x3)]) hX dX9_foresee_92 4 rfl rfl (by decide) rfl ?_
        refine s_goto hX 19 dX9_foresee_95 (by decide) ?_
        exact s_end hX (hIq6 ((x4_3 + 1), ν14)) [1, 2, 3, 4, 0] rfl
      refine s_icmp_ne hX 53 dX9_foresee_46 (by decide) ?_ ?_
      · refine s_iconst (v := 0) hX dX9_foresee_53 (by decide) ?_
        exact s_to hX [0, 1, 2, 3, 4] rfl (hj9 0)
      · refine s_iload_n hX dX9_foresee_49 rfl 3 rfl ?_
        refine s_goto hX 54 dX9_foresee_50 (by decide) ?_
        exact s_to hX [0, 1, 2, 3, 4] rfl (hj9 x3)
  · intro sq
    obtain ⟨ν5, rfl⟩ : ∃ z, z = sq := ⟨_, rfl⟩
    show Sim G _ _ 98 [(0, rf g 68), (1, rf g k1)] [] ν5
    refine s_iconst (v := 0) hX dX9_foresee_98 (by decide) ?_
    refine s_istore (lv' := [(4, .int 0), (0, rf g 68), (1, rf g k1)]) hX dX9_foresee_99 (by decide) rfl ?_
    refine s_loop hX 101 159 (fun s : Int32 × Mem => [(0, rf g 68), (1, rf g k1), (4, .int s.1)]) (fun s : Int32 × Mem => s.2) (fun s : Mem => []) (fun s : Mem => s) [1, 2, 0] rfl rfl rfl ?_ ?_
    · intro Kq18 hIq18 hJq18 sq
      obtain ⟨x4_15, ν16⟩ := sq
      refine s_cu2 ?_
      show Sim G _ _ 101 [(0, rf g 68), (1, rf g k1), (4, .int x4_15)] [] ν16
      refine s_iload hX dX9_foresee_101 2 rfl ?_
      refine s_iconst (v := 1) hX dX9_foresee_103 (by decide) ?_
      refine s_aload_n hX dX9_foresee_104 rfl 0 rfl ?_
      refine s_getI hX flX9_26 rfl dX9_foresee_105 ?_
      refine s_ishl hX dX9_foresee_108 ?_
      refine s_icmp_ge hX 159 dX9_foresee_109 (by decide) ?_ ?_
      · exact s_end hX (hJq18 ν16) [] rfl
      · refine s_aload_n hX dX9_foresee_112 rfl 0 rfl ?_
        refine s_getR hX (d := 1) 69 flX9_9 rfl rfl dX9_foresee_113 ?_
        refine s_aload_n hX dX9_foresee_116 rfl 0 rfl ?_
        refine s_getI hX flX9_26 rfl dX9_foresee_117 ?_
        refine s_iload hX dX9_foresee_120 2 rfl ?_
        refine s_callSir hX [rf g 69, .int (ν16.1 68 4), .int x4_15] skX3_greatestIn (fun r hF => c_X3_greatestIn rfl rfl hF) mkX3_greatestIn cvX9_48 rfl rfl ⟨by omega, by decide, Nat.le_of_ble_eq_true rfl⟩ dX9_foresee_122 (fun r19 => ?_)
        refine s_istore (lv' := [(5, .int r19), (0, rf g 68), (1, rf g k1), (4, .int x4_15)]) hX dX9_foresee_125 (by decide) rfl ?_
        refine s_iload hX dX9_foresee_127 0 rfl ?_
        refine s_iconst (v := (-1)) hX dX9_foresee_129 (by decide) ?_
        refine s_jn (C := fun j => ∀ (ν20 : Mem), Sim G (j ν20) Kq18 153 [(0, rf g 68), (1, rf g k1), (4, .int x4_15)] [] ν20) ?_ (fun j21 hj21 => ?_)
        · intro ν20
          show Sim G _ _ 153 [(0, rf g 68), (1, rf g k1), (4, .int x4_15)] [] ν20
          refine s_iinc (v := (x4_15 + 1)) (lv' := [(4, .int (x4_15 + 1)), (0, rf g 68), (1, rf g k1)]) hX dX9_foresee_153 2 rfl rfl (by decide) rfl ?_
          refine s_goto hX 101 dX9_foresee_156 (by decide) ?_
          exact s_end hX (hIq18 ((x4_15 + 1), ν20)) [1, 2, 0] rfl
        refine s_icmp_eq hX 153 dX9_foresee_130 (by decide) ?_ ?_
        · exact s_to hX [1, 2, 3] rfl (hj21 ν16)
        · refine s_aload_n hX dX9_foresee_133 rfl 1 rfl ?_
          refine s_getR hX (d := 3) 71 flX9_18 rfl rfl dX9_foresee_134 ?_
          refine s_iload hX dX9_foresee_137 0 rfl ?_
          refine s_dup2 hX dX9_foresee_139 rfl rfl ?_
          refine s_lald hX rfl rfl dX9_foresee_140 ?_
          refine s_aload_n hX dX9_foresee_141 rfl 1 rfl ?_
          refine s_iload hX dX9_foresee_142 3 rfl ?_
          refine s_aload_n hX dX9_foresee_144 rfl 2 rfl ?_
          refine s_getR hX (d := 12) (k1 + 12) flX9_52 hk1 rfl dX9_foresee_145 ?_
          refine s_callVlr hX [.int x4_15, rf g (k1 + 12)] (k := 68) (ci := 8) rfl hc8 vkX9_casesOf (fun r hF => c_X9_casesOf (ty_0_12 hk1).1 (ty_0_12 hk1).2 hF) mkX9_casesOf cvX9_55 rfl rfl ⟨by omega, by decide, Nat.le_of_ble_eq_true rfl⟩ dX9_foresee_148 (fun r22 => ?_)
          refine s_ladd hX dX9_foresee_151 ?_
          refine s_last hX rfl rfl dX9_foresee_152 (fun ν23 => ?_)
          exact s_to hX [1, 2, 3] rfl (hj21 ν23)
    · intro sq
      obtain ⟨ν17, rfl⟩ : ∃ z, z = sq := ⟨_, rfl⟩
      show Sim G _ _ 159 [] [] ν17
      exact s_vreti hK hR dX9_foresee_159
theorem dX0_passMoon_0 : decode cX0_passMoon 0 = .ok (.aload_n 0, 1) := by decide +kernel
theorem dX0_passMoon_1 : decode cX0_passMoon 1 = .ok (.getfield 12, 3) := by decide +kernel
theorem dX0_passMoon_4 : decode cX0_passMoon 4 = .ok (.iload_n 1, 1) := by decide +kernel
theorem dX0_passMoon_5 : decode cX0_passMoon 5 = .ok (.invokevirtual 108, 3) := by decide +kernel
theorem dX0_passMoon_8 : decode cX0_passMoon 8 = .ok (.ifCond .ne 6, 3) := by decide +kernel
theorem dX0_passMoon_11 : decode cX0_passMoon 11 = .ok (.bipush (-2), 2) := by decide +kernel
theorem dX0_passMoon_13 : decode cX0_passMoon 13 = .ok (.ireturn, 1) := by decide +kernel
theorem dX0_passMoon_14 : decode cX0_passMoon 14 = .ok (.aload_n 0, 1) := by decide +kernel
theorem dX0_passMoon_15 : decode cX0_passMoon 15 = .ok (.getfield 28, 3) := by decide +kernel
theorem dX0_passMoon_18 : decode cX0_passMoon 18 = .ok (.aload_n 0, 1) := by decide +kernel
theorem dX0_passMoon_19 : decode cX0_passMoon 19 = .ok (.getfield 12, 3) := by decide +kernel
theorem dX0_passMoon_22 : decode cX0_passMoon 22 = .ok (.invokevirtual 87, 3) := by decide +kernel
theorem dX0_passMoon_25 : decode cX0_passMoon 25 = .ok (.aload_n 0, 1) := by decide +kernel
theorem dX0_passMoon_26 : decode cX0_passMoon 26 = .ok (.getfield 12, 3) := by decide +kernel
theorem dX0_passMoon_29 : decode cX0_passMoon 29 = .ok (.iload_n 1, 1) := by decide +kernel
theorem dX0_passMoon_30 : decode cX0_passMoon 30 = .ok (.iload_n 2, 1) := by decide +kernel
theorem dX0_passMoon_31 : decode cX0_passMoon 31 = .ok (.invokevirtual 111, 3) := by decide +kernel
theorem dX0_passMoon_34 : decode cX0_passMoon 34 = .ok (.ireturn, 1) := by decide +kernel
noncomputable def f_X0_passMoon (k0 : Nat) (x1 : Int32) (x2 : Int32) (μ : Mem) : Option (Int32 × Mem) :=
  bd (f_X3_hasClouds (k0 + 1) x1 μ) fun r1 =>
  if r1 = 0 then
    some ((-2), μ)
  else
    bd (f_X6_keep (k0 + 9) (k0 + 1) μ) fun ν2 =>
    bd2 (f_X3_fullMoon (k0 + 1) x1 x2 ν2) fun r3 ν4 =>
    some (r3, ν4)
set_option maxHeartbeats 4000000 in
set_option maxRecDepth 100000 in
theorem c_X0_passMoon {g : GT} {k0 : Nat} {x1 : Int32} {x2 : Int32} {μ : Mem} {μ0 : Mem} {r0 : Int32} (hk0 : tyOf k0 = 0) (hf : f_X0_passMoon k0 x1 x2 μ = some (r0, μ0)) : CI g yX0_passMoon cX0_passMoon 3 (some .int) 6 [rf g k0, .int x1, .int x2] μ r0 μ0 := by
  refine mk_i (by decide) (Nat.le_of_ble_eq_true rfl) ?_
  intro G hX hR
  have hX : CX g G cX0_passMoon RX0 3 6 := hX
  suffices S : ∀ K : (Int32 × Mem) → Prop, (∀ a, K a → a = (r0, μ0)) → Sim G (f_X0_passMoon k0 x1 x2 μ) K 0 [(0, rf g k0), (1, .int x1), (2, .int x2)] [] μ from S (fun a => a = (r0, μ0)) (fun a h => h) _ hf rfl
  intro K hK
  unfold f_X0_passMoon
  refine s_aload_n hX dX0_passMoon_0 rfl 0 rfl ?_
  refine s_getR hX (d := 1) (k0 + 1) flX0_12 hk0 rfl dX0_passMoon_1 ?_
  refine s_iload_n hX dX0_passMoon_4 rfl 1 rfl ?_
  refine s_callVir hX [.int x1] (k := (k0 + 1)) (ci := 3) (ty_0_1 hk0).1 hc3 vkX3_hasClouds (fun r hF => c_X3_hasClouds (ty_0_1 hk0).1 hF) mkX3_hasClouds cvX0_108 rfl rfl ⟨by omega, by decide, Nat.le_of_ble_eq_true rfl⟩ dX0_passMoon_5 (fun r1 => ?_)
  refine s_if_ne hX 14 dX0_passMoon_8 (by decide) ?_ ?_
  · refine s_aload_n hX dX0_passMoon_14 rfl 0 rfl ?_
    refine s_getR hX (d := 9) (k0 + 9) flX0_28 hk0 rfl dX0_passMoon_15 ?_
    refine s_aload_n hX dX0_passMoon_18 rfl 0 rfl ?_
    refine s_getR hX (d := 1) (k0 + 1) flX0_12 hk0 rfl dX0_passMoon_19 ?_
    refine s_callVvw hX [rf g (k0 + 1)] (k := (k0 + 9)) (ci := 5) (ty_0_9 hk0).1 hc5 vkX6_keep (fun ν hF => c_X6_keep (ty_0_9 hk0).1 (ty_0_1 hk0).1 hF) mkX6_keep cvX0_87 rfl rfl ⟨by omega, by decide, Nat.le_of_ble_eq_true rfl⟩ dX0_passMoon_22 (fun ν2 => ?_)
    refine s_aload_n hX dX0_passMoon_25 rfl 0 rfl ?_
    refine s_getR hX (d := 1) (k0 + 1) flX0_12 hk0 rfl dX0_passMoon_26 ?_
    refine s_iload_n hX dX0_passMoon_29 rfl 1 rfl ?_
    refine s_iload_n hX dX0_passMoon_30 rfl 2 rfl ?_
    refine s_callViw hX [.int x1, .int x2] (k := (k0 + 1)) (ci := 3) (ty_0_1 hk0).1 hc3 vkX3_fullMoon (fun r ν hF => c_X3_fullMoon (ty_0_1 hk0).1 hF) mkX3_fullMoon cvX0_111 rfl rfl ⟨by omega, by decide, Nat.le_of_ble_eq_true rfl⟩ dX0_passMoon_31 (fun r3 ν4 => ?_)
    exact s_ireti hK hR dX0_passMoon_34
  · refine s_bipush (v := (-2)) hX dX0_passMoon_11 (by decide) ?_
    exact s_ireti hK hR dX0_passMoon_13
theorem dX10_chance_0 : decode cX10_chance 0 = .ok (.aload_n 0, 1) := by decide +kernel
theorem dX10_chance_1 : decode cX10_chance 1 = .ok (.getfield 10, 3) := by decide +kernel
theorem dX10_chance_4 : decode cX10_chance 4 = .ok (.getfield 146, 3) := by decide +kernel
theorem dX10_chance_7 : decode cX10_chance 7 = .ok (.iload_n 1, 1) := by decide +kernel
theorem dX10_chance_8 : decode cX10_chance 8 = .ok (.invokevirtual 169, 3) := by decide +kernel
theorem dX10_chance_11 : decode cX10_chance 11 = .ok (.ifCond .ne 10, 3) := by decide +kernel
theorem dX10_chance_14 : decode cX10_chance 14 = .ok (.aload_n 0, 1) := by decide +kernel
theorem dX10_chance_15 : decode cX10_chance 15 = .ok (.bipush (-2), 2) := by decide +kernel
theorem dX10_chance_17 : decode cX10_chance 17 = .ok (.invokevirtual 90, 3) := by decide +kernel
theorem dX10_chance_20 : decode cX10_chance 20 = .ok (.ireturn, 1) := by decide +kernel
theorem dX10_chance_21 : decode cX10_chance 21 = .ok (.aload_n 0, 1) := by decide +kernel
theorem dX10_chance_22 : decode cX10_chance 22 = .ok (.getfield 44, 3) := by decide +kernel
theorem dX10_chance_25 : decode cX10_chance 25 = .ok (.aload_n 0, 1) := by decide +kernel
theorem dX10_chance_26 : decode cX10_chance 26 = .ok (.getfield 10, 3) := by decide +kernel
theorem dX10_chance_29 : decode cX10_chance 29 = .ok (.iconst (-1), 1) := by decide +kernel
theorem dX10_chance_30 : decode cX10_chance 30 = .ok (.iconst 0, 1) := by decide +kernel
theorem dX10_chance_31 : decode cX10_chance 31 = .ok (.invokevirtual 203, 3) := by decide +kernel
theorem dX10_chance_34 : decode cX10_chance 34 = .ok (.aload_n 0, 1) := by decide +kernel
theorem dX10_chance_35 : decode cX10_chance 35 = .ok (.aload_n 0, 1) := by decide +kernel
theorem dX10_chance_36 : decode cX10_chance 36 = .ok (.getfield 44, 3) := by decide +kernel
theorem dX10_chance_39 : decode cX10_chance 39 = .ok (.getfield 207, 3) := by decide +kernel
theorem dX10_chance_42 : decode cX10_chance 42 = .ok (.iload_n 1, 1) := by decide +kernel
theorem dX10_chance_43 : decode cX10_chance 43 = .ok (.laload, 1) := by decide +kernel
theorem dX10_chance_44 : decode cX10_chance 44 = .ok (.aload_n 0, 1) := by decide +kernel
theorem dX10_chance_45 : decode cX10_chance 45 = .ok (.getfield 44, 3) := by decide +kernel
theorem dX10_chance_48 : decode cX10_chance 48 = .ok (.getfield 211, 3) := by decide +kernel
theorem dX10_chance_51 : decode cX10_chance 51 = .ok (.invokevirtual 214, 3) := by decide +kernel
theorem dX10_chance_54 : decode cX10_chance 54 = .ok (.iconst 1, 1) := by decide +kernel
theorem dX10_chance_55 : decode cX10_chance 55 = .ok (.ireturn, 1) := by decide +kernel
noncomputable def f_X10_chance (x1 : Int32) (μ : Mem) : Option (Int32 × Mem) :=
  bd (f_X3_hasVillage 2 x1 μ) fun r1 =>
  if r1 = 0 then
    bd2 (f_X10_tally (-2) μ) fun r4 ν5 =>
    some (r4, ν5)
  else
    bd (f_X9_foresee 1 (-1) 0 μ) fun ν2 =>
    chk x1 5 (
      bd (f_X10_setFraction (ν2.2 71 (ix x1)) (ν2.2 68 3) ν2) fun ν3 =>
      some (1, ν3)
      )
set_option maxHeartbeats 4000000 in
set_option maxRecDepth 100000 in
theorem c_X10_chance {g : GT} {x1 : Int32} {μ : Mem} {μ0 : Mem} {r0 : Int32} (hf : f_X10_chance x1 μ = some (r0, μ0)) : CI g yX10_chance cX10_chance 2 (some .int) 6 [rf g 0, .int x1] μ r0 μ0 := by
  refine mk_i (by decide) (Nat.le_of_ble_eq_true rfl) ?_
  intro G hX hR
  have hX : CX g G cX10_chance RX10 2 6 := hX
  suffices S : ∀ K : (Int32 × Mem) → Prop, (∀ a, K a → a = (r0, μ0)) → Sim G (f_X10_chance x1 μ) K 0 [(0, rf g 0), (1, .int x1)] [] μ from S (fun a => a = (r0, μ0)) (fun a h => h) _ hf rfl
  intro K hK
  unfold f_X10_chance
  refine s_aload_n hX dX10_chance_0 rfl 0 rfl ?_
  refine s_getR hX (d := 1) 1 flX10_10 rfl rfl dX10_chance_1 ?_
  refine s_getR hX (d := 1) 2 flX10_146 rfl rfl dX10_chance_4 ?_
  refine s_iload_n hX dX10_chance_7 rfl 1 rfl ?_
  refine s_callVir hX [.int x1] (k := 2) (ci := 3) rfl hc3 vkX3_hasVillage (fun r hF => c_X3_hasVillage rfl hF) mkX3_hasVillage cvX10_169 rfl rfl ⟨by omega, by decide, Nat.le_of_ble_eq_true rfl⟩ dX10_chance_8 (fun r1 => ?_)
  refine s_if_ne hX 21 dX10_chance_11 (by decide) ?_ ?_
  · refine s_aload_n hX dX10_chance_21 rfl 0 rfl ?_
    refine s_getR hX (d := 68) 68 flX10_44 rfl rfl dX10_chance_22 ?_
    refine s_aload_n hX dX10_chance_25 rfl 0 rfl ?_
    refine s_getR hX (d := 1) 1 flX10_10 rfl rfl dX10_chance_26 ?_
    refine s_iconst (v := (-1)) hX dX10_chance_29 (by decide) ?_
    refine s_iconst (v := 0) hX dX10_chance_30 (by decide) ?_
    refine s_callVvw hX [rf g 1, .int (-1), .int 0] (k := 68) (ci := 8) rfl hc8 vkX9_foresee (fun ν hF => c_X9_foresee rfl hF) mkX9_foresee cvX10_203 rfl rfl ⟨by omega, by decide, Nat.le_of_ble_eq_true rfl⟩ dX10_chance_31 (fun ν2 => ?_)
    refine s_aload_n hX dX10_chance_34 rfl 0 rfl ?_
    refine s_aload_n hX dX10_chance_35 rfl 0 rfl ?_
    refine s_getR hX (d := 68) 68 flX10_44 rfl rfl dX10_chance_36 ?_
    refine s_getR hX (d := 3) 71 flX10_207 rfl rfl dX10_chance_39 ?_
    refine s_iload_n hX dX10_chance_42 rfl 1 rfl ?_
    refine s_lald hX rfl rfl dX10_chance_43 ?_
    refine s_aload_n hX dX10_chance_44 rfl 0 rfl ?_
    refine s_getR hX (d := 68) 68 flX10_44 rfl rfl dX10_chance_45 ?_
    refine s_getL hX flX10_211 rfl dX10_chance_48 ?_
    refine s_callVvw hX [.long (ν2.2 71 (ix x1)), .long (ν2.2 68 3)] (k := 0) (ci := 9) rfl hc9 vkX10_setFraction (fun ν hF => c_X10_setFraction  hF) mkX10_setFraction cvX10_214 rfl rfl ⟨by omega, by decide, Nat.le_of_ble_eq_true rfl⟩ dX10_chance_51 (fun ν3 => ?_)
    refine s_iconst (v := 1) hX dX10_chance_54 (by decide) ?_
    exact s_ireti hK hR dX10_chance_55
  · refine s_aload_n hX dX10_chance_14 rfl 0 rfl ?_
    refine s_bipush (v := (-2)) hX dX10_chance_15 (by decide) ?_
    refine s_callViw hX [.int (-2)] (k := 0) (ci := 9) rfl hc9 vkX10_tally (fun r ν hF => c_X10_tally  hF) mkX10_tally cvX10_90 rfl rfl ⟨by omega, by decide, Nat.le_of_ble_eq_true rfl⟩ dX10_chance_17 (fun r4 ν5 => ?_)
    exact s_ireti hK hR dX10_chance_20
theorem dX10_drawn_0 : decode cX10_drawn 0 = .ok (.iload_n 1, 1) := by decide +kernel
theorem dX10_drawn_1 : decode cX10_drawn 1 = .ok (.ifCond .lt 20, 3) := by decide +kernel
theorem dX10_drawn_4 : decode cX10_drawn 4 = .ok (.iload_n 1, 1) := by decide +kernel
theorem dX10_drawn_5 : decode cX10_drawn 5 = .ok (.bipush 60, 2) := by decide +kernel
theorem dX10_drawn_7 : decode cX10_drawn 7 = .ok (.if_icmp .gt 14, 3) := by decide +kernel
theorem dX10_drawn_10 : decode cX10_drawn 10 = .ok (.iload_n 2, 1) := by decide +kernel
theorem dX10_drawn_11 : decode cX10_drawn 11 = .ok (.ifCond .lt 10, 3) := by decide +kernel
theorem dX10_drawn_14 : decode cX10_drawn 14 = .ok (.iload_n 2, 1) := by decide +kernel
theorem dX10_drawn_15 : decode cX10_drawn 15 = .ok (.ldc_w 292, 3) := by decide +kernel
theorem dX10_drawn_18 : decode cX10_drawn 18 = .ok (.if_icmp .le 10, 3) := by decide +kernel
theorem dX10_drawn_21 : decode cX10_drawn 21 = .ok (.aload_n 0, 1) := by decide +kernel
theorem dX10_drawn_22 : decode cX10_drawn 22 = .ok (.bipush (-2), 2) := by decide +kernel
theorem dX10_drawn_24 : decode cX10_drawn 24 = .ok (.invokevirtual 90, 3) := by decide +kernel
theorem dX10_drawn_27 : decode cX10_drawn 27 = .ok (.ireturn, 1) := by decide +kernel
theorem dX10_drawn_28 : decode cX10_drawn 28 = .ok (.aload_n 0, 1) := by decide +kernel
theorem dX10_drawn_29 : decode cX10_drawn 29 = .ok (.getfield 37, 3) := by decide +kernel
theorem dX10_drawn_32 : decode cX10_drawn 32 = .ok (.aload_n 0, 1) := by decide +kernel
theorem dX10_drawn_33 : decode cX10_drawn 33 = .ok (.getfield 10, 3) := by decide +kernel
theorem dX10_drawn_36 : decode cX10_drawn 36 = .ok (.getfield 146, 3) := by decide +kernel
theorem dX10_drawn_39 : decode cX10_drawn 39 = .ok (.invokevirtual 275, 3) := by decide +kernel
theorem dX10_drawn_42 : decode cX10_drawn 42 = .ok (.iload_n 2, 1) := by decide +kernel
theorem dX10_drawn_43 : decode cX10_drawn 43 = .ok (.i2l, 1) := by decide +kernel
theorem dX10_drawn_44 : decode cX10_drawn 44 = .ok (.lstore_n 3, 1) := by decide +kernel
theorem dX10_drawn_45 : decode cX10_drawn 45 = .ok (.iconst 0, 1) := by decide +kernel
theorem dX10_drawn_46 : decode cX10_drawn 46 = .ok (.istore 5, 2) := by decide +kernel
theorem dX10_drawn_48 : decode cX10_drawn 48 = .ok (.iconst 0, 1) := by decide +kernel
theorem dX10_drawn_49 : decode cX10_drawn 49 = .ok (.istore 6, 2) := by decide +kernel
theorem dX10_drawn_51 : decode cX10_drawn 51 = .ok (.iload 6, 2) := by decide +kernel
theorem dX10_drawn_53 : decode cX10_drawn 53 = .ok (.iload_n 1, 1) := by decide +kernel
theorem dX10_drawn_54 : decode cX10_drawn 54 = .ok (.if_icmp .ge 95, 3) := by decide +kernel
theorem dX10_drawn_57 : decode cX10_drawn 57 = .ok (.iconst 0, 1) := by decide +kernel
theorem dX10_drawn_58 : decode cX10_drawn 58 = .ok (.istore 7, 2) := by decide +kernel
theorem dX10_drawn_60 : decode cX10_drawn 60 = .ok (.iconst 0, 1) := by decide +kernel
theorem dX10_drawn_61 : decode cX10_drawn 61 = .ok (.istore 8, 2) := by decide +kernel
theorem dX10_drawn_63 : decode cX10_drawn 63 = .ok (.iload 8, 2) := by decide +kernel
theorem dX10_drawn_65 : decode cX10_drawn 65 = .ok (.aload_n 0, 1) := by decide +kernel
theorem dX10_drawn_66 : decode cX10_drawn 66 = .ok (.getfield 37, 3) := by decide +kernel
theorem dX10_drawn_69 : decode cX10_drawn 69 = .ok (.getfield 265, 3) := by decide +kernel
theorem dX10_drawn_72 : decode cX10_drawn 72 = .ok (.if_icmp .ge 56, 3) := by decide +kernel
theorem dX10_drawn_75 : decode cX10_drawn 75 = .ok (.lload_n 3, 1) := by decide +kernel
theorem dX10_drawn_76 : decode cX10_drawn 76 = .ok (.ldc2_w 293, 3) := by decide +kernel
theorem dX10_drawn_79 : decode cX10_drawn 79 = .ok (.lmul, 1) := by decide +kernel
theorem dX10_drawn_80 : decode cX10_drawn 80 = .ok (.ldc2_w 295, 3) := by decide +kernel
theorem dX10_drawn_83 : decode cX10_drawn 83 = .ok (.ladd, 1) := by decide +kernel
theorem dX10_drawn_84 : decode cX10_drawn 84 = .ok (.ldc2_w 297, 3) := by decide +kernel
theorem dX10_drawn_87 : decode cX10_drawn 87 = .ok (.lrem, 1) := by decide +kernel
theorem dX10_drawn_88 : decode cX10_drawn 88 = .ok (.lstore_n 3, 1) := by decide +kernel
theorem dX10_drawn_89 : decode cX10_drawn 89 = .ok (.lload_n 3, 1) := by decide +kernel
theorem dX10_drawn_90 : decode cX10_drawn 90 = .ok (.ldc2_w 299, 3) := by decide +kernel
theorem dX10_drawn_93 : decode cX10_drawn 93 = .ok (.ldiv, 1) := by decide +kernel
theorem dX10_drawn_94 : decode cX10_drawn 94 = .ok (.ldc2_w 301, 3) := by decide +kernel
theorem dX10_drawn_97 : decode cX10_drawn 97 = .ok (.lrem, 1) := by decide +kernel
theorem dX10_drawn_98 : decode cX10_drawn 98 = .ok (.aload_n 0, 1) := by decide +kernel
theorem dX10_drawn_99 : decode cX10_drawn 99 = .ok (.getfield 10, 3) := by decide +kernel
theorem dX10_drawn_102 : decode cX10_drawn 102 = .ok (.getfield 303, 3) := by decide +kernel
theorem dX10_drawn_105 : decode cX10_drawn 105 = .ok (.iload 8, 2) := by decide +kernel
theorem dX10_drawn_107 : decode cX10_drawn 107 = .ok (.iaload, 1) := by decide +kernel
theorem dX10_drawn_108 : decode cX10_drawn 108 = .ok (.i2l, 1) := by decide +kernel
theorem dX10_drawn_109 : decode cX10_drawn 109 = .ok (.lcmp, 1) := by decide +kernel
theorem dX10_drawn_110 : decode cX10_drawn 110 = .ok (.ifCond .ge 12, 3) := by decide +kernel
theorem dX10_drawn_113 : decode cX10_drawn 113 = .ok (.iload 7, 2) := by decide +kernel
theorem dX10_drawn_115 : decode cX10_drawn 115 = .ok (.iconst 1, 1) := by decide +kernel
theorem dX10_drawn_116 : decode cX10_drawn 116 = .ok (.iload 8, 2) := by decide +kernel
theorem dX10_drawn_118 : decode cX10_drawn 118 = .ok (.ishl, 1) := by decide +kernel
theorem dX10_drawn_119 : decode cX10_drawn 119 = .ok (.ior, 1) := by decide +kernel
theorem dX10_drawn_120 : decode cX10_drawn 120 = .ok (.istore 7, 2) := by decide +kernel
theorem dX10_drawn_122 : decode cX10_drawn 122 = .ok (.iinc 8 1, 3) := by decide +kernel
theorem dX10_drawn_125 : decode cX10_drawn 125 = .ok (.goto (-62), 3) := by decide +kernel
theorem dX10_drawn_128 : decode cX10_drawn 128 = .ok (.iload 5, 2) := by decide +kernel
theorem dX10_drawn_130 : decode cX10_drawn 130 = .ok (.aload_n 0, 1) := by decide +kernel
theorem dX10_drawn_131 : decode cX10_drawn 131 = .ok (.getfield 37, 3) := by decide +kernel
theorem dX10_drawn_134 : decode cX10_drawn 134 = .ok (.iload 7, 2) := by decide +kernel
theorem dX10_drawn_136 : decode cX10_drawn 136 = .ok (.iconst 0, 1) := by decide +kernel
theorem dX10_drawn_137 : decode cX10_drawn 137 = .ok (.invokevirtual 281, 3) := by decide +kernel
theorem dX10_drawn_140 : decode cX10_drawn 140 = .ok (.iadd, 1) := by decide +kernel
theorem dX10_drawn_141 : decode cX10_drawn 141 = .ok (.istore 5, 2) := by decide +kernel
theorem dX10_drawn_143 : decode cX10_drawn 143 = .ok (.iinc 6 1, 3) := by decide +kernel
theorem dX10_drawn_146 : decode cX10_drawn 146 = .ok (.goto (-95), 3) := by decide +kernel
theorem dX10_drawn_149 : decode cX10_drawn 149 = .ok (.iload 5, 2) := by decide +kernel
theorem dX10_drawn_151 : decode cX10_drawn 151 = .ok (.ireturn, 1) := by decide +kernel
noncomputable def f_X10_drawn (x1 : Int32) (x2 : Int32) (μ : Mem) : Option (Int32 × Mem) :=
  jn (
    bd2 (f_X10_tally (-2) μ) fun r2 ν3 =>
    some (r2, ν3)
    ) fun j1 =>
  if x1 < 0 then
    j1
  else
    if 60 < x1 then
      j1
    else
      if x2 < 0 then
        j1
      else
        if 999999 < x2 then
          j1
        else
          bd (f_X3_become 63 2 μ) fun ν4 =>
          bd (lp (ε := Int32 × Mem) (cu4 fun (x3_5 : Int64) (x5_6 : Int32) (x6_7 : Int32) (ν8 : Mem) =>
            if x6_7 < x1 then
              bd (lp (ε := Int64 × Int32) (cu3 fun (x3_12 : Int64) (x7_13 : Int32) (x8_14 : Int32) =>
                if x8_14 < (ν8.1 63 0) then
                  lt (((x3_12 * 1103515245) + 12345) - ((x3_12 * 1103515245) + 12345) / 2147483648 * 2147483648) fun x3_18 =>
                  chk x8_14 5 (
                    jn (fun (x7_19 : Int32) =>
                      some (.inl (x3_18, x7_19, (x8_14 + 1)))
                      ) fun j20 =>
                    if ((x3_18 / 65536) - (x3_18 / 65536) / 10 * 10) < ((ν8.1 13 (ix x8_14)) : Int32).toInt64 then
                      lt (x7_13 ||| ((1 : Int32) <<< (x8_14 &&& 31))) fun x7_21 =>
                      j20 x7_21
                    else
                      j20 x7_13
                    )
                else
                  some (.inr (x3_12, x7_13))
                ) (x3_5, 0, 0)) (cu2 fun (x3_15 : Int64) (x7_16 : Int32) =>
                bd2 (f_X3_fullMoon 63 x7_16 0 ν8) fun r22 ν23 =>
                some (.inl (x3_15, (x5_6 + r22), (x6_7 + 1), ν23))
                )
            else
              some (.inr (x5_6, ν8))
            ) ((x2 : Int32).toInt64, 0, 0, ν4)) (cu2 fun (x5_9 : Int32) (ν10 : Mem) =>
            some (x5_9, ν10)
            )
set_option maxHeartbeats 4000000 in
set_option maxRecDepth 100000 in
theorem c_X10_drawn {g : GT} {x1 : Int32} {x2 : Int32} {μ : Mem} {μ0 : Mem} {r0 : Int32} (hf : f_X10_drawn x1 x2 μ = some (r0, μ0)) : CI g yX10_drawn cX10_drawn 9 (some .int) 6 [rf g 0, .int x1, .int x2] μ r0 μ0 := by
  refine mk_i (by decide) (Nat.le_of_ble_eq_true rfl) ?_
  intro G hX hR
  have hX : CX g G cX10_drawn RX10 9 6 := hX
  suffices S : ∀ K : (Int32 × Mem) → Prop, (∀ a, K a → a = (r0, μ0)) → Sim G (f_X10_drawn x1 x2 μ) K 0 [(0, rf g 0), (1, .int x1), (2, .int x2)] [] μ from S (fun a => a = (r0, μ0)) (fun a h => h) _ hf rfl
  intro K hK
  unfold f_X10_drawn
  refine s_iload_n hX dX10_drawn_0 rfl 1 rfl ?_
  refine s_jn (C := fun j => Sim G (j) K 21 [(0, rf g 0)] [] μ) ?_ (fun j1 hj1 => ?_)
  · skip
    show Sim G _ _ 21 [(0, rf g 0)] [] μ
    refine s_aload_n hX dX10_drawn_21 rfl 0 rfl ?_
    refine s_bipush (v := (-2)) hX dX10_drawn_22 (by decide) ?_
    refine s_callViw hX [.int (-2)] (k := 0) (ci := 9) rfl hc9 vkX10_tally (fun r ν hF => c_X10_tally  hF) mkX10_tally cvX10_90 rfl rfl ⟨by omega, by decide, Nat.le_of_ble_eq_true rfl⟩ dX10_drawn_24 (fun r2 ν3 => ?_)
    exact s_ireti hK hR dX10_drawn_27
  refine s_if_lt hX 21 dX10_drawn_1 (by decide) ?_ ?_
  · exact s_to hX [0] rfl (hj1)
  · refine s_iload_n hX dX10_drawn_4 rfl 1 rfl ?_
    refine s_bipush (v := 60) hX dX10_drawn_5 (by decide) ?_
    refine s_icmp_gt hX 21 dX10_drawn_7 (by decide) ?_ ?_
    · exact s_to hX [0] rfl (hj1)
    · refine s_iload_n hX dX10_drawn_10 rfl 2 rfl ?_
      refine s_if_lt hX 21 dX10_drawn_11 (by decide) ?_ ?_
      · exact s_to hX [0] rfl (hj1)
      · refine s_iload_n hX dX10_drawn_14 rfl 2 rfl ?_
        refine s_ldcw hX dX10_drawn_15 kcX10_292 ?_
        refine s_icmp_le hX 28 dX10_drawn_18 (by decide) ?_ ?_
        · refine s_aload_n hX dX10_drawn_28 rfl 0 rfl ?_
          refine s_getR hX (d := 63) 63 flX10_37 rfl rfl dX10_drawn_29 ?_
          refine s_aload_n hX dX10_drawn_32 rfl 0 rfl ?_
          refine s_getR hX (d := 1) 1 flX10_10 rfl rfl dX10_drawn_33 ?_
          refine s_getR hX (d := 1) 2 flX10_146 rfl rfl dX10_drawn_36 ?_
          refine s_callVvw hX [rf g 2] (k := 63) (ci := 3) rfl hc3 vkX3_become (fun ν hF => c_X3_become rfl rfl hF) mkX3_become cvX10_275 rfl rfl ⟨by omega, by decide, Nat.le_of_ble_eq_true rfl⟩ dX10_drawn_39 (fun ν4 => ?_)
          refine s_iload_n hX dX10_drawn_42 rfl 2 rfl ?_
          refine s_i2l hX dX10_drawn_43 ?_
          refine s_lstore_n (lv' := [(3, .long (x2 : Int32).toInt64), (0, rf g 0), (1, .int x1), (2, .int x2)]) hX dX10_drawn_44 rfl (by decide) rfl ?_
          refine s_iconst (v := 0) hX dX10_drawn_45 (by decide) ?_
          refine s_istore (lv' := [(5, .int 0), (3, .long (x2 : Int32).toInt64), (0, rf g 0), (1, .int x1), (2, .int x2)]) hX dX10_drawn_46 (by decide) rfl ?_
          refine s_iconst (v := 0) hX dX10_drawn_48 (by decide) ?_
          refine s_istore (lv' := [(6, .int 0), (5, .int 0), (3, .long (x2 : Int32).toInt64), (0, rf g 0), (1, .int x1), (2, .int x2)]) hX dX10_drawn_49 (by decide) rfl ?_
          refine s_loop hX 51 149 (fun s : Int64 × Int32 × Int32 × Mem => [(0, rf g 0), (1, .int x1), (3, .long s.1), (5, .int s.2.1), (6, .int s.2.2.1)]) (fun s : Int64 × Int32 × Int32 × Mem => s.2.2.2) (fun s : Int32 × Mem => [(5, .int s.1)]) (fun s : Int32 × Mem => s.2) [3, 4, 2, 1, 0] rfl rfl rfl ?_ ?_
          · intro Kq11 hIq11 hJq11 sq
            obtain ⟨x3_5, x5_6, x6_7, ν8⟩ := sq
            refine s_cu4 ?_
            show Sim G _ _ 51 [(0, rf g 0), (1, .int x1), (3, .long x3_5), (5, .int x5_6), (6, .int x6_7)] [] ν8
            refine s_iload hX dX10_drawn_51 4 rfl ?_
            refine s_iload_n hX dX10_drawn_53 rfl 1 rfl ?_
            refine s_icmp_ge hX 149 dX10_drawn_54 (by decide) ?_ ?_
            · exact s_end hX (hJq11 (x5_6, ν8)) [3] rfl
            · refine s_iconst (v := 0) hX dX10_drawn_57 (by decide) ?_
              refine s_istore (lv' := [(7, .int 0), (0, rf g 0), (1, .int x1), (3, .long x3_5), (5, .int x5_6), (6, .int x6_7)]) hX dX10_drawn_58 (by decide) rfl ?_
              refine s_iconst (v := 0) hX dX10_drawn_60 (by decide) ?_
              refine s_istore (lv' := [(8, .int 0), (7, .int 0), (0, rf g 0), (1, .int x1), (3, .long x3_5), (5, .int x5_6), (6, .int x6_7)]) hX dX10_drawn_61 (by decide) rfl ?_
              refine s_loop hX 63 128 (fun s : Int64 × Int32 × Int32 => [(0, rf g 0), (1, .int x1), (3, .long s.1), (5, .int x5_6), (6, .int x6_7), (7, .int s.2.1), (8, .int s.2.2)]) (fun s : Int64 × Int32 × Int32 => ν8) (fun s : Int64 × Int32 => [(0, rf g 0), (1, .int x1), (3, .long s.1), (5, .int x5_6), (6, .int x6_7), (7, .int s.2)]) (fun s : Int64 × Int32 => ν8) [2, 3, 4, 5, 6, 1, 0] rfl rfl rfl ?_ ?_
              · intro Kq17 hIq17 hJq17 sq
                obtain ⟨x3_12, x7_13, x8_14⟩ := sq
                refine s_cu3 ?_
                show Sim G _ _ 63 [(0, rf g 0), (1, .int x1), (3, .long x3_12), (5, .int x5_6), (6, .int x6_7), (7, .int x7_13), (8, .int x8_14)] [] ν8
                refine s_iload hX dX10_drawn_63 6 rfl ?_
                refine s_aload_n hX dX10_drawn_65 rfl 0 rfl ?_
                refine s_getR hX (d := 63) 63 flX10_37 rfl rfl dX10_drawn_66 ?_
                refine s_getI hX flX10_265 rfl dX10_drawn_69 ?_
                refine s_icmp_ge hX 128 dX10_drawn_72 (by decide) ?_ ?_
                · exact s_end hX (hJq17 (x3_12, x7_13)) [0, 1, 2, 3, 4, 5] rfl
                · refine s_lload_n hX dX10_drawn_75 rfl 2 rfl ?_
                  refine s_ldc2 hX dX10_drawn_76 klX10_293 ?_
                  refine s_lmul hX dX10_drawn_79 ?_
                  refine s_ldc2 hX dX10_drawn_80 klX10_295 ?_
                  refine s_ladd hX dX10_drawn_83 ?_
                  refine s_ldc2 hX dX10_drawn_84 klX10_297 ?_
                  refine s_lrem hX dX10_drawn_87 (by decide) ?_
                  refine s_ltl (fun x3_18 => ?_)
                  refine s_lstore_n (lv' := [(3, .long x3_18), (0, rf g 0), (1, .int x1), (5, .int x5_6), (6, .int x6_7), (7, .int x7_13), (8, .int x8_14)]) hX dX10_drawn_88 rfl (by decide) rfl ?_
                  refine s_lload_n hX dX10_drawn_89 rfl 0 rfl ?_
                  refine s_ldc2 hX dX10_drawn_90 klX10_299 ?_
                  refine s_ldiv hX dX10_drawn_93 (by decide) ?_
                  refine s_ldc2 hX dX10_drawn_94 klX10_301 ?_
                  refine s_lrem hX dX10_drawn_97 (by decide) ?_
                  refine s_aload_n hX dX10_drawn_98 rfl 1 rfl ?_
                  refine s_getR hX (d := 1) 1 flX10_10 rfl rfl dX10_drawn_99 ?_
                  refine s_getR hX (d := 12) 13 flX10_303 rfl rfl dX10_drawn_102 ?_
                  refine s_iload hX dX10_drawn_105 6 rfl ?_
                  refine s_iald hX rfl rfl dX10_drawn_107 ?_
                  refine s_i2l hX dX10_drawn_108 ?_
                  refine s_jn (C := fun j => ∀ (x7_19 : Int32), Sim G (j x7_19) Kq17 122 [(0, rf g 0), (1, .int x1), (3, .long x3_18), (5, .int x5_6), (6, .int x6_7), (7, .int x7_19), (8, .int x8_14)] [] ν8) ?_ (fun j20 hj20 => ?_)
                  · intro x7_19
                    show Sim G _ _ 122 [(0, rf g 0), (1, .int x1), (3, .long x3_18), (5, .int x5_6), (6, .int x6_7), (7, .int x7_19), (8, .int x8_14)] [] ν8
                    refine s_iinc (v := (x8_14 + 1)) (lv' := [(8, .int (x8_14 + 1)), (0, rf g 0), (1, .int x1), (3, .long x3_18), (5, .int x5_6), (6, .int x6_7), (7, .int x7_19)]) hX dX10_drawn_122 6 rfl rfl (by decide) rfl ?_
                    refine s_goto hX 63 dX10_drawn_125 (by decide) ?_
                    exact s_end hX (hIq17 (x3_18, x7_19, (x8_14 + 1))) [1, 2, 3, 4, 5, 6, 0] rfl
                  refine s_lcmp_ge hX 122 dX10_drawn_109 dX10_drawn_110 (by decide) ?_ ?_
                  · exact s_to hX [1, 2, 0, 3, 4, 5, 6] rfl (hj20 x7_13)
                  · refine s_iload hX dX10_drawn_113 5 rfl ?_
                    refine s_iconst (v := 1) hX dX10_drawn_115 (by decide) ?_
                    refine s_iload hX dX10_drawn_116 6 rfl ?_
                    refine s_ishl hX dX10_drawn_118 ?_
                    refine s_ior hX dX10_drawn_119 ?_
                    refine s_lti (fun x7_21 => ?_)
                    refine s_istore (lv' := [(7, .int x7_21), (3, .long x3_18), (0, rf g 0), (1, .int x1), (5, .int x5_6), (6, .int x6_7), (8, .int x8_14)]) hX dX10_drawn_120 (by decide) rfl ?_
                    exact s_to hX [2, 3, 1, 4, 5, 0, 6] rfl (hj20 x7_21)
              · intro sq
                obtain ⟨x3_15, x7_16⟩ := sq
                refine s_cu2 ?_
                show Sim G _ _ 128 [(0, rf g 0), (1, .int x1), (3, .long x3_15), (5, .int x5_6), (6, .int x6_7), (7, .int x7_16)] [] ν8
                refine s_iload hX dX10_drawn_128 3 rfl ?_
                refine s_aload_n hX dX10_drawn_130 rfl 0 rfl ?_
                refine s_getR hX (d := 63) 63 flX10_37 rfl rfl dX10_drawn_131 ?_
                refine s_iload hX dX10_drawn_134 5 rfl ?_
                refine s_iconst (v := 0) hX dX10_drawn_136 (by decide) ?_
                refine s_callViw hX [.int x7_16, .int 0] (k := 63) (ci := 3) rfl hc3 vkX3_fullMoon (fun r ν hF => c_X3_fullMoon rfl hF) mkX3_fullMoon cvX10_281 rfl rfl ⟨by omega, by decide, Nat.le_of_ble_eq_true rfl⟩ dX10_drawn_137 (fun r22 ν23 => ?_)
                refine s_iadd hX dX10_drawn_140 ?_
                refine s_istore (lv' := [(5, .int (x5_6 + r22)), (0, rf g 0), (1, .int x1), (3, .long x3_15), (6, .int x6_7), (7, .int x7_16)]) hX dX10_drawn_141 (by decide) rfl ?_
                refine s_iinc (v := (x6_7 + 1)) (lv' := [(6, .int (x6_7 + 1)), (5, .int (x5_6 + r22)), (0, rf g 0), (1, .int x1), (3, .long x3_15), (7, .int x7_16)]) hX dX10_drawn_143 4 rfl rfl (by decide) rfl ?_
                refine s_goto hX 51 dX10_drawn_146 (by decide) ?_
                exact s_end hX (hIq11 (x3_15, (x5_6 + r22), (x6_7 + 1), ν23)) [2, 3, 4, 1, 0] rfl
          · intro sq
            obtain ⟨x5_9, ν10⟩ := sq
            refine s_cu2 ?_
            show Sim G _ _ 149 [(5, .int x5_9)] [] ν10
            refine s_iload hX dX10_drawn_149 0 rfl ?_
            exact s_ireti hK hR dX10_drawn_151
        · exact s_to hX [0] rfl (hj1)
theorem dX10_league_0 : decode cX10_league 0 = .ok (.aload_n 0, 1) := by decide +kernel
theorem dX10_league_1 : decode cX10_league 1 = .ok (.getfield 10, 3) := by decide +kernel
theorem dX10_league_4 : decode cX10_league 4 = .ok (.getfield 146, 3) := by decide +kernel
theorem dX10_league_7 : decode cX10_league 7 = .ok (.iload_n 1, 1) := by decide +kernel
theorem dX10_league_8 : decode cX10_league 8 = .ok (.invokevirtual 178, 3) := by decide +kernel
theorem dX10_league_11 : decode cX10_league 11 = .ok (.ifCond .ne 10, 3) := by decide +kernel
theorem dX10_league_14 : decode cX10_league 14 = .ok (.aload_n 0, 1) := by decide +kernel
theorem dX10_league_15 : decode cX10_league 15 = .ok (.bipush (-2), 2) := by decide +kernel
theorem dX10_league_17 : decode cX10_league 17 = .ok (.invokevirtual 90, 3) := by decide +kernel
theorem dX10_league_20 : decode cX10_league 20 = .ok (.ireturn, 1) := by decide +kernel
theorem dX10_league_21 : decode cX10_league 21 = .ok (.aload_n 0, 1) := by decide +kernel
theorem dX10_league_22 : decode cX10_league 22 = .ok (.getfield 10, 3) := by decide +kernel
theorem dX10_league_25 : decode cX10_league 25 = .ok (.getfield 146, 3) := by decide +kernel
theorem dX10_league_28 : decode cX10_league 28 = .ok (.invokevirtual 184, 3) := by decide +kernel
theorem dX10_league_31 : decode cX10_league 31 = .ok (.aload_n 0, 1) := by decide +kernel
theorem dX10_league_32 : decode cX10_league 32 = .ok (.getfield 10, 3) := by decide +kernel
theorem dX10_league_35 : decode cX10_league 35 = .ok (.getfield 146, 3) := by decide +kernel
theorem dX10_league_38 : decode cX10_league 38 = .ok (.iload_n 1, 1) := by decide +kernel
theorem dX10_league_39 : decode cX10_league 39 = .ok (.invokevirtual 262, 3) := by decide +kernel
theorem dX10_league_42 : decode cX10_league 42 = .ok (.ireturn, 1) := by decide +kernel
noncomputable def f_X10_league (x1 : Int32) (μ : Mem) : Option (Int32 × Mem) :=
  bd (f_X3_hasClouds 2 x1 μ) fun r1 =>
  if r1 = 0 then
    bd2 (f_X10_tally (-2) μ) fun r4 ν5 =>
    some (r4, ν5)
  else
    bd (f_X3_look 2 μ) fun ν2 =>
    bd (f_X3_takenFromLeague 2 x1 ν2) fun r3 =>
    some (r3, ν2)
set_option maxHeartbeats 4000000 in
set_option maxRecDepth 100000 in
theorem c_X10_league {g : GT} {x1 : Int32} {μ : Mem} {μ0 : Mem} {r0 : Int32} (hf : f_X10_league x1 μ = some (r0, μ0)) : CI g yX10_league cX10_league 2 (some .int) 6 [rf g 0, .int x1] μ r0 μ0 := by
  refine mk_i (by decide) (Nat.le_of_ble_eq_true rfl) ?_
  intro G hX hR
  have hX : CX g G cX10_league RX10 2 6 := hX
  suffices S : ∀ K : (Int32 × Mem) → Prop, (∀ a, K a → a = (r0, μ0)) → Sim G (f_X10_league x1 μ) K 0 [(0, rf g 0), (1, .int x1)] [] μ from S (fun a => a = (r0, μ0)) (fun a h => h) _ hf rfl
  intro K hK
  unfold f_X10_league
  refine s_aload_n hX dX10_league_0 rfl 0 rfl ?_
  refine s_getR hX (d := 1) 1 flX10_10 rfl rfl dX10_league_1 ?_
  refine s_getR hX (d := 1) 2 flX10_146 rfl rfl dX10_league_4 ?_
  refine s_iload_n hX dX10_league_7 rfl 1 rfl ?_
  refine s_callVir hX [.int x1] (k := 2) (ci := 3) rfl hc3 vkX3_hasClouds (fun r hF => c_X3_hasClouds rfl hF) mkX3_hasClouds cvX10_178 rfl rfl ⟨by omega, by decide, Nat.le_of_ble_eq_true rfl⟩ dX10_league_8 (fun r1 => ?_)
  refine s_if_ne hX 21 dX10_league_11 (by decide) ?_ ?_
  · refine s_aload_n hX dX10_league_21 rfl 0 rfl ?_
    refine s_getR hX (d := 1) 1 flX10_10 rfl rfl dX10_league_22 ?_
    refine s_getR hX (d := 1) 2 flX10_146 rfl rfl dX10_league_25 ?_
    refine s_callVvw hX [] (k := 2) (ci := 3) rfl hc3 vkX3_look (fun ν hF => c_X3_look rfl hF) mkX3_look cvX10_184 rfl rfl ⟨by omega, by decide, Nat.le_of_ble_eq_true rfl⟩ dX10_league_28 (fun ν2 => ?_)
    refine s_aload_n hX dX10_league_31 rfl 0 rfl ?_
    refine s_getR hX (d := 1) 1 flX10_10 rfl rfl dX10_league_32 ?_
    refine s_getR hX (d := 1) 2 flX10_146 rfl rfl dX10_league_35 ?_
    refine s_iload_n hX dX10_league_38 rfl 1 rfl ?_
    refine s_callVir hX [.int x1] (k := 2) (ci := 3) rfl hc3 vkX3_takenFromLeague (fun r hF => c_X3_takenFromLeague rfl hF) mkX3_takenFromLeague cvX10_262 rfl rfl ⟨by omega, by decide, Nat.le_of_ble_eq_true rfl⟩ dX10_league_39 (fun r3 => ?_)
    exact s_ireti hK hR dX10_league_42
  · refine s_aload_n hX dX10_league_14 rfl 0 rfl ?_
    refine s_bipush (v := (-2)) hX dX10_league_15 (by decide) ?_
    refine s_callViw hX [.int (-2)] (k := 0) (ci := 9) rfl hc9 vkX10_tally (fun r ν hF => c_X10_tally  hF) mkX10_tally cvX10_90 rfl rfl ⟨by omega, by decide, Nat.le_of_ble_eq_true rfl⟩ dX10_league_17 (fun r4 ν5 => ?_)
    exact s_ireti hK hR dX10_league_20
theorem dX10_mean_0 : decode cX10_mean 0 = .ok (.iload_n 1, 1) := by decide +kernel
theorem dX10_mean_1 : decode cX10_mean 1 = .ok (.iconst (-1), 1) := by decide +kernel
theorem dX10_mean_2 : decode cX10_mean 2 = .ok (.if_icmp .eq 24, 3) := by decide +kernel
theorem dX10_mean_5 : decode cX10_mean 5 = .ok (.aload_n 0, 1) := by decide +kernel
theorem dX10_mean_6 : decode cX10_mean 6 = .ok (.getfield 10, 3) := by decide +kernel
theorem dX10_mean_9 : decode cX10_mean 9 = .ok (.getfield 146, 3) := by decide +kernel
theorem dX10_mean_12 : decode cX10_mean 12 = .ok (.iload_n 1, 1) := by decide +kernel
theorem dX10_mean_13 : decode cX10_mean 13 = .ok (.invokevirtual 169, 3) := by decide +kernel
theorem dX10_mean_16 : decode cX10_mean 16 = .ok (.ifCond .ne 10, 3) := by decide +kernel
theorem dX10_mean_19 : decode cX10_mean 19 = .ok (.aload_n 0, 1) := by decide +kernel
theorem dX10_mean_20 : decode cX10_mean 20 = .ok (.bipush (-2), 2) := by decide +kernel
theorem dX10_mean_22 : decode cX10_mean 22 = .ok (.invokevirtual 90, 3) := by decide +kernel
theorem dX10_mean_25 : decode cX10_mean 25 = .ok (.ireturn, 1) := by decide +kernel
theorem dX10_mean_26 : decode cX10_mean 26 = .ok (.aload_n 0, 1) := by decide +kernel
theorem dX10_mean_27 : decode cX10_mean 27 = .ok (.getfield 44, 3) := by decide +kernel
theorem dX10_mean_30 : decode cX10_mean 30 = .ok (.aload_n 0, 1) := by decide +kernel
theorem dX10_mean_31 : decode cX10_mean 31 = .ok (.getfield 10, 3) := by decide +kernel
theorem dX10_mean_34 : decode cX10_mean 34 = .ok (.iconst (-1), 1) := by decide +kernel
theorem dX10_mean_35 : decode cX10_mean 35 = .ok (.iconst 0, 1) := by decide +kernel
theorem dX10_mean_36 : decode cX10_mean 36 = .ok (.invokevirtual 203, 3) := by decide +kernel
theorem dX10_mean_39 : decode cX10_mean 39 = .ok (.aload_n 0, 1) := by decide +kernel
theorem dX10_mean_40 : decode cX10_mean 40 = .ok (.iload_n 1, 1) := by decide +kernel
theorem dX10_mean_41 : decode cX10_mean 41 = .ok (.iconst (-1), 1) := by decide +kernel
theorem dX10_mean_42 : decode cX10_mean 42 = .ok (.if_icmp .ne 13, 3) := by decide +kernel
theorem dX10_mean_45 : decode cX10_mean 45 = .ok (.aload_n 0, 1) := by decide +kernel
theorem dX10_mean_46 : decode cX10_mean 46 = .ok (.getfield 44, 3) := by decide +kernel
theorem dX10_mean_49 : decode cX10_mean 49 = .ok (.invokevirtual 218, 3) := by decide +kernel
theorem dX10_mean_52 : decode cX10_mean 52 = .ok (.goto 11, 3) := by decide +kernel
theorem dX10_mean_55 : decode cX10_mean 55 = .ok (.aload_n 0, 1) := by decide +kernel
theorem dX10_mean_56 : decode cX10_mean 56 = .ok (.getfield 44, 3) := by decide +kernel
theorem dX10_mean_59 : decode cX10_mean 59 = .ok (.iload_n 1, 1) := by decide +kernel
theorem dX10_mean_60 : decode cX10_mean 60 = .ok (.invokevirtual 222, 3) := by decide +kernel
theorem dX10_mean_63 : decode cX10_mean 63 = .ok (.aload_n 0, 1) := by decide +kernel
theorem dX10_mean_64 : decode cX10_mean 64 = .ok (.getfield 44, 3) := by decide +kernel
theorem dX10_mean_67 : decode cX10_mean 67 = .ok (.getfield 211, 3) := by decide +kernel
theorem dX10_mean_70 : decode cX10_mean 70 = .ok (.invokevirtual 214, 3) := by decide +kernel
theorem dX10_mean_73 : decode cX10_mean 73 = .ok (.iconst 1, 1) := by decide +kernel
theorem dX10_mean_74 : decode cX10_mean 74 = .ok (.ireturn, 1) := by decide +kernel
noncomputable def f_X10_mean (x1 : Int32) (μ : Mem) : Option (Int32 × Mem) :=
  jn (
    bd (f_X9_foresee 1 (-1) 0 μ) fun ν2 =>
    jn (fun (y3 : Int64) =>
      bd (f_X10_setFraction y3 (ν2.2 68 3) ν2) fun ν5 =>
      some (1, ν5)
      ) fun j4 =>
    if x1 = (-1) then
      bd (f_X9_lossOfAll  ν2) fun r7 =>
      j4 r7
    else
      bd (f_X9_lossOf x1 ν2) fun r6 =>
      j4 r6
    ) fun j1 =>
  if x1 = (-1) then
    j1
  else
    bd (f_X3_hasVillage 2 x1 μ) fun r8 =>
    if r8 = 0 then
      bd2 (f_X10_tally (-2) μ) fun r9 ν10 =>
      some (r9, ν10)
    else
      j1
set_option maxHeartbeats 4000000 in
set_option maxRecDepth 100000 in
theorem c_X10_mean {g : GT} {x1 : Int32} {μ : Mem} {μ0 : Mem} {r0 : Int32} (hf : f_X10_mean x1 μ = some (r0, μ0)) : CI g yX10_mean cX10_mean 2 (some .int) 6 [rf g 0, .int x1] μ r0 μ0 := by
  refine mk_i (by decide) (Nat.le_of_ble_eq_true rfl) ?_
  intro G hX hR
  have hX : CX g G cX10_mean RX10 2 6 := hX
  suffices S : ∀ K : (Int32 × Mem) → Prop, (∀ a, K a → a = (r0, μ0)) → Sim G (f_X10_mean x1 μ) K 0 [(0, rf g 0), (1, .int x1)] [] μ from S (fun a => a = (r0, μ0)) (fun a h => h) _ hf rfl
  intro K hK
  unfold f_X10_mean
  refine s_iload_n hX dX10_mean_0 rfl 1 rfl ?_
  refine s_iconst (v := (-1)) hX dX10_mean_1 (by decide) ?_
  refine s_jn (C := fun j => Sim G (j) K 26 [(0, rf g 0), (1, .int x1)] [] μ) ?_ (fun j1 hj1 => ?_)
  · skip
    show Sim G _ _ 26 [(0, rf g 0), (1, .int x1)] [] μ
    refine s_aload_n hX dX10_mean_26 rfl 0 rfl ?_
    refine s_getR hX (d := 68) 68 flX10_44 rfl rfl dX10_mean_27 ?_
    refine s_aload_n hX dX10_mean_30 rfl 0 rfl ?_
    refine s_getR hX (d := 1) 1 flX10_10 rfl rfl dX10_mean_31 ?_
    refine s_iconst (v := (-1)) hX dX10_mean_34 (by decide) ?_
    refine s_iconst (v := 0) hX dX10_mean_35 (by decide) ?_
    refine s_callVvw hX [rf g 1, .int (-1), .int 0] (k := 68) (ci := 8) rfl hc8 vkX9_foresee (fun ν hF => c_X9_foresee rfl hF) mkX9_foresee cvX10_203 rfl rfl ⟨by omega, by decide, Nat.le_of_ble_eq_true rfl⟩ dX10_mean_36 (fun ν2 => ?_)
    refine s_aload_n hX dX10_mean_39 rfl 0 rfl ?_
    refine s_iload_n hX dX10_mean_40 rfl 1 rfl ?_
    refine s_iconst (v := (-1)) hX dX10_mean_41 (by decide) ?_
    refine s_jn (C := fun j => ∀ (y3 : Int64), Sim G (j y3) K 63 [(0, rf g 0)] [.long y3, rf g 0] ν2) ?_ (fun j4 hj4 => ?_)
    · intro y3
      show Sim G _ _ 63 [(0, rf g 0)] [.long y3, rf g 0] ν2
      refine s_aload_n hX dX10_mean_63 rfl 0 rfl ?_
      refine s_getR hX (d := 68) 68 flX10_44 rfl rfl dX10_mean_64 ?_
      refine s_getL hX flX10_211 rfl dX10_mean_67 ?_
      refine s_callVvw hX [.long y3, .long (ν2.2 68 3)] (k := 0) (ci := 9) rfl hc9 vkX10_setFraction (fun ν hF => c_X10_setFraction  hF) mkX10_setFraction cvX10_214 rfl rfl ⟨by omega, by decide, Nat.le_of_ble_eq_true rfl⟩ dX10_mean_70 (fun ν5 => ?_)
      refine s_iconst (v := 1) hX dX10_mean_73 (by decide) ?_
      exact s_ireti hK hR dX10_mean_74
    refine s_icmp_ne hX 55 dX10_mean_42 (by decide) ?_ ?_
    · refine s_aload_n hX dX10_mean_55 rfl 0 rfl ?_
      refine s_getR hX (d := 68) 68 flX10_44 rfl rfl dX10_mean_56 ?_
      refine s_iload_n hX dX10_mean_59 rfl 1 rfl ?_
      refine s_callVlr hX [.int x1] (k := 68) (ci := 8) rfl hc8 vkX9_lossOf (fun r hF => c_X9_lossOf  hF) mkX9_lossOf cvX10_222 rfl rfl ⟨by omega, by decide, Nat.le_of_ble_eq_true rfl⟩ dX10_mean_60 (fun r6 => ?_)
      exact s_to hX [0] rfl (hj4 r6)
    · refine s_aload_n hX dX10_mean_45 rfl 0 rfl ?_
      refine s_getR hX (d := 68) 68 flX10_44 rfl rfl dX10_mean_46 ?_
      refine s_callVlr hX [] (k := 68) (ci := 8) rfl hc8 vkX9_lossOfAll (fun r hF => c_X9_lossOfAll  hF) mkX9_lossOfAll cvX10_218 rfl rfl ⟨by omega, by decide, Nat.le_of_ble_eq_true rfl⟩ dX10_mean_49 (fun r7 => ?_)
      refine s_goto hX 63 dX10_mean_52 (by decide) ?_
      exact s_to hX [0] rfl (hj4 r7)
  refine s_icmp_eq hX 26 dX10_mean_2 (by decide) ?_ ?_
  · exact s_to hX [0, 1] rfl (hj1)
  · refine s_aload_n hX dX10_mean_5 rfl 0 rfl ?_
    refine s_getR hX (d := 1) 1 flX10_10 rfl rfl dX10_mean_6 ?_
    refine s_getR hX (d := 1) 2 flX10_146 rfl rfl dX10_mean_9 ?_
    refine s_iload_n hX dX10_mean_12 rfl 1 rfl ?_
    refine s_callVir hX [.int x1] (k := 2) (ci := 3) rfl hc3 vkX3_hasVillage (fun r hF => c_X3_hasVillage rfl hF) mkX3_hasVillage cvX10_169 rfl rfl ⟨by omega, by decide, Nat.le_of_ble_eq_true rfl⟩ dX10_mean_13 (fun r8 => ?_)
    refine s_if_ne hX 26 dX10_mean_16 (by decide) ?_ ?_
    · exact s_to hX [0, 1] rfl (hj1)
    · refine s_aload_n hX dX10_mean_19 rfl 0 rfl ?_
      refine s_bipush (v := (-2)) hX dX10_mean_20 (by decide) ?_
      refine s_callViw hX [.int (-2)] (k := 0) (ci := 9) rfl hc9 vkX10_tally (fun r ν hF => c_X10_tally  hF) mkX10_tally cvX10_90 rfl rfl ⟨by omega, by decide, Nat.le_of_ble_eq_true rfl⟩ dX10_mean_22 (fun r9 ν10 => ?_)
      exact s_ireti hK hR dX10_mean_25
theorem dX10_pays_0 : decode cX10_pays 0 = .ok (.aload_n 0, 1) := by decide +kernel
theorem dX10_pays_1 : decode cX10_pays 1 = .ok (.getfield 10, 3) := by decide +kernel
theorem dX10_pays_4 : decode cX10_pays 4 = .ok (.getfield 146, 3) := by decide +kernel
theorem dX10_pays_7 : decode cX10_pays 7 = .ok (.iload_n 1, 1) := by decide +kernel
theorem dX10_pays_8 : decode cX10_pays 8 = .ok (.invokevirtual 169, 3) := by decide +kernel
theorem dX10_pays_11 : decode cX10_pays 11 = .ok (.ifCond .eq 13, 3) := by decide +kernel
theorem dX10_pays_14 : decode cX10_pays 14 = .ok (.iload_n 2, 1) := by decide +kernel
theorem dX10_pays_15 : decode cX10_pays 15 = .ok (.ifCond .lt 9, 3) := by decide +kernel
theorem dX10_pays_18 : decode cX10_pays 18 = .ok (.iload_n 2, 1) := by decide +kernel
theorem dX10_pays_19 : decode cX10_pays 19 = .ok (.bipush 40, 2) := by decide +kernel
theorem dX10_pays_21 : decode cX10_pays 21 = .ok (.if_icmp .le 10, 3) := by decide +kernel
theorem dX10_pays_24 : decode cX10_pays 24 = .ok (.aload_n 0, 1) := by decide +kernel
theorem dX10_pays_25 : decode cX10_pays 25 = .ok (.bipush (-2), 2) := by decide +kernel
theorem dX10_pays_27 : decode cX10_pays 27 = .ok (.invokevirtual 90, 3) := by decide +kernel
theorem dX10_pays_30 : decode cX10_pays 30 = .ok (.ireturn, 1) := by decide +kernel
theorem dX10_pays_31 : decode cX10_pays 31 = .ok (.aload_n 0, 1) := by decide +kernel
theorem dX10_pays_32 : decode cX10_pays 32 = .ok (.getfield 10, 3) := by decide +kernel
theorem dX10_pays_35 : decode cX10_pays 35 = .ok (.getfield 146, 3) := by decide +kernel
theorem dX10_pays_38 : decode cX10_pays 38 = .ok (.iload_n 1, 1) := by decide +kernel
theorem dX10_pays_39 : decode cX10_pays 39 = .ok (.invokevirtual 175, 3) := by decide +kernel
theorem dX10_pays_42 : decode cX10_pays 42 = .ok (.istore_n 3, 1) := by decide +kernel
theorem dX10_pays_43 : decode cX10_pays 43 = .ok (.iconst 0, 1) := by decide +kernel
theorem dX10_pays_44 : decode cX10_pays 44 = .ok (.istore 4, 2) := by decide +kernel
theorem dX10_pays_46 : decode cX10_pays 46 = .ok (.iload 4, 2) := by decide +kernel
theorem dX10_pays_48 : decode cX10_pays 48 = .ok (.bipush 9, 2) := by decide +kernel
theorem dX10_pays_50 : decode cX10_pays 50 = .ok (.if_icmp .gt 72, 3) := by decide +kernel
theorem dX10_pays_53 : decode cX10_pays 53 = .ok (.aload_n 0, 1) := by decide +kernel
theorem dX10_pays_54 : decode cX10_pays 54 = .ok (.getfield 37, 3) := by decide +kernel
theorem dX10_pays_57 : decode cX10_pays 57 = .ok (.aload_n 0, 1) := by decide +kernel
theorem dX10_pays_58 : decode cX10_pays 58 = .ok (.getfield 10, 3) := by decide +kernel
theorem dX10_pays_61 : decode cX10_pays 61 = .ok (.getfield 146, 3) := by decide +kernel
theorem dX10_pays_64 : decode cX10_pays 64 = .ok (.invokevirtual 275, 3) := by decide +kernel
theorem dX10_pays_67 : decode cX10_pays 67 = .ok (.aload_n 0, 1) := by decide +kernel
theorem dX10_pays_68 : decode cX10_pays 68 = .ok (.getfield 37, 3) := by decide +kernel
theorem dX10_pays_71 : decode cX10_pays 71 = .ok (.iload 4, 2) := by decide +kernel
theorem dX10_pays_73 : decode cX10_pays 73 = .ok (.putfield 278, 3) := by decide +kernel
theorem dX10_pays_76 : decode cX10_pays 76 = .ok (.iconst 0, 1) := by decide +kernel
theorem dX10_pays_77 : decode cX10_pays 77 = .ok (.istore 5, 2) := by decide +kernel
theorem dX10_pays_79 : decode cX10_pays 79 = .ok (.iload 5, 2) := by decide +kernel
theorem dX10_pays_81 : decode cX10_pays 81 = .ok (.iload_n 2, 1) := by decide +kernel
theorem dX10_pays_82 : decode cX10_pays 82 = .ok (.if_icmp .ge 19, 3) := by decide +kernel
theorem dX10_pays_85 : decode cX10_pays 85 = .ok (.aload_n 0, 1) := by decide +kernel
theorem dX10_pays_86 : decode cX10_pays 86 = .ok (.getfield 37, 3) := by decide +kernel
theorem dX10_pays_89 : decode cX10_pays 89 = .ok (.iconst 0, 1) := by decide +kernel
theorem dX10_pays_90 : decode cX10_pays 90 = .ok (.iconst 0, 1) := by decide +kernel
theorem dX10_pays_91 : decode cX10_pays 91 = .ok (.invokevirtual 281, 3) := by decide +kernel
theorem dX10_pays_94 : decode cX10_pays 94 = .ok (.pop, 1) := by decide +kernel
theorem dX10_pays_95 : decode cX10_pays 95 = .ok (.iinc 5 1, 3) := by decide +kernel
theorem dX10_pays_98 : decode cX10_pays 98 = .ok (.goto (-19), 3) := by decide +kernel
theorem dX10_pays_101 : decode cX10_pays 101 = .ok (.aload_n 0, 1) := by decide +kernel
theorem dX10_pays_102 : decode cX10_pays 102 = .ok (.getfield 37, 3) := by decide +kernel
theorem dX10_pays_105 : decode cX10_pays 105 = .ok (.iload_n 1, 1) := by decide +kernel
theorem dX10_pays_106 : decode cX10_pays 106 = .ok (.invokevirtual 175, 3) := by decide +kernel
theorem dX10_pays_109 : decode cX10_pays 109 = .ok (.iload_n 3, 1) := by decide +kernel
theorem dX10_pays_110 : decode cX10_pays 110 = .ok (.if_icmp .lt 6, 3) := by decide +kernel
theorem dX10_pays_113 : decode cX10_pays 113 = .ok (.iload 4, 2) := by decide +kernel
theorem dX10_pays_115 : decode cX10_pays 115 = .ok (.ireturn, 1) := by decide +kernel
theorem dX10_pays_116 : decode cX10_pays 116 = .ok (.iinc 4 1, 3) := by decide +kernel
theorem dX10_pays_119 : decode cX10_pays 119 = .ok (.goto (-73), 3) := by decide +kernel
theorem dX10_pays_122 : decode cX10_pays 122 = .ok (.iconst (-1), 1) := by decide +kernel
theorem dX10_pays_123 : decode cX10_pays 123 = .ok (.ireturn, 1) := by decide +kernel
noncomputable def f_X10_pays (x1 : Int32) (x2 : Int32) (μ : Mem) : Option (Int32 × Mem) :=
  bd (f_X3_hasVillage 2 x1 μ) fun r1 =>
  jn (
    bd2 (f_X10_tally (-2) μ) fun r3 ν4 =>
    some (r3, ν4)
    ) fun j2 =>
  if r1 = 0 then
    j2
  else
    if x2 < 0 then
      j2
    else
      if 40 < x2 then
        j2
      else
        bd (f_X3_headsIn 2 x1 μ) fun r5 =>
        bdr (lp (ε := (Mem) ⊕ (Int32 × Mem)) (cu2 fun (x4_6 : Int32) (ν7 : Mem) =>
          if 9 < x4_6 then
            some (.inr (.inl ν7))
          else
            bd (f_X3_become 63 2 ν7) fun ν10 =>
            lt (setI ν10 63 3 x4_6) fun ν11 =>
            bd (lp (ε := Mem) (cu2 fun (x5_12 : Int32) (ν13 : Mem) =>
              if x5_12 < x2 then
                bd2 (f_X3_fullMoon 63 0 0 ν13) fun r16 ν17 =>
                some (.inl ((x5_12 + 1), ν17))
              else
                some (.inr ν13)
              ) (0, ν11)) (fun (ν14 : Mem) =>
              bd (f_X3_headsIn 63 x1 ν14) fun r18 =>
              if r18 < r5 then
                some (.inl ((x4_6 + 1), ν14))
              else
                some (.inr (.inr (x4_6, ν14)))
              )
          ) (0, μ)) (fun (ν8 : Mem) =>
          some ((-1), ν8)
          ) (fun r => some (r))
set_option maxHeartbeats 4000000 in
set_option maxRecDepth 100000 in
theorem c_X10_pays {g : GT} {x1 : Int32} {x2 : Int32} {μ : Mem} {μ0 : Mem} {r0 : Int32} (hf : f_X10_pays x1 x2 μ = some (r0, μ0)) : CI g yX10_pays cX10_pays 6 (some .int) 6 [rf g 0, .int x1, .int x2] μ r0 μ0 := by
  refine mk_i (by decide) (Nat.le_of_ble_eq_true rfl) ?_
  intro G hX hR
  have hX : CX g G cX10_pays RX10 6 6 := hX
  suffices S : ∀ K : (Int32 × Mem) → Prop, (∀ a, K a → a = (r0, μ0)) → Sim G (f_X10_pays x1 x2 μ) K 0 [(0, rf g 0), (1, .int x1), (2, .int x2)] [] μ from S (fun a => a = (r0, μ0)) (fun a h => h) _ hf rfl
  intro K hK
  unfold f_X10_pays
  refine s_aload_n hX dX10_pays_0 rfl 0 rfl ?_
  refine s_getR hX (d := 1) 1 flX10_10 rfl rfl dX10_pays_1 ?_
  refine s_getR hX (d := 1) 2 flX10_146 rfl rfl dX10_pays_4 ?_
  refine s_iload_n hX dX10_pays_7 rfl 1 rfl ?_
  refine s_callVir hX [.int x1] (k := 2) (ci := 3) rfl hc3 vkX3_hasVillage (fun r hF => c_X3_hasVillage rfl hF) mkX3_hasVillage cvX10_169 rfl rfl ⟨by omega, by decide, Nat.le_of_ble_eq_true rfl⟩ dX10_pays_8 (fun r1 => ?_)
  refine s_jn (C := fun j => Sim G (j) K 24 [(0, rf g 0)] [] μ) ?_ (fun j2 hj2 => ?_)
  · skip
    show Sim G _ _ 24 [(0, rf g 0)] [] μ
    refine s_aload_n hX dX10_pays_24 rfl 0 rfl ?_
    refine s_bipush (v := (-2)) hX dX10_pays_25 (by decide) ?_
    refine s_callViw hX [.int (-2)] (k := 0) (ci := 9) rfl hc9 vkX10_tally (fun r ν hF => c_X10_tally  hF) mkX10_tally cvX10_90 rfl rfl ⟨by omega, by decide, Nat.le_of_ble_eq_true rfl⟩ dX10_pays_27 (fun r3 ν4 => ?_)
    exact s_ireti hK hR dX10_pays_30
  refine s_if_eq hX 24 dX10_pays_11 (by decide) ?_ ?_
  · exact s_to hX [0] rfl (hj2)
  · refine s_iload_n hX dX10_pays_14 rfl 2 rfl ?_
    refine s_if_lt hX 24 dX10_pays_15 (by decide) ?_ ?_
    · exact s_to hX [0] rfl (hj2)
    · refine s_iload_n hX dX10_pays_18 rfl 2 rfl ?_
      refine s_bipush (v := 40) hX dX10_pays_19 (by decide) ?_
      refine s_icmp_le hX 31 dX10_pays_21 (by decide) ?_ ?_
      · refine s_aload_n hX dX10_pays_31 rfl 0 rfl ?_
        refine s_getR hX (d := 1) 1 flX10_10 rfl rfl dX10_pays_32 ?_
        refine s_getR hX (d := 1) 2 flX10_146 rfl rfl dX10_pays_35 ?_
        refine s_iload_n hX dX10_pays_38 rfl 1 rfl ?_
        refine s_callVir hX [.int x1] (k := 2) (ci := 3) rfl hc3 vkX3_headsIn (fun r hF => c_X3_headsIn rfl hF) mkX3_headsIn cvX10_175 rfl rfl ⟨by omega, by decide, Nat.le_of_ble_eq_true rfl⟩ dX10_pays_39 (fun r5 => ?_)
        refine s_istore_n (lv' := [(3, .int r5), (0, rf g 0), (1, .int x1), (2, .int x2)]) hX dX10_pays_42 rfl (by decide) rfl ?_
        refine s_iconst (v := 0) hX dX10_pays_43 (by decide) ?_
        refine s_istore (lv' := [(4, .int 0), (3, .int r5), (0, rf g 0), (1, .int x1), (2, .int x2)]) hX dX10_pays_44 (by decide) rfl ?_
        refine s_loopR hX 46 122 (fun s : Int32 × Mem => [(0, rf g 0), (1, .int x1), (2, .int x2), (3, .int r5), (4, .int s.1)]) (fun s : Int32 × Mem => s.2) (fun s : Mem => []) (fun s : Mem => s) [2, 3, 4, 1, 0] rfl rfl rfl (fun r => r = (r0, μ0)) (fun r a h k => by cases h; exact hK _ k) ?_ ?_
        · intro Kq9 hIq9 hJq9 hKq9 sq
          obtain ⟨x4_6, ν7⟩ := sq
          refine s_cu2 ?_
          show Sim G _ _ 46 [(0, rf g 0), (1, .int x1), (2, .int x2), (3, .int r5), (4, .int x4_6)] [] ν7
          refine s_iload hX dX10_pays_46 4 rfl ?_
          refine s_bipush (v := 9) hX dX10_pays_48 (by decide) ?_
          refine s_icmp_gt hX 122 dX10_pays_50 (by decide) ?_ ?_
          · exact s_end hX (hJq9 ν7) [] rfl
          · refine s_aload_n hX dX10_pays_53 rfl 0 rfl ?_
            refine s_getR hX (d := 63) 63 flX10_37 rfl rfl dX10_pays_54 ?_
            refine s_aload_n hX dX10_pays_57 rfl 0 rfl ?_
            refine s_getR hX (d := 1) 1 flX10_10 rfl rfl dX10_pays_58 ?_
            refine s_getR hX (d := 1) 2 flX10_146 rfl rfl dX10_pays_61 ?_
            refine s_callVvw hX [rf g 2] (k := 63) (ci := 3) rfl hc3 vkX3_become (fun ν hF => c_X3_become rfl rfl hF) mkX3_become cvX10_275 rfl rfl ⟨by omega, by decide, Nat.le_of_ble_eq_true rfl⟩ dX10_pays_64 (fun ν10 => ?_)
            refine s_aload_n hX dX10_pays_67 rfl 0 rfl ?_
            refine s_getR hX (d := 63) 63 flX10_37 rfl rfl dX10_pays_68 ?_
            refine s_iload hX dX10_pays_71 4 rfl ?_
            refine s_putI hX flX10_278 rfl ⟨rfl, rfl⟩ dX10_pays_73 (fun ν11 => ?_)
            refine s_iconst (v := 0) hX dX10_pays_76 (by decide) ?_
            refine s_istore (lv' := [(5, .int 0), (0, rf g 0), (1, .int x1), (2, .int x2), (3, .int r5), (4, .int x4_6)]) hX dX10_pays_77 (by decide) rfl ?_
            refine s_loop hX 79 101 (fun s : Int32 × Mem => [(0, rf g 0), (1, .int x1), (2, .int x2), (3, .int r5), (4, .int x4_6), (5, .int s.1)]) (fun s : Int32 × Mem => s.2) (fun s : Mem => [(0, rf g 0), (1, .int x1), (2, .int x2), (3, .int r5), (4, .int x4_6)]) (fun s : Mem => s) [1, 2, 3, 4, 5, 0] rfl rfl rfl ?_ ?_
            · intro Kq15 hIq15 hJq15 sq
              obtain ⟨x5_12, ν13⟩ := sq
              refine s_cu2 ?_
              show Sim G _ _ 79 [(0, rf g 0), (1, .int x1), (2, .int x2), (3, .int r5), (4, .int x4_6), (5, .int x5_12)] [] ν13
              refine s_iload hX dX10_pays_79 5 rfl ?_
              refine s_iload_n hX dX10_pays_81 rfl 2 rfl ?_
              refine s_icmp_ge hX 101 dX10_pays_82 (by decide) ?_ ?_
              · exact s_end hX (hJq15 ν13) [0, 1, 2, 3, 4] rfl
              · refine s_aload_n hX dX10_pays_85 rfl 0 rfl ?_
                refine s_getR hX (d := 63) 63 flX10_37 rfl rfl dX10_pays_86 ?_
                refine s_iconst (v := 0) hX dX10_pays_89 (by decide) ?_
                refine s_iconst (v := 0) hX dX10_pays_90 (by decide) ?_
                refine s_callViw hX [.int 0, .int 0] (k := 63) (ci := 3) rfl hc3 vkX3_fullMoon (fun r ν hF => c_X3_fullMoon rfl hF) mkX3_fullMoon cvX10_281 rfl rfl ⟨by omega, by decide, Nat.le_of_ble_eq_true rfl⟩ dX10_pays_91 (fun r16 ν17 => ?_)
                refine s_pop hX dX10_pays_94 rfl ?_
                refine s_iinc (v := (x5_12 + 1)) (lv' := [(5, .int (x5_12 + 1)), (0, rf g 0), (1, .int x1), (2, .int x2), (3, .int r5), (4, .int x4_6)]) hX dX10_pays_95 5 rfl rfl (by decide) rfl ?_
                refine s_goto hX 79 dX10_pays_98 (by decide) ?_
                exact s_end hX (hIq15 ((x5_12 + 1), ν17)) [1, 2, 3, 4, 5, 0] rfl
            · intro sq
              obtain ⟨ν14, rfl⟩ : ∃ z, z = sq := ⟨_, rfl⟩
              show Sim G _ _ 101 [(0, rf g 0), (1, .int x1), (2, .int x2), (3, .int r5), (4, .int x4_6)] [] ν14
              refine s_aload_n hX dX10_pays_101 rfl 0 rfl ?_
              refine s_getR hX (d := 63) 63 flX10_37 rfl rfl dX10_pays_102 ?_
              refine s_iload_n hX dX10_pays_105 rfl 1 rfl ?_
              refine s_callVir hX [.int x1] (k := 63) (ci := 3) rfl hc3 vkX3_headsIn (fun r hF => c_X3_headsIn rfl hF) mkX3_headsIn cvX10_175 rfl rfl ⟨by omega, by decide, Nat.le_of_ble_eq_true rfl⟩ dX10_pays_106 (fun r18 => ?_)
              refine s_iload_n hX dX10_pays_109 rfl 3 rfl ?_
              refine s_icmp_lt hX 116 dX10_pays_110 (by decide) ?_ ?_
              · refine s_iinc (v := (x4_6 + 1)) (lv' := [(4, .int (x4_6 + 1)), (0, rf g 0), (1, .int x1), (2, .int x2), (3, .int r5)]) hX dX10_pays_116 4 rfl rfl (by decide) rfl ?_
                refine s_goto hX 46 dX10_pays_119 (by decide) ?_
                exact s_end hX (hIq9 ((x4_6 + 1), ν14)) [1, 2, 3, 4, 0] rfl
              · refine s_iload hX dX10_pays_113 4 rfl ?_
                exact s_ireti hKq9 hR dX10_pays_115
        · intro sq
          obtain ⟨ν8, rfl⟩ : ∃ z, z = sq := ⟨_, rfl⟩
          show Sim G _ _ 122 [] [] ν8
          refine s_iconst (v := (-1)) hX dX10_pays_122 (by decide) ?_
          exact s_ireti hK hR dX10_pays_123
      · exact s_to hX [0] rfl (hj2)
theorem dX10_share_0 : decode cX10_share 0 = .ok (.aload_n 0, 1) := by decide +kernel
theorem dX10_share_1 : decode cX10_share 1 = .ok (.getfield 10, 3) := by decide +kernel
theorem dX10_share_4 : decode cX10_share 4 = .ok (.getfield 146, 3) := by decide +kernel
theorem dX10_share_7 : decode cX10_share 7 = .ok (.astore_n 2, 1) := by decide +kernel
theorem dX10_share_8 : decode cX10_share 8 = .ok (.aload_n 2, 1) := by decide +kernel
theorem dX10_share_9 : decode cX10_share 9 = .ok (.iload_n 1, 1) := by decide +kernel
theorem dX10_share_10 : decode cX10_share 10 = .ok (.invokevirtual 169, 3) := by decide +kernel
theorem dX10_share_13 : decode cX10_share 13 = .ok (.ifCond .ne 10, 3) := by decide +kernel
theorem dX10_share_16 : decode cX10_share 16 = .ok (.aload_n 0, 1) := by decide +kernel
theorem dX10_share_17 : decode cX10_share 17 = .ok (.bipush (-2), 2) := by decide +kernel
theorem dX10_share_19 : decode cX10_share 19 = .ok (.invokevirtual 90, 3) := by decide +kernel
theorem dX10_share_22 : decode cX10_share 22 = .ok (.ireturn, 1) := by decide +kernel
theorem dX10_share_23 : decode cX10_share 23 = .ok (.aload_n 2, 1) := by decide +kernel
theorem dX10_share_24 : decode cX10_share 24 = .ok (.invokevirtual 184, 3) := by decide +kernel
theorem dX10_share_27 : decode cX10_share 27 = .ok (.lconst 0, 1) := by decide +kernel
theorem dX10_share_28 : decode cX10_share 28 = .ok (.lstore_n 3, 1) := by decide +kernel
theorem dX10_share_29 : decode cX10_share 29 = .ok (.iconst 1, 1) := by decide +kernel
theorem dX10_share_30 : decode cX10_share 30 = .ok (.iload_n 1, 1) := by decide +kernel
theorem dX10_share_31 : decode cX10_share 31 = .ok (.ishl, 1) := by decide +kernel
theorem dX10_share_32 : decode cX10_share 32 = .ok (.istore 5, 2) := by decide +kernel
theorem dX10_share_34 : decode cX10_share 34 = .ok (.iconst 0, 1) := by decide +kernel
theorem dX10_share_35 : decode cX10_share 35 = .ok (.istore 6, 2) := by decide +kernel
theorem dX10_share_37 : decode cX10_share 37 = .ok (.iload 6, 2) := by decide +kernel
theorem dX10_share_39 : decode cX10_share 39 = .ok (.iconst 1, 1) := by decide +kernel
theorem dX10_share_40 : decode cX10_share 40 = .ok (.aload_n 2, 1) := by decide +kernel
theorem dX10_share_41 : decode cX10_share 41 = .ok (.getfield 265, 3) := by decide +kernel
theorem dX10_share_44 : decode cX10_share 44 = .ok (.ishl, 1) := by decide +kernel
theorem dX10_share_45 : decode cX10_share 45 = .ok (.if_icmp .ge 54, 3) := by decide +kernel
theorem dX10_share_48 : decode cX10_share 48 = .ok (.iload 6, 2) := by decide +kernel
theorem dX10_share_50 : decode cX10_share 50 = .ok (.iload 5, 2) := by decide +kernel
theorem dX10_share_52 : decode cX10_share 52 = .ok (.iand, 1) := by decide +kernel
theorem dX10_share_53 : decode cX10_share 53 = .ok (.ifCond .ne 40, 3) := by decide +kernel
theorem dX10_share_56 : decode cX10_share 56 = .ok (.aload_n 2, 1) := by decide +kernel
theorem dX10_share_57 : decode cX10_share 57 = .ok (.iload 6, 2) := by decide +kernel
theorem dX10_share_59 : decode cX10_share 59 = .ok (.iload 5, 2) := by decide +kernel
theorem dX10_share_61 : decode cX10_share 61 = .ok (.ior, 1) := by decide +kernel
theorem dX10_share_62 : decode cX10_share 62 = .ok (.invokevirtual 262, 3) := by decide +kernel
theorem dX10_share_65 : decode cX10_share 65 = .ok (.aload_n 2, 1) := by decide +kernel
theorem dX10_share_66 : decode cX10_share 66 = .ok (.iload 6, 2) := by decide +kernel
theorem dX10_share_68 : decode cX10_share 68 = .ok (.invokevirtual 262, 3) := by decide +kernel
theorem dX10_share_71 : decode cX10_share 71 = .ok (.isub, 1) := by decide +kernel
theorem dX10_share_72 : decode cX10_share 72 = .ok (.i2l, 1) := by decide +kernel
theorem dX10_share_73 : decode cX10_share 73 = .ok (.lstore 7, 2) := by decide +kernel
theorem dX10_share_75 : decode cX10_share 75 = .ok (.lload_n 3, 1) := by decide +kernel
theorem dX10_share_76 : decode cX10_share 76 = .ok (.lload 7, 2) := by decide +kernel
theorem dX10_share_78 : decode cX10_share 78 = .ok (.iload 6, 2) := by decide +kernel
theorem dX10_share_80 : decode cX10_share 80 = .ok (.invokestatic 246, 3) := by decide +kernel
theorem dX10_share_83 : decode cX10_share 83 = .ok (.aload_n 2, 1) := by decide +kernel
theorem dX10_share_84 : decode cX10_share 84 = .ok (.getfield 265, 3) := by decide +kernel
theorem dX10_share_87 : decode cX10_share 87 = .ok (.invokestatic 268, 3) := by decide +kernel
theorem dX10_share_90 : decode cX10_share 90 = .ok (.lmul, 1) := by decide +kernel
theorem dX10_share_91 : decode cX10_share 91 = .ok (.ladd, 1) := by decide +kernel
theorem dX10_share_92 : decode cX10_share 92 = .ok (.lstore_n 3, 1) := by decide +kernel
theorem dX10_share_93 : decode cX10_share 93 = .ok (.iinc 6 1, 3) := by decide +kernel
theorem dX10_share_96 : decode cX10_share 96 = .ok (.goto (-59), 3) := by decide +kernel
theorem dX10_share_99 : decode cX10_share 99 = .ok (.aload_n 0, 1) := by decide +kernel
theorem dX10_share_100 : decode cX10_share 100 = .ok (.lload_n 3, 1) := by decide +kernel
theorem dX10_share_101 : decode cX10_share 101 = .ok (.getstatic 272, 3) := by decide +kernel
theorem dX10_share_104 : decode cX10_share 104 = .ok (.aload_n 2, 1) := by decide +kernel
theorem dX10_share_105 : decode cX10_share 105 = .ok (.getfield 265, 3) := by decide +kernel
theorem dX10_share_108 : decode cX10_share 108 = .ok (.iaload, 1) := by decide +kernel
theorem dX10_share_109 : decode cX10_share 109 = .ok (.i2l, 1) := by decide +kernel
theorem dX10_share_110 : decode cX10_share 110 = .ok (.invokevirtual 214, 3) := by decide +kernel
theorem dX10_share_113 : decode cX10_share 113 = .ok (.iconst 1, 1) := by decide +kernel
theorem dX10_share_114 : decode cX10_share 114 = .ok (.ireturn, 1) := by decide +kernel
noncomputable def f_X10_share (x1 : Int32) (μ : Mem) : Option (Int32 × Mem) :=
  bd (f_X3_hasVillage 2 x1 μ) fun r1 =>
  if r1 = 0 then
    bd2 (f_X10_tally (-2) μ) fun r15 ν16 =>
    some (r15, ν16)
  else
    bd (f_X3_look 2 μ) fun ν2 =>
    bd (lp (ε := Int64) (cu2 fun (x3_3 : Int64) (x6_4 : Int32) =>
      if x6_4 < ((1 : Int32) <<< ((ν2.1 2 0) &&& 31)) then
        jn (fun (x3_7 : Int64) =>
          some (.inl (x3_7, (x6_4 + 1)))
          ) fun j8 =>
        if (x6_4 &&& ((1 : Int32) <<< (x1 &&& 31))) = 0 then
          bd (f_X3_takenFromLeague 2 (x6_4 ||| ((1 : Int32) <<< (x1 &&& 31))) ν2) fun r9 =>
          bd (f_X3_takenFromLeague 2 x6_4 ν2) fun r10 =>
          bd (f_J6_bitCount_0f7a4 x6_4) fun r11 =>
          bd (f_X10_ordersWith r11 (ν2.1 2 0) ν2) fun r12 =>
          lt (x3_3 + (((r9 - r10) : Int32).toInt64 * r12)) fun x3_13 =>
          j8 x3_13
        else
          j8 x3_3
      else
        some (.inr x3_3)
      ) (0, 0)) (fun (x3_5 : Int64) =>
      chk (ν2.1 2 0) 6 (
        bd (f_X10_setFraction x3_5 (((FACT (ix (ν2.1 2 0))) : Int32).toInt64) ν2) fun ν14 =>
        some (1, ν14)
        )
      )
set_option maxHeartbeats 4000000 in
set_option maxRecDepth 100000 in
theorem c_X10_share {g : GT} {x1 : Int32} {μ : Mem} {μ0 : Mem} {r0 : Int32} (hf : f_X10_share x1 μ = some (r0, μ0)) : CI g yX10_share cX10_share 9 (some .int) 6 [rf g 0, .int x1] μ r0 μ0 := by
  refine mk_i (by decide) (Nat.le_of_ble_eq_true rfl) ?_
  intro G hX hR
  have hX : CX g G cX10_share RX10 9 6 := hX
  suffices S : ∀ K : (Int32 × Mem) → Prop, (∀ a, K a → a = (r0, μ0)) → Sim G (f_X10_share x1 μ) K 0 [(0, rf g 0), (1, .int x1)] [] μ from S (fun a => a = (r0, μ0)) (fun a h => h) _ hf rfl
  intro K hK
  unfold f_X10_share
  refine s_aload_n hX dX10_share_0 rfl 0 rfl ?_
  refine s_getR hX (d := 1) 1 flX10_10 rfl rfl dX10_share_1 ?_
  refine s_getR hX (d := 1) 2 flX10_146 rfl rfl dX10_share_4 ?_
  refine s_astore_n (lv' := [(2, rf g 2), (0, rf g 0), (1, .int x1)]) hX dX10_share_7 rfl (by decide) rfl ?_
  refine s_aload_n hX dX10_share_8 rfl 0 rfl ?_
  refine s_iload_n hX dX10_share_9 rfl 2 rfl ?_
  refine s_callVir hX [.int x1] (k := 2) (ci := 3) rfl hc3 vkX3_hasVillage (fun r hF => c_X3_hasVillage rfl hF) mkX3_hasVillage cvX10_169 rfl rfl ⟨by omega, by decide, Nat.le_of_ble_eq_true rfl⟩ dX10_share_10 (fun r1 => ?_)
  refine s_if_ne hX 23 dX10_share_13 (by decide) ?_ ?_
  · refine s_aload_n hX dX10_share_23 rfl 0 rfl ?_
    refine s_callVvw hX [] (k := 2) (ci := 3) rfl hc3 vkX3_look (fun ν hF => c_X3_look rfl hF) mkX3_look cvX10_184 rfl rfl ⟨by omega, by decide, Nat.le_of_ble_eq_true rfl⟩ dX10_share_24 (fun ν2 => ?_)
    refine s_lconst (v := 0) hX dX10_share_27 (by decide) ?_
    refine s_lstore_n (lv' := [(3, .long 0), (2, rf g 2), (0, rf g 0), (1, .int x1)]) hX dX10_share_28 rfl (by decide) rfl ?_
    refine s_iconst (v := 1) hX dX10_share_29 (by decide) ?_
    refine s_iload_n hX dX10_share_30 rfl 3 rfl ?_
    refine s_ishl hX dX10_share_31 ?_
    refine s_istore (lv' := [(5, .int ((1 : Int32) <<< (x1 &&& 31))), (3, .long 0), (2, rf g 2), (0, rf g 0), (1, .int x1)]) hX dX10_share_32 (by decide) rfl ?_
    refine s_iconst (v := 0) hX dX10_share_34 (by decide) ?_
    refine s_istore (lv' := [(6, .int 0), (5, .int ((1 : Int32) <<< (x1 &&& 31))), (3, .long 0), (2, rf g 2), (0, rf g 0), (1, .int x1)]) hX dX10_share_35 (by decide) rfl ?_
    refine s_loop hX 37 99 (fun s : Int64 × Int32 => [(0, rf g 0), (2, rf g 2), (3, .long s.1), (5, .int ((1 : Int32) <<< (x1 &&& 31))), (6, .int s.2)]) (fun s : Int64 × Int32 => ν2) (fun s : Int64 => [(0, rf g 0), (2, rf g 2), (3, .long s)]) (fun s : Int64 => ν2) [4, 3, 2, 1, 0] rfl rfl rfl ?_ ?_
    · intro Kq6 hIq6 hJq6 sq
      obtain ⟨x3_3, x6_4⟩ := sq
      refine s_cu2 ?_
      show Sim G _ _ 37 [(0, rf g 0), (2, rf g 2), (3, .long x3_3), (5, .int ((1 : Int32) <<< (x1 &&& 31))), (6, .int x6_4)] [] ν2
      refine s_iload hX dX10_share_37 4 rfl ?_
      refine s_iconst (v := 1) hX dX10_share_39 (by decide) ?_
      refine s_aload_n hX dX10_share_40 rfl 1 rfl ?_
      refine s_getI hX flX10_265 rfl dX10_share_41 ?_
      refine s_ishl hX dX10_share_44 ?_
      refine s_icmp_ge hX 99 dX10_share_45 (by decide) ?_ ?_
      · exact s_end hX (hJq6 x3_3) [0, 1, 2] rfl
      · refine s_iload hX dX10_share_48 4 rfl ?_
        refine s_iload hX dX10_share_50 3 rfl ?_
        refine s_iand hX dX10_share_52 ?_
        refine s_jn (C := fun j => ∀ (x3_7 : Int64), Sim G (j x3_7) Kq6 93 [(0, rf g 0), (2, rf g 2), (3, .long x3_7), (5, .int ((1 : Int32) <<< (x1 &&& 31))), (6, .int x6_4)] [] ν2) ?_ (fun j8 hj8 => ?_)
        · intro x3_7
          show Sim G _ _ 93 [(0, rf g 0), (2, rf g 2), (3, .long x3_7), (5, .int ((1 : Int32) <<< (x1 &&& 31))), (6, .int x6_4)] [] ν2
          refine s_iinc (v := (x6_4 + 1)) (lv' := [(6, .int (x6_4 + 1)), (0, rf g 0), (2, rf g 2), (3, .long x3_7), (5, .int ((1 : Int32) <<< (x1 &&& 31)))]) hX dX10_share_93 4 rfl rfl (by decide) rfl ?_
          refine s_goto hX 37 dX10_share_96 (by decide) ?_
          exact s_end hX (hIq6 (x3_7, (x6_4 + 1))) [1, 2, 3, 4, 0] rfl
        refine s_if_ne hX 93 dX10_share_53 (by decide) ?_ ?_
        · exact s_to hX [0, 1, 2, 3, 4] rfl (hj8 x3_3)
        · refine s_aload_n hX dX10_share_56 rfl 1 rfl ?_
          refine s_iload hX dX10_share_57 4 rfl ?_
          refine s_iload hX dX10_share_59 3 rfl ?_
          refine s_ior hX dX10_share_61 ?_
          refine s_callVir hX [.int (x6_4 ||| ((1 : Int32) <<< (x1 &&& 31)))] (k := 2) (ci := 3) rfl hc3 vkX3_takenFromLeague (fun r hF => c_X3_takenFromLeague rfl hF) mkX3_takenFromLeague cvX10_262 rfl rfl ⟨by omega, by decide, Nat.le_of_ble_eq_true rfl⟩ dX10_share_62 (fun r9 => ?_)
          refine s_aload_n hX dX10_share_65 rfl 1 rfl ?_
          refine s_iload hX dX10_share_66 4 rfl ?_
          refine s_callVir hX [.int x6_4] (k := 2) (ci := 3) rfl hc3 vkX3_takenFromLeague (fun r hF => c_X3_takenFromLeague rfl hF) mkX3_takenFromLeague cvX10_262 rfl rfl ⟨by omega, by decide, Nat.le_of_ble_eq_true rfl⟩ dX10_share_68 (fun r10 => ?_)
          refine s_isub hX dX10_share_71 ?_
          refine s_i2l hX dX10_share_72 ?_
          refine s_lstore (lv' := [(7, .long ((r9 - r10) : Int32).toInt64), (0, rf g 0), (2, rf g 2), (3, .long x3_3), (5, .int ((1 : Int32) <<< (x1 &&& 31))), (6, .int x6_4)]) hX dX10_share_73 (by decide) rfl ?_
          refine s_lload_n hX dX10_share_75 rfl 3 rfl ?_
          refine s_lload hX dX10_share_76 0 rfl ?_
          refine s_iload hX dX10_share_78 5 rfl ?_
          refine s_callSir hX [.int x6_4] skJ6_bitCount_0f7a4 (fun r hF => c_J6_bitCount_0f7a4  hF) mkJ6_bitCount_0f7a4 cvX10_246 rfl rfl ⟨by omega, by decide, Nat.le_of_ble_eq_true rfl⟩ dX10_share_80 (fun r11 => ?_)
          refine s_aload_n hX dX10_share_83 rfl 2 rfl ?_
          refine s_getI hX flX10_265 rfl dX10_share_84 ?_
          refine s_callSlr hX [.int r11, .int (ν2.1 2 0)] skX10_ordersWith (fun r hF => c_X10_ordersWith  hF) mkX10_ordersWith cvX10_268 rfl rfl ⟨by omega, by decide, Nat.le_of_ble_eq_true rfl⟩ dX10_share_87 (fun r12 => ?_)
          refine s_lmul hX dX10_share_90 ?_
          refine s_ladd hX dX10_share_91 ?_
          refine s_ltl (fun x3_13 => ?_)
          refine s_lstore_n (lv' := [(3, .long x3_13), (7, .long ((r9 - r10) : Int32).toInt64), (0, rf g 0), (2, rf g 2), (5, .int ((1 : Int32) <<< (x1 &&& 31))), (6, .int x6_4)]) hX dX10_share_92 rfl (by decide) rfl ?_
          exact s_to hX [2, 3, 0, 4, 5] rfl (hj8 x3_13)
    · intro sq
      obtain ⟨x3_5, rfl⟩ : ∃ z, z = sq := ⟨_, rfl⟩
      show Sim G _ _ 99 [(0, rf g 0), (2, rf g 2), (3, .long x3_5)] [] ν2
      refine s_aload_n hX dX10_share_99 rfl 0 rfl ?_
      refine s_lload_n hX dX10_share_100 rfl 2 rfl ?_
      refine s_gets0 hX ksX10_272 dX10_share_101 ?_
      refine s_aload_n hX dX10_share_104 rfl 1 rfl ?_
      refine s_getI hX flX10_265 rfl dX10_share_105 ?_
      refine s_tald0 hX dX10_share_108 ?_
      refine s_i2l hX dX10_share_109 ?_
      refine s_callVvw hX [.long x3_5, .long ((FACT (ix (ν2.1 2 0))) : Int32).toInt64] (k := 0) (ci := 9) rfl hc9 vkX10_setFraction (fun ν hF => c_X10_setFraction  hF) mkX10_setFraction cvX10_214 rfl rfl ⟨by omega, by decide, Nat.le_of_ble_eq_true rfl⟩ dX10_share_110 (fun ν14 => ?_)
      refine s_iconst (v := 1) hX dX10_share_113 (by decide) ?_
      exact s_ireti hK hR dX10_share_114
  · refine s_aload_n hX dX10_share_16 rfl 1 rfl ?_
    refine s_bipush (v := (-2)) hX dX10_share_17 (by decide) ?_
    refine s_callViw hX [.int (-2)] (k := 0) (ci := 9) rfl hc9 vkX10_tally (fun r ν hF => c_X10_tally  hF) mkX10_tally cvX10_90 rfl rfl ⟨by omega, by decide, Nat.le_of_ble_eq_true rfl⟩ dX10_share_19 (fun r15 ν16 => ?_)
    exact s_ireti hK hR dX10_share_22
