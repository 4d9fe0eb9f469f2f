theorem dX11_undo_0 : decode cX11_undo 0 = .ok (.aload_n 0, 1) := by decide +kernel
theorem dX11_undo_1 : decode cX11_undo 1 = .ok (.getfield 7, 3) := by decide +kernel
theorem dX11_undo_4 : decode cX11_undo 4 = .ok (.iconst 4, 1) := by decide +kernel
theorem dX11_undo_5 : decode cX11_undo 5 = .ok (.iaload, 1) := by decide +kernel
theorem dX11_undo_6 : decode cX11_undo 6 = .ok (.ifCond .ne 8, 3) := by decide +kernel
theorem dX11_undo_9 : decode cX11_undo 9 = .ok (.aload_n 0, 1) := by decide +kernel
theorem dX11_undo_10 : decode cX11_undo 10 = .ok (.invokevirtual 76, 3) := by decide +kernel
theorem dX11_undo_13 : decode cX11_undo 13 = .ok (.ireturn, 1) := by decide +kernel
theorem dX11_undo_14 : decode cX11_undo 14 = .ok (.aload_n 0, 1) := by decide +kernel
theorem dX11_undo_15 : decode cX11_undo 15 = .ok (.getfield 7, 3) := by decide +kernel
theorem dX11_undo_18 : decode cX11_undo 18 = .ok (.iconst 4, 1) := by decide +kernel
theorem dX11_undo_19 : decode cX11_undo 19 = .ok (.dup2, 1) := by decide +kernel
theorem dX11_undo_20 : decode cX11_undo 20 = .ok (.iaload, 1) := by decide +kernel
theorem dX11_undo_21 : decode cX11_undo 21 = .ok (.iconst 1, 1) := by decide +kernel
theorem dX11_undo_22 : decode cX11_undo 22 = .ok (.isub, 1) := by decide +kernel
theorem dX11_undo_23 : decode cX11_undo 23 = .ok (.iastore, 1) := by decide +kernel
theorem dX11_undo_24 : decode cX11_undo 24 = .ok (.bipush 74, 2) := by decide +kernel
theorem dX11_undo_26 : decode cX11_undo 26 = .ok (.bipush 11, 2) := by decide +kernel
theorem dX11_undo_28 : decode cX11_undo 28 = .ok (.aload_n 0, 1) := by decide +kernel
theorem dX11_undo_29 : decode cX11_undo 29 = .ok (.getfield 7, 3) := by decide +kernel
theorem dX11_undo_32 : decode cX11_undo 32 = .ok (.iconst 4, 1) := by decide +kernel
theorem dX11_undo_33 : decode cX11_undo 33 = .ok (.iaload, 1) := by decide +kernel
theorem dX11_undo_34 : decode cX11_undo 34 = .ok (.imul, 1) := by decide +kernel
theorem dX11_undo_35 : decode cX11_undo 35 = .ok (.iadd, 1) := by decide +kernel
theorem dX11_undo_36 : decode cX11_undo 36 = .ok (.istore_n 1, 1) := by decide +kernel
theorem dX11_undo_37 : decode cX11_undo 37 = .ok (.aload_n 0, 1) := by decide +kernel
theorem dX11_undo_38 : decode cX11_undo 38 = .ok (.getfield 7, 3) := by decide +kernel
theorem dX11_undo_41 : decode cX11_undo 41 = .ok (.iconst 3, 1) := by decide +kernel
theorem dX11_undo_42 : decode cX11_undo 42 = .ok (.aload_n 0, 1) := by decide +kernel
theorem dX11_undo_43 : decode cX11_undo 43 = .ok (.getfield 7, 3) := by decide +kernel
theorem dX11_undo_46 : decode cX11_undo 46 = .ok (.iload_n 1, 1) := by decide +kernel
theorem dX11_undo_47 : decode cX11_undo 47 = .ok (.iaload, 1) := by decide +kernel
theorem dX11_undo_48 : decode cX11_undo 48 = .ok (.iastore, 1) := by decide +kernel
theorem dX11_undo_49 : decode cX11_undo 49 = .ok (.iconst 0, 1) := by decide +kernel
theorem dX11_undo_50 : decode cX11_undo 50 = .ok (.istore_n 2, 1) := by decide +kernel
theorem dX11_undo_51 : decode cX11_undo 51 = .ok (.iload_n 2, 1) := by decide +kernel
theorem dX11_undo_52 : decode cX11_undo 52 = .ok (.bipush 10, 2) := by decide +kernel
theorem dX11_undo_54 : decode cX11_undo 54 = .ok (.if_icmp .ge 28, 3) := by decide +kernel
theorem dX11_undo_57 : decode cX11_undo 57 = .ok (.aload_n 0, 1) := by decide +kernel
theorem dX11_undo_58 : decode cX11_undo 58 = .ok (.getfield 7, 3) := by decide +kernel
theorem dX11_undo_61 : decode cX11_undo 61 = .ok (.bipush 26, 2) := by decide +kernel
theorem dX11_undo_63 : decode cX11_undo 63 = .ok (.iload_n 2, 1) := by decide +kernel
theorem dX11_undo_64 : decode cX11_undo 64 = .ok (.iadd, 1) := by decide +kernel
theorem dX11_undo_65 : decode cX11_undo 65 = .ok (.aload_n 0, 1) := by decide +kernel
theorem dX11_undo_66 : decode cX11_undo 66 = .ok (.getfield 7, 3) := by decide +kernel
theorem dX11_undo_69 : decode cX11_undo 69 = .ok (.iload_n 1, 1) := by decide +kernel
theorem dX11_undo_70 : decode cX11_undo 70 = .ok (.iconst 1, 1) := by decide +kernel
theorem dX11_undo_71 : decode cX11_undo 71 = .ok (.iadd, 1) := by decide +kernel
theorem dX11_undo_72 : decode cX11_undo 72 = .ok (.iload_n 2, 1) := by decide +kernel
theorem dX11_undo_73 : decode cX11_undo 73 = .ok (.iadd, 1) := by decide +kernel
theorem dX11_undo_74 : decode cX11_undo 74 = .ok (.iaload, 1) := by decide +kernel
theorem dX11_undo_75 : decode cX11_undo 75 = .ok (.iastore, 1) := by decide +kernel
theorem dX11_undo_76 : decode cX11_undo 76 = .ok (.iinc 2 1, 3) := by decide +kernel
theorem dX11_undo_79 : decode cX11_undo 79 = .ok (.goto (-28), 3) := by decide +kernel
theorem dX11_undo_82 : decode cX11_undo 82 = .ok (.iconst 1, 1) := by decide +kernel
theorem dX11_undo_83 : decode cX11_undo 83 = .ok (.ireturn, 1) := by decide +kernel
noncomputable def f_X11_undo  (μ : Mem) : Option (Int32 × Mem) :=
  if (μ.1 113 4) = 0 then
    bd2 (f_X11_no  μ) fun r8 ν9 =>
    some (r8, ν9)
  else
    lt (setI μ 113 4 ((μ.1 113 4) - 1)) fun ν1 =>
    chk (74 + (11 * (ν1.1 113 4))) 184 (
      lt (setI ν1 113 3 (ν1.1 113 (ix (74 + (11 * (ν1.1 113 4)))))) fun ν2 =>
      bd (lp (ε := Mem) (cu2 fun (x2_3 : Int32) (ν4 : Mem) =>
        if x2_3 < 10 then
          chk (((74 + (11 * (ν1.1 113 4))) + 1) + x2_3) 184 (
            chk (26 + x2_3) 184 (lt (setI ν4 113 (ix (26 + x2_3)) (ν4.1 113 (ix (((74 + (11 * (ν1.1 113 4))) + 1) + x2_3)))) fun ν7 =>
              some (.inl ((x2_3 + 1), ν7))
              )
            )
        else
          some (.inr ν4)
        ) (0, ν2)) (fun (ν5 : Mem) =>
        some (1, ν5)
        )
      )
set_option maxHeartbeats 4000000 in
set_option maxRecDepth 100000 in
theorem c_X11_undo {g : GT}  {μ : Mem} {μ0 : Mem} {r0 : Int32} (hf : f_X11_undo  μ = some (r0, μ0)) : CI g yX11_undo cX11_undo 3 (some .int) 3 [rf g 112] μ r0 μ0 := by
  refine mk_i (by decide) (Nat.le_of_ble_eq_true rfl) ?_
  intro G hX hR
  have hX : CX g G cX11_undo RX11 3 3 := hX
  suffices S : ∀ K : (Int32 × Mem) → Prop, (∀ a, K a → a = (r0, μ0)) → Sim G (f_X11_undo  μ) K 0 [(0, rf g 112)] [] μ from S (fun a => a = (r0, μ0)) (fun a h => h) _ hf rfl
  intro K hK
  unfold f_X11_undo
  refine s_aload_n hX dX11_undo_0 rfl 0 rfl ?_
  refine s_getR hX (d := 1) 113 flX11_7 rfl rfl dX11_undo_1 ?_
  refine s_iconst (v := 4) hX dX11_undo_4 (by decide) ?_
  refine s_ialdK hX rfl rfl (by decide) rfl dX11_undo_5 ?_
  refine s_if_ne hX 14 dX11_undo_6 (by decide) ?_ ?_
  · refine s_aload_n hX dX11_undo_14 rfl 0 rfl ?_
    refine s_getR hX (d := 1) 113 flX11_7 rfl rfl dX11_undo_15 ?_
    refine s_iconst (v := 4) hX dX11_undo_18 (by decide) ?_
    refine s_dup2 hX dX11_undo_19 rfl rfl ?_
    refine s_ialdK hX rfl rfl (by decide) rfl dX11_undo_20 ?_
    refine s_iconst (v := 1) hX dX11_undo_21 (by decide) ?_
    refine s_isub hX dX11_undo_22 ?_
    refine s_iastK hX rfl rfl (by decide) rfl dX11_undo_23 (fun ν1 => ?_)
    refine s_bipush (v := 74) hX dX11_undo_24 (by decide) ?_
    refine s_bipush (v := 11) hX dX11_undo_26 (by decide) ?_
    refine s_aload_n hX dX11_undo_28 rfl 0 rfl ?_
    refine s_getR hX (d := 1) 113 flX11_7 rfl rfl dX11_undo_29 ?_
    refine s_iconst (v := 4) hX dX11_undo_32 (by decide) ?_
    refine s_ialdK hX rfl rfl (by decide) rfl dX11_undo_33 ?_
    refine s_imul hX dX11_undo_34 ?_
    refine s_iadd hX dX11_undo_35 ?_
    refine s_istore_n (lv' := [(1, .int (74 + (11 * (ν1.1 113 4)))), (0, rf g 112)]) hX dX11_undo_36 rfl (by decide) rfl ?_
    refine s_aload_n hX dX11_undo_37 rfl 1 rfl ?_
    refine s_getR hX (d := 1) 113 flX11_7 rfl rfl dX11_undo_38 ?_
    refine s_iconst (v := 3) hX dX11_undo_41 (by decide) ?_
    refine s_aload_n hX dX11_undo_42 rfl 1 rfl ?_
    refine s_getR hX (d := 1) 113 flX11_7 rfl rfl dX11_undo_43 ?_
    refine s_iload_n hX dX11_undo_46 rfl 0 rfl ?_
    refine s_iald hX rfl rfl dX11_undo_47 ?_
    refine s_iastK hX rfl rfl (by decide) rfl dX11_undo_48 (fun ν2 => ?_)
    refine s_iconst (v := 0) hX dX11_undo_49 (by decide) ?_
    refine s_istore_n (lv' := [(2, .int 0), (1, .int (74 + (11 * (ν1.1 113 4)))), (0, rf g 112)]) hX dX11_undo_50 rfl (by decide) rfl ?_
    refine s_loop hX 51 82 (fun s : Int32 × Mem => [(0, rf g 112), (1, .int (74 + (11 * (ν1.1 113 4)))), (2, .int s.1)]) (fun s : Int32 × Mem => s.2) (fun s : Mem => []) (fun s : Mem => s) [2, 1, 0] rfl rfl rfl ?_ ?_
    · intro Kq6 hIq6 hJq6 sq
      obtain ⟨x2_3, ν4⟩ := sq
      refine s_cu2 ?_
      show Sim G _ _ 51 [(0, rf g 112), (1, .int (74 + (11 * (ν1.1 113 4)))), (2, .int x2_3)] [] ν4
      refine s_iload_n hX dX11_undo_51 rfl 2 rfl ?_
      refine s_bipush (v := 10) hX dX11_undo_52 (by decide) ?_
      refine s_icmp_ge hX 82 dX11_undo_54 (by decide) ?_ ?_
      · exact s_end hX (hJq6 ν4) [] rfl
      · refine s_aload_n hX dX11_undo_57 rfl 0 rfl ?_
        refine s_getR hX (d := 1) 113 flX11_7 rfl rfl dX11_undo_58 ?_
        refine s_bipush (v := 26) hX dX11_undo_61 (by decide) ?_
        refine s_iload_n hX dX11_undo_63 rfl 2 rfl ?_
        refine s_iadd hX dX11_undo_64 ?_
        refine s_aload_n hX dX11_undo_65 rfl 0 rfl ?_
        refine s_getR hX (d := 1) 113 flX11_7 rfl rfl dX11_undo_66 ?_
        refine s_iload_n hX dX11_undo_69 rfl 1 rfl ?_
        refine s_iconst (v := 1) hX dX11_undo_70 (by decide) ?_
        refine s_iadd hX dX11_undo_71 ?_
        refine s_iload_n hX dX11_undo_72 rfl 2 rfl ?_
        refine s_iadd hX dX11_undo_73 ?_
        refine s_iald hX rfl rfl dX11_undo_74 ?_
        refine s_iast hX rfl rfl dX11_undo_75 (fun ν7 => ?_)
        refine s_iinc (v := (x2_3 + 1)) (lv' := [(2, .int (x2_3 + 1)), (0, rf g 112), (1, .int (74 + (11 * (ν1.1 113 4))))]) hX dX11_undo_76 2 rfl rfl (by decide) rfl ?_
        refine s_goto hX 51 dX11_undo_79 (by decide) ?_
        exact s_end hX (hIq6 ((x2_3 + 1), ν7)) [1, 2, 0] rfl
    · intro sq
      obtain ⟨ν5, rfl⟩ : ∃ z, z = sq := ⟨_, rfl⟩
      show Sim G _ _ 82 [] [] ν5
      refine s_iconst (v := 1) hX dX11_undo_82 (by decide) ?_
      exact s_ireti hK hR dX11_undo_83
  · refine s_aload_n hX dX11_undo_9 rfl 0 rfl ?_
    refine s_callViw hX [] (k := 112) (ci := 10) rfl hc10 vkX11_no (fun r ν hF => c_X11_no  hF) mkX11_no cvX11_76 rfl rfl ⟨by omega, by decide, Nat.le_of_ble_eq_true rfl⟩ dX11_undo_10 (fun r8 ν9 => ?_)
    exact s_ireti hK hR dX11_undo_13
theorem dX11_village_0 : decode cX11_village 0 = .ok (.aload_n 0, 1) := by decide +kernel
theorem dX11_village_1 : decode cX11_village 1 = .ok (.iload_n 1, 1) := by decide +kernel
theorem dX11_village_2 : decode cX11_village 2 = .ok (.invokevirtual 55, 3) := by decide +kernel
theorem dX11_village_5 : decode cX11_village 5 = .ok (.ifCond .eq 13, 3) := by decide +kernel
theorem dX11_village_8 : decode cX11_village 8 = .ok (.iload_n 2, 1) := by decide +kernel
theorem dX11_village_9 : decode cX11_village 9 = .ok (.i2l, 1) := by decide +kernel
theorem dX11_village_10 : decode cX11_village 10 = .ok (.lconst 0, 1) := by decide +kernel
theorem dX11_village_11 : decode cX11_village 11 = .ok (.lconst 1, 1) := by decide +kernel
theorem dX11_village_12 : decode cX11_village 12 = .ok (.invokestatic 51, 3) := by decide +kernel
theorem dX11_village_15 : decode cX11_village 15 = .ok (.ifCond .ne 8, 3) := by decide +kernel
theorem dX11_village_18 : decode cX11_village 18 = .ok (.aload_n 0, 1) := by decide +kernel
theorem dX11_village_19 : decode cX11_village 19 = .ok (.invokevirtual 61, 3) := by decide +kernel
theorem dX11_village_22 : decode cX11_village 22 = .ok (.ireturn, 1) := by decide +kernel
theorem dX11_village_23 : decode cX11_village 23 = .ok (.aload_n 0, 1) := by decide +kernel
theorem dX11_village_24 : decode cX11_village 24 = .ok (.invokevirtual 187, 3) := by decide +kernel
theorem dX11_village_27 : decode cX11_village 27 = .ok (.iload_n 2, 1) := by decide +kernel
theorem dX11_village_28 : decode cX11_village 28 = .ok (.ifCond .ne 17, 3) := by decide +kernel
theorem dX11_village_31 : decode cX11_village 31 = .ok (.aload_n 0, 1) := by decide +kernel
theorem dX11_village_32 : decode cX11_village 32 = .ok (.iload_n 1, 1) := by decide +kernel
theorem dX11_village_33 : decode cX11_village 33 = .ok (.aload_n 0, 1) := by decide +kernel
theorem dX11_village_34 : decode cX11_village 34 = .ok (.getfield 7, 3) := by decide +kernel
theorem dX11_village_37 : decode cX11_village 37 = .ok (.iconst 3, 1) := by decide +kernel
theorem dX11_village_38 : decode cX11_village 38 = .ok (.iaload, 1) := by decide +kernel
theorem dX11_village_39 : decode cX11_village 39 = .ok (.invokevirtual 171, 3) := by decide +kernel
theorem dX11_village_42 : decode cX11_village 42 = .ok (.goto 8, 3) := by decide +kernel
theorem dX11_village_45 : decode cX11_village 45 = .ok (.aload_n 0, 1) := by decide +kernel
theorem dX11_village_46 : decode cX11_village 46 = .ok (.iload_n 1, 1) := by decide +kernel
theorem dX11_village_47 : decode cX11_village 47 = .ok (.invokevirtual 196, 3) := by decide +kernel
theorem dX11_village_50 : decode cX11_village 50 = .ok (.ireturn, 1) := by decide +kernel
noncomputable def f_X11_village (x1 : Int32) (x2 : Int32) (μ : Mem) : Option (Int32 × Mem) :=
  bd (f_X11_isVillage x1 μ) fun r1 =>
  jn (
    bd2 (f_X11_bad  μ) fun r3 ν4 =>
    some (r3, ν4)
    ) fun j2 =>
  if r1 = 0 then
    j2
  else
    bd (f_X11_in ((x2 : Int32).toInt64) 0 1) fun r5 =>
    if r5 = 0 then
      j2
    else
      bd (f_X11_asNow  μ) fun ν6 =>
      jn (fun (y7 : Int32) =>
        some (y7, ν6)
        ) fun j8 =>
      if x2 = 0 then
        bd (f_X11_sightOf x1 (ν6.1 113 3) ν6) fun r10 =>
        j8 r10
      else
        bd (f_X11_headsOf x1 ν6) fun r9 =>
        j8 r9
set_option maxHeartbeats 4000000 in
set_option maxRecDepth 100000 in
theorem c_X11_village {g : GT} {x1 : Int32} {x2 : Int32} {μ : Mem} {μ0 : Mem} {r0 : Int32} (hf : f_X11_village x1 x2 μ = some (r0, μ0)) : CI g yX11_village cX11_village 3 (some .int) 3 [rf g 112, .int x1, .int x2] μ r0 μ0 := by
  refine mk_i (by decide) (Nat.le_of_ble_eq_true rfl) ?_
  intro G hX hR
  have hX : CX g G cX11_village RX11 3 3 := hX
  suffices S : ∀ K : (Int32 × Mem) → Prop, (∀ a, K a → a = (r0, μ0)) → Sim G (f_X11_village x1 x2 μ) K 0 [(0, rf g 112), (1, .int x1), (2, .int x2)] [] μ from S (fun a => a = (r0, μ0)) (fun a h => h) _ hf rfl
  intro K hK
  unfold f_X11_village
  refine s_aload_n hX dX11_village_0 rfl 0 rfl ?_
  refine s_iload_n hX dX11_village_1 rfl 1 rfl ?_
  refine s_callVir hX [.int x1] (k := 112) (ci := 10) rfl hc10 vkX11_isVillage (fun r hF => c_X11_isVillage  hF) mkX11_isVillage cvX11_55 rfl rfl ⟨by omega, by decide, Nat.le_of_ble_eq_true rfl⟩ dX11_village_2 (fun r1 => ?_)
  refine s_jn (C := fun j => Sim G (j) K 18 [(0, rf g 112)] [] μ) ?_ (fun j2 hj2 => ?_)
  · skip
    show Sim G _ _ 18 [(0, rf g 112)] [] μ
    refine s_aload_n hX dX11_village_18 rfl 0 rfl ?_
    refine s_callViw hX [] (k := 112) (ci := 10) rfl hc10 vkX11_bad (fun r ν hF => c_X11_bad  hF) mkX11_bad cvX11_61 rfl rfl ⟨by omega, by decide, Nat.le_of_ble_eq_true rfl⟩ dX11_village_19 (fun r3 ν4 => ?_)
    exact s_ireti hK hR dX11_village_22
  refine s_if_eq hX 18 dX11_village_5 (by decide) ?_ ?_
  · exact s_to hX [0] rfl (hj2)
  · refine s_iload_n hX dX11_village_8 rfl 2 rfl ?_
    refine s_i2l hX dX11_village_9 ?_
    refine s_lconst (v := 0) hX dX11_village_10 (by decide) ?_
    refine s_lconst (v := 1) hX dX11_village_11 (by decide) ?_
    refine s_callSir hX [.long (x2 : Int32).toInt64, .long 0, .long 1] skX11_in (fun r hF => c_X11_in  hF) mkX11_in cvX11_51 rfl rfl ⟨by omega, by decide, Nat.le_of_ble_eq_true rfl⟩ dX11_village_12 (fun r5 => ?_)
    refine s_if_ne hX 23 dX11_village_15 (by decide) ?_ ?_
    · refine s_aload_n hX dX11_village_23 rfl 0 rfl ?_
      refine s_callVvw hX [] (k := 112) (ci := 10) rfl hc10 vkX11_asNow (fun ν hF => c_X11_asNow  hF) mkX11_asNow cvX11_187 rfl rfl ⟨by omega, by decide, Nat.le_of_ble_eq_true rfl⟩ dX11_village_24 (fun ν6 => ?_)
      refine s_iload_n hX dX11_village_27 rfl 2 rfl ?_
      refine s_jn (C := fun j => ∀ (y7 : Int32), Sim G (j y7) K 50 [] [.int y7] ν6) ?_ (fun j8 hj8 => ?_)
      · intro y7
        show Sim G _ _ 50 [] [.int y7] ν6
        exact s_ireti hK hR dX11_village_50
      refine s_if_ne hX 45 dX11_village_28 (by decide) ?_ ?_
      · refine s_aload_n hX dX11_village_45 rfl 0 rfl ?_
        refine s_iload_n hX dX11_village_46 rfl 1 rfl ?_
        refine s_callVir hX [.int x1] (k := 112) (ci := 10) rfl hc10 vkX11_headsOf (fun r hF => c_X11_headsOf  hF) mkX11_headsOf cvX11_196 rfl rfl ⟨by omega, by decide, Nat.le_of_ble_eq_true rfl⟩ dX11_village_47 (fun r9 => ?_)
        exact s_to hX [] rfl (hj8 r9)
      · refine s_aload_n hX dX11_village_31 rfl 0 rfl ?_
        refine s_iload_n hX dX11_village_32 rfl 1 rfl ?_
        refine s_aload_n hX dX11_village_33 rfl 0 rfl ?_
        refine s_getR hX (d := 1) 113 flX11_7 rfl rfl dX11_village_34 ?_
        refine s_iconst (v := 3) hX dX11_village_37 (by decide) ?_
        refine s_ialdK hX rfl rfl (by decide) rfl dX11_village_38 ?_
        refine s_callVir hX [.int x1, .int (ν6.1 113 3)] (k := 112) (ci := 10) rfl hc10 vkX11_sightOf (fun r hF => c_X11_sightOf  hF) mkX11_sightOf cvX11_171 rfl rfl ⟨by omega, by decide, Nat.le_of_ble_eq_true rfl⟩ dX11_village_39 (fun r10 => ?_)
        refine s_goto hX 50 dX11_village_42 (by decide) ?_
        exact s_to hX [] rfl (hj8 r10)
    · exact s_to hX [0] rfl (hj2)
theorem dX2_rests_0 : decode cX2_rests 0 = .ok (.iconst 0, 1) := by decide +kernel
theorem dX2_rests_1 : decode cX2_rests 1 = .ok (.istore_n 3, 1) := by decide +kernel
theorem dX2_rests_2 : decode cX2_rests 2 = .ok (.iload_n 3, 1) := by decide +kernel
theorem dX2_rests_3 : decode cX2_rests 3 = .ok (.bipush 10, 2) := by decide +kernel
theorem dX2_rests_5 : decode cX2_rests 5 = .ok (.if_icmp .ge 41, 3) := by decide +kernel
theorem dX2_rests_8 : decode cX2_rests 8 = .ok (.aload_n 0, 1) := by decide +kernel
theorem dX2_rests_9 : decode cX2_rests 9 = .ok (.iload_n 3, 1) := by decide +kernel
theorem dX2_rests_10 : decode cX2_rests 10 = .ok (.iload_n 2, 1) := by decide +kernel
theorem dX2_rests_11 : decode cX2_rests 11 = .ok (.invokevirtual 38, 3) := by decide +kernel
theorem dX2_rests_14 : decode cX2_rests 14 = .ok (.aload_n 0, 1) := by decide +kernel
theorem dX2_rests_15 : decode cX2_rests 15 = .ok (.iload_n 1, 1) := by decide +kernel
theorem dX2_rests_16 : decode cX2_rests 16 = .ok (.iload_n 2, 1) := by decide +kernel
theorem dX2_rests_17 : decode cX2_rests 17 = .ok (.invokevirtual 38, 3) := by decide +kernel
theorem dX2_rests_20 : decode cX2_rests 20 = .ok (.if_icmp .lt 18, 3) := by decide +kernel
theorem dX2_rests_23 : decode cX2_rests 23 = .ok (.aload_n 0, 1) := by decide +kernel
theorem dX2_rests_24 : decode cX2_rests 24 = .ok (.iload_n 1, 1) := by decide +kernel
theorem dX2_rests_25 : decode cX2_rests 25 = .ok (.iload_n 3, 1) := by decide +kernel
theorem dX2_rests_26 : decode cX2_rests 26 = .ok (.invokevirtual 42, 3) := by decide +kernel
theorem dX2_rests_29 : decode cX2_rests 29 = .ok (.aload_n 0, 1) := by decide +kernel
theorem dX2_rests_30 : decode cX2_rests 30 = .ok (.iload_n 1, 1) := by decide +kernel
theorem dX2_rests_31 : decode cX2_rests 31 = .ok (.iload_n 2, 1) := by decide +kernel
theorem dX2_rests_32 : decode cX2_rests 32 = .ok (.invokevirtual 42, 3) := by decide +kernel
theorem dX2_rests_35 : decode cX2_rests 35 = .ok (.if_icmp .ge 5, 3) := by decide +kernel
theorem dX2_rests_38 : decode cX2_rests 38 = .ok (.iconst 0, 1) := by decide +kernel
theorem dX2_rests_39 : decode cX2_rests 39 = .ok (.ireturn, 1) := by decide +kernel
theorem dX2_rests_40 : decode cX2_rests 40 = .ok (.iinc 3 1, 3) := by decide +kernel
theorem dX2_rests_43 : decode cX2_rests 43 = .ok (.goto (-41), 3) := by decide +kernel
theorem dX2_rests_46 : decode cX2_rests 46 = .ok (.iconst 1, 1) := by decide +kernel
theorem dX2_rests_47 : decode cX2_rests 47 = .ok (.ireturn, 1) := by decide +kernel
noncomputable def f_X2_rests (x1 : Int32) (x2 : Int32) (μ : Mem) : Option Int32 :=
  bdr (lp (ε := (Unit) ⊕ Int32) (fun (x3_1 : Int32) =>
    if x3_1 < 10 then
      bd (f_X2_lossOfOne x3_1 x2 μ) fun r3 =>
      bd (f_X2_lossOfOne x1 x2 μ) fun r4 =>
      jn (
        some (.inr (.inr 0))
        ) fun j5 =>
      if r3 < r4 then
        j5
      else
        bd (f_X2_lossOfOther x1 x3_1 μ) fun r6 =>
        bd (f_X2_lossOfOther x1 x2 μ) fun r7 =>
        if r6 < r7 then
          j5
        else
          some (.inl (x3_1 + 1))
    else
      some (.inr (.inl ()))
    ) 0) (fun (_ : Unit) =>
    some 1
    ) (fun r => some (r))
set_option maxHeartbeats 4000000 in
set_option maxRecDepth 100000 in
theorem c_X2_rests {g : GT} {x1 : Int32} {x2 : Int32} {μ : Mem} {r0 : Int32} (hf : f_X2_rests x1 x2 μ = some r0) : CI g yX2_rests cX2_rests 4 (some .boolean) 3 [rf g 80, .int x1, .int x2] μ r0 μ := by
  refine mk_z (by decide) (Nat.le_of_ble_eq_true rfl) ?_
  intro G hX hR
  have hX : CX g G cX2_rests RX2 4 3 := hX
  suffices S : ∀ K : Int32 → Prop, (∀ a, K a → a = r0) → Sim G (f_X2_rests x1 x2 μ) K 0 [(0, rf g 80), (1, .int x1), (2, .int x2)] [] μ from S (fun a => a = r0) (fun a h => h) _ hf rfl
  intro K hK
  unfold f_X2_rests
  refine s_iconst (v := 0) hX dX2_rests_0 (by decide) ?_
  refine s_istore_n (lv' := [(3, .int 0), (0, rf g 80), (1, .int x1), (2, .int x2)]) hX dX2_rests_1 rfl (by decide) rfl ?_
  refine s_loopR hX 2 46 (fun s : Int32 => [(0, rf g 80), (1, .int x1), (2, .int x2), (3, .int s)]) (fun s : Int32 => μ) (fun _ : Unit => []) (fun _ : Unit => μ) [1, 2, 3, 0] rfl rfl rfl (fun r => r = r0) (fun r a h k => by cases h; exact hK _ k) ?_ ?_
  · intro Kq2 hIq2 hJq2 hKq2 sq
    obtain ⟨x3_1, rfl⟩ : ∃ z, z = sq := ⟨_, rfl⟩
    show Sim G _ _ 2 [(0, rf g 80), (1, .int x1), (2, .int x2), (3, .int x3_1)] [] μ
    refine s_iload_n hX dX2_rests_2 rfl 3 rfl ?_
    refine s_bipush (v := 10) hX dX2_rests_3 (by decide) ?_
    refine s_icmp_ge hX 46 dX2_rests_5 (by decide) ?_ ?_
    · exact s_end hX (hJq2 ()) [] rfl
    · refine s_aload_n hX dX2_rests_8 rfl 0 rfl ?_
      refine s_iload_n hX dX2_rests_9 rfl 3 rfl ?_
      refine s_iload_n hX dX2_rests_10 rfl 2 rfl ?_
      refine s_callVir hX [.int x3_1, .int x2] (k := 80) (ci := 2) rfl hc2 vkX2_lossOfOne (fun r hF => c_X2_lossOfOne  hF) mkX2_lossOfOne cvX2_38 rfl rfl ⟨by omega, by decide, Nat.le_of_ble_eq_true rfl⟩ dX2_rests_11 (fun r3 => ?_)
      refine s_aload_n hX dX2_rests_14 rfl 0 rfl ?_
      refine s_iload_n hX dX2_rests_15 rfl 1 rfl ?_
      refine s_iload_n hX dX2_rests_16 rfl 2 rfl ?_
      refine s_callVir hX [.int x1, .int x2] (k := 80) (ci := 2) rfl hc2 vkX2_lossOfOne (fun r hF => c_X2_lossOfOne  hF) mkX2_lossOfOne cvX2_38 rfl rfl ⟨by omega, by decide, Nat.le_of_ble_eq_true rfl⟩ dX2_rests_17 (fun r4 => ?_)
      refine s_jn (C := fun j => Sim G (j) Kq2 38 [] [] μ) ?_ (fun j5 hj5 => ?_)
      · skip
        show Sim G _ _ 38 [] [] μ
        refine s_iconst (v := 0) hX dX2_rests_38 (by decide) ?_
        exact s_zretr (by decide) hKq2 hR dX2_rests_39
      refine s_icmp_lt hX 38 dX2_rests_20 (by decide) ?_ ?_
      · exact s_to hX [] rfl (hj5)
      · refine s_aload_n hX dX2_rests_23 rfl 0 rfl ?_
        refine s_iload_n hX dX2_rests_24 rfl 1 rfl ?_
        refine s_iload_n hX dX2_rests_25 rfl 3 rfl ?_
        refine s_callVir hX [.int x1, .int x3_1] (k := 80) (ci := 2) rfl hc2 vkX2_lossOfOther (fun r hF => c_X2_lossOfOther  hF) mkX2_lossOfOther cvX2_42 rfl rfl ⟨by omega, by decide, Nat.le_of_ble_eq_true rfl⟩ dX2_rests_26 (fun r6 => ?_)
        refine s_aload_n hX dX2_rests_29 rfl 0 rfl ?_
        refine s_iload_n hX dX2_rests_30 rfl 1 rfl ?_
        refine s_iload_n hX dX2_rests_31 rfl 2 rfl ?_
        refine s_callVir hX [.int x1, .int x2] (k := 80) (ci := 2) rfl hc2 vkX2_lossOfOther (fun r hF => c_X2_lossOfOther  hF) mkX2_lossOfOther cvX2_42 rfl rfl ⟨by omega, by decide, Nat.le_of_ble_eq_true rfl⟩ dX2_rests_32 (fun r7 => ?_)
        refine s_icmp_ge hX 40 dX2_rests_35 (by decide) ?_ ?_
        · refine s_iinc (v := (x3_1 + 1)) (lv' := [(3, .int (x3_1 + 1)), (0, rf g 80), (1, .int x1), (2, .int x2)]) hX dX2_rests_40 3 rfl rfl (by decide) rfl ?_
          refine s_goto hX 2 dX2_rests_43 (by decide) ?_
          exact s_end hX (hIq2 (x3_1 + 1)) [1, 2, 3, 0] rfl
        · exact s_to hX [] rfl (hj5)
  · intro sq
    show Sim G _ _ 46 [] [] μ
    refine s_iconst (v := 1) hX dX2_rests_46 (by decide) ?_
    exact s_zretr (by decide) hK hR dX2_rests_47
theorem dX3_look_0 : decode cX3_look 0 = .ok (.iconst 0, 1) := by decide +kernel
theorem dX3_look_1 : decode cX3_look 1 = .ok (.istore_n 1, 1) := by decide +kernel
theorem dX3_look_2 : decode cX3_look 2 = .ok (.iload_n 1, 1) := by decide +kernel
theorem dX3_look_3 : decode cX3_look 3 = .ok (.iconst 5, 1) := by decide +kernel
theorem dX3_look_4 : decode cX3_look 4 = .ok (.if_icmp .ge 16, 3) := by decide +kernel
theorem dX3_look_7 : decode cX3_look 7 = .ok (.aload_n 0, 1) := by decide +kernel
theorem dX3_look_8 : decode cX3_look 8 = .ok (.getfield 34, 3) := by decide +kernel
theorem dX3_look_11 : decode cX3_look 11 = .ok (.iload_n 1, 1) := by decide +kernel
theorem dX3_look_12 : decode cX3_look 12 = .ok (.iconst 0, 1) := by decide +kernel
theorem dX3_look_13 : decode cX3_look 13 = .ok (.iastore, 1) := by decide +kernel
theorem dX3_look_14 : decode cX3_look 14 = .ok (.iinc 1 1, 3) := by decide +kernel
theorem dX3_look_17 : decode cX3_look 17 = .ok (.goto (-15), 3) := by decide +kernel
theorem dX3_look_20 : decode cX3_look 20 = .ok (.iconst 0, 1) := by decide +kernel
theorem dX3_look_21 : decode cX3_look 21 = .ok (.istore_n 1, 1) := by decide +kernel
theorem dX3_look_22 : decode cX3_look 22 = .ok (.iload_n 1, 1) := by decide +kernel
theorem dX3_look_23 : decode cX3_look 23 = .ok (.aload_n 0, 1) := by decide +kernel
theorem dX3_look_24 : decode cX3_look 24 = .ok (.getfield 15, 3) := by decide +kernel
theorem dX3_look_27 : decode cX3_look 27 = .ok (.if_icmp .ge 28, 3) := by decide +kernel
theorem dX3_look_30 : decode cX3_look 30 = .ok (.aload_n 0, 1) := by decide +kernel
theorem dX3_look_31 : decode cX3_look 31 = .ok (.getfield 34, 3) := by decide +kernel
theorem dX3_look_34 : decode cX3_look 34 = .ok (.aload_n 0, 1) := by decide +kernel
theorem dX3_look_35 : decode cX3_look 35 = .ok (.getfield 28, 3) := by decide +kernel
theorem dX3_look_38 : decode cX3_look 38 = .ok (.iload_n 1, 1) := by decide +kernel
theorem dX3_look_39 : decode cX3_look 39 = .ok (.iaload, 1) := by decide +kernel
theorem dX3_look_40 : decode cX3_look 40 = .ok (.dup2, 1) := by decide +kernel
theorem dX3_look_41 : decode cX3_look 41 = .ok (.iaload, 1) := by decide +kernel
theorem dX3_look_42 : decode cX3_look 42 = .ok (.aload_n 0, 1) := by decide +kernel
theorem dX3_look_43 : decode cX3_look 43 = .ok (.iload_n 1, 1) := by decide +kernel
theorem dX3_look_44 : decode cX3_look 44 = .ok (.invokevirtual 57, 3) := by decide +kernel
theorem dX3_look_47 : decode cX3_look 47 = .ok (.iadd, 1) := by decide +kernel
theorem dX3_look_48 : decode cX3_look 48 = .ok (.iastore, 1) := by decide +kernel
theorem dX3_look_49 : decode cX3_look 49 = .ok (.iinc 1 1, 3) := by decide +kernel
theorem dX3_look_52 : decode cX3_look 52 = .ok (.goto (-30), 3) := by decide +kernel
theorem dX3_look_55 : decode cX3_look 55 = .ok (.return_, 1) := by decide +kernel
noncomputable def f_X3_look (k0 : Nat) (μ : Mem) : Option Mem :=
  bd (lp (ε := Mem) (cu2 fun (x1_1 : Int32) (ν2 : Mem) =>
    if x1_1 < 5 then
      chk x1_1 5 (lt (setI ν2 (k0 + 4) (ix x1_1) 0) fun ν5 =>
        some (.inl ((x1_1 + 1), ν5))
        )
    else
      some (.inr ν2)
    ) (0, μ)) (fun (ν3 : Mem) =>
    bd (lp (ε := Mem) (cu2 fun (x1_6 : Int32) (ν7 : Mem) =>
      if x1_6 < (ν7.1 k0 1) then
        chk x1_6 10 (
          chk (ν7.1 (k0 + 2) (ix x1_6)) 5 (
            bd (f_X3_seenOf k0 x1_6 ν7) fun r10 =>
            chk (ν7.1 (k0 + 2) (ix x1_6)) 5 (lt (setI ν7 (k0 + 4) (ix (ν7.1 (k0 + 2) (ix x1_6))) ((ν7.1 (k0 + 4) (ix (ν7.1 (k0 + 2) (ix x1_6)))) + r10)) fun ν11 =>
              some (.inl ((x1_6 + 1), ν11))
              )
            )
          )
      else
        some (.inr ν7)
      ) (0, ν3)) (fun (ν8 : Mem) =>
      some ν8
      )
    )
set_option maxHeartbeats 4000000 in
set_option maxRecDepth 100000 in
theorem c_X3_look {g : GT} {k0 : Nat} {μ : Mem} {μ0 : Mem} (hk0 : tyOf k0 = 3) (hf : f_X3_look k0 μ = some μ0) : CV g yX3_look cX3_look 2 (none) 3 [rf g k0] μ μ0 := by
  refine mk_v (by decide) (Nat.le_of_ble_eq_true rfl) ?_
  intro G hX hR
  have hX : CX g G cX3_look RX3 2 3 := hX
  suffices S : ∀ K : Mem → Prop, (∀ a, K a → a = μ0) → Sim G (f_X3_look k0 μ) K 0 [(0, rf g k0)] [] μ from S (fun a => a = μ0) (fun a h => h) _ hf rfl
  intro K hK
  unfold f_X3_look
  refine s_iconst (v := 0) hX dX3_look_0 (by decide) ?_
  refine s_istore_n (lv' := [(1, .int 0), (0, rf g k0)]) hX dX3_look_1 rfl (by decide) rfl ?_
  refine s_loop hX 2 20 (fun s : Int32 × Mem => [(0, rf g k0), (1, .int s.1)]) (fun s : Int32 × Mem => s.2) (fun s : Mem => [(0, rf g k0)]) (fun s : Mem => s) [1, 0] rfl rfl rfl ?_ ?_
  · intro Kq4 hIq4 hJq4 sq
    obtain ⟨x1_1, ν2⟩ := sq
    refine s_cu2 ?_
    show Sim G _ _ 2 [(0, rf g k0), (1, .int x1_1)] [] ν2
    refine s_iload_n hX dX3_look_2 rfl 1 rfl ?_
    refine s_iconst (v := 5) hX dX3_look_3 (by decide) ?_
    refine s_icmp_ge hX 20 dX3_look_4 (by decide) ?_ ?_
    · exact s_end hX (hJq4 ν2) [0] rfl
    · refine s_aload_n hX dX3_look_7 rfl 0 rfl ?_
      refine s_getR hX (d := 4) (k0 + 4) flX3_34 hk0 rfl dX3_look_8 ?_
      refine s_iload_n hX dX3_look_11 rfl 1 rfl ?_
      refine s_iconst (v := 0) hX dX3_look_12 (by decide) ?_
      refine s_iast hX (ty_3_4 hk0).1 (ty_3_4 hk0).2 dX3_look_13 (fun ν5 => ?_)
      refine s_iinc (v := (x1_1 + 1)) (lv' := [(1, .int (x1_1 + 1)), (0, rf g k0)]) hX dX3_look_14 1 rfl rfl (by decide) rfl ?_
      refine s_goto hX 2 dX3_look_17 (by decide) ?_
      exact s_end hX (hIq4 ((x1_1 + 1), ν5)) [1, 0] rfl
  · intro sq
    obtain ⟨ν3, rfl⟩ : ∃ z, z = sq := ⟨_, rfl⟩
    show Sim G _ _ 20 [(0, rf g k0)] [] ν3
    refine s_iconst (v := 0) hX dX3_look_20 (by decide) ?_
    refine s_istore_n (lv' := [(1, .int 0), (0, rf g k0)]) hX dX3_look_21 rfl (by decide) rfl ?_
    refine s_loop hX 22 55 (fun s : Int32 × Mem => [(0, rf g k0), (1, .int s.1)]) (fun s : Int32 × Mem => s.2) (fun s : Mem => []) (fun s : Mem => s) [1, 0] rfl rfl rfl ?_ ?_
    · intro Kq9 hIq9 hJq9 sq
      obtain ⟨x1_6, ν7⟩ := sq
      refine s_cu2 ?_
      show Sim G _ _ 22 [(0, rf g k0), (1, .int x1_6)] [] ν7
      refine s_iload_n hX dX3_look_22 rfl 1 rfl ?_
      refine s_aload_n hX dX3_look_23 rfl 0 rfl ?_
      refine s_getI hX flX3_15 hk0 dX3_look_24 ?_
      refine s_icmp_ge hX 55 dX3_look_27 (by decide) ?_ ?_
      · exact s_end hX (hJq9 ν7) [] rfl
      · refine s_aload_n hX dX3_look_30 rfl 0 rfl ?_
        refine s_getR hX (d := 4) (k0 + 4) flX3_34 hk0 rfl dX3_look_31 ?_
        refine s_aload_n hX dX3_look_34 rfl 0 rfl ?_
        refine s_getR hX (d := 2) (k0 + 2) flX3_28 hk0 rfl dX3_look_35 ?_
        refine s_iload_n hX dX3_look_38 rfl 1 rfl ?_
        refine s_iald hX (ty_3_2 hk0).1 (ty_3_2 hk0).2 dX3_look_39 ?_
        refine s_dup2 hX dX3_look_40 rfl rfl ?_
        refine s_iald hX (ty_3_4 hk0).1 (ty_3_4 hk0).2 dX3_look_41 ?_
        refine s_aload_n hX dX3_look_42 rfl 0 rfl ?_
        refine s_iload_n hX dX3_look_43 rfl 1 rfl ?_
        refine s_callVir hX [.int x1_6] (k := k0) (ci := 3) hk0 hc3 vkX3_seenOf (fun r hF => c_X3_seenOf hk0 hF) mkX3_seenOf cvX3_57 rfl rfl ⟨by omega, by decide, Nat.le_of_ble_eq_true rfl⟩ dX3_look_44 (fun r10 => ?_)
        refine s_iadd hX dX3_look_47 ?_
        refine s_iast hX (ty_3_4 hk0).1 (ty_3_4 hk0).2 dX3_look_48 (fun ν11 => ?_)
        refine s_iinc (v := (x1_6 + 1)) (lv' := [(1, .int (x1_6 + 1)), (0, rf g k0)]) hX dX3_look_49 1 rfl rfl (by decide) rfl ?_
        refine s_goto hX 22 dX3_look_52 (by decide) ?_
        exact s_end hX (hIq9 ((x1_6 + 1), ν11)) [1, 0] rfl
    · intro sq
      obtain ⟨ν8, rfl⟩ : ∃ z, z = sq := ⟨_, rfl⟩
      show Sim G _ _ 55 [] [] ν8
      exact s_vreti hK hR dX3_look_55
theorem dX3_sightOf_0 : decode cX3_sightOf 0 = .ok (.iconst 0, 1) := by decide +kernel
theorem dX3_sightOf_1 : decode cX3_sightOf 1 = .ok (.istore_n 2, 1) := by decide +kernel
theorem dX3_sightOf_2 : decode cX3_sightOf 2 = .ok (.iconst 0, 1) := by decide +kernel
theorem dX3_sightOf_3 : decode cX3_sightOf 3 = .ok (.istore_n 3, 1) := by decide +kernel
theorem dX3_sightOf_4 : decode cX3_sightOf 4 = .ok (.iload_n 3, 1) := by decide +kernel
theorem dX3_sightOf_5 : decode cX3_sightOf 5 = .ok (.aload_n 0, 1) := by decide +kernel
theorem dX3_sightOf_6 : decode cX3_sightOf 6 = .ok (.getfield 15, 3) := by decide +kernel
theorem dX3_sightOf_9 : decode cX3_sightOf 9 = .ok (.if_icmp .ge 27, 3) := by decide +kernel
theorem dX3_sightOf_12 : decode cX3_sightOf 12 = .ok (.aload_n 0, 1) := by decide +kernel
theorem dX3_sightOf_13 : decode cX3_sightOf 13 = .ok (.getfield 28, 3) := by decide +kernel
theorem dX3_sightOf_16 : decode cX3_sightOf 16 = .ok (.iload_n 3, 1) := by decide +kernel
theorem dX3_sightOf_17 : decode cX3_sightOf 17 = .ok (.iaload, 1) := by decide +kernel
theorem dX3_sightOf_18 : decode cX3_sightOf 18 = .ok (.iload_n 1, 1) := by decide +kernel
theorem dX3_sightOf_19 : decode cX3_sightOf 19 = .ok (.if_icmp .ne 11, 3) := by decide +kernel
theorem dX3_sightOf_22 : decode cX3_sightOf 22 = .ok (.iload_n 2, 1) := by decide +kernel
theorem dX3_sightOf_23 : decode cX3_sightOf 23 = .ok (.aload_n 0, 1) := by decide +kernel
theorem dX3_sightOf_24 : decode cX3_sightOf 24 = .ok (.iload_n 3, 1) := by decide +kernel
theorem dX3_sightOf_25 : decode cX3_sightOf 25 = .ok (.invokevirtual 57, 3) := by decide +kernel
theorem dX3_sightOf_28 : decode cX3_sightOf 28 = .ok (.iadd, 1) := by decide +kernel
theorem dX3_sightOf_29 : decode cX3_sightOf 29 = .ok (.istore_n 2, 1) := by decide +kernel
theorem dX3_sightOf_30 : decode cX3_sightOf 30 = .ok (.iinc 3 1, 3) := by decide +kernel
theorem dX3_sightOf_33 : decode cX3_sightOf 33 = .ok (.goto (-29), 3) := by decide +kernel
theorem dX3_sightOf_36 : decode cX3_sightOf 36 = .ok (.iload_n 2, 1) := by decide +kernel
theorem dX3_sightOf_37 : decode cX3_sightOf 37 = .ok (.ireturn, 1) := by decide +kernel
noncomputable def f_X3_sightOf (k0 : Nat) (x1 : Int32) (μ : Mem) : Option Int32 :=
  bd (lp (ε := Int32) (cu2 fun (x2_1 : Int32) (x3_2 : Int32) =>
    if x3_2 < (μ.1 k0 1) then
      chk x3_2 10 (
        jn (fun (x2_5 : Int32) =>
          some (.inl (x2_5, (x3_2 + 1)))
          ) fun j6 =>
        if (μ.1 (k0 + 2) (ix x3_2)) = x1 then
          bd (f_X3_seenOf k0 x3_2 μ) fun r7 =>
          j6 (x2_1 + r7)
        else
          j6 x2_1
        )
    else
      some (.inr x2_1)
    ) (0, 0)) (fun (x2_3 : Int32) =>
    some x2_3
    )
set_option maxHeartbeats 4000000 in
set_option maxRecDepth 100000 in
theorem c_X3_sightOf {g : GT} {k0 : Nat} {x1 : Int32} {μ : Mem} {r0 : Int32} (hk0 : tyOf k0 = 3) (hf : f_X3_sightOf k0 x1 μ = some r0) : CI g yX3_sightOf cX3_sightOf 4 (some .int) 3 [rf g k0, .int x1] μ r0 μ := by
  refine mk_i (by decide) (Nat.le_of_ble_eq_true rfl) ?_
  intro G hX hR
  have hX : CX g G cX3_sightOf RX3 4 3 := hX
  suffices S : ∀ K : Int32 → Prop, (∀ a, K a → a = r0) → Sim G (f_X3_sightOf k0 x1 μ) K 0 [(0, rf g k0), (1, .int x1)] [] μ from S (fun a => a = r0) (fun a h => h) _ hf rfl
  intro K hK
  unfold f_X3_sightOf
  refine s_iconst (v := 0) hX dX3_sightOf_0 (by decide) ?_
  refine s_istore_n (lv' := [(2, .int 0), (0, rf g k0), (1, .int x1)]) hX dX3_sightOf_1 rfl (by decide) rfl ?_
  refine s_iconst (v := 0) hX dX3_sightOf_2 (by decide) ?_
  refine s_istore_n (lv' := [(3, .int 0), (2, .int 0), (0, rf g k0), (1, .int x1)]) hX dX3_sightOf_3 rfl (by decide) rfl ?_
  refine s_loop hX 4 36 (fun s : Int32 × Int32 => [(0, rf g k0), (1, .int x1), (2, .int s.1), (3, .int s.2)]) (fun s : Int32 × Int32 => μ) (fun s : Int32 => [(2, .int s)]) (fun s : Int32 => μ) [2, 3, 1, 0] rfl rfl rfl ?_ ?_
  · intro Kq4 hIq4 hJq4 sq
    obtain ⟨x2_1, x3_2⟩ := sq
    refine s_cu2 ?_
    show Sim G _ _ 4 [(0, rf g k0), (1, .int x1), (2, .int x2_1), (3, .int x3_2)] [] μ
    refine s_iload_n hX dX3_sightOf_4 rfl 3 rfl ?_
    refine s_aload_n hX dX3_sightOf_5 rfl 0 rfl ?_
    refine s_getI hX flX3_15 hk0 dX3_sightOf_6 ?_
    refine s_icmp_ge hX 36 dX3_sightOf_9 (by decide) ?_ ?_
    · exact s_end hX (hJq4 x2_1) [2] rfl
    · refine s_aload_n hX dX3_sightOf_12 rfl 0 rfl ?_
      refine s_getR hX (d := 2) (k0 + 2) flX3_28 hk0 rfl dX3_sightOf_13 ?_
      refine s_iload_n hX dX3_sightOf_16 rfl 3 rfl ?_
      refine s_iald hX (ty_3_2 hk0).1 (ty_3_2 hk0).2 dX3_sightOf_17 ?_
      refine s_iload_n hX dX3_sightOf_18 rfl 1 rfl ?_
      refine s_jn (C := fun j => ∀ (x2_5 : Int32), Sim G (j x2_5) Kq4 30 [(0, rf g k0), (1, .int x1), (2, .int x2_5), (3, .int x3_2)] [] μ) ?_ (fun j6 hj6 => ?_)
      · intro x2_5
        show Sim G _ _ 30 [(0, rf g k0), (1, .int x1), (2, .int x2_5), (3, .int x3_2)] [] μ
        refine s_iinc (v := (x3_2 + 1)) (lv' := [(3, .int (x3_2 + 1)), (0, rf g k0), (1, .int x1), (2, .int x2_5)]) hX dX3_sightOf_30 3 rfl rfl (by decide) rfl ?_
        refine s_goto hX 4 dX3_sightOf_33 (by decide) ?_
        exact s_end hX (hIq4 (x2_5, (x3_2 + 1))) [1, 2, 3, 0] rfl
      refine s_icmp_ne hX 30 dX3_sightOf_19 (by decide) ?_ ?_
      · exact s_to hX [0, 1, 2, 3] rfl (hj6 x2_1)
      · refine s_iload_n hX dX3_sightOf_22 rfl 2 rfl ?_
        refine s_aload_n hX dX3_sightOf_23 rfl 0 rfl ?_
        refine s_iload_n hX dX3_sightOf_24 rfl 3 rfl ?_
        refine s_callVir hX [.int x3_2] (k := k0) (ci := 3) hk0 hc3 vkX3_seenOf (fun r hF => c_X3_seenOf hk0 hF) mkX3_seenOf cvX3_57 rfl rfl ⟨by omega, by decide, Nat.le_of_ble_eq_true rfl⟩ dX3_sightOf_25 (fun r7 => ?_)
        refine s_iadd hX dX3_sightOf_28 ?_
        refine s_istore_n (lv' := [(2, .int (x2_1 + r7)), (0, rf g k0), (1, .int x1), (3, .int x3_2)]) hX dX3_sightOf_29 rfl (by decide) rfl ?_
        exact s_to hX [1, 2, 0, 3] rfl (hj6 (x2_1 + r7))
  · intro sq
    obtain ⟨x2_3, rfl⟩ : ∃ z, z = sq := ⟨_, rfl⟩
    show Sim G _ _ 36 [(2, .int x2_3)] [] μ
    refine s_iload_n hX dX3_sightOf_36 rfl 0 rfl ?_
    exact s_iretr hK hR dX3_sightOf_37
theorem dX3_takenOf_0 : decode cX3_takenOf 0 = .ok (.aload_n 0, 1) := by decide +kernel
theorem dX3_takenOf_1 : decode cX3_takenOf 1 = .ok (.getfield 24, 3) := by decide +kernel
theorem dX3_takenOf_4 : decode cX3_takenOf 4 = .ok (.iload_n 1, 1) := by decide +kernel
theorem dX3_takenOf_5 : decode cX3_takenOf 5 = .ok (.iaload, 1) := by decide +kernel
theorem dX3_takenOf_6 : decode cX3_takenOf 6 = .ok (.aload_n 0, 1) := by decide +kernel
theorem dX3_takenOf_7 : decode cX3_takenOf 7 = .ok (.getfield 31, 3) := by decide +kernel
theorem dX3_takenOf_10 : decode cX3_takenOf 10 = .ok (.iload_n 1, 1) := by decide +kernel
theorem dX3_takenOf_11 : decode cX3_takenOf 11 = .ok (.iaload, 1) := by decide +kernel
theorem dX3_takenOf_12 : decode cX3_takenOf 12 = .ok (.invokestatic 53, 3) := by decide +kernel
theorem dX3_takenOf_15 : decode cX3_takenOf 15 = .ok (.ireturn, 1) := by decide +kernel
noncomputable def f_X3_takenOf (k0 : Nat) (x1 : Int32) (μ : Mem) : Option Int32 :=
  chk x1 10 (
    chk x1 10 (
      bd (f_X4_taken (μ.1 (k0 + 1) (ix x1)) (μ.1 (k0 + 3) (ix x1))) fun r1 =>
      some r1
      )
    )
set_option maxHeartbeats 4000000 in
set_option maxRecDepth 100000 in
theorem c_X3_takenOf {g : GT} {k0 : Nat} {x1 : Int32} {μ : Mem} {r0 : Int32} (hk0 : tyOf k0 = 3) (hf : f_X3_takenOf k0 x1 μ = some r0) : CI g yX3_takenOf cX3_takenOf 2 (some .int) 3 [rf g k0, .int x1] μ r0 μ := by
  refine mk_i (by decide) (Nat.le_of_ble_eq_true rfl) ?_
  intro G hX hR
  have hX : CX g G cX3_takenOf RX3 2 3 := hX
  suffices S : ∀ K : Int32 → Prop, (∀ a, K a → a = r0) → Sim G (f_X3_takenOf k0 x1 μ) K 0 [(0, rf g k0), (1, .int x1)] [] μ from S (fun a => a = r0) (fun a h => h) _ hf rfl
  intro K hK
  unfold f_X3_takenOf
  refine s_aload_n hX dX3_takenOf_0 rfl 0 rfl ?_
  refine s_getR hX (d := 1) (k0 + 1) flX3_24 hk0 rfl dX3_takenOf_1 ?_
  refine s_iload_n hX dX3_takenOf_4 rfl 1 rfl ?_
  refine s_iald hX (ty_3_1 hk0).1 (ty_3_1 hk0).2 dX3_takenOf_5 ?_
  refine s_aload_n hX dX3_takenOf_6 rfl 0 rfl ?_
  refine s_getR hX (d := 3) (k0 + 3) flX3_31 hk0 rfl dX3_takenOf_7 ?_
  refine s_iload_n hX dX3_takenOf_10 rfl 1 rfl ?_
  refine s_iald hX (ty_3_3 hk0).1 (ty_3_3 hk0).2 dX3_takenOf_11 ?_
  refine s_callSir hX [.int (μ.1 (k0 + 1) (ix x1)), .int (μ.1 (k0 + 3) (ix x1))] skX4_taken (fun r hF => c_X4_taken  hF) mkX4_taken cvX3_53 rfl rfl ⟨by omega, by decide, Nat.le_of_ble_eq_true rfl⟩ dX3_takenOf_12 (fun r1 => ?_)
  exact s_iretr hK hR dX3_takenOf_15
theorem dX5_weigh_0 : decode cX5_weigh 0 = .ok (.aload_n 0, 1) := by decide +kernel
theorem dX5_weigh_1 : decode cX5_weigh 1 = .ok (.invokevirtual 52, 3) := by decide +kernel
theorem dX5_weigh_4 : decode cX5_weigh 4 = .ok (.istore_n 3, 1) := by decide +kernel
theorem dX5_weigh_5 : decode cX5_weigh 5 = .ok (.iload_n 3, 1) := by decide +kernel
theorem dX5_weigh_6 : decode cX5_weigh 6 = .ok (.aload_n 0, 1) := by decide +kernel
theorem dX5_weigh_7 : decode cX5_weigh 7 = .ok (.getfield 29, 3) := by decide +kernel
theorem dX5_weigh_10 : decode cX5_weigh 10 = .ok (.if_icmp .ge 36, 3) := by decide +kernel
theorem dX5_weigh_13 : decode cX5_weigh 13 = .ok (.aload_n 0, 1) := by decide +kernel
theorem dX5_weigh_14 : decode cX5_weigh 14 = .ok (.iload_n 3, 1) := by decide +kernel
theorem dX5_weigh_15 : decode cX5_weigh 15 = .ok (.putfield 29, 3) := by decide +kernel
theorem dX5_weigh_18 : decode cX5_weigh 18 = .ok (.aload_n 0, 1) := by decide +kernel
theorem dX5_weigh_19 : decode cX5_weigh 19 = .ok (.iload_n 1, 1) := by decide +kernel
theorem dX5_weigh_20 : decode cX5_weigh 20 = .ok (.iconst (-1), 1) := by decide +kernel
theorem dX5_weigh_21 : decode cX5_weigh 21 = .ok (.if_icmp .ne 7, 3) := by decide +kernel
theorem dX5_weigh_24 : decode cX5_weigh 24 = .ok (.iload_n 2, 1) := by decide +kernel
theorem dX5_weigh_25 : decode cX5_weigh 25 = .ok (.goto 4, 3) := by decide +kernel
theorem dX5_weigh_28 : decode cX5_weigh 28 = .ok (.iload_n 1, 1) := by decide +kernel
theorem dX5_weigh_29 : decode cX5_weigh 29 = .ok (.putfield 32, 3) := by decide +kernel
theorem dX5_weigh_32 : decode cX5_weigh 32 = .ok (.aload_n 0, 1) := by decide +kernel
theorem dX5_weigh_33 : decode cX5_weigh 33 = .ok (.iload_n 1, 1) := by decide +kernel
theorem dX5_weigh_34 : decode cX5_weigh 34 = .ok (.iconst (-1), 1) := by decide +kernel
theorem dX5_weigh_35 : decode cX5_weigh 35 = .ok (.if_icmp .ne 7, 3) := by decide +kernel
theorem dX5_weigh_38 : decode cX5_weigh 38 = .ok (.iconst (-1), 1) := by decide +kernel
theorem dX5_weigh_39 : decode cX5_weigh 39 = .ok (.goto 4, 3) := by decide +kernel
theorem dX5_weigh_42 : decode cX5_weigh 42 = .ok (.iload_n 2, 1) := by decide +kernel
theorem dX5_weigh_43 : decode cX5_weigh 43 = .ok (.putfield 35, 3) := by decide +kernel
theorem dX5_weigh_46 : decode cX5_weigh 46 = .ok (.return_, 1) := by decide +kernel
noncomputable def f_X5_weigh (x1 : Int32) (x2 : Int32) (μ : Mem) : Option Mem :=
  bd (f_X5_takenNow  μ) fun r1 =>
  jn (fun (ν2 : Mem) =>
    some ν2
    ) fun j3 =>
  if r1 < (μ.1 72 4) then
    lt (setI μ 72 4 r1) fun ν4 =>
    jn (fun (y5 : Int32) =>
      lt (setI ν4 72 5 y5) fun ν7 =>
      jn (fun (y8 : Int32) =>
        lt (setI ν7 72 6 y8) fun ν10 =>
        j3 ν10
        ) fun j9 =>
      if x1 = (-1) then
        j9 (-1)
      else
        j9 x2
      ) fun j6 =>
    if x1 = (-1) then
      j6 x2
    else
      j6 x1
  else
    j3 μ
set_option maxHeartbeats 4000000 in
set_option maxRecDepth 100000 in
theorem c_X5_weigh {g : GT} {x1 : Int32} {x2 : Int32} {μ : Mem} {μ0 : Mem} (hf : f_X5_weigh x1 x2 μ = some μ0) : CV g yX5_weigh cX5_weigh 4 (none) 3 [rf g 72, .int x1, .int x2] μ μ0 := by
  refine mk_v (by decide) (Nat.le_of_ble_eq_true rfl) ?_
  intro G hX hR
  have hX : CX g G cX5_weigh RX5 4 3 := hX
  suffices S : ∀ K : Mem → Prop, (∀ a, K a → a = μ0) → Sim G (f_X5_weigh x1 x2 μ) K 0 [(0, rf g 72), (1, .int x1), (2, .int x2)] [] μ from S (fun a => a = μ0) (fun a h => h) _ hf rfl
  intro K hK
  unfold f_X5_weigh
  refine s_aload_n hX dX5_weigh_0 rfl 0 rfl ?_
  refine s_callVir hX [] (k := 72) (ci := 4) rfl hc4 vkX5_takenNow (fun r hF => c_X5_takenNow  hF) mkX5_takenNow cvX5_52 rfl rfl ⟨by omega, by decide, Nat.le_of_ble_eq_true rfl⟩ dX5_weigh_1 (fun r1 => ?_)
  refine s_istore_n (lv' := [(3, .int r1), (0, rf g 72), (1, .int x1), (2, .int x2)]) hX dX5_weigh_4 rfl (by decide) rfl ?_
  refine s_iload_n hX dX5_weigh_5 rfl 0 rfl ?_
  refine s_aload_n hX dX5_weigh_6 rfl 1 rfl ?_
  refine s_getI hX flX5_29 rfl dX5_weigh_7 ?_
  refine s_jn (C := fun j => ∀ (ν2 : Mem), Sim G (j ν2) K 46 [] [] ν2) ?_ (fun j3 hj3 => ?_)
  · intro ν2
    show Sim G _ _ 46 [] [] ν2
    exact s_vreti hK hR dX5_weigh_46
  refine s_icmp_ge hX 46 dX5_weigh_10 (by decide) ?_ ?_
  · exact s_to hX [] rfl (hj3 μ)
  · refine s_aload_n hX dX5_weigh_13 rfl 1 rfl ?_
    refine s_iload_n hX dX5_weigh_14 rfl 0 rfl ?_
    refine s_putI hX flX5_29 rfl ⟨rfl, rfl⟩ dX5_weigh_15 (fun ν4 => ?_)
    refine s_aload_n hX dX5_weigh_18 rfl 1 rfl ?_
    refine s_iload_n hX dX5_weigh_19 rfl 2 rfl ?_
    refine s_iconst (v := (-1)) hX dX5_weigh_20 (by decide) ?_
    refine s_jn (C := fun j => ∀ (y5 : Int32), Sim G (j y5) K 29 [(0, rf g 72), (1, .int x1), (2, .int x2)] [.int y5, rf g 72] ν4) ?_ (fun j6 hj6 => ?_)
    · intro y5
      show Sim G _ _ 29 [(0, rf g 72), (1, .int x1), (2, .int x2)] [.int y5, rf g 72] ν4
      refine s_putI hX flX5_32 rfl ⟨rfl, rfl⟩ dX5_weigh_29 (fun ν7 => ?_)
      refine s_aload_n hX dX5_weigh_32 rfl 0 rfl ?_
      refine s_iload_n hX dX5_weigh_33 rfl 1 rfl ?_
      refine s_iconst (v := (-1)) hX dX5_weigh_34 (by decide) ?_
      refine s_jn (C := fun j => ∀ (y8 : Int32), Sim G (j y8) K 43 [] [.int y8, rf g 72] ν7) ?_ (fun j9 hj9 => ?_)
      · intro y8
        show Sim G _ _ 43 [] [.int y8, rf g 72] ν7
        refine s_putI hX flX5_35 rfl ⟨rfl, rfl⟩ dX5_weigh_43 (fun ν10 => ?_)
        exact s_to hX [] rfl (hj3 ν10)
      refine s_icmp_ne hX 42 dX5_weigh_35 (by decide) ?_ ?_
      · refine s_iload_n hX dX5_weigh_42 rfl 2 rfl ?_
        exact s_to hX [] rfl (hj9 x2)
      · refine s_iconst (v := (-1)) hX dX5_weigh_38 (by decide) ?_
        refine s_goto hX 43 dX5_weigh_39 (by decide) ?_
        exact s_to hX [] rfl (hj9 (-1))
    refine s_icmp_ne hX 28 dX5_weigh_21 (by decide) ?_ ?_
    · refine s_iload_n hX dX5_weigh_28 rfl 2 rfl ?_
      exact s_to hX [1, 2, 3] rfl (hj6 x1)
    · refine s_iload_n hX dX5_weigh_24 rfl 3 rfl ?_
      refine s_goto hX 29 dX5_weigh_25 (by decide) ?_
      exact s_to hX [1, 2, 3] rfl (hj6 x2)
theorem dX7_fewestGuards_0 : decode cX7_fewestGuards 0 = .ok (.iconst 0, 1) := by decide +kernel
theorem dX7_fewestGuards_1 : decode cX7_fewestGuards 1 = .ok (.istore_n 3, 1) := by decide +kernel
theorem dX7_fewestGuards_2 : decode cX7_fewestGuards 2 = .ok (.bipush 11, 2) := by decide +kernel
theorem dX7_fewestGuards_4 : decode cX7_fewestGuards 4 = .ok (.istore 4, 2) := by decide +kernel
theorem dX7_fewestGuards_6 : decode cX7_fewestGuards 6 = .ok (.iconst 0, 1) := by decide +kernel
theorem dX7_fewestGuards_7 : decode cX7_fewestGuards 7 = .ok (.istore 5, 2) := by decide +kernel
theorem dX7_fewestGuards_9 : decode cX7_fewestGuards 9 = .ok (.iload 5, 2) := by decide +kernel
theorem dX7_fewestGuards_11 : decode cX7_fewestGuards 11 = .ok (.iconst 1, 1) := by decide +kernel
theorem dX7_fewestGuards_12 : decode cX7_fewestGuards 12 = .ok (.aload_n 0, 1) := by decide +kernel
theorem dX7_fewestGuards_13 : decode cX7_fewestGuards 13 = .ok (.getfield 9, 3) := by decide +kernel
theorem dX7_fewestGuards_16 : decode cX7_fewestGuards 16 = .ok (.ishl, 1) := by decide +kernel
theorem dX7_fewestGuards_17 : decode cX7_fewestGuards 17 = .ok (.if_icmp .ge 58, 3) := by decide +kernel
theorem dX7_fewestGuards_20 : decode cX7_fewestGuards 20 = .ok (.iload 5, 2) := by decide +kernel
theorem dX7_fewestGuards_22 : decode cX7_fewestGuards 22 = .ok (.aload_n 0, 1) := by decide +kernel
theorem dX7_fewestGuards_23 : decode cX7_fewestGuards 23 = .ok (.getfield 22, 3) := by decide +kernel
theorem dX7_fewestGuards_26 : decode cX7_fewestGuards 26 = .ok (.iand, 1) := by decide +kernel
theorem dX7_fewestGuards_27 : decode cX7_fewestGuards 27 = .ok (.ifCond .ne 42, 3) := by decide +kernel
theorem dX7_fewestGuards_30 : decode cX7_fewestGuards 30 = .ok (.iload 5, 2) := by decide +kernel
theorem dX7_fewestGuards_32 : decode cX7_fewestGuards 32 = .ok (.invokestatic 35, 3) := by decide +kernel
theorem dX7_fewestGuards_35 : decode cX7_fewestGuards 35 = .ok (.iload 4, 2) := by decide +kernel
theorem dX7_fewestGuards_37 : decode cX7_fewestGuards 37 = .ok (.if_icmp .ge 32, 3) := by decide +kernel
theorem dX7_fewestGuards_40 : decode cX7_fewestGuards 40 = .ok (.aload_n 0, 1) := by decide +kernel
theorem dX7_fewestGuards_41 : decode cX7_fewestGuards 41 = .ok (.iload_n 1, 1) := by decide +kernel
theorem dX7_fewestGuards_42 : decode cX7_fewestGuards 42 = .ok (.aload_n 0, 1) := by decide +kernel
theorem dX7_fewestGuards_43 : decode cX7_fewestGuards 43 = .ok (.getfield 22, 3) := by decide +kernel
theorem dX7_fewestGuards_46 : decode cX7_fewestGuards 46 = .ok (.iload 5, 2) := by decide +kernel
theorem dX7_fewestGuards_48 : decode cX7_fewestGuards 48 = .ok (.ior, 1) := by decide +kernel
theorem dX7_fewestGuards_49 : decode cX7_fewestGuards 49 = .ok (.invokevirtual 41, 3) := by decide +kernel
theorem dX7_fewestGuards_52 : decode cX7_fewestGuards 52 = .ok (.iload_n 2, 1) := by decide +kernel
theorem dX7_fewestGuards_53 : decode cX7_fewestGuards 53 = .ok (.ishr, 1) := by decide +kernel
theorem dX7_fewestGuards_54 : decode cX7_fewestGuards 54 = .ok (.iconst 1, 1) := by decide +kernel
theorem dX7_fewestGuards_55 : decode cX7_fewestGuards 55 = .ok (.iand, 1) := by decide +kernel
theorem dX7_fewestGuards_56 : decode cX7_fewestGuards 56 = .ok (.ifCond .ne 13, 3) := by decide +kernel
theorem dX7_fewestGuards_59 : decode cX7_fewestGuards 59 = .ok (.iload 5, 2) := by decide +kernel
theorem dX7_fewestGuards_61 : decode cX7_fewestGuards 61 = .ok (.invokestatic 35, 3) := by decide +kernel
theorem dX7_fewestGuards_64 : decode cX7_fewestGuards 64 = .ok (.istore 4, 2) := by decide +kernel
theorem dX7_fewestGuards_66 : decode cX7_fewestGuards 66 = .ok (.iload 5, 2) := by decide +kernel
theorem dX7_fewestGuards_68 : decode cX7_fewestGuards 68 = .ok (.istore_n 3, 1) := by decide +kernel
theorem dX7_fewestGuards_69 : decode cX7_fewestGuards 69 = .ok (.iinc 5 1, 3) := by decide +kernel
theorem dX7_fewestGuards_72 : decode cX7_fewestGuards 72 = .ok (.goto (-63), 3) := by decide +kernel
theorem dX7_fewestGuards_75 : decode cX7_fewestGuards 75 = .ok (.iload_n 3, 1) := by decide +kernel
theorem dX7_fewestGuards_76 : decode cX7_fewestGuards 76 = .ok (.ireturn, 1) := by decide +kernel
noncomputable def f_X7_fewestGuards (k0 : Nat) (x1 : Int32) (x2 : Int32) (μ : Mem) : Option Int32 :=
  bd (lp (ε := Int32) (cu3 fun (x3_1 : Int32) (x4_2 : Int32) (x5_3 : Int32) =>
    if x5_3 < ((1 : Int32) <<< ((μ.1 k0 0) &&& 31)) then
      jn (fun (x3_6 : Int32) (x4_7 : Int32) =>
        some (.inl (x3_6, x4_7, (x5_3 + 1)))
        ) fun j8 =>
      if (x5_3 &&& (μ.1 k0 3)) = 0 then
        bd (f_J6_bitCount_0f7a4 x5_3) fun r9 =>
        if r9 < x4_2 then
          bd (f_X7_sideOf k0 x1 ((μ.1 k0 3) ||| x5_3) μ) fun r10 =>
          if ((r10 >>> (x2 &&& 31)) &&& 1) = 0 then
            bd (f_J6_bitCount_0f7a4 x5_3) fun r11 =>
            j8 x5_3 r11
          else
            j8 x3_1 x4_2
        else
          j8 x3_1 x4_2
      else
        j8 x3_1 x4_2
    else
      some (.inr x3_1)
    ) (0, 11, 0)) (fun (x3_4 : Int32) =>
    some x3_4
    )
set_option maxHeartbeats 4000000 in
set_option maxRecDepth 100000 in
theorem c_X7_fewestGuards {g : GT} {k0 : Nat} {x1 : Int32} {x2 : Int32} {μ : Mem} {r0 : Int32} (hk0 : tyOf k0 = 6) (hf : f_X7_fewestGuards k0 x1 x2 μ = some r0) : CI g yX7_fewestGuards cX7_fewestGuards 6 (some .int) 3 [rf g k0, .int x1, .int x2] μ r0 μ := by
  refine mk_i (by decide) (Nat.le_of_ble_eq_true rfl) ?_
  intro G hX hR
  have hX : CX g G cX7_fewestGuards RX7 6 3 := hX
  suffices S : ∀ K : Int32 → Prop, (∀ a, K a → a = r0) → Sim G (f_X7_fewestGuards k0 x1 x2 μ) K 0 [(0, rf g k0), (1, .int x1), (2, .int x2)] [] μ from S (fun a => a = r0) (fun a h => h) _ hf rfl
  intro K hK
  unfold f_X7_fewestGuards
  refine s_iconst (v := 0) hX dX7_fewestGuards_0 (by decide) ?_
  refine s_istore_n (lv' := [(3, .int 0), (0, rf g k0), (1, .int x1), (2, .int x2)]) hX dX7_fewestGuards_1 rfl (by decide) rfl ?_
  refine s_bipush (v := 11) hX dX7_fewestGuards_2 (by decide) ?_
  refine s_istore (lv' := [(4, .int 11), (3, .int 0), (0, rf g k0), (1, .int x1), (2, .int x2)]) hX dX7_fewestGuards_4 (by decide) rfl ?_
  refine s_iconst (v := 0) hX dX7_fewestGuards_6 (by decide) ?_
  refine s_istore (lv' := [(5, .int 0), (4, .int 11), (3, .int 0), (0, rf g k0), (1, .int x1), (2, .int x2)]) hX dX7_fewestGuards_7 (by decide) rfl ?_
  refine s_loop hX 9 75 (fun s : Int32 × Int32 × Int32 => [(0, rf g k0), (1, .int x1), (2, .int x2), (3, .int s.1), (4, .int s.2.1), (5, .int s.2.2)]) (fun s : Int32 × Int32 × Int32 => μ) (fun s : Int32 => [(3, .int s)]) (fun s : Int32 => μ) [3, 4, 5, 2, 1, 0] rfl rfl rfl ?_ ?_
  · intro Kq5 hIq5 hJq5 sq
    obtain ⟨x3_1, x4_2, x5_3⟩ := sq
    refine s_cu3 ?_
    show Sim G _ _ 9 [(0, rf g k0), (1, .int x1), (2, .int x2), (3, .int x3_1), (4, .int x4_2), (5, .int x5_3)] [] μ
    refine s_iload hX dX7_fewestGuards_9 5 rfl ?_
    refine s_iconst (v := 1) hX dX7_fewestGuards_11 (by decide) ?_
    refine s_aload_n hX dX7_fewestGuards_12 rfl 0 rfl ?_
    refine s_getI hX flX7_9 hk0 dX7_fewestGuards_13 ?_
    refine s_ishl hX dX7_fewestGuards_16 ?_
    refine s_icmp_ge hX 75 dX7_fewestGuards_17 (by decide) ?_ ?_
    · exact s_end hX (hJq5 x3_1) [3] rfl
    · refine s_iload hX dX7_fewestGuards_20 5 rfl ?_
      refine s_aload_n hX dX7_fewestGuards_22 rfl 0 rfl ?_
      refine s_getI hX flX7_22 hk0 dX7_fewestGuards_23 ?_
      refine s_iand hX dX7_fewestGuards_26 ?_
      refine s_jn (C := fun j => ∀ (x3_6 : Int32) (x4_7 : Int32), Sim G (j x3_6 x4_7) Kq5 69 [(0, rf g k0), (1, .int x1), (2, .int x2), (3, .int x3_6), (4, .int x4_7), (5, .int x5_3)] [] μ) ?_ (fun j8 hj8 => ?_)
      · intro x3_6 x4_7
        show Sim G _ _ 69 [(0, rf g k0), (1, .int x1), (2, .int x2), (3, .int x3_6), (4, .int x4_7), (5, .int x5_3)] [] μ
        refine s_iinc (v := (x5_3 + 1)) (lv' := [(5, .int (x5_3 + 1)), (0, rf g k0), (1, .int x1), (2, .int x2), (3, .int x3_6), (4, .int x4_7)]) hX dX7_fewestGuards_69 5 rfl rfl (by decide) rfl ?_
        refine s_goto hX 9 dX7_fewestGuards_72 (by decide) ?_
        exact s_end hX (hIq5 (x3_6, x4_7, (x5_3 + 1))) [1, 2, 3, 4, 5, 0] rfl
      refine s_if_ne hX 69 dX7_fewestGuards_27 (by decide) ?_ ?_
      · exact s_to hX [0, 1, 2, 3, 4, 5] rfl (hj8 x3_1 x4_2)
      · refine s_iload hX dX7_fewestGuards_30 5 rfl ?_
        refine s_callSir hX [.int x5_3] skJ6_bitCount_0f7a4 (fun r hF => c_J6_bitCount_0f7a4  hF) mkJ6_bitCount_0f7a4 cvX7_35 rfl rfl ⟨by omega, by decide, Nat.le_of_ble_eq_true rfl⟩ dX7_fewestGuards_32 (fun r9 => ?_)
        refine s_iload hX dX7_fewestGuards_35 4 rfl ?_
        refine s_icmp_ge hX 69 dX7_fewestGuards_37 (by decide) ?_ ?_
        · exact s_to hX [0, 1, 2, 3, 4, 5] rfl (hj8 x3_1 x4_2)
        · refine s_aload_n hX dX7_fewestGuards_40 rfl 0 rfl ?_
          refine s_iload_n hX dX7_fewestGuards_41 rfl 1 rfl ?_
          refine s_aload_n hX dX7_fewestGuards_42 rfl 0 rfl ?_
          refine s_getI hX flX7_22 hk0 dX7_fewestGuards_43 ?_
          refine s_iload hX dX7_fewestGuards_46 5 rfl ?_
          refine s_ior hX dX7_fewestGuards_48 ?_
          refine s_callVir hX [.int x1, .int ((μ.1 k0 3) ||| x5_3)] (k := k0) (ci := 6) hk0 hc6 vkX7_sideOf (fun r hF => c_X7_sideOf hk0 hF) mkX7_sideOf cvX7_41 rfl rfl ⟨by omega, by decide, Nat.le_of_ble_eq_true rfl⟩ dX7_fewestGuards_49 (fun r10 => ?_)
          refine s_iload_n hX dX7_fewestGuards_52 rfl 2 rfl ?_
          refine s_ishr hX dX7_fewestGuards_53 ?_
          refine s_iconst (v := 1) hX dX7_fewestGuards_54 (by decide) ?_
          refine s_iand hX dX7_fewestGuards_55 ?_
          refine s_if_ne hX 69 dX7_fewestGuards_56 (by decide) ?_ ?_
          · exact s_to hX [0, 1, 2, 3, 4, 5] rfl (hj8 x3_1 x4_2)
          · refine s_iload hX dX7_fewestGuards_59 5 rfl ?_
            refine s_callSir hX [.int x5_3] skJ6_bitCount_0f7a4 (fun r hF => c_J6_bitCount_0f7a4  hF) mkJ6_bitCount_0f7a4 cvX7_35 rfl rfl ⟨by omega, by decide, Nat.le_of_ble_eq_true rfl⟩ dX7_fewestGuards_61 (fun r11 => ?_)
            refine s_istore (lv' := [(4, .int r11), (0, rf g k0), (1, .int x1), (2, .int x2), (3, .int x3_1), (5, .int x5_3)]) hX dX7_fewestGuards_64 (by decide) rfl ?_
            refine s_iload hX dX7_fewestGuards_66 5 rfl ?_
            refine s_istore_n (lv' := [(3, .int x5_3), (4, .int r11), (0, rf g k0), (1, .int x1), (2, .int x2), (5, .int x5_3)]) hX dX7_fewestGuards_68 rfl (by decide) rfl ?_
            exact s_to hX [2, 3, 4, 0, 1, 5] rfl (hj8 x5_3 r11)
  · intro sq
    obtain ⟨x3_4, rfl⟩ : ∃ z, z = sq := ⟨_, rfl⟩
    show Sim G _ _ 75 [(3, .int x3_4)] [] μ
    refine s_iload_n hX dX7_fewestGuards_75 rfl 0 rfl ?_
    exact s_iretr hK hR dX7_fewestGuards_76
theorem dJ0_charAt_5068e_0 : decode cJ0_charAt_5068e 0 = .ok (.aload_n 0, 1) := by decide +kernel
theorem dJ0_charAt_5068e_1 : decode cJ0_charAt_5068e 1 = .ok (.invokevirtual 492, 3) := by decide +kernel
theorem dJ0_charAt_5068e_4 : decode cJ0_charAt_5068e 4 = .ok (.ifCond .eq 12, 3) := by decide +kernel
theorem dJ0_charAt_5068e_7 : decode cJ0_charAt_5068e 7 = .ok (.aload_n 0, 1) := by decide +kernel
theorem dJ0_charAt_5068e_8 : decode cJ0_charAt_5068e 8 = .ok (.getfield 9, 3) := by decide +kernel
theorem dJ0_charAt_5068e_11 : decode cJ0_charAt_5068e 11 = .ok (.iload_n 1, 1) := by decide +kernel
theorem dJ0_charAt_5068e_12 : decode cJ0_charAt_5068e 12 = .ok (.invokestatic 495, 3) := by decide +kernel
theorem dJ0_charAt_5068e_15 : decode cJ0_charAt_5068e 15 = .ok (.ireturn, 1) := by decide +kernel
noncomputable def f_J0_charAt_5068e (w0 : Nat) (x1 : Int32) : Option Int32 :=
  bd (f_J0_isLatin1_aae02 w0) fun r1 =>
  if r1 = 0 then
    none
  else
    bd (f_J1_charAt_3b067 w0 x1) fun r2 =>
    ckN r2 (
      some r2
      )
set_option maxHeartbeats 4000000 in
set_option maxRecDepth 100000 in
theorem c_J0_charAt_5068e {g : GT} {w0 : Nat} {x1 : Int32} {μ : Mem} {r0 : Int32} (hw0 : w0 < 6) (hf : f_J0_charAt_5068e w0 x1 = some r0) : CI g yJ0_charAt_5068e cJ0_charAt_5068e 2 (some .char) 4 [rfS g w0, .int x1] μ r0 μ := by
  refine mk_n (by decide) (Nat.le_of_ble_eq_true rfl) ?_
  intro G hX hR
  have hX : CX g G cJ0_charAt_5068e RJ0 2 4 := hX
  suffices S : ∀ K : Int32 → Prop, (∀ a, K a → a = r0) → Sim G (f_J0_charAt_5068e w0 x1) K 0 [(0, rfS g w0), (1, .int x1)] [] μ from S (fun a => a = r0) (fun a h => h) _ hf rfl
  intro K hK
  unfold f_J0_charAt_5068e
  refine s_Sload_n hX dJ0_charAt_5068e_0 rfl 0 rfl ?_
  refine s_callUir hX [] hw0 vkJ0_isLatin1_aae02 (fun r hF => c_J0_isLatin1_aae02 hw0 hF) mkJ0_isLatin1_aae02 cvJ0_492 rfl rfl ⟨by omega, by decide, Nat.le_of_ble_eq_true rfl⟩ dJ0_charAt_5068e_1 (fun r1 => ?_)
  refine s_if_eq hX 16 dJ0_charAt_5068e_4 (by decide) ?_ ?_
  · exact s_none
  · refine s_Sload_n hX dJ0_charAt_5068e_7 rfl 0 rfl ?_
    refine s_getSv hX hw0 kfJ0_9 dJ0_charAt_5068e_8 ?_
    refine s_iload_n hX dJ0_charAt_5068e_11 rfl 1 rfl ?_
    refine s_callSir hX [rfV g w0, .int x1] skJ1_charAt_3b067 (fun r hF => c_J1_charAt_3b067 hw0 hF) mkJ1_charAt_3b067 cvJ0_495 rfl rfl ⟨by omega, by decide, Nat.le_of_ble_eq_true rfl⟩ dJ0_charAt_5068e_12 (fun r2 => ?_)
    refine s_ckN (fun hzb => ?_)
    exact s_nretr (nChar hzb) hK hR dJ0_charAt_5068e_15
theorem dX10_cut_0 : decode cX10_cut 0 = .ok (.aload_n 0, 1) := by decide +kernel
theorem dX10_cut_1 : decode cX10_cut 1 = .ok (.getfield 10, 3) := by decide +kernel
theorem dX10_cut_4 : decode cX10_cut 4 = .ok (.getfield 146, 3) := by decide +kernel
theorem dX10_cut_7 : decode cX10_cut 7 = .ok (.iload_n 1, 1) := by decide +kernel
theorem dX10_cut_8 : decode cX10_cut 8 = .ok (.iload_n 2, 1) := by decide +kernel
theorem dX10_cut_9 : decode cX10_cut 9 = .ok (.invokevirtual 230, 3) := by decide +kernel
theorem dX10_cut_12 : decode cX10_cut 12 = .ok (.ifCond .eq 12, 3) := by decide +kernel
theorem dX10_cut_15 : decode cX10_cut 15 = .ok (.iload_n 3, 1) := by decide +kernel
theorem dX10_cut_16 : decode cX10_cut 16 = .ok (.ifCond .lt 8, 3) := by decide +kernel
theorem dX10_cut_19 : decode cX10_cut 19 = .ok (.iload_n 3, 1) := by decide +kernel
theorem dX10_cut_20 : decode cX10_cut 20 = .ok (.iconst 1, 1) := by decide +kernel
theorem dX10_cut_21 : decode cX10_cut 21 = .ok (.if_icmp .le 10, 3) := by decide +kernel
theorem dX10_cut_24 : decode cX10_cut 24 = .ok (.aload_n 0, 1) := by decide +kernel
theorem dX10_cut_25 : decode cX10_cut 25 = .ok (.bipush (-2), 2) := by decide +kernel
theorem dX10_cut_27 : decode cX10_cut 27 = .ok (.invokevirtual 90, 3) := by decide +kernel
theorem dX10_cut_30 : decode cX10_cut 30 = .ok (.ireturn, 1) := by decide +kernel
theorem dX10_cut_31 : decode cX10_cut 31 = .ok (.aload_n 0, 1) := by decide +kernel
theorem dX10_cut_32 : decode cX10_cut 32 = .ok (.getfield 10, 3) := by decide +kernel
theorem dX10_cut_35 : decode cX10_cut 35 = .ok (.getfield 234, 3) := by decide +kernel
theorem dX10_cut_38 : decode cX10_cut 38 = .ok (.iload_n 1, 1) := by decide +kernel
theorem dX10_cut_39 : decode cX10_cut 39 = .ok (.iload_n 2, 1) := by decide +kernel
theorem dX10_cut_40 : decode cX10_cut 40 = .ok (.invokevirtual 243, 3) := by decide +kernel
theorem dX10_cut_43 : decode cX10_cut 43 = .ok (.istore 4, 2) := by decide +kernel
theorem dX10_cut_45 : decode cX10_cut 45 = .ok (.iload_n 3, 1) := by decide +kernel
theorem dX10_cut_46 : decode cX10_cut 46 = .ok (.ifCond .ne 9, 3) := by decide +kernel
theorem dX10_cut_49 : decode cX10_cut 49 = .ok (.iload 4, 2) := by decide +kernel
theorem dX10_cut_51 : decode cX10_cut 51 = .ok (.invokestatic 246, 3) := by decide +kernel
theorem dX10_cut_54 : decode cX10_cut 54 = .ok (.ireturn, 1) := by decide +kernel
theorem dX10_cut_55 : decode cX10_cut 55 = .ok (.aload_n 0, 1) := by decide +kernel
theorem dX10_cut_56 : decode cX10_cut 56 = .ok (.getfield 10, 3) := by decide +kernel
theorem dX10_cut_59 : decode cX10_cut 59 = .ok (.getfield 234, 3) := by decide +kernel
theorem dX10_cut_62 : decode cX10_cut 62 = .ok (.iload_n 1, 1) := by decide +kernel
theorem dX10_cut_63 : decode cX10_cut 63 = .ok (.aload_n 0, 1) := by decide +kernel
theorem dX10_cut_64 : decode cX10_cut 64 = .ok (.getfield 10, 3) := by decide +kernel
theorem dX10_cut_67 : decode cX10_cut 67 = .ok (.getfield 234, 3) := by decide +kernel
theorem dX10_cut_70 : decode cX10_cut 70 = .ok (.getfield 251, 3) := by decide +kernel
theorem dX10_cut_73 : decode cX10_cut 73 = .ok (.iload 4, 2) := by decide +kernel
theorem dX10_cut_75 : decode cX10_cut 75 = .ok (.ior, 1) := by decide +kernel
theorem dX10_cut_76 : decode cX10_cut 76 = .ok (.invokevirtual 254, 3) := by decide +kernel
theorem dX10_cut_79 : decode cX10_cut 79 = .ok (.ireturn, 1) := by decide +kernel
noncomputable def f_X10_cut (x1 : Int32) (x2 : Int32) (x3 : Int32) (μ : Mem) : Option (Int32 × Mem) :=
  bd (f_X3_hasPair 2 x1 x2 μ) fun r1 =>
  jn (
    bd2 (f_X10_tally (-2) μ) fun r3 ν4 =>
    some (r3, ν4)
    ) fun j2 =>
  if r1 = 0 then
    j2
  else
    if x3 < 0 then
      j2
    else
      if 1 < x3 then
        j2
      else
        bd (f_X7_fewestGuards 7 x1 x2 μ) fun r5 =>
        if x3 = 0 then
          bd (f_J6_bitCount_0f7a4 r5) fun r7 =>
          some (r7, μ)
        else
          bd (f_X7_sideOf 7 x1 ((μ.1 7 3) ||| r5) μ) fun r6 =>
          some (r6, μ)
set_option maxHeartbeats 4000000 in
set_option maxRecDepth 100000 in
theorem c_X10_cut {g : GT} {x1 : Int32} {x2 : Int32} {x3 : Int32} {μ : Mem} {μ0 : Mem} {r0 : Int32} (hf : f_X10_cut x1 x2 x3 μ = some (r0, μ0)) : CI g yX10_cut cX10_cut 5 (some .int) 4 [rf g 0, .int x1, .int x2, .int x3] μ r0 μ0 := by
  refine mk_i (by decide) (Nat.le_of_ble_eq_true rfl) ?_
  intro G hX hR
  have hX : CX g G cX10_cut RX10 5 4 := hX
  suffices S : ∀ K : (Int32 × Mem) → Prop, (∀ a, K a → a = (r0, μ0)) → Sim G (f_X10_cut x1 x2 x3 μ) K 0 [(0, rf g 0), (1, .int x1), (2, .int x2), (3, .int x3)] [] μ from S (fun a => a = (r0, μ0)) (fun a h => h) _ hf rfl
  intro K hK
  unfold f_X10_cut
  refine s_aload_n hX dX10_cut_0 rfl 0 rfl ?_
  refine s_getR hX (d := 1) 1 flX10_10 rfl rfl dX10_cut_1 ?_
  refine s_getR hX (d := 1) 2 flX10_146 rfl rfl dX10_cut_4 ?_
  refine s_iload_n hX dX10_cut_7 rfl 1 rfl ?_
  refine s_iload_n hX dX10_cut_8 rfl 2 rfl ?_
  refine s_callVir hX [.int x1, .int x2] (k := 2) (ci := 3) rfl hc3 vkX3_hasPair (fun r hF => c_X3_hasPair rfl hF) mkX3_hasPair cvX10_230 rfl rfl ⟨by omega, by decide, Nat.le_of_ble_eq_true rfl⟩ dX10_cut_9 (fun r1 => ?_)
  refine s_jn (C := fun j => Sim G (j) K 24 [(0, rf g 0)] [] μ) ?_ (fun j2 hj2 => ?_)
  · skip
    show Sim G _ _ 24 [(0, rf g 0)] [] μ
    refine s_aload_n hX dX10_cut_24 rfl 0 rfl ?_
    refine s_bipush (v := (-2)) hX dX10_cut_25 (by decide) ?_
    refine s_callViw hX [.int (-2)] (k := 0) (ci := 9) rfl hc9 vkX10_tally (fun r ν hF => c_X10_tally  hF) mkX10_tally cvX10_90 rfl rfl ⟨by omega, by decide, Nat.le_of_ble_eq_true rfl⟩ dX10_cut_27 (fun r3 ν4 => ?_)
    exact s_ireti hK hR dX10_cut_30
  refine s_if_eq hX 24 dX10_cut_12 (by decide) ?_ ?_
  · exact s_to hX [0] rfl (hj2)
  · refine s_iload_n hX dX10_cut_15 rfl 3 rfl ?_
    refine s_if_lt hX 24 dX10_cut_16 (by decide) ?_ ?_
    · exact s_to hX [0] rfl (hj2)
    · refine s_iload_n hX dX10_cut_19 rfl 3 rfl ?_
      refine s_iconst (v := 1) hX dX10_cut_20 (by decide) ?_
      refine s_icmp_le hX 31 dX10_cut_21 (by decide) ?_ ?_
      · refine s_aload_n hX dX10_cut_31 rfl 0 rfl ?_
        refine s_getR hX (d := 1) 1 flX10_10 rfl rfl dX10_cut_32 ?_
        refine s_getR hX (d := 6) 7 flX10_234 rfl rfl dX10_cut_35 ?_
        refine s_iload_n hX dX10_cut_38 rfl 1 rfl ?_
        refine s_iload_n hX dX10_cut_39 rfl 2 rfl ?_
        refine s_callVir hX [.int x1, .int x2] (k := 7) (ci := 6) rfl hc6 vkX7_fewestGuards (fun r hF => c_X7_fewestGuards rfl hF) mkX7_fewestGuards cvX10_243 rfl rfl ⟨by omega, by decide, Nat.le_of_ble_eq_true rfl⟩ dX10_cut_40 (fun r5 => ?_)
        refine s_istore (lv' := [(4, .int r5), (0, rf g 0), (1, .int x1), (2, .int x2), (3, .int x3)]) hX dX10_cut_43 (by decide) rfl ?_
        refine s_iload_n hX dX10_cut_45 rfl 4 rfl ?_
        refine s_if_ne hX 55 dX10_cut_46 (by decide) ?_ ?_
        · refine s_aload_n hX dX10_cut_55 rfl 1 rfl ?_
          refine s_getR hX (d := 1) 1 flX10_10 rfl rfl dX10_cut_56 ?_
          refine s_getR hX (d := 6) 7 flX10_234 rfl rfl dX10_cut_59 ?_
          refine s_iload_n hX dX10_cut_62 rfl 2 rfl ?_
          refine s_aload_n hX dX10_cut_63 rfl 1 rfl ?_
          refine s_getR hX (d := 1) 1 flX10_10 rfl rfl dX10_cut_64 ?_
          refine s_getR hX (d := 6) 7 flX10_234 rfl rfl dX10_cut_67 ?_
          refine s_getI hX flX10_251 rfl dX10_cut_70 ?_
          refine s_iload hX dX10_cut_73 0 rfl ?_
          refine s_ior hX dX10_cut_75 ?_
          refine s_callVir hX [.int x1, .int ((μ.1 7 3) ||| r5)] (k := 7) (ci := 6) rfl hc6 vkX7_sideOf (fun r hF => c_X7_sideOf rfl hF) mkX7_sideOf cvX10_254 rfl rfl ⟨by omega, by decide, Nat.le_of_ble_eq_true rfl⟩ dX10_cut_76 (fun r6 => ?_)
          exact s_ireti hK hR dX10_cut_79
        · refine s_iload hX dX10_cut_49 0 rfl ?_
          refine s_callSir hX [.int r5] skJ6_bitCount_0f7a4 (fun r hF => c_J6_bitCount_0f7a4  hF) mkJ6_bitCount_0f7a4 cvX10_246 rfl rfl ⟨by omega, by decide, Nat.le_of_ble_eq_true rfl⟩ dX10_cut_51 (fun r7 => ?_)
          exact s_ireti hK hR dX10_cut_54
      · exact s_to hX [0] rfl (hj2)
theorem dX10_greatest_0 : decode cX10_greatest 0 = .ok (.aload_n 0, 1) := by decide +kernel
theorem dX10_greatest_1 : decode cX10_greatest 1 = .ok (.getfield 10, 3) := by decide +kernel
theorem dX10_greatest_4 : decode cX10_greatest 4 = .ok (.getfield 146, 3) := by decide +kernel
theorem dX10_greatest_7 : decode cX10_greatest 7 = .ok (.astore_n 2, 1) := by decide +kernel
theorem dX10_greatest_8 : decode cX10_greatest 8 = .ok (.aload_n 2, 1) := by decide +kernel
theorem dX10_greatest_9 : decode cX10_greatest 9 = .ok (.iload_n 1, 1) := by decide +kernel
theorem dX10_greatest_10 : decode cX10_greatest 10 = .ok (.invokevirtual 178, 3) := by decide +kernel
theorem dX10_greatest_13 : decode cX10_greatest 13 = .ok (.ifCond .ne 10, 3) := by decide +kernel
theorem dX10_greatest_16 : decode cX10_greatest 16 = .ok (.aload_n 0, 1) := by decide +kernel
theorem dX10_greatest_17 : decode cX10_greatest 17 = .ok (.bipush (-10), 2) := by decide +kernel
theorem dX10_greatest_19 : decode cX10_greatest 19 = .ok (.invokevirtual 181, 3) := by decide +kernel
theorem dX10_greatest_22 : decode cX10_greatest 22 = .ok (.ireturn, 1) := by decide +kernel
theorem dX10_greatest_23 : decode cX10_greatest 23 = .ok (.aload_n 2, 1) := by decide +kernel
theorem dX10_greatest_24 : decode cX10_greatest 24 = .ok (.invokevirtual 184, 3) := by decide +kernel
theorem dX10_greatest_27 : decode cX10_greatest 27 = .ok (.aload_n 2, 1) := by decide +kernel
theorem dX10_greatest_28 : decode cX10_greatest 28 = .ok (.iload_n 1, 1) := by decide +kernel
theorem dX10_greatest_29 : decode cX10_greatest 29 = .ok (.invokevirtual 187, 3) := by decide +kernel
theorem dX10_greatest_32 : decode cX10_greatest 32 = .ok (.ireturn, 1) := by decide +kernel
noncomputable def f_X10_greatest (x1 : Int32) (μ : Mem) : Option (Int32 × Mem) :=
  bd (f_X3_hasClouds 2 x1 μ) fun r1 =>
  if r1 = 0 then
    bd2 (f_X10_refuseAsBad (-10) μ) fun r4 ν5 =>
    some (r4, ν5)
  else
    bd (f_X3_look 2 μ) fun ν2 =>
    bd (f_X3_greatestBut 2 x1 ν2) fun r3 =>
    some (r3, ν2)
set_option maxHeartbeats 4000000 in
set_option maxRecDepth 100000 in
theorem c_X10_greatest {g : GT} {x1 : Int32} {μ : Mem} {μ0 : Mem} {r0 : Int32} (hf : f_X10_greatest x1 μ = some (r0, μ0)) : CI g yX10_greatest cX10_greatest 3 (some .int) 4 [rf g 0, .int x1] μ r0 μ0 := by
  refine mk_i (by decide) (Nat.le_of_ble_eq_true rfl) ?_
  intro G hX hR
  have hX : CX g G cX10_greatest RX10 3 4 := hX
  suffices S : ∀ K : (Int32 × Mem) → Prop, (∀ a, K a → a = (r0, μ0)) → Sim G (f_X10_greatest x1 μ) K 0 [(0, rf g 0), (1, .int x1)] [] μ from S (fun a => a = (r0, μ0)) (fun a h => h) _ hf rfl
  intro K hK
  unfold f_X10_greatest
  refine s_aload_n hX dX10_greatest_0 rfl 0 rfl ?_
  refine s_getR hX (d := 1) 1 flX10_10 rfl rfl dX10_greatest_1 ?_
  refine s_getR hX (d := 1) 2 flX10_146 rfl rfl dX10_greatest_4 ?_
  refine s_astore_n (lv' := [(2, rf g 2), (0, rf g 0), (1, .int x1)]) hX dX10_greatest_7 rfl (by decide) rfl ?_
  refine s_aload_n hX dX10_greatest_8 rfl 0 rfl ?_
  refine s_iload_n hX dX10_greatest_9 rfl 2 rfl ?_
  refine s_callVir hX [.int x1] (k := 2) (ci := 3) rfl hc3 vkX3_hasClouds (fun r hF => c_X3_hasClouds rfl hF) mkX3_hasClouds cvX10_178 rfl rfl ⟨by omega, by decide, Nat.le_of_ble_eq_true rfl⟩ dX10_greatest_10 (fun r1 => ?_)
  refine s_if_ne hX 23 dX10_greatest_13 (by decide) ?_ ?_
  · refine s_aload_n hX dX10_greatest_23 rfl 0 rfl ?_
    refine s_callVvw hX [] (k := 2) (ci := 3) rfl hc3 vkX3_look (fun ν hF => c_X3_look rfl hF) mkX3_look cvX10_184 rfl rfl ⟨by omega, by decide, Nat.le_of_ble_eq_true rfl⟩ dX10_greatest_24 (fun ν2 => ?_)
    refine s_aload_n hX dX10_greatest_27 rfl 0 rfl ?_
    refine s_iload_n hX dX10_greatest_28 rfl 2 rfl ?_
    refine s_callVir hX [.int x1] (k := 2) (ci := 3) rfl hc3 vkX3_greatestBut (fun r hF => c_X3_greatestBut rfl hF) mkX3_greatestBut cvX10_187 rfl rfl ⟨by omega, by decide, Nat.le_of_ble_eq_true rfl⟩ dX10_greatest_29 (fun r3 => ?_)
    exact s_ireti hK hR dX10_greatest_32
  · refine s_aload_n hX dX10_greatest_16 rfl 1 rfl ?_
    refine s_bipush (v := (-10)) hX dX10_greatest_17 (by decide) ?_
    refine s_callViw hX [.int (-10)] (k := 0) (ci := 9) rfl hc9 vkX10_refuseAsBad (fun r ν hF => c_X10_refuseAsBad  hF) mkX10_refuseAsBad cvX10_181 rfl rfl ⟨by omega, by decide, Nat.le_of_ble_eq_true rfl⟩ dX10_greatest_19 (fun r4 ν5 => ?_)
    exact s_ireti hK hR dX10_greatest_22
theorem dX10_of_0 : decode cX10_of 0 = .ok (.aload_n 0, 1) := by decide +kernel
theorem dX10_of_1 : decode cX10_of 1 = .ok (.getfield 10, 3) := by decide +kernel
theorem dX10_of_4 : decode cX10_of 4 = .ok (.getfield 146, 3) := by decide +kernel
theorem dX10_of_7 : decode cX10_of 7 = .ok (.astore_n 3, 1) := by decide +kernel
theorem dX10_of_8 : decode cX10_of 8 = .ok (.aload_n 3, 1) := by decide +kernel
theorem dX10_of_9 : decode cX10_of 9 = .ok (.iload_n 1, 1) := by decide +kernel
theorem dX10_of_10 : decode cX10_of 10 = .ok (.invokevirtual 149, 3) := by decide +kernel
theorem dX10_of_13 : decode cX10_of 13 = .ok (.ifCond .ne 10, 3) := by decide +kernel
theorem dX10_of_16 : decode cX10_of 16 = .ok (.aload_n 0, 1) := by decide +kernel
theorem dX10_of_17 : decode cX10_of 17 = .ok (.bipush (-2), 2) := by decide +kernel
theorem dX10_of_19 : decode cX10_of 19 = .ok (.invokevirtual 90, 3) := by decide +kernel
theorem dX10_of_22 : decode cX10_of 22 = .ok (.ireturn, 1) := by decide +kernel
theorem dX10_of_23 : decode cX10_of 23 = .ok (.iload_n 2, 1) := by decide +kernel
theorem dX10_of_24 : decode cX10_of 24 = .ok (.tableswitch 69 0 4 #[36, 43, 50, 57, 63], 36) := by decide +kernel
theorem dX10_of_60 : decode cX10_of 60 = .ok (.aload_n 3, 1) := by decide +kernel
theorem dX10_of_61 : decode cX10_of 61 = .ok (.getfield 153, 3) := by decide +kernel
theorem dX10_of_64 : decode cX10_of 64 = .ok (.iload_n 1, 1) := by decide +kernel
theorem dX10_of_65 : decode cX10_of 65 = .ok (.iaload, 1) := by decide +kernel
theorem dX10_of_66 : decode cX10_of 66 = .ok (.ireturn, 1) := by decide +kernel
theorem dX10_of_67 : decode cX10_of 67 = .ok (.aload_n 3, 1) := by decide +kernel
theorem dX10_of_68 : decode cX10_of 68 = .ok (.getfield 157, 3) := by decide +kernel
theorem dX10_of_71 : decode cX10_of 71 = .ok (.iload_n 1, 1) := by decide +kernel
theorem dX10_of_72 : decode cX10_of 72 = .ok (.iaload, 1) := by decide +kernel
theorem dX10_of_73 : decode cX10_of 73 = .ok (.ireturn, 1) := by decide +kernel
theorem dX10_of_74 : decode cX10_of 74 = .ok (.aload_n 3, 1) := by decide +kernel
theorem dX10_of_75 : decode cX10_of 75 = .ok (.getfield 160, 3) := by decide +kernel
theorem dX10_of_78 : decode cX10_of 78 = .ok (.iload_n 1, 1) := by decide +kernel
theorem dX10_of_79 : decode cX10_of 79 = .ok (.iaload, 1) := by decide +kernel
theorem dX10_of_80 : decode cX10_of 80 = .ok (.ireturn, 1) := by decide +kernel
theorem dX10_of_81 : decode cX10_of 81 = .ok (.aload_n 3, 1) := by decide +kernel
theorem dX10_of_82 : decode cX10_of 82 = .ok (.iload_n 1, 1) := by decide +kernel
theorem dX10_of_83 : decode cX10_of 83 = .ok (.invokevirtual 163, 3) := by decide +kernel
theorem dX10_of_86 : decode cX10_of 86 = .ok (.ireturn, 1) := by decide +kernel
theorem dX10_of_87 : decode cX10_of 87 = .ok (.aload_n 3, 1) := by decide +kernel
theorem dX10_of_88 : decode cX10_of 88 = .ok (.iload_n 1, 1) := by decide +kernel
theorem dX10_of_89 : decode cX10_of 89 = .ok (.invokevirtual 166, 3) := by decide +kernel
theorem dX10_of_92 : decode cX10_of 92 = .ok (.ireturn, 1) := by decide +kernel
theorem dX10_of_93 : decode cX10_of 93 = .ok (.aload_n 0, 1) := by decide +kernel
theorem dX10_of_94 : decode cX10_of 94 = .ok (.bipush (-2), 2) := by decide +kernel
theorem dX10_of_96 : decode cX10_of 96 = .ok (.invokevirtual 90, 3) := by decide +kernel
theorem dX10_of_99 : decode cX10_of 99 = .ok (.ireturn, 1) := by decide +kernel
noncomputable def f_X10_of (x1 : Int32) (x2 : Int32) (μ : Mem) : Option (Int32 × Mem) :=
  bd (f_X3_hasLot 2 x1 μ) fun r1 =>
  if r1 = 0 then
    bd2 (f_X10_tally (-2) μ) fun r11 ν12 =>
    some (r11, ν12)
  else
    if x2 = 0 then
      chk x1 10 (
        some ((μ.1 3 (ix x1)), μ)
        )
    else
    if x2 = 1 then
      chk x1 10 (
        some ((μ.1 4 (ix x1)), μ)
        )
    else
    if x2 = 2 then
      chk x1 10 (
        some ((μ.1 5 (ix x1)), μ)
        )
    else
    if x2 = 3 then
      bd (f_X3_seenOf 2 x1 μ) fun r5 =>
      some (r5, μ)
    else
    if x2 = 4 then
      bd (f_X3_takenOf 2 x1 μ) fun r7 =>
      some (r7, μ)
    else
    bd2 (f_X10_tally (-2) μ) fun r9 ν10 =>
    some (r9, ν10)
set_option maxHeartbeats 4000000 in
set_option maxRecDepth 100000 in
theorem c_X10_of {g : GT} {x1 : Int32} {x2 : Int32} {μ : Mem} {μ0 : Mem} {r0 : Int32} (hf : f_X10_of x1 x2 μ = some (r0, μ0)) : CI g yX10_of cX10_of 4 (some .int) 4 [rf g 0, .int x1, .int x2] μ r0 μ0 := by
  refine mk_i (by decide) (Nat.le_of_ble_eq_true rfl) ?_
  intro G hX hR
  have hX : CX g G cX10_of RX10 4 4 := hX
  suffices S : ∀ K : (Int32 × Mem) → Prop, (∀ a, K a → a = (r0, μ0)) → Sim G (f_X10_of x1 x2 μ) K 0 [(0, rf g 0), (1, .int x1), (2, .int x2)] [] μ from S (fun a => a = (r0, μ0)) (fun a h => h) _ hf rfl
  intro K hK
  unfold f_X10_of
  refine s_aload_n hX dX10_of_0 rfl 0 rfl ?_
  refine s_getR hX (d := 1) 1 flX10_10 rfl rfl dX10_of_1 ?_
  refine s_getR hX (d := 1) 2 flX10_146 rfl rfl dX10_of_4 ?_
  refine s_astore_n (lv' := [(3, rf g 2), (0, rf g 0), (1, .int x1), (2, .int x2)]) hX dX10_of_7 rfl (by decide) rfl ?_
  refine s_aload_n hX dX10_of_8 rfl 0 rfl ?_
  refine s_iload_n hX dX10_of_9 rfl 2 rfl ?_
  refine s_callVir hX [.int x1] (k := 2) (ci := 3) rfl hc3 vkX3_hasLot (fun r hF => c_X3_hasLot rfl hF) mkX3_hasLot cvX10_149 rfl rfl ⟨by omega, by decide, Nat.le_of_ble_eq_true rfl⟩ dX10_of_10 (fun r1 => ?_)
  refine s_if_ne hX 23 dX10_of_13 (by decide) ?_ ?_
  · refine s_iload_n hX dX10_of_23 rfl 3 rfl ?_
    refine s_tabC (v := 0) (a := 0) hX 60 dX10_of_24 (by decide) (by decide) (by decide) rfl (by decide) ?_ (fun hne2 => ?_)
    · refine s_aload_n hX dX10_of_60 rfl 0 rfl ?_
      refine s_getR hX (d := 1) 3 flX10_153 rfl rfl dX10_of_61 ?_
      refine s_iload_n hX dX10_of_64 rfl 2 rfl ?_
      refine s_iald hX rfl rfl dX10_of_65 ?_
      exact s_ireti hK hR dX10_of_66
    refine s_tabC (v := 1) (a := 1) hX 67 dX10_of_24 (by decide) (by decide) (by decide) rfl (by decide) ?_ (fun hne3 => ?_)
    · refine s_aload_n hX dX10_of_67 rfl 0 rfl ?_
      refine s_getR hX (d := 2) 4 flX10_157 rfl rfl dX10_of_68 ?_
      refine s_iload_n hX dX10_of_71 rfl 2 rfl ?_
      refine s_iald hX rfl rfl dX10_of_72 ?_
      exact s_ireti hK hR dX10_of_73
    refine s_tabC (v := 2) (a := 2) hX 74 dX10_of_24 (by decide) (by decide) (by decide) rfl (by decide) ?_ (fun hne4 => ?_)
    · refine s_aload_n hX dX10_of_74 rfl 0 rfl ?_
      refine s_getR hX (d := 3) 5 flX10_160 rfl rfl dX10_of_75 ?_
      refine s_iload_n hX dX10_of_78 rfl 2 rfl ?_
      refine s_iald hX rfl rfl dX10_of_79 ?_
      exact s_ireti hK hR dX10_of_80
    refine s_tabC (v := 3) (a := 3) hX 81 dX10_of_24 (by decide) (by decide) (by decide) rfl (by decide) ?_ (fun hne6 => ?_)
    · refine s_aload_n hX dX10_of_81 rfl 0 rfl ?_
      refine s_iload_n hX dX10_of_82 rfl 2 rfl ?_
      refine s_callVir hX [.int x1] (k := 2) (ci := 3) rfl hc3 vkX3_seenOf (fun r hF => c_X3_seenOf rfl hF) mkX3_seenOf cvX10_163 rfl rfl ⟨by omega, by decide, Nat.le_of_ble_eq_true rfl⟩ dX10_of_83 (fun r5 => ?_)
      exact s_ireti hK hR dX10_of_86
    refine s_tabC (v := 4) (a := 4) hX 87 dX10_of_24 (by decide) (by decide) (by decide) rfl (by decide) ?_ (fun hne8 => ?_)
    · refine s_aload_n hX dX10_of_87 rfl 0 rfl ?_
      refine s_iload_n hX dX10_of_88 rfl 2 rfl ?_
      refine s_callVir hX [.int x1] (k := 2) (ci := 3) rfl hc3 vkX3_takenOf (fun r hF => c_X3_takenOf rfl hF) mkX3_takenOf cvX10_166 rfl rfl ⟨by omega, by decide, Nat.le_of_ble_eq_true rfl⟩ dX10_of_89 (fun r7 => ?_)
      exact s_ireti hK hR dX10_of_92
    refine s_tabD hX 93 dX10_of_24 (by omega) (by decide) ?_
    refine s_aload_n hX dX10_of_93 rfl 1 rfl ?_
    refine s_bipush (v := (-2)) hX dX10_of_94 (by decide) ?_
    refine s_callViw hX [.int (-2)] (k := 0) (ci := 9) rfl hc9 vkX10_tally (fun r ν hF => c_X10_tally  hF) mkX10_tally cvX10_90 rfl rfl ⟨by omega, by decide, Nat.le_of_ble_eq_true rfl⟩ dX10_of_96 (fun r9 ν10 => ?_)
    exact s_ireti hK hR dX10_of_99
  · refine s_aload_n hX dX10_of_16 rfl 1 rfl ?_
    refine s_bipush (v := (-2)) hX dX10_of_17 (by decide) ?_
    refine s_callViw hX [.int (-2)] (k := 0) (ci := 9) rfl hc9 vkX10_tally (fun r ν hF => c_X10_tally  hF) mkX10_tally cvX10_90 rfl rfl ⟨by omega, by decide, Nat.le_of_ble_eq_true rfl⟩ dX10_of_19 (fun r11 ν12 => ?_)
    exact s_ireti hK hR dX10_of_22
theorem dX10_road_0 : decode cX10_road 0 = .ok (.aload_n 0, 1) := by decide +kernel
theorem dX10_road_1 : decode cX10_road 1 = .ok (.aload_n 0, 1) := by decide +kernel
theorem dX10_road_2 : decode cX10_road 2 = .ok (.getfield 10, 3) := by decide +kernel
theorem dX10_road_5 : decode cX10_road 5 = .ok (.iload_n 1, 1) := by decide +kernel
theorem dX10_road_6 : decode cX10_road 6 = .ok (.iload_n 2, 1) := by decide +kernel
theorem dX10_road_7 : decode cX10_road 7 = .ok (.invokevirtual 114, 3) := by decide +kernel
theorem dX10_road_10 : decode cX10_road 10 = .ok (.invokevirtual 90, 3) := by decide +kernel
theorem dX10_road_13 : decode cX10_road 13 = .ok (.ireturn, 1) := by decide +kernel
noncomputable def f_X10_road (x1 : Int32) (x2 : Int32) (μ : Mem) : Option (Int32 × Mem) :=
  bd2 (f_X0_addRoad 1 x1 x2 μ) fun r1 ν2 =>
  bd2 (f_X10_tally r1 ν2) fun r3 ν4 =>
  some (r3, ν4)
set_option maxHeartbeats 4000000 in
set_option maxRecDepth 100000 in
theorem c_X10_road {g : GT} {x1 : Int32} {x2 : Int32} {μ : Mem} {μ0 : Mem} {r0 : Int32} (hf : f_X10_road x1 x2 μ = some (r0, μ0)) : CI g yX10_road cX10_road 3 (some .int) 4 [rf g 0, .int x1, .int x2] μ r0 μ0 := by
  refine mk_i (by decide) (Nat.le_of_ble_eq_true rfl) ?_
  intro G hX hR
  have hX : CX g G cX10_road RX10 3 4 := hX
  suffices S : ∀ K : (Int32 × Mem) → Prop, (∀ a, K a → a = (r0, μ0)) → Sim G (f_X10_road x1 x2 μ) K 0 [(0, rf g 0), (1, .int x1), (2, .int x2)] [] μ from S (fun a => a = (r0, μ0)) (fun a h => h) _ hf rfl
  intro K hK
  unfold f_X10_road
  refine s_aload_n hX dX10_road_0 rfl 0 rfl ?_
  refine s_aload_n hX dX10_road_1 rfl 0 rfl ?_
  refine s_getR hX (d := 1) 1 flX10_10 rfl rfl dX10_road_2 ?_
  refine s_iload_n hX dX10_road_5 rfl 1 rfl ?_
  refine s_iload_n hX dX10_road_6 rfl 2 rfl ?_
  refine s_callViw hX [.int x1, .int x2] (k := 1) (ci := 0) rfl hc0 vkX0_addRoad (fun r ν hF => c_X0_addRoad rfl hF) mkX0_addRoad cvX10_114 rfl rfl ⟨by omega, by decide, Nat.le_of_ble_eq_true rfl⟩ dX10_road_7 (fun r1 ν2 => ?_)
  refine s_callViw hX [.int r1] (k := 0) (ci := 9) rfl hc9 vkX10_tally (fun r ν hF => c_X10_tally  hF) mkX10_tally cvX10_90 rfl rfl ⟨by omega, by decide, Nat.le_of_ble_eq_true rfl⟩ dX10_road_10 (fun r3 ν4 => ?_)
  exact s_ireti hK hR dX10_road_13
theorem dX10_tellItem_0 : decode cX10_tellItem 0 = .ok (.aload_n 0, 1) := by decide +kernel
theorem dX10_tellItem_1 : decode cX10_tellItem 1 = .ok (.getfield 27, 3) := by decide +kernel
theorem dX10_tellItem_4 : decode cX10_tellItem 4 = .ok (.iload_n 1, 1) := by decide +kernel
theorem dX10_tellItem_5 : decode cX10_tellItem 5 = .ok (.iconst 0, 1) := by decide +kernel
theorem dX10_tellItem_6 : decode cX10_tellItem 6 = .ok (.invokevirtual 335, 3) := by decide +kernel
theorem dX10_tellItem_9 : decode cX10_tellItem 9 = .ok (.istore_n 2, 1) := by decide +kernel
theorem dX10_tellItem_10 : decode cX10_tellItem 10 = .ok (.aload_n 0, 1) := by decide +kernel
theorem dX10_tellItem_11 : decode cX10_tellItem 11 = .ok (.getfield 27, 3) := by decide +kernel
theorem dX10_tellItem_14 : decode cX10_tellItem 14 = .ok (.iload_n 1, 1) := by decide +kernel
theorem dX10_tellItem_15 : decode cX10_tellItem 15 = .ok (.iconst 1, 1) := by decide +kernel
theorem dX10_tellItem_16 : decode cX10_tellItem 16 = .ok (.invokevirtual 335, 3) := by decide +kernel
theorem dX10_tellItem_19 : decode cX10_tellItem 19 = .ok (.istore_n 3, 1) := by decide +kernel
theorem dX10_tellItem_20 : decode cX10_tellItem 20 = .ok (.aload_n 0, 1) := by decide +kernel
theorem dX10_tellItem_21 : decode cX10_tellItem 21 = .ok (.getfield 27, 3) := by decide +kernel
theorem dX10_tellItem_24 : decode cX10_tellItem 24 = .ok (.getfield 338, 3) := by decide +kernel
theorem dX10_tellItem_27 : decode cX10_tellItem 27 = .ok (.iload_n 1, 1) := by decide +kernel
theorem dX10_tellItem_28 : decode cX10_tellItem 28 = .ok (.iaload, 1) := by decide +kernel
theorem dX10_tellItem_29 : decode cX10_tellItem 29 = .ok (.tableswitch 92 0 4 #[35, 44, 63, 72, 82], 35) := by decide +kernel
theorem dX10_tellItem_64 : decode cX10_tellItem 64 = .ok (.aload_n 0, 1) := by decide +kernel
theorem dX10_tellItem_65 : decode cX10_tellItem 65 = .ok (.getfield 31, 3) := by decide +kernel
theorem dX10_tellItem_68 : decode cX10_tellItem 68 = .ok (.iload_n 2, 1) := by decide +kernel
theorem dX10_tellItem_69 : decode cX10_tellItem 69 = .ok (.invokevirtual 86, 3) := by decide +kernel
theorem dX10_tellItem_72 : decode cX10_tellItem 72 = .ok (.ireturn, 1) := by decide +kernel
theorem dX10_tellItem_73 : decode cX10_tellItem 73 = .ok (.aload_n 0, 1) := by decide +kernel
theorem dX10_tellItem_74 : decode cX10_tellItem 74 = .ok (.getfield 31, 3) := by decide +kernel
theorem dX10_tellItem_77 : decode cX10_tellItem 77 = .ok (.iload_n 2, 1) := by decide +kernel
theorem dX10_tellItem_78 : decode cX10_tellItem 78 = .ok (.iload_n 3, 1) := by decide +kernel
theorem dX10_tellItem_79 : decode cX10_tellItem 79 = .ok (.aload_n 0, 1) := by decide +kernel
theorem dX10_tellItem_80 : decode cX10_tellItem 80 = .ok (.getfield 27, 3) := by decide +kernel
theorem dX10_tellItem_83 : decode cX10_tellItem 83 = .ok (.iload_n 1, 1) := by decide +kernel
theorem dX10_tellItem_84 : decode cX10_tellItem 84 = .ok (.iconst 2, 1) := by decide +kernel
theorem dX10_tellItem_85 : decode cX10_tellItem 85 = .ok (.invokevirtual 335, 3) := by decide +kernel
theorem dX10_tellItem_88 : decode cX10_tellItem 88 = .ok (.invokevirtual 93, 3) := by decide +kernel
theorem dX10_tellItem_91 : decode cX10_tellItem 91 = .ok (.ireturn, 1) := by decide +kernel
theorem dX10_tellItem_92 : decode cX10_tellItem 92 = .ok (.aload_n 0, 1) := by decide +kernel
theorem dX10_tellItem_93 : decode cX10_tellItem 93 = .ok (.getfield 31, 3) := by decide +kernel
theorem dX10_tellItem_96 : decode cX10_tellItem 96 = .ok (.iload_n 2, 1) := by decide +kernel
theorem dX10_tellItem_97 : decode cX10_tellItem 97 = .ok (.invokevirtual 108, 3) := by decide +kernel
theorem dX10_tellItem_100 : decode cX10_tellItem 100 = .ok (.ireturn, 1) := by decide +kernel
theorem dX10_tellItem_101 : decode cX10_tellItem 101 = .ok (.aload_n 0, 1) := by decide +kernel
theorem dX10_tellItem_102 : decode cX10_tellItem 102 = .ok (.getfield 31, 3) := by decide +kernel
theorem dX10_tellItem_105 : decode cX10_tellItem 105 = .ok (.iload_n 2, 1) := by decide +kernel
theorem dX10_tellItem_106 : decode cX10_tellItem 106 = .ok (.iload_n 3, 1) := by decide +kernel
theorem dX10_tellItem_107 : decode cX10_tellItem 107 = .ok (.invokevirtual 111, 3) := by decide +kernel
theorem dX10_tellItem_110 : decode cX10_tellItem 110 = .ok (.ireturn, 1) := by decide +kernel
theorem dX10_tellItem_111 : decode cX10_tellItem 111 = .ok (.aload_n 0, 1) := by decide +kernel
theorem dX10_tellItem_112 : decode cX10_tellItem 112 = .ok (.getfield 31, 3) := by decide +kernel
theorem dX10_tellItem_115 : decode cX10_tellItem 115 = .ok (.iload_n 2, 1) := by decide +kernel
theorem dX10_tellItem_116 : decode cX10_tellItem 116 = .ok (.iload_n 3, 1) := by decide +kernel
theorem dX10_tellItem_117 : decode cX10_tellItem 117 = .ok (.invokevirtual 114, 3) := by decide +kernel
theorem dX10_tellItem_120 : decode cX10_tellItem 120 = .ok (.ireturn, 1) := by decide +kernel
theorem dX10_tellItem_121 : decode cX10_tellItem 121 = .ok (.aload_n 0, 1) := by decide +kernel
theorem dX10_tellItem_122 : decode cX10_tellItem 122 = .ok (.getfield 31, 3) := by decide +kernel
theorem dX10_tellItem_125 : decode cX10_tellItem 125 = .ok (.iload_n 2, 1) := by decide +kernel
theorem dX10_tellItem_126 : decode cX10_tellItem 126 = .ok (.iconst 1, 1) := by decide +kernel
theorem dX10_tellItem_127 : decode cX10_tellItem 127 = .ok (.invokevirtual 117, 3) := by decide +kernel
theorem dX10_tellItem_130 : decode cX10_tellItem 130 = .ok (.ireturn, 1) := by decide +kernel
noncomputable def f_X10_tellItem (x1 : Int32) (μ : Mem) : Option (Int32 × Mem) :=
  bd (f_X8_numberOf x1 0 μ) fun r1 =>
  bd (f_X8_numberOf x1 1 μ) fun r2 =>
  chk x1 30 (
    if (μ.1 47 (ix x1)) = 0 then
      bd2 (f_X0_startAnew 49 r1 μ) fun r3 ν4 =>
      some (r3, ν4)
    else
    if (μ.1 47 (ix x1)) = 1 then
      bd (f_X8_numberOf x1 2 μ) fun r6 =>
      bd2 (f_X0_addLot 49 r1 r2 r6 μ) fun r7 ν8 =>
      some (r7, ν8)
    else
    if (μ.1 47 (ix x1)) = 2 then
      bd2 (f_X0_setGrowth 49 r1 μ) fun r10 ν11 =>
      some (r10, ν11)
    else
    if (μ.1 47 (ix x1)) = 3 then
      bd2 (f_X0_setOdds 49 r1 r2 μ) fun r13 ν14 =>
      some (r13, ν14)
    else
    if (μ.1 47 (ix x1)) = 4 then
      bd2 (f_X0_addRoad 49 r1 r2 μ) fun r16 ν17 =>
      some (r16, ν17)
    else
    bd2 (f_X0_setGuard 49 r1 1 μ) fun r19 ν20 =>
    some (r19, ν20)
    )
set_option maxHeartbeats 4000000 in
set_option maxRecDepth 100000 in
theorem c_X10_tellItem {g : GT} {x1 : Int32} {μ : Mem} {μ0 : Mem} {r0 : Int32} (hf : f_X10_tellItem x1 μ = some (r0, μ0)) : CI g yX10_tellItem cX10_tellItem 4 (some .int) 4 [rf g 0, .int x1] μ r0 μ0 := by
  refine mk_i (by decide) (Nat.le_of_ble_eq_true rfl) ?_
  intro G hX hR
  have hX : CX g G cX10_tellItem RX10 4 4 := hX
  suffices S : ∀ K : (Int32 × Mem) → Prop, (∀ a, K a → a = (r0, μ0)) → Sim G (f_X10_tellItem x1 μ) K 0 [(0, rf g 0), (1, .int x1)] [] μ from S (fun a => a = (r0, μ0)) (fun a h => h) _ hf rfl
  intro K hK
  unfold f_X10_tellItem
  refine s_aload_n hX dX10_tellItem_0 rfl 0 rfl ?_
  refine s_getR hX (d := 45) 45 flX10_27 rfl rfl dX10_tellItem_1 ?_
  refine s_iload_n hX dX10_tellItem_4 rfl 1 rfl ?_
  refine s_iconst (v := 0) hX dX10_tellItem_5 (by decide) ?_
  refine s_callVir hX [.int x1, .int 0] (k := 45) (ci := 7) rfl hc7 vkX8_numberOf (fun r hF => c_X8_numberOf  hF) mkX8_numberOf cvX10_335 rfl rfl ⟨by omega, by decide, Nat.le_of_ble_eq_true rfl⟩ dX10_tellItem_6 (fun r1 => ?_)
  refine s_istore_n (lv' := [(2, .int r1), (0, rf g 0), (1, .int x1)]) hX dX10_tellItem_9 rfl (by decide) rfl ?_
  refine s_aload_n hX dX10_tellItem_10 rfl 1 rfl ?_
  refine s_getR hX (d := 45) 45 flX10_27 rfl rfl dX10_tellItem_11 ?_
  refine s_iload_n hX dX10_tellItem_14 rfl 2 rfl ?_
  refine s_iconst (v := 1) hX dX10_tellItem_15 (by decide) ?_
  refine s_callVir hX [.int x1, .int 1] (k := 45) (ci := 7) rfl hc7 vkX8_numberOf (fun r hF => c_X8_numberOf  hF) mkX8_numberOf cvX10_335 rfl rfl ⟨by omega, by decide, Nat.le_of_ble_eq_true rfl⟩ dX10_tellItem_16 (fun r2 => ?_)
  refine s_istore_n (lv' := [(3, .int r2), (2, .int r1), (0, rf g 0), (1, .int x1)]) hX dX10_tellItem_19 rfl (by decide) rfl ?_
  refine s_aload_n hX dX10_tellItem_20 rfl 2 rfl ?_
  refine s_getR hX (d := 45) 45 flX10_27 rfl rfl dX10_tellItem_21 ?_
  refine s_getR hX (d := 2) 47 flX10_338 rfl rfl dX10_tellItem_24 ?_
  refine s_iload_n hX dX10_tellItem_27 rfl 3 rfl ?_
  refine s_iald hX rfl rfl dX10_tellItem_28 ?_
  refine s_tabC (v := 0) (a := 0) hX 64 dX10_tellItem_29 (by decide) (by decide) (by decide) rfl (by decide) ?_ (fun hne5 => ?_)
  · refine s_aload_n hX dX10_tellItem_64 rfl 2 rfl ?_
    refine s_getR hX (d := 49) 49 flX10_31 rfl rfl dX10_tellItem_65 ?_
    refine s_iload_n hX dX10_tellItem_68 rfl 1 rfl ?_
    refine s_callViw hX [.int r1] (k := 49) (ci := 0) rfl hc0 vkX0_startAnew (fun r ν hF => c_X0_startAnew rfl hF) mkX0_startAnew cvX10_86 rfl rfl ⟨by omega, by decide, Nat.le_of_ble_eq_true rfl⟩ dX10_tellItem_69 (fun r3 ν4 => ?_)
    exact s_ireti hK hR dX10_tellItem_72
  refine s_tabC (v := 1) (a := 1) hX 73 dX10_tellItem_29 (by decide) (by decide) (by decide) rfl (by decide) ?_ (fun hne9 => ?_)
  · refine s_aload_n hX dX10_tellItem_73 rfl 2 rfl ?_
    refine s_getR hX (d := 49) 49 flX10_31 rfl rfl dX10_tellItem_74 ?_
    refine s_iload_n hX dX10_tellItem_77 rfl 1 rfl ?_
    refine s_iload_n hX dX10_tellItem_78 rfl 0 rfl ?_
    refine s_aload_n hX dX10_tellItem_79 rfl 2 rfl ?_
    refine s_getR hX (d := 45) 45 flX10_27 rfl rfl dX10_tellItem_80 ?_
    refine s_iload_n hX dX10_tellItem_83 rfl 3 rfl ?_
    refine s_iconst (v := 2) hX dX10_tellItem_84 (by decide) ?_
    refine s_callVir hX [.int x1, .int 2] (k := 45) (ci := 7) rfl hc7 vkX8_numberOf (fun r hF => c_X8_numberOf  hF) mkX8_numberOf cvX10_335 rfl rfl ⟨by omega, by decide, Nat.le_of_ble_eq_true rfl⟩ dX10_tellItem_85 (fun r6 => ?_)
    refine s_callViw hX [.int r1, .int r2, .int r6] (k := 49) (ci := 0) rfl hc0 vkX0_addLot (fun r ν hF => c_X0_addLot rfl hF) mkX0_addLot cvX10_93 rfl rfl ⟨by omega, by decide, Nat.le_of_ble_eq_true rfl⟩ dX10_tellItem_88 (fun r7 ν8 => ?_)
    exact s_ireti hK hR dX10_tellItem_91
  refine s_tabC (v := 2) (a := 2) hX 92 dX10_tellItem_29 (by decide) (by decide) (by decide) rfl (by decide) ?_ (fun hne12 => ?_)
  · refine s_aload_n hX dX10_tellItem_92 rfl 2 rfl ?_
    refine s_getR hX (d := 49) 49 flX10_31 rfl rfl dX10_tellItem_93 ?_
    refine s_iload_n hX dX10_tellItem_96 rfl 1 rfl ?_
    refine s_callViw hX [.int r1] (k := 49) (ci := 0) rfl hc0 vkX0_setGrowth (fun r ν hF => c_X0_setGrowth rfl hF) mkX0_setGrowth cvX10_108 rfl rfl ⟨by omega, by decide, Nat.le_of_ble_eq_true rfl⟩ dX10_tellItem_97 (fun r10 ν11 => ?_)
    exact s_ireti hK hR dX10_tellItem_100
  refine s_tabC (v := 3) (a := 3) hX 101 dX10_tellItem_29 (by decide) (by decide) (by decide) rfl (by decide) ?_ (fun hne15 => ?_)
  · refine s_aload_n hX dX10_tellItem_101 rfl 2 rfl ?_
    refine s_getR hX (d := 49) 49 flX10_31 rfl rfl dX10_tellItem_102 ?_
    refine s_iload_n hX dX10_tellItem_105 rfl 1 rfl ?_
    refine s_iload_n hX dX10_tellItem_106 rfl 0 rfl ?_
    refine s_callViw hX [.int r1, .int r2] (k := 49) (ci := 0) rfl hc0 vkX0_setOdds (fun r ν hF => c_X0_setOdds rfl hF) mkX0_setOdds cvX10_111 rfl rfl ⟨by omega, by decide, Nat.le_of_ble_eq_true rfl⟩ dX10_tellItem_107 (fun r13 ν14 => ?_)
    exact s_ireti hK hR dX10_tellItem_110
  refine s_tabC (v := 4) (a := 4) hX 111 dX10_tellItem_29 (by decide) (by decide) (by decide) rfl (by decide) ?_ (fun hne18 => ?_)
  · refine s_aload_n hX dX10_tellItem_111 rfl 2 rfl ?_
    refine s_getR hX (d := 49) 49 flX10_31 rfl rfl dX10_tellItem_112 ?_
    refine s_iload_n hX dX10_tellItem_115 rfl 1 rfl ?_
    refine s_iload_n hX dX10_tellItem_116 rfl 0 rfl ?_
    refine s_callViw hX [.int r1, .int r2] (k := 49) (ci := 0) rfl hc0 vkX0_addRoad (fun r ν hF => c_X0_addRoad rfl hF) mkX0_addRoad cvX10_114 rfl rfl ⟨by omega, by decide, Nat.le_of_ble_eq_true rfl⟩ dX10_tellItem_117 (fun r16 ν17 => ?_)
    exact s_ireti hK hR dX10_tellItem_120
  refine s_tabD hX 121 dX10_tellItem_29 (by omega) (by decide) ?_
  refine s_aload_n hX dX10_tellItem_121 rfl 2 rfl ?_
  refine s_getR hX (d := 49) 49 flX10_31 rfl rfl dX10_tellItem_122 ?_
  refine s_iload_n hX dX10_tellItem_125 rfl 1 rfl ?_
  refine s_iconst (v := 1) hX dX10_tellItem_126 (by decide) ?_
  refine s_callViw hX [.int r1, .int 1] (k := 49) (ci := 0) rfl hc0 vkX0_setGuard (fun r ν hF => c_X0_setGuard rfl hF) mkX0_setGuard cvX10_117 rfl rfl ⟨by omega, by decide, Nat.le_of_ble_eq_true rfl⟩ dX10_tellItem_127 (fun r19 ν20 => ?_)
  exact s_ireti hK hR dX10_tellItem_130
theorem dX10_village_0 : decode cX10_village 0 = .ok (.aload_n 0, 1) := by decide +kernel
theorem dX10_village_1 : decode cX10_village 1 = .ok (.getfield 10, 3) := by decide +kernel
theorem dX10_village_4 : decode cX10_village 4 = .ok (.getfield 146, 3) := by decide +kernel
theorem dX10_village_7 : decode cX10_village 7 = .ok (.astore_n 3, 1) := by decide +kernel
theorem dX10_village_8 : decode cX10_village 8 = .ok (.aload_n 3, 1) := by decide +kernel
theorem dX10_village_9 : decode cX10_village 9 = .ok (.iload_n 1, 1) := by decide +kernel
theorem dX10_village_10 : decode cX10_village 10 = .ok (.invokevirtual 169, 3) := by decide +kernel
theorem dX10_village_13 : decode cX10_village 13 = .ok (.ifCond .eq 12, 3) := by decide +kernel
theorem dX10_village_16 : decode cX10_village 16 = .ok (.iload_n 2, 1) := by decide +kernel
theorem dX10_village_17 : decode cX10_village 17 = .ok (.ifCond .lt 8, 3) := by decide +kernel
theorem dX10_village_20 : decode cX10_village 20 = .ok (.iload_n 2, 1) := by decide +kernel
theorem dX10_village_21 : decode cX10_village 21 = .ok (.iconst 1, 1) := by decide +kernel
theorem dX10_village_22 : decode cX10_village 22 = .ok (.if_icmp .le 10, 3) := by decide +kernel
theorem dX10_village_25 : decode cX10_village 25 = .ok (.aload_n 0, 1) := by decide +kernel
theorem dX10_village_26 : decode cX10_village 26 = .ok (.bipush (-2), 2) := by decide +kernel
theorem dX10_village_28 : decode cX10_village 28 = .ok (.invokevirtual 90, 3) := by decide +kernel
theorem dX10_village_31 : decode cX10_village 31 = .ok (.ireturn, 1) := by decide +kernel
theorem dX10_village_32 : decode cX10_village 32 = .ok (.iload_n 2, 1) := by decide +kernel
theorem dX10_village_33 : decode cX10_village 33 = .ok (.ifCond .ne 11, 3) := by decide +kernel
theorem dX10_village_36 : decode cX10_village 36 = .ok (.aload_n 3, 1) := by decide +kernel
theorem dX10_village_37 : decode cX10_village 37 = .ok (.iload_n 1, 1) := by decide +kernel
theorem dX10_village_38 : decode cX10_village 38 = .ok (.invokevirtual 172, 3) := by decide +kernel
theorem dX10_village_41 : decode cX10_village 41 = .ok (.goto 8, 3) := by decide +kernel
theorem dX10_village_44 : decode cX10_village 44 = .ok (.aload_n 3, 1) := by decide +kernel
theorem dX10_village_45 : decode cX10_village 45 = .ok (.iload_n 1, 1) := by decide +kernel
theorem dX10_village_46 : decode cX10_village 46 = .ok (.invokevirtual 175, 3) := by decide +kernel
theorem dX10_village_49 : decode cX10_village 49 = .ok (.ireturn, 1) := by decide +kernel
noncomputable def f_X10_village (x1 : Int32) (x2 : Int32) (μ : Mem) : Option (Int32 × Mem) :=
  bd (f_X3_hasVillage 2 x1 μ) fun r1 =>
  jn (
    bd2 (f_X10_tally (-2) μ) fun r3 ν4 =>
    some (r3, ν4)
    ) fun j2 =>
  if r1 = 0 then
    j2
  else
    if x2 < 0 then
      j2
    else
      if 1 < x2 then
        j2
      else
        jn (fun (y5 : Int32) =>
          some (y5, μ)
          ) fun j6 =>
        if x2 = 0 then
          bd (f_X3_sightOf 2 x1 μ) fun r8 =>
          j6 r8
        else
          bd (f_X3_headsIn 2 x1 μ) fun r7 =>
          j6 r7
set_option maxHeartbeats 4000000 in
set_option maxRecDepth 100000 in
theorem c_X10_village {g : GT} {x1 : Int32} {x2 : Int32} {μ : Mem} {μ0 : Mem} {r0 : Int32} (hf : f_X10_village x1 x2 μ = some (r0, μ0)) : CI g yX10_village cX10_village 4 (some .int) 4 [rf g 0, .int x1, .int x2] μ r0 μ0 := by
  refine mk_i (by decide) (Nat.le_of_ble_eq_true rfl) ?_
  intro G hX hR
  have hX : CX g G cX10_village RX10 4 4 := hX
  suffices S : ∀ K : (Int32 × Mem) → Prop, (∀ a, K a → a = (r0, μ0)) → Sim G (f_X10_village x1 x2 μ) K 0 [(0, rf g 0), (1, .int x1), (2, .int x2)] [] μ from S (fun a => a = (r0, μ0)) (fun a h => h) _ hf rfl
  intro K hK
  unfold f_X10_village
  refine s_aload_n hX dX10_village_0 rfl 0 rfl ?_
  refine s_getR hX (d := 1) 1 flX10_10 rfl rfl dX10_village_1 ?_
  refine s_getR hX (d := 1) 2 flX10_146 rfl rfl dX10_village_4 ?_
  refine s_astore_n (lv' := [(3, rf g 2), (0, rf g 0), (1, .int x1), (2, .int x2)]) hX dX10_village_7 rfl (by decide) rfl ?_
  refine s_aload_n hX dX10_village_8 rfl 0 rfl ?_
  refine s_iload_n hX dX10_village_9 rfl 2 rfl ?_
  refine s_callVir hX [.int x1] (k := 2) (ci := 3) rfl hc3 vkX3_hasVillage (fun r hF => c_X3_hasVillage rfl hF) mkX3_hasVillage cvX10_169 rfl rfl ⟨by omega, by decide, Nat.le_of_ble_eq_true rfl⟩ dX10_village_10 (fun r1 => ?_)
  refine s_jn (C := fun j => Sim G (j) K 25 [(0, rf g 0)] [] μ) ?_ (fun j2 hj2 => ?_)
  · skip
    show Sim G _ _ 25 [(0, rf g 0)] [] μ
    refine s_aload_n hX dX10_village_25 rfl 0 rfl ?_
    refine s_bipush (v := (-2)) hX dX10_village_26 (by decide) ?_
    refine s_callViw hX [.int (-2)] (k := 0) (ci := 9) rfl hc9 vkX10_tally (fun r ν hF => c_X10_tally  hF) mkX10_tally cvX10_90 rfl rfl ⟨by omega, by decide, Nat.le_of_ble_eq_true rfl⟩ dX10_village_28 (fun r3 ν4 => ?_)
    exact s_ireti hK hR dX10_village_31
  refine s_if_eq hX 25 dX10_village_13 (by decide) ?_ ?_
  · exact s_to hX [1] rfl (hj2)
  · refine s_iload_n hX dX10_village_16 rfl 3 rfl ?_
    refine s_if_lt hX 25 dX10_village_17 (by decide) ?_ ?_
    · exact s_to hX [1] rfl (hj2)
    · refine s_iload_n hX dX10_village_20 rfl 3 rfl ?_
      refine s_iconst (v := 1) hX dX10_village_21 (by decide) ?_
      refine s_icmp_le hX 32 dX10_village_22 (by decide) ?_ ?_
      · refine s_iload_n hX dX10_village_32 rfl 3 rfl ?_
        refine s_jn (C := fun j => ∀ (y5 : Int32), Sim G (j y5) K 49 [] [.int y5] μ) ?_ (fun j6 hj6 => ?_)
        · intro y5
          show Sim G _ _ 49 [] [.int y5] μ
          exact s_ireti hK hR dX10_village_49
        refine s_if_ne hX 44 dX10_village_33 (by decide) ?_ ?_
        · refine s_aload_n hX dX10_village_44 rfl 0 rfl ?_
          refine s_iload_n hX dX10_village_45 rfl 2 rfl ?_
          refine s_callVir hX [.int x1] (k := 2) (ci := 3) rfl hc3 vkX3_headsIn (fun r hF => c_X3_headsIn rfl hF) mkX3_headsIn cvX10_175 rfl rfl ⟨by omega, by decide, Nat.le_of_ble_eq_true rfl⟩ dX10_village_46 (fun r7 => ?_)
          exact s_to hX [] rfl (hj6 r7)
        · refine s_aload_n hX dX10_village_36 rfl 0 rfl ?_
          refine s_iload_n hX dX10_village_37 rfl 2 rfl ?_
          refine s_callVir hX [.int x1] (k := 2) (ci := 3) rfl hc3 vkX3_sightOf (fun r hF => c_X3_sightOf rfl hF) mkX3_sightOf cvX10_172 rfl rfl ⟨by omega, by decide, Nat.le_of_ble_eq_true rfl⟩ dX10_village_38 (fun r8 => ?_)
          refine s_goto hX 49 dX10_village_41 (by decide) ?_
          exact s_to hX [] rfl (hj6 r8)
      · exact s_to hX [1] rfl (hj2)
theorem dX11_chance_0 : decode cX11_chance 0 = .ok (.aload_n 0, 1) := by decide +kernel
theorem dX11_chance_1 : decode cX11_chance 1 = .ok (.iload_n 1, 1) := by decide +kernel
theorem dX11_chance_2 : decode cX11_chance 2 = .ok (.invokevirtual 55, 3) := by decide +kernel
theorem dX11_chance_5 : decode cX11_chance 5 = .ok (.ifCond .ne 8, 3) := by decide +kernel
theorem dX11_chance_8 : decode cX11_chance 8 = .ok (.aload_n 0, 1) := by decide +kernel
theorem dX11_chance_9 : decode cX11_chance 9 = .ok (.invokevirtual 61, 3) := by decide +kernel
theorem dX11_chance_12 : decode cX11_chance 12 = .ok (.ireturn, 1) := by decide +kernel
theorem dX11_chance_13 : decode cX11_chance 13 = .ok (.aload_n 0, 1) := by decide +kernel
theorem dX11_chance_14 : decode cX11_chance 14 = .ok (.invokevirtual 187, 3) := by decide +kernel
theorem dX11_chance_17 : decode cX11_chance 17 = .ok (.lconst 0, 1) := by decide +kernel
theorem dX11_chance_18 : decode cX11_chance 18 = .ok (.lstore_n 2, 1) := by decide +kernel
theorem dX11_chance_19 : decode cX11_chance 19 = .ok (.iconst 0, 1) := by decide +kernel
theorem dX11_chance_20 : decode cX11_chance 20 = .ok (.istore 4, 2) := by decide +kernel
theorem dX11_chance_22 : decode cX11_chance 22 = .ok (.iload 4, 2) := by decide +kernel
theorem dX11_chance_24 : decode cX11_chance 24 = .ok (.aload_n 0, 1) := by decide +kernel
theorem dX11_chance_25 : decode cX11_chance 25 = .ok (.invokevirtual 177, 3) := by decide +kernel
theorem dX11_chance_28 : decode cX11_chance 28 = .ok (.if_icmp .gt 47, 3) := by decide +kernel
theorem dX11_chance_31 : decode cX11_chance 31 = .ok (.lload_n 2, 1) := by decide +kernel
theorem dX11_chance_32 : decode cX11_chance 32 = .ok (.aload_n 0, 1) := by decide +kernel
theorem dX11_chance_33 : decode cX11_chance 33 = .ok (.aload_n 0, 1) := by decide +kernel
theorem dX11_chance_34 : decode cX11_chance 34 = .ok (.invokevirtual 177, 3) := by decide +kernel
theorem dX11_chance_37 : decode cX11_chance 37 = .ok (.iload 4, 2) := by decide +kernel
theorem dX11_chance_39 : decode cX11_chance 39 = .ok (.iconst (-1), 1) := by decide +kernel
theorem dX11_chance_40 : decode cX11_chance 40 = .ok (.ixor, 1) := by decide +kernel
theorem dX11_chance_41 : decode cX11_chance 41 = .ok (.iand, 1) := by decide +kernel
theorem dX11_chance_42 : decode cX11_chance 42 = .ok (.aload_n 0, 1) := by decide +kernel
theorem dX11_chance_43 : decode cX11_chance 43 = .ok (.getfield 7, 3) := by decide +kernel
theorem dX11_chance_46 : decode cX11_chance 46 = .ok (.iconst 3, 1) := by decide +kernel
theorem dX11_chance_47 : decode cX11_chance 47 = .ok (.iaload, 1) := by decide +kernel
theorem dX11_chance_48 : decode cX11_chance 48 = .ok (.iconst (-1), 1) := by decide +kernel
theorem dX11_chance_49 : decode cX11_chance 49 = .ok (.iconst 0, 1) := by decide +kernel
theorem dX11_chance_50 : decode cX11_chance 50 = .ok (.invokevirtual 180, 3) := by decide +kernel
theorem dX11_chance_53 : decode cX11_chance 53 = .ok (.iload_n 1, 1) := by decide +kernel
theorem dX11_chance_54 : decode cX11_chance 54 = .ok (.if_icmp .ne 12, 3) := by decide +kernel
theorem dX11_chance_57 : decode cX11_chance 57 = .ok (.aload_n 0, 1) := by decide +kernel
theorem dX11_chance_58 : decode cX11_chance 58 = .ok (.iload 4, 2) := by decide +kernel
theorem dX11_chance_60 : decode cX11_chance 60 = .ok (.invokevirtual 228, 3) := by decide +kernel
theorem dX11_chance_63 : decode cX11_chance 63 = .ok (.goto 4, 3) := by decide +kernel
theorem dX11_chance_66 : decode cX11_chance 66 = .ok (.lconst 0, 1) := by decide +kernel
theorem dX11_chance_67 : decode cX11_chance 67 = .ok (.ladd, 1) := by decide +kernel
theorem dX11_chance_68 : decode cX11_chance 68 = .ok (.lstore_n 2, 1) := by decide +kernel
theorem dX11_chance_69 : decode cX11_chance 69 = .ok (.iinc 4 1, 3) := by decide +kernel
theorem dX11_chance_72 : decode cX11_chance 72 = .ok (.goto (-50), 3) := by decide +kernel
theorem dX11_chance_75 : decode cX11_chance 75 = .ok (.aload_n 0, 1) := by decide +kernel
theorem dX11_chance_76 : decode cX11_chance 76 = .ok (.lload_n 2, 1) := by decide +kernel
theorem dX11_chance_77 : decode cX11_chance 77 = .ok (.aload_n 0, 1) := by decide +kernel
theorem dX11_chance_78 : decode cX11_chance 78 = .ok (.invokevirtual 232, 3) := by decide +kernel
theorem dX11_chance_81 : decode cX11_chance 81 = .ok (.invokevirtual 236, 3) := by decide +kernel
theorem dX11_chance_84 : decode cX11_chance 84 = .ok (.ireturn, 1) := by decide +kernel
noncomputable def f_X11_chance (x1 : Int32) (μ : Mem) : Option (Int32 × Mem) :=
  bd (f_X11_isVillage x1 μ) fun r1 =>
  if r1 = 0 then
    bd2 (f_X11_bad  μ) fun r16 ν17 =>
    some (r16, ν17)
  else
    bd (f_X11_asNow  μ) fun ν2 =>
    bd (lp (ε := Int64) (cu2 fun (x2_3 : Int64) (x4_4 : Int32) =>
      bd (f_X11_all  ν2) fun r7 =>
      if r7 < x4_4 then
        some (.inr x2_3)
      else
        bd (f_X11_all  ν2) fun r8 =>
        bd (f_X11_greatestOf (r8 &&& (x4_4 ^^^ (-1))) (ν2.1 113 3) (-1) 0 ν2) fun r9 =>
        jn (fun (y10 : Int64) =>
          some (.inl ((x2_3 + y10), (x4_4 + 1)))
          ) fun j11 =>
        if r9 = x1 then
          bd (f_X11_waysOf x4_4 ν2) fun r12 =>
          j11 r12
        else
          j11 0
      ) (0, 0)) (fun (x2_5 : Int64) =>
      bd (f_X11_whole  ν2) fun r13 =>
      bd2 (f_X11_keeps x2_5 r13 ν2) fun r14 ν15 =>
      some (r14, ν15)
      )
set_option maxHeartbeats 4000000 in
set_option maxRecDepth 100000 in
theorem c_X11_chance {g : GT} {x1 : Int32} {μ : Mem} {μ0 : Mem} {r0 : Int32} (hf : f_X11_chance x1 μ = some (r0, μ0)) : CI g yX11_chance cX11_chance 5 (some .int) 4 [rf g 112, .int x1] μ r0 μ0 := by
  refine mk_i (by decide) (Nat.le_of_ble_eq_true rfl) ?_
  intro G hX hR
  have hX : CX g G cX11_chance RX11 5 4 := hX
  suffices S : ∀ K : (Int32 × Mem) → Prop, (∀ a, K a → a = (r0, μ0)) → Sim G (f_X11_chance x1 μ) K 0 [(0, rf g 112), (1, .int x1)] [] μ from S (fun a => a = (r0, μ0)) (fun a h => h) _ hf rfl
  intro K hK
  unfold f_X11_chance
  refine s_aload_n hX dX11_chance_0 rfl 0 rfl ?_
  refine s_iload_n hX dX11_chance_1 rfl 1 rfl ?_
  refine s_callVir hX [.int x1] (k := 112) (ci := 10) rfl hc10 vkX11_isVillage (fun r hF => c_X11_isVillage  hF) mkX11_isVillage cvX11_55 rfl rfl ⟨by omega, by decide, Nat.le_of_ble_eq_true rfl⟩ dX11_chance_2 (fun r1 => ?_)
  refine s_if_ne hX 13 dX11_chance_5 (by decide) ?_ ?_
  · refine s_aload_n hX dX11_chance_13 rfl 0 rfl ?_
    refine s_callVvw hX [] (k := 112) (ci := 10) rfl hc10 vkX11_asNow (fun ν hF => c_X11_asNow  hF) mkX11_asNow cvX11_187 rfl rfl ⟨by omega, by decide, Nat.le_of_ble_eq_true rfl⟩ dX11_chance_14 (fun ν2 => ?_)
    refine s_lconst (v := 0) hX dX11_chance_17 (by decide) ?_
    refine s_lstore_n (lv' := [(2, .long 0), (0, rf g 112), (1, .int x1)]) hX dX11_chance_18 rfl (by decide) rfl ?_
    refine s_iconst (v := 0) hX dX11_chance_19 (by decide) ?_
    refine s_istore (lv' := [(4, .int 0), (2, .long 0), (0, rf g 112), (1, .int x1)]) hX dX11_chance_20 (by decide) rfl ?_
    refine s_loop hX 22 75 (fun s : Int64 × Int32 => [(0, rf g 112), (1, .int x1), (2, .long s.1), (4, .int s.2)]) (fun s : Int64 × Int32 => ν2) (fun s : Int64 => [(0, rf g 112), (2, .long s)]) (fun s : Int64 => ν2) [2, 3, 1, 0] rfl rfl rfl ?_ ?_
    · intro Kq6 hIq6 hJq6 sq
      obtain ⟨x2_3, x4_4⟩ := sq
      refine s_cu2 ?_
      show Sim G _ _ 22 [(0, rf g 112), (1, .int x1), (2, .long x2_3), (4, .int x4_4)] [] ν2
      refine s_iload hX dX11_chance_22 3 rfl ?_
      refine s_aload_n hX dX11_chance_24 rfl 0 rfl ?_
      refine s_callVir hX [] (k := 112) (ci := 10) rfl hc10 vkX11_all (fun r hF => c_X11_all  hF) mkX11_all cvX11_177 rfl rfl ⟨by omega, by decide, Nat.le_of_ble_eq_true rfl⟩ dX11_chance_25 (fun r7 => ?_)
      refine s_icmp_gt hX 75 dX11_chance_28 (by decide) ?_ ?_
      · exact s_end hX (hJq6 x2_3) [0, 2] rfl
      · refine s_lload_n hX dX11_chance_31 rfl 2 rfl ?_
        refine s_aload_n hX dX11_chance_32 rfl 0 rfl ?_
        refine s_aload_n hX dX11_chance_33 rfl 0 rfl ?_
        refine s_callVir hX [] (k := 112) (ci := 10) rfl hc10 vkX11_all (fun r hF => c_X11_all  hF) mkX11_all cvX11_177 rfl rfl ⟨by omega, by decide, Nat.le_of_ble_eq_true rfl⟩ dX11_chance_34 (fun r8 => ?_)
        refine s_iload hX dX11_chance_37 3 rfl ?_
        refine s_iconst (v := (-1)) hX dX11_chance_39 (by decide) ?_
        refine s_ixor hX dX11_chance_40 ?_
        refine s_iand hX dX11_chance_41 ?_
        refine s_aload_n hX dX11_chance_42 rfl 0 rfl ?_
        refine s_getR hX (d := 1) 113 flX11_7 rfl rfl dX11_chance_43 ?_
        refine s_iconst (v := 3) hX dX11_chance_46 (by decide) ?_
        refine s_ialdK hX rfl rfl (by decide) rfl dX11_chance_47 ?_
        refine s_iconst (v := (-1)) hX dX11_chance_48 (by decide) ?_
        refine s_iconst (v := 0) hX dX11_chance_49 (by decide) ?_
        refine s_callVir hX [.int (r8 &&& (x4_4 ^^^ (-1))), .int (ν2.1 113 3), .int (-1), .int 0] (k := 112) (ci := 10) rfl hc10 vkX11_greatestOf (fun r hF => c_X11_greatestOf  hF) mkX11_greatestOf cvX11_180 rfl rfl ⟨by omega, by decide, Nat.le_of_ble_eq_true rfl⟩ dX11_chance_50 (fun r9 => ?_)
        refine s_iload_n hX dX11_chance_53 rfl 1 rfl ?_
        refine s_jn (C := fun j => ∀ (y10 : Int64), Sim G (j y10) Kq6 67 [(0, rf g 112), (1, .int x1), (4, .int x4_4)] [.long y10, .long x2_3] ν2) ?_ (fun j11 hj11 => ?_)
        · intro y10
          show Sim G _ _ 67 [(0, rf g 112), (1, .int x1), (4, .int x4_4)] [.long y10, .long x2_3] ν2
          refine s_ladd hX dX11_chance_67 ?_
          refine s_lstore_n (lv' := [(2, .long (x2_3 + y10)), (0, rf g 112), (1, .int x1), (4, .int x4_4)]) hX dX11_chance_68 rfl (by decide) rfl ?_
          refine s_iinc (v := (x4_4 + 1)) (lv' := [(4, .int (x4_4 + 1)), (2, .long (x2_3 + y10)), (0, rf g 112), (1, .int x1)]) hX dX11_chance_69 3 rfl rfl (by decide) rfl ?_
          refine s_goto hX 22 dX11_chance_72 (by decide) ?_
          exact s_end hX (hIq6 ((x2_3 + y10), (x4_4 + 1))) [2, 3, 1, 0] rfl
        refine s_icmp_ne hX 66 dX11_chance_54 (by decide) ?_ ?_
        · refine s_lconst (v := 0) hX dX11_chance_66 (by decide) ?_
          exact s_to hX [0, 1, 3] rfl (hj11 0)
        · refine s_aload_n hX dX11_chance_57 rfl 0 rfl ?_
          refine s_iload hX dX11_chance_58 3 rfl ?_
          refine s_callVlr hX [.int x4_4] (k := 112) (ci := 10) rfl hc10 vkX11_waysOf (fun r hF => c_X11_waysOf  hF) mkX11_waysOf cvX11_228 rfl rfl ⟨by omega, by decide, Nat.le_of_ble_eq_true rfl⟩ dX11_chance_60 (fun r12 => ?_)
          refine s_goto hX 67 dX11_chance_63 (by decide) ?_
          exact s_to hX [0, 1, 3] rfl (hj11 r12)
    · intro sq
      obtain ⟨x2_5, rfl⟩ : ∃ z, z = sq := ⟨_, rfl⟩
      show Sim G _ _ 75 [(0, rf g 112), (2, .long x2_5)] [] ν2
      refine s_aload_n hX dX11_chance_75 rfl 0 rfl ?_
      refine s_lload_n hX dX11_chance_76 rfl 1 rfl ?_
      refine s_aload_n hX dX11_chance_77 rfl 0 rfl ?_
      refine s_callVlr hX [] (k := 112) (ci := 10) rfl hc10 vkX11_whole (fun r hF => c_X11_whole  hF) mkX11_whole cvX11_232 rfl rfl ⟨by omega, by decide, Nat.le_of_ble_eq_true rfl⟩ dX11_chance_78 (fun r13 => ?_)
      refine s_callViw hX [.long x2_5, .long r13] (k := 112) (ci := 10) rfl hc10 vkX11_keeps (fun r ν hF => c_X11_keeps  hF) mkX11_keeps cvX11_236 rfl rfl ⟨by omega, by decide, Nat.le_of_ble_eq_true rfl⟩ dX11_chance_81 (fun r14 ν15 => ?_)
      exact s_ireti hK hR dX11_chance_84
  · refine s_aload_n hX dX11_chance_8 rfl 0 rfl ?_
    refine s_callViw hX [] (k := 112) (ci := 10) rfl hc10 vkX11_bad (fun r ν hF => c_X11_bad  hF) mkX11_bad cvX11_61 rfl rfl ⟨by omega, by decide, Nat.le_of_ble_eq_true rfl⟩ dX11_chance_9 (fun r16 ν17 => ?_)
    exact s_ireti hK hR dX11_chance_12
theorem dX11_cut_0 : decode cX11_cut 0 = .ok (.aload_n 0, 1) := by decide +kernel
theorem dX11_cut_1 : decode cX11_cut 1 = .ok (.iload_n 1, 1) := by decide +kernel
theorem dX11_cut_2 : decode cX11_cut 2 = .ok (.iload_n 2, 1) := by decide +kernel
theorem dX11_cut_3 : decode cX11_cut 3 = .ok (.invokevirtual 86, 3) := by decide +kernel
theorem dX11_cut_6 : decode cX11_cut 6 = .ok (.ifCond .eq 13, 3) := by decide +kernel
theorem dX11_cut_9 : decode cX11_cut 9 = .ok (.iload_n 3, 1) := by decide +kernel
theorem dX11_cut_10 : decode cX11_cut 10 = .ok (.i2l, 1) := by decide +kernel
theorem dX11_cut_11 : decode cX11_cut 11 = .ok (.lconst 0, 1) := by decide +kernel
theorem dX11_cut_12 : decode cX11_cut 12 = .ok (.lconst 1, 1) := by decide +kernel
theorem dX11_cut_13 : decode cX11_cut 13 = .ok (.invokestatic 51, 3) := by decide +kernel
theorem dX11_cut_16 : decode cX11_cut 16 = .ok (.ifCond .ne 8, 3) := by decide +kernel
theorem dX11_cut_19 : decode cX11_cut 19 = .ok (.aload_n 0, 1) := by decide +kernel
theorem dX11_cut_20 : decode cX11_cut 20 = .ok (.invokevirtual 61, 3) := by decide +kernel
theorem dX11_cut_23 : decode cX11_cut 23 = .ok (.ireturn, 1) := by decide +kernel
theorem dX11_cut_24 : decode cX11_cut 24 = .ok (.aload_n 0, 1) := by decide +kernel
theorem dX11_cut_25 : decode cX11_cut 25 = .ok (.invokevirtual 244, 3) := by decide +kernel
theorem dX11_cut_28 : decode cX11_cut 28 = .ok (.istore 4, 2) := by decide +kernel
theorem dX11_cut_30 : decode cX11_cut 30 = .ok (.iload 4, 2) := by decide +kernel
theorem dX11_cut_32 : decode cX11_cut 32 = .ok (.istore 5, 2) := by decide +kernel
theorem dX11_cut_34 : decode cX11_cut 34 = .ok (.iconst 0, 1) := by decide +kernel
theorem dX11_cut_35 : decode cX11_cut 35 = .ok (.istore 6, 2) := by decide +kernel
theorem dX11_cut_37 : decode cX11_cut 37 = .ok (.iload 6, 2) := by decide +kernel
theorem dX11_cut_39 : decode cX11_cut 39 = .ok (.iload 4, 2) := by decide +kernel
theorem dX11_cut_41 : decode cX11_cut 41 = .ok (.if_icmp .ge 72, 3) := by decide +kernel
theorem dX11_cut_44 : decode cX11_cut 44 = .ok (.iload 6, 2) := by decide +kernel
theorem dX11_cut_46 : decode cX11_cut 46 = .ok (.iload 4, 2) := by decide +kernel
theorem dX11_cut_48 : decode cX11_cut 48 = .ok (.iconst (-1), 1) := by decide +kernel
theorem dX11_cut_49 : decode cX11_cut 49 = .ok (.ixor, 1) := by decide +kernel
theorem dX11_cut_50 : decode cX11_cut 50 = .ok (.iand, 1) := by decide +kernel
theorem dX11_cut_51 : decode cX11_cut 51 = .ok (.ifCond .ne 20, 3) := by decide +kernel
theorem dX11_cut_54 : decode cX11_cut 54 = .ok (.iload 6, 2) := by decide +kernel
theorem dX11_cut_56 : decode cX11_cut 56 = .ok (.invokestatic 250, 3) := by decide +kernel
theorem dX11_cut_59 : decode cX11_cut 59 = .ok (.iload 5, 2) := by decide +kernel
theorem dX11_cut_61 : decode cX11_cut 61 = .ok (.invokestatic 250, 3) := by decide +kernel
theorem dX11_cut_64 : decode cX11_cut 64 = .ok (.if_icmp .ge 7, 3) := by decide +kernel
theorem dX11_cut_67 : decode cX11_cut 67 = .ok (.iconst 1, 1) := by decide +kernel
theorem dX11_cut_68 : decode cX11_cut 68 = .ok (.goto 4, 3) := by decide +kernel
theorem dX11_cut_71 : decode cX11_cut 71 = .ok (.iconst 0, 1) := by decide +kernel
theorem dX11_cut_72 : decode cX11_cut 72 = .ok (.istore 7, 2) := by decide +kernel
theorem dX11_cut_74 : decode cX11_cut 74 = .ok (.iload 7, 2) := by decide +kernel
theorem dX11_cut_76 : decode cX11_cut 76 = .ok (.ifCond .eq 27, 3) := by decide +kernel
theorem dX11_cut_79 : decode cX11_cut 79 = .ok (.aload_n 0, 1) := by decide +kernel
theorem dX11_cut_80 : decode cX11_cut 80 = .ok (.iload_n 1, 1) := by decide +kernel
theorem dX11_cut_81 : decode cX11_cut 81 = .ok (.iload 4, 2) := by decide +kernel
theorem dX11_cut_83 : decode cX11_cut 83 = .ok (.iload 6, 2) := by decide +kernel
theorem dX11_cut_85 : decode cX11_cut 85 = .ok (.iconst (-1), 1) := by decide +kernel
theorem dX11_cut_86 : decode cX11_cut 86 = .ok (.ixor, 1) := by decide +kernel
theorem dX11_cut_87 : decode cX11_cut 87 = .ok (.iand, 1) := by decide +kernel
theorem dX11_cut_88 : decode cX11_cut 88 = .ok (.invokevirtual 253, 3) := by decide +kernel
theorem dX11_cut_91 : decode cX11_cut 91 = .ok (.iload_n 2, 1) := by decide +kernel
theorem dX11_cut_92 : decode cX11_cut 92 = .ok (.ishr, 1) := by decide +kernel
theorem dX11_cut_93 : decode cX11_cut 93 = .ok (.iconst 1, 1) := by decide +kernel
theorem dX11_cut_94 : decode cX11_cut 94 = .ok (.iand, 1) := by decide +kernel
theorem dX11_cut_95 : decode cX11_cut 95 = .ok (.ifCond .ne 8, 3) := by decide +kernel
theorem dX11_cut_98 : decode cX11_cut 98 = .ok (.iload 6, 2) := by decide +kernel
theorem dX11_cut_100 : decode cX11_cut 100 = .ok (.goto 5, 3) := by decide +kernel
theorem dX11_cut_103 : decode cX11_cut 103 = .ok (.iload 5, 2) := by decide +kernel
theorem dX11_cut_105 : decode cX11_cut 105 = .ok (.istore 5, 2) := by decide +kernel
theorem dX11_cut_107 : decode cX11_cut 107 = .ok (.iinc 6 1, 3) := by decide +kernel
theorem dX11_cut_110 : decode cX11_cut 110 = .ok (.goto (-73), 3) := by decide +kernel
theorem dX11_cut_113 : decode cX11_cut 113 = .ok (.iload_n 3, 1) := by decide +kernel
theorem dX11_cut_114 : decode cX11_cut 114 = .ok (.ifCond .ne 11, 3) := by decide +kernel
theorem dX11_cut_117 : decode cX11_cut 117 = .ok (.iload 5, 2) := by decide +kernel
theorem dX11_cut_119 : decode cX11_cut 119 = .ok (.invokestatic 250, 3) := by decide +kernel
theorem dX11_cut_122 : decode cX11_cut 122 = .ok (.goto 15, 3) := by decide +kernel
theorem dX11_cut_125 : decode cX11_cut 125 = .ok (.aload_n 0, 1) := by decide +kernel
theorem dX11_cut_126 : decode cX11_cut 126 = .ok (.iload_n 1, 1) := by decide +kernel
theorem dX11_cut_127 : decode cX11_cut 127 = .ok (.iload 4, 2) := by decide +kernel
theorem dX11_cut_129 : decode cX11_cut 129 = .ok (.iload 5, 2) := by decide +kernel
theorem dX11_cut_131 : decode cX11_cut 131 = .ok (.iconst (-1), 1) := by decide +kernel
theorem dX11_cut_132 : decode cX11_cut 132 = .ok (.ixor, 1) := by decide +kernel
theorem dX11_cut_133 : decode cX11_cut 133 = .ok (.iand, 1) := by decide +kernel
theorem dX11_cut_134 : decode cX11_cut 134 = .ok (.invokevirtual 253, 3) := by decide +kernel
theorem dX11_cut_137 : decode cX11_cut 137 = .ok (.ireturn, 1) := by decide +kernel
noncomputable def f_X11_cut (x1 : Int32) (x2 : Int32) (x3 : Int32) (μ : Mem) : Option (Int32 × Mem) :=
  bd (f_X11_areTwo x1 x2 μ) fun r1 =>
  jn (
    bd2 (f_X11_bad  μ) fun r3 ν4 =>
    some (r3, ν4)
    ) fun j2 =>
  if r1 = 0 then
    j2
  else
    bd (f_X11_in ((x3 : Int32).toInt64) 0 1) fun r5 =>
    if r5 = 0 then
      j2
    else
      bd (f_X11_openRoads  μ) fun r6 =>
      bd (lp (ε := Int32) (cu2 fun (x5_7 : Int32) (x6_8 : Int32) =>
        if x6_8 < r6 then
          jn (fun (y11 : Int32) =>
            jn (fun (y13 : Int32) =>
              some (.inl (y13, (x6_8 + 1)))
              ) fun j14 =>
            jn (
              j14 x5_7
              ) fun j15 =>
            if y11 = 0 then
              j15
            else
              bd (f_X11_reaches x1 (r6 &&& (x6_8 ^^^ (-1))) μ) fun r16 =>
              if ((r16 >>> (x2 &&& 31)) &&& 1) = 0 then
                j14 x6_8
              else
                j15
            ) fun j12 =>
          jn (
            j12 0
            ) fun j17 =>
          if (x6_8 &&& (r6 ^^^ (-1))) = 0 then
            bd (f_X11_bits x6_8) fun r18 =>
            bd (f_X11_bits x5_7) fun r19 =>
            if r18 < r19 then
              j12 1
            else
              j17
          else
            j17
        else
          some (.inr x5_7)
        ) (r6, 0)) (fun (x5_9 : Int32) =>
        jn (fun (y20 : Int32) =>
          some (y20, μ)
          ) fun j21 =>
        if x3 = 0 then
          bd (f_X11_bits x5_9) fun r23 =>
          j21 r23
        else
          bd (f_X11_reaches x1 (r6 &&& (x5_9 ^^^ (-1))) μ) fun r22 =>
          j21 r22
        )
set_option maxHeartbeats 4000000 in
set_option maxRecDepth 100000 in
theorem c_X11_cut {g : GT} {x1 : Int32} {x2 : Int32} {x3 : Int32} {μ : Mem} {μ0 : Mem} {r0 : Int32} (hf : f_X11_cut x1 x2 x3 μ = some (r0, μ0)) : CI g yX11_cut cX11_cut 8 (some .int) 4 [rf g 112, .int x1, .int x2, .int x3] μ r0 μ0 := by
  refine mk_i (by decide) (Nat.le_of_ble_eq_true rfl) ?_
  intro G hX hR
  have hX : CX g G cX11_cut RX11 8 4 := hX
  suffices S : ∀ K : (Int32 × Mem) → Prop, (∀ a, K a → a = (r0, μ0)) → Sim G (f_X11_cut x1 x2 x3 μ) K 0 [(0, rf g 112), (1, .int x1), (2, .int x2), (3, .int x3)] [] μ from S (fun a => a = (r0, μ0)) (fun a h => h) _ hf rfl
  intro K hK
  unfold f_X11_cut
  refine s_aload_n hX dX11_cut_0 rfl 0 rfl ?_
  refine s_iload_n hX dX11_cut_1 rfl 1 rfl ?_
  refine s_iload_n hX dX11_cut_2 rfl 2 rfl ?_
  refine s_callVir hX [.int x1, .int x2] (k := 112) (ci := 10) rfl hc10 vkX11_areTwo (fun r hF => c_X11_areTwo  hF) mkX11_areTwo cvX11_86 rfl rfl ⟨by omega, by decide, Nat.le_of_ble_eq_true rfl⟩ dX11_cut_3 (fun r1 => ?_)
  refine s_jn (C := fun j => Sim G (j) K 19 [(0, rf g 112)] [] μ) ?_ (fun j2 hj2 => ?_)
  · skip
    show Sim G _ _ 19 [(0, rf g 112)] [] μ
    refine s_aload_n hX dX11_cut_19 rfl 0 rfl ?_
    refine s_callViw hX [] (k := 112) (ci := 10) rfl hc10 vkX11_bad (fun r ν hF => c_X11_bad  hF) mkX11_bad cvX11_61 rfl rfl ⟨by omega, by decide, Nat.le_of_ble_eq_true rfl⟩ dX11_cut_20 (fun r3 ν4 => ?_)
    exact s_ireti hK hR dX11_cut_23
  refine s_if_eq hX 19 dX11_cut_6 (by decide) ?_ ?_
  · exact s_to hX [0] rfl (hj2)
  · refine s_iload_n hX dX11_cut_9 rfl 3 rfl ?_
    refine s_i2l hX dX11_cut_10 ?_
    refine s_lconst (v := 0) hX dX11_cut_11 (by decide) ?_
    refine s_lconst (v := 1) hX dX11_cut_12 (by decide) ?_
    refine s_callSir hX [.long (x3 : Int32).toInt64, .long 0, .long 1] skX11_in (fun r hF => c_X11_in  hF) mkX11_in cvX11_51 rfl rfl ⟨by omega, by decide, Nat.le_of_ble_eq_true rfl⟩ dX11_cut_13 (fun r5 => ?_)
    refine s_if_ne hX 24 dX11_cut_16 (by decide) ?_ ?_
    · refine s_aload_n hX dX11_cut_24 rfl 0 rfl ?_
      refine s_callVir hX [] (k := 112) (ci := 10) rfl hc10 vkX11_openRoads (fun r hF => c_X11_openRoads  hF) mkX11_openRoads cvX11_244 rfl rfl ⟨by omega, by decide, Nat.le_of_ble_eq_true rfl⟩ dX11_cut_25 (fun r6 => ?_)
      refine s_istore (lv' := [(4, .int r6), (0, rf g 112), (1, .int x1), (2, .int x2), (3, .int x3)]) hX dX11_cut_28 (by decide) rfl ?_
      refine s_iload hX dX11_cut_30 0 rfl ?_
      refine s_istore (lv' := [(5, .int r6), (4, .int r6), (0, rf g 112), (1, .int x1), (2, .int x2), (3, .int x3)]) hX dX11_cut_32 (by decide) rfl ?_
      refine s_iconst (v := 0) hX dX11_cut_34 (by decide) ?_
      refine s_istore (lv' := [(6, .int 0), (5, .int r6), (4, .int r6), (0, rf g 112), (1, .int x1), (2, .int x2), (3, .int x3)]) hX dX11_cut_35 (by decide) rfl ?_
      refine s_loop hX 37 113 (fun s : Int32 × Int32 => [(0, rf g 112), (1, .int x1), (2, .int x2), (3, .int x3), (4, .int r6), (5, .int s.1), (6, .int s.2)]) (fun s : Int32 × Int32 => μ) (fun s : Int32 => [(0, rf g 112), (1, .int x1), (3, .int x3), (4, .int r6), (5, .int s)]) (fun s : Int32 => μ) [3, 4, 5, 6, 2, 1, 0] rfl rfl rfl ?_ ?_
      · intro Kq10 hIq10 hJq10 sq
        obtain ⟨x5_7, x6_8⟩ := sq
        refine s_cu2 ?_
        show Sim G _ _ 37 [(0, rf g 112), (1, .int x1), (2, .int x2), (3, .int x3), (4, .int r6), (5, .int x5_7), (6, .int x6_8)] [] μ
        refine s_iload hX dX11_cut_37 6 rfl ?_
        refine s_iload hX dX11_cut_39 4 rfl ?_
        refine s_icmp_ge hX 113 dX11_cut_41 (by decide) ?_ ?_
        · exact s_end hX (hJq10 x5_7) [0, 1, 3, 4, 5] rfl
        · refine s_iload hX dX11_cut_44 6 rfl ?_
          refine s_iload hX dX11_cut_46 4 rfl ?_
          refine s_iconst (v := (-1)) hX dX11_cut_48 (by decide) ?_
          refine s_ixor hX dX11_cut_49 ?_
          refine s_iand hX dX11_cut_50 ?_
          refine s_jn (C := fun j => ∀ (y11 : Int32), Sim G (j y11) Kq10 72 [(0, rf g 112), (1, .int x1), (2, .int x2), (3, .int x3), (4, .int r6), (5, .int x5_7), (6, .int x6_8)] [.int y11] μ) ?_ (fun j12 hj12 => ?_)
          · intro y11
            show Sim G _ _ 72 [(0, rf g 112), (1, .int x1), (2, .int x2), (3, .int x3), (4, .int r6), (5, .int x5_7), (6, .int x6_8)] [.int y11] μ
            refine s_istore (lv' := [(7, .int y11), (0, rf g 112), (1, .int x1), (2, .int x2), (3, .int x3), (4, .int r6), (5, .int x5_7), (6, .int x6_8)]) hX dX11_cut_72 (by decide) rfl ?_
            refine s_iload hX dX11_cut_74 0 rfl ?_
            refine s_jn (C := fun j => ∀ (y13 : Int32), Sim G (j y13) Kq10 105 [(0, rf g 112), (1, .int x1), (2, .int x2), (3, .int x3), (4, .int r6), (6, .int x6_8)] [.int y13] μ) ?_ (fun j14 hj14 => ?_)
            · intro y13
              show Sim G _ _ 105 [(0, rf g 112), (1, .int x1), (2, .int x2), (3, .int x3), (4, .int r6), (6, .int x6_8)] [.int y13] μ
              refine s_istore (lv' := [(5, .int y13), (0, rf g 112), (1, .int x1), (2, .int x2), (3, .int x3), (4, .int r6), (6, .int x6_8)]) hX dX11_cut_105 (by decide) rfl ?_
              refine s_iinc (v := (x6_8 + 1)) (lv' := [(6, .int (x6_8 + 1)), (5, .int y13), (0, rf g 112), (1, .int x1), (2, .int x2), (3, .int x3), (4, .int r6)]) hX dX11_cut_107 6 rfl rfl (by decide) rfl ?_
              refine s_goto hX 37 dX11_cut_110 (by decide) ?_
              exact s_end hX (hIq10 (y13, (x6_8 + 1))) [2, 3, 4, 5, 6, 1, 0] rfl
            refine s_jn (C := fun j => Sim G (j) Kq10 103 [(0, rf g 112), (1, .int x1), (2, .int x2), (3, .int x3), (4, .int r6), (5, .int x5_7), (6, .int x6_8)] [] μ) ?_ (fun j15 hj15 => ?_)
            · skip
              show Sim G _ _ 103 [(0, rf g 112), (1, .int x1), (2, .int x2), (3, .int x3), (4, .int r6), (5, .int x5_7), (6, .int x6_8)] [] μ
              refine s_iload hX dX11_cut_103 5 rfl ?_
              exact s_to hX [0, 1, 2, 3, 4, 6] rfl (hj14 x5_7)
            refine s_if_eq hX 103 dX11_cut_76 (by decide) ?_ ?_
            · exact s_to hX [1, 2, 3, 4, 5, 6, 7] rfl (hj15)
            · refine s_aload_n hX dX11_cut_79 rfl 1 rfl ?_
              refine s_iload_n hX dX11_cut_80 rfl 2 rfl ?_
              refine s_iload hX dX11_cut_81 5 rfl ?_
              refine s_iload hX dX11_cut_83 7 rfl ?_
              refine s_iconst (v := (-1)) hX dX11_cut_85 (by decide) ?_
              refine s_ixor hX dX11_cut_86 ?_
              refine s_iand hX dX11_cut_87 ?_
              refine s_callVir hX [.int x1, .int (r6 &&& (x6_8 ^^^ (-1)))] (k := 112) (ci := 10) rfl hc10 vkX11_reaches (fun r hF => c_X11_reaches  hF) mkX11_reaches cvX11_253 rfl rfl ⟨by omega, by decide, Nat.le_of_ble_eq_true rfl⟩ dX11_cut_88 (fun r16 => ?_)
              refine s_iload_n hX dX11_cut_91 rfl 3 rfl ?_
              refine s_ishr hX dX11_cut_92 ?_
              refine s_iconst (v := 1) hX dX11_cut_93 (by decide) ?_
              refine s_iand hX dX11_cut_94 ?_
              refine s_if_ne hX 103 dX11_cut_95 (by decide) ?_ ?_
              · exact s_to hX [1, 2, 3, 4, 5, 6, 7] rfl (hj15)
              · refine s_iload hX dX11_cut_98 7 rfl ?_
                refine s_goto hX 105 dX11_cut_100 (by decide) ?_
                exact s_to hX [1, 2, 3, 4, 5, 7] rfl (hj14 x6_8)
          refine s_jn (C := fun j => Sim G (j) Kq10 71 [(0, rf g 112), (1, .int x1), (2, .int x2), (3, .int x3), (4, .int r6), (5, .int x5_7), (6, .int x6_8)] [] μ) ?_ (fun j17 hj17 => ?_)
          · skip
            show Sim G _ _ 71 [(0, rf g 112), (1, .int x1), (2, .int x2), (3, .int x3), (4, .int r6), (5, .int x5_7), (6, .int x6_8)] [] μ
            refine s_iconst (v := 0) hX dX11_cut_71 (by decide) ?_
            exact s_to hX [0, 1, 2, 3, 4, 5, 6] rfl (hj12 0)
          refine s_if_ne hX 71 dX11_cut_51 (by decide) ?_ ?_
          · exact s_to hX [0, 1, 2, 3, 4, 5, 6] rfl (hj17)
          · refine s_iload hX dX11_cut_54 6 rfl ?_
            refine s_callSir hX [.int x6_8] skX11_bits (fun r hF => c_X11_bits  hF) mkX11_bits cvX11_250 rfl rfl ⟨by omega, by decide, Nat.le_of_ble_eq_true rfl⟩ dX11_cut_56 (fun r18 => ?_)
            refine s_iload hX dX11_cut_59 5 rfl ?_
            refine s_callSir hX [.int x5_7] skX11_bits (fun r hF => c_X11_bits  hF) mkX11_bits cvX11_250 rfl rfl ⟨by omega, by decide, Nat.le_of_ble_eq_true rfl⟩ dX11_cut_61 (fun r19 => ?_)
            refine s_icmp_ge hX 71 dX11_cut_64 (by decide) ?_ ?_
            · exact s_to hX [0, 1, 2, 3, 4, 5, 6] rfl (hj17)
            · refine s_iconst (v := 1) hX dX11_cut_67 (by decide) ?_
              refine s_goto hX 72 dX11_cut_68 (by decide) ?_
              exact s_to hX [0, 1, 2, 3, 4, 5, 6] rfl (hj12 1)
      · intro sq
        obtain ⟨x5_9, rfl⟩ : ∃ z, z = sq := ⟨_, rfl⟩
        show Sim G _ _ 113 [(0, rf g 112), (1, .int x1), (3, .int x3), (4, .int r6), (5, .int x5_9)] [] μ
        refine s_iload_n hX dX11_cut_113 rfl 2 rfl ?_
        refine s_jn (C := fun j => ∀ (y20 : Int32), Sim G (j y20) K 137 [] [.int y20] μ) ?_ (fun j21 hj21 => ?_)
        · intro y20
          show Sim G _ _ 137 [] [.int y20] μ
          exact s_ireti hK hR dX11_cut_137
        refine s_if_ne hX 125 dX11_cut_114 (by decide) ?_ ?_
        · refine s_aload_n hX dX11_cut_125 rfl 0 rfl ?_
          refine s_iload_n hX dX11_cut_126 rfl 1 rfl ?_
          refine s_iload hX dX11_cut_127 3 rfl ?_
          refine s_iload hX dX11_cut_129 4 rfl ?_
          refine s_iconst (v := (-1)) hX dX11_cut_131 (by decide) ?_
          refine s_ixor hX dX11_cut_132 ?_
          refine s_iand hX dX11_cut_133 ?_
          refine s_callVir hX [.int x1, .int (r6 &&& (x5_9 ^^^ (-1)))] (k := 112) (ci := 10) rfl hc10 vkX11_reaches (fun r hF => c_X11_reaches  hF) mkX11_reaches cvX11_253 rfl rfl ⟨by omega, by decide, Nat.le_of_ble_eq_true rfl⟩ dX11_cut_134 (fun r22 => ?_)
          exact s_to hX [] rfl (hj21 r22)
        · refine s_iload hX dX11_cut_117 4 rfl ?_
          refine s_callSir hX [.int x5_9] skX11_bits (fun r hF => c_X11_bits  hF) mkX11_bits cvX11_250 rfl rfl ⟨by omega, by decide, Nat.le_of_ble_eq_true rfl⟩ dX11_cut_119 (fun r23 => ?_)
          refine s_goto hX 137 dX11_cut_122 (by decide) ?_
          exact s_to hX [] rfl (hj21 r23)
    · exact s_to hX [0] rfl (hj2)
theorem dX11_game_0 : decode cX11_game 0 = .ok (.aload_n 0, 1) := by decide +kernel
theorem dX11_game_1 : decode cX11_game 1 = .ok (.iload_n 1, 1) := by decide +kernel
theorem dX11_game_2 : decode cX11_game 2 = .ok (.iload_n 2, 1) := by decide +kernel
theorem dX11_game_3 : decode cX11_game 3 = .ok (.invokevirtual 86, 3) := by decide +kernel
theorem dX11_game_6 : decode cX11_game 6 = .ok (.ifCond .eq 13, 3) := by decide +kernel
theorem dX11_game_9 : decode cX11_game 9 = .ok (.iload_n 3, 1) := by decide +kernel
theorem dX11_game_10 : decode cX11_game 10 = .ok (.i2l, 1) := by decide +kernel
theorem dX11_game_11 : decode cX11_game 11 = .ok (.lconst 0, 1) := by decide +kernel
theorem dX11_game_12 : decode cX11_game 12 = .ok (.lconst 1, 1) := by decide +kernel
theorem dX11_game_13 : decode cX11_game 13 = .ok (.invokestatic 51, 3) := by decide +kernel
theorem dX11_game_16 : decode cX11_game 16 = .ok (.ifCond .ne 11, 3) := by decide +kernel
theorem dX11_game_19 : decode cX11_game 19 = .ok (.aload_n 0, 1) := by decide +kernel
theorem dX11_game_20 : decode cX11_game 20 = .ok (.iconst 0, 1) := by decide +kernel
theorem dX11_game_21 : decode cX11_game 21 = .ok (.bipush (-10), 2) := by decide +kernel
theorem dX11_game_23 : decode cX11_game 23 = .ok (.invokevirtual 47, 3) := by decide +kernel
theorem dX11_game_26 : decode cX11_game 26 = .ok (.ireturn, 1) := by decide +kernel
theorem dX11_game_27 : decode cX11_game 27 = .ok (.aload_n 0, 1) := by decide +kernel
theorem dX11_game_28 : decode cX11_game 28 = .ok (.invokevirtual 187, 3) := by decide +kernel
theorem dX11_game_31 : decode cX11_game 31 = .ok (.aload_n 0, 1) := by decide +kernel
theorem dX11_game_32 : decode cX11_game 32 = .ok (.iload_n 1, 1) := by decide +kernel
theorem dX11_game_33 : decode cX11_game 33 = .ok (.aload_n 0, 1) := by decide +kernel
theorem dX11_game_34 : decode cX11_game 34 = .ok (.getfield 7, 3) := by decide +kernel
theorem dX11_game_37 : decode cX11_game 37 = .ok (.iconst 3, 1) := by decide +kernel
theorem dX11_game_38 : decode cX11_game 38 = .ok (.iaload, 1) := by decide +kernel
theorem dX11_game_39 : decode cX11_game 39 = .ok (.invokevirtual 171, 3) := by decide +kernel
theorem dX11_game_42 : decode cX11_game 42 = .ok (.istore 4, 2) := by decide +kernel
theorem dX11_game_44 : decode cX11_game 44 = .ok (.aload_n 0, 1) := by decide +kernel
theorem dX11_game_45 : decode cX11_game 45 = .ok (.iload_n 2, 1) := by decide +kernel
theorem dX11_game_46 : decode cX11_game 46 = .ok (.aload_n 0, 1) := by decide +kernel
theorem dX11_game_47 : decode cX11_game 47 = .ok (.getfield 7, 3) := by decide +kernel
theorem dX11_game_50 : decode cX11_game 50 = .ok (.iconst 3, 1) := by decide +kernel
theorem dX11_game_51 : decode cX11_game 51 = .ok (.iaload, 1) := by decide +kernel
theorem dX11_game_52 : decode cX11_game 52 = .ok (.invokevirtual 171, 3) := by decide +kernel
theorem dX11_game_55 : decode cX11_game 55 = .ok (.istore 5, 2) := by decide +kernel
theorem dX11_game_57 : decode cX11_game 57 = .ok (.iconst 0, 1) := by decide +kernel
theorem dX11_game_58 : decode cX11_game 58 = .ok (.istore 6, 2) := by decide +kernel
theorem dX11_game_60 : decode cX11_game 60 = .ok (.iconst (-1), 1) := by decide +kernel
theorem dX11_game_61 : decode cX11_game 61 = .ok (.istore 7, 2) := by decide +kernel
theorem dX11_game_63 : decode cX11_game 63 = .ok (.iconst 0, 1) := by decide +kernel
theorem dX11_game_64 : decode cX11_game 64 = .ok (.istore 8, 2) := by decide +kernel
theorem dX11_game_66 : decode cX11_game 66 = .ok (.iload 8, 2) := by decide +kernel
theorem dX11_game_68 : decode cX11_game 68 = .ok (.bipush 10, 2) := by decide +kernel
theorem dX11_game_70 : decode cX11_game 70 = .ok (.if_icmp .ge 187, 3) := by decide +kernel
theorem dX11_game_73 : decode cX11_game 73 = .ok (.iconst 0, 1) := by decide +kernel
theorem dX11_game_74 : decode cX11_game 74 = .ok (.istore 9, 2) := by decide +kernel
theorem dX11_game_76 : decode cX11_game 76 = .ok (.iload 9, 2) := by decide +kernel
theorem dX11_game_78 : decode cX11_game 78 = .ok (.bipush 10, 2) := by decide +kernel
theorem dX11_game_80 : decode cX11_game 80 = .ok (.if_icmp .ge 171, 3) := by decide +kernel
theorem dX11_game_83 : decode cX11_game 83 = .ok (.iconst 1, 1) := by decide +kernel
theorem dX11_game_84 : decode cX11_game 84 = .ok (.istore 10, 2) := by decide +kernel
theorem dX11_game_86 : decode cX11_game 86 = .ok (.iconst 0, 1) := by decide +kernel
theorem dX11_game_87 : decode cX11_game 87 = .ok (.istore 11, 2) := by decide +kernel
theorem dX11_game_89 : decode cX11_game 89 = .ok (.iload 11, 2) := by decide +kernel
theorem dX11_game_91 : decode cX11_game 91 = .ok (.bipush 10, 2) := by decide +kernel
theorem dX11_game_93 : decode cX11_game 93 = .ok (.if_icmp .ge 111, 3) := by decide +kernel
theorem dX11_game_96 : decode cX11_game 96 = .ok (.iload 10, 2) := by decide +kernel
theorem dX11_game_98 : decode cX11_game 98 = .ok (.ifCond .eq 97, 3) := by decide +kernel
theorem dX11_game_101 : decode cX11_game 101 = .ok (.iload 4, 2) := by decide +kernel
theorem dX11_game_103 : decode cX11_game 103 = .ok (.iload 5, 2) := by decide +kernel
theorem dX11_game_105 : decode cX11_game 105 = .ok (.iload 11, 2) := by decide +kernel
theorem dX11_game_107 : decode cX11_game 107 = .ok (.iload 9, 2) := by decide +kernel
theorem dX11_game_109 : decode cX11_game 109 = .ok (.iload_n 1, 1) := by decide +kernel
theorem dX11_game_110 : decode cX11_game 110 = .ok (.iload_n 2, 1) := by decide +kernel
theorem dX11_game_111 : decode cX11_game 111 = .ok (.if_icmp .ge 7, 3) := by decide +kernel
theorem dX11_game_114 : decode cX11_game 114 = .ok (.iconst 1, 1) := by decide +kernel
theorem dX11_game_115 : decode cX11_game 115 = .ok (.goto 4, 3) := by decide +kernel
theorem dX11_game_118 : decode cX11_game 118 = .ok (.iconst 0, 1) := by decide +kernel
theorem dX11_game_119 : decode cX11_game 119 = .ok (.invokestatic 256, 3) := by decide +kernel
theorem dX11_game_122 : decode cX11_game 122 = .ok (.iload 4, 2) := by decide +kernel
theorem dX11_game_124 : decode cX11_game 124 = .ok (.iload 5, 2) := by decide +kernel
theorem dX11_game_126 : decode cX11_game 126 = .ok (.iload 8, 2) := by decide +kernel
theorem dX11_game_128 : decode cX11_game 128 = .ok (.iload 9, 2) := by decide +kernel
theorem dX11_game_130 : decode cX11_game 130 = .ok (.iload_n 1, 1) := by decide +kernel
theorem dX11_game_131 : decode cX11_game 131 = .ok (.iload_n 2, 1) := by decide +kernel
theorem dX11_game_132 : decode cX11_game 132 = .ok (.if_icmp .ge 7, 3) := by decide +kernel
theorem dX11_game_135 : decode cX11_game 135 = .ok (.iconst 1, 1) := by decide +kernel
theorem dX11_game_136 : decode cX11_game 136 = .ok (.goto 4, 3) := by decide +kernel
theorem dX11_game_139 : decode cX11_game 139 = .ok (.iconst 0, 1) := by decide +kernel
theorem dX11_game_140 : decode cX11_game 140 = .ok (.invokestatic 256, 3) := by decide +kernel
theorem dX11_game_143 : decode cX11_game 143 = .ok (.if_icmp .lt 52, 3) := by decide +kernel
theorem dX11_game_146 : decode cX11_game 146 = .ok (.iload 5, 2) := by decide +kernel
theorem dX11_game_148 : decode cX11_game 148 = .ok (.iload 4, 2) := by decide +kernel
theorem dX11_game_150 : decode cX11_game 150 = .ok (.iload 11, 2) := by decide +kernel
theorem dX11_game_152 : decode cX11_game 152 = .ok (.iload 8, 2) := by decide +kernel
theorem dX11_game_154 : decode cX11_game 154 = .ok (.iload_n 2, 1) := by decide +kernel
theorem dX11_game_155 : decode cX11_game 155 = .ok (.iload_n 1, 1) := by decide +kernel
theorem dX11_game_156 : decode cX11_game 156 = .ok (.if_icmp .ge 7, 3) := by decide +kernel
theorem dX11_game_159 : decode cX11_game 159 = .ok (.iconst 1, 1) := by decide +kernel
theorem dX11_game_160 : decode cX11_game 160 = .ok (.goto 4, 3) := by decide +kernel
theorem dX11_game_163 : decode cX11_game 163 = .ok (.iconst 0, 1) := by decide +kernel
theorem dX11_game_164 : decode cX11_game 164 = .ok (.invokestatic 256, 3) := by decide +kernel
theorem dX11_game_167 : decode cX11_game 167 = .ok (.iload 5, 2) := by decide +kernel
theorem dX11_game_169 : decode cX11_game 169 = .ok (.iload 4, 2) := by decide +kernel
theorem dX11_game_171 : decode cX11_game 171 = .ok (.iload 9, 2) := by decide +kernel
theorem dX11_game_173 : decode cX11_game 173 = .ok (.iload 8, 2) := by decide +kernel
theorem dX11_game_175 : decode cX11_game 175 = .ok (.iload_n 2, 1) := by decide +kernel
theorem dX11_game_176 : decode cX11_game 176 = .ok (.iload_n 1, 1) := by decide +kernel
theorem dX11_game_177 : decode cX11_game 177 = .ok (.if_icmp .ge 7, 3) := by decide +kernel
theorem dX11_game_180 : decode cX11_game 180 = .ok (.iconst 1, 1) := by decide +kernel
theorem dX11_game_181 : decode cX11_game 181 = .ok (.goto 4, 3) := by decide +kernel
theorem dX11_game_184 : decode cX11_game 184 = .ok (.iconst 0, 1) := by decide +kernel
theorem dX11_game_185 : decode cX11_game 185 = .ok (.invokestatic 256, 3) := by decide +kernel
theorem dX11_game_188 : decode cX11_game 188 = .ok (.if_icmp .lt 7, 3) := by decide +kernel
theorem dX11_game_191 : decode cX11_game 191 = .ok (.iconst 1, 1) := by decide +kernel
theorem dX11_game_192 : decode cX11_game 192 = .ok (.goto 4, 3) := by decide +kernel
theorem dX11_game_195 : decode cX11_game 195 = .ok (.iconst 0, 1) := by decide +kernel
theorem dX11_game_196 : decode cX11_game 196 = .ok (.istore 10, 2) := by decide +kernel
theorem dX11_game_198 : decode cX11_game 198 = .ok (.iinc 11 1, 3) := by decide +kernel
theorem dX11_game_201 : decode cX11_game 201 = .ok (.goto (-112), 3) := by decide +kernel
theorem dX11_game_204 : decode cX11_game 204 = .ok (.iload 6, 2) := by decide +kernel
theorem dX11_game_206 : decode cX11_game 206 = .ok (.iload 10, 2) := by decide +kernel
theorem dX11_game_208 : decode cX11_game 208 = .ok (.ifCond .eq 7, 3) := by decide +kernel
theorem dX11_game_211 : decode cX11_game 211 = .ok (.iconst 1, 1) := by decide +kernel
theorem dX11_game_212 : decode cX11_game 212 = .ok (.goto 4, 3) := by decide +kernel
theorem dX11_game_215 : decode cX11_game 215 = .ok (.iconst 0, 1) := by decide +kernel
theorem dX11_game_216 : decode cX11_game 216 = .ok (.iadd, 1) := by decide +kernel
theorem dX11_game_217 : decode cX11_game 217 = .ok (.istore 6, 2) := by decide +kernel
theorem dX11_game_219 : decode cX11_game 219 = .ok (.iload 10, 2) := by decide +kernel
theorem dX11_game_221 : decode cX11_game 221 = .ok (.ifCond .eq 20, 3) := by decide +kernel
theorem dX11_game_224 : decode cX11_game 224 = .ok (.iload 7, 2) := by decide +kernel
theorem dX11_game_226 : decode cX11_game 226 = .ok (.iconst (-1), 1) := by decide +kernel
theorem dX11_game_227 : decode cX11_game 227 = .ok (.if_icmp .ne 14, 3) := by decide +kernel
theorem dX11_game_230 : decode cX11_game 230 = .ok (.bipush 10, 2) := by decide +kernel
theorem dX11_game_232 : decode cX11_game 232 = .ok (.iload 8, 2) := by decide +kernel
theorem dX11_game_234 : decode cX11_game 234 = .ok (.imul, 1) := by decide +kernel
theorem dX11_game_235 : decode cX11_game 235 = .ok (.iload 9, 2) := by decide +kernel
theorem dX11_game_237 : decode cX11_game 237 = .ok (.iadd, 1) := by decide +kernel
theorem dX11_game_238 : decode cX11_game 238 = .ok (.goto 5, 3) := by decide +kernel
theorem dX11_game_241 : decode cX11_game 241 = .ok (.iload 7, 2) := by decide +kernel
theorem dX11_game_243 : decode cX11_game 243 = .ok (.istore 7, 2) := by decide +kernel
theorem dX11_game_245 : decode cX11_game 245 = .ok (.iinc 9 1, 3) := by decide +kernel
theorem dX11_game_248 : decode cX11_game 248 = .ok (.goto (-172), 3) := by decide +kernel
theorem dX11_game_251 : decode cX11_game 251 = .ok (.iinc 8 1, 3) := by decide +kernel
theorem dX11_game_254 : decode cX11_game 254 = .ok (.goto (-188), 3) := by decide +kernel
theorem dX11_game_257 : decode cX11_game 257 = .ok (.iload_n 3, 1) := by decide +kernel
theorem dX11_game_258 : decode cX11_game 258 = .ok (.ifCond .ne 8, 3) := by decide +kernel
theorem dX11_game_261 : decode cX11_game 261 = .ok (.iload 6, 2) := by decide +kernel
theorem dX11_game_263 : decode cX11_game 263 = .ok (.goto 5, 3) := by decide +kernel
theorem dX11_game_266 : decode cX11_game 266 = .ok (.iload 7, 2) := by decide +kernel
theorem dX11_game_268 : decode cX11_game 268 = .ok (.ireturn, 1) := by decide +kernel
noncomputable def f_X11_game (x1 : Int32) (x2 : Int32) (x3 : Int32) (μ : Mem) : Option (Int32 × Mem) :=
  bd (f_X11_areTwo x1 x2 μ) fun r1 =>
  jn (
    bd2 (f_X11_refuses 0 (-10) μ) fun r3 ν4 =>
    some (r3, ν4)
    ) fun j2 =>
  if r1 = 0 then
    j2
  else
    bd (f_X11_in ((x3 : Int32).toInt64) 0 1) fun r5 =>
    if r5 = 0 then
      j2
    else
      bd (f_X11_asNow  μ) fun ν6 =>
      bd (f_X11_sightOf x1 (ν6.1 113 3) ν6) fun r7 =>
      bd (f_X11_sightOf x2 (ν6.1 113 3) ν6) fun r8 =>
      bd (lp (ε := Int32 × Int32) (cu3 fun (x6_9 : Int32) (x7_10 : Int32) (x8_11 : Int32) =>
        if x8_11 < 10 then
          bd (lp (ε := Int32 × Int32) (cu3 fun (x6_15 : Int32) (x7_16 : Int32) (x9_17 : Int32) =>
            if x9_17 < 10 then
              bd (lp (ε := Int32) (cu2 fun (x10_21 : Int32) (x11_22 : Int32) =>
                if x11_22 < 10 then
                  jn (fun (y25 : Int32) =>
                    some (.inl (y25, (x11_22 + 1)))
                    ) fun j26 =>
                  jn (
                    j26 0
                    ) fun j27 =>
                  if x10_21 = 0 then
                    j27
                  else
                    jn (fun (y28 : Int32) =>
                      bd (f_X11_loss r7 r8 x11_22 x9_17 y28) fun r30 =>
                      jn (fun (y31 : Int32) =>
                        bd (f_X11_loss r7 r8 x8_11 x9_17 y31) fun r33 =>
                        if r30 < r33 then
                          j27
                        else
                          jn (fun (y34 : Int32) =>
                            bd (f_X11_loss r8 r7 x11_22 x8_11 y34) fun r36 =>
                            jn (fun (y37 : Int32) =>
                              bd (f_X11_loss r8 r7 x9_17 x8_11 y37) fun r39 =>
                              if r36 < r39 then
                                j27
                              else
                                j26 1
                              ) fun j38 =>
                            if x2 < x1 then
                              j38 1
                            else
                              j38 0
                            ) fun j35 =>
                          if x2 < x1 then
                            j35 1
                          else
                            j35 0
                        ) fun j32 =>
                      if x1 < x2 then
                        j32 1
                      else
                        j32 0
                      ) fun j29 =>
                    if x1 < x2 then
                      j29 1
                    else
                      j29 0
                else
                  some (.inr x10_21)
                ) (1, 0)) (fun (x10_23 : Int32) =>
                jn (fun (y40 : Int32) =>
                  jn (fun (y42 : Int32) =>
                    some (.inl ((x6_15 + y40), y42, (x9_17 + 1)))
                    ) fun j43 =>
                  jn (
                    j43 x7_16
                    ) fun j44 =>
                  if x10_23 = 0 then
                    j44
                  else
                    if x7_16 = (-1) then
                      j43 ((10 * x8_11) + x9_17)
                    else
                      j44
                  ) fun j41 =>
                if x10_23 = 0 then
                  j41 0
                else
                  j41 1
                )
            else
              some (.inr (x6_15, x7_16))
            ) (x6_9, x7_10, 0)) (cu2 fun (x6_18 : Int32) (x7_19 : Int32) =>
            some (.inl (x6_18, x7_19, (x8_11 + 1)))
            )
        else
          some (.inr (x6_9, x7_10))
        ) (0, (-1), 0)) (cu2 fun (x6_12 : Int32) (x7_13 : Int32) =>
        jn (fun (y45 : Int32) =>
          some (y45, ν6)
          ) fun j46 =>
        if x3 = 0 then
          j46 x6_12
        else
          j46 x7_13
        )
set_option maxHeartbeats 4000000 in
set_option maxRecDepth 100000 in
theorem c_X11_game {g : GT} {x1 : Int32} {x2 : Int32} {x3 : Int32} {μ : Mem} {μ0 : Mem} {r0 : Int32} (hf : f_X11_game x1 x2 x3 μ = some (r0, μ0)) : CI g yX11_game cX11_game 12 (some .int) 4 [rf g 112, .int x1, .int x2, .int x3] μ r0 μ0 := by
  refine mk_i (by decide) (Nat.le_of_ble_eq_true rfl) ?_
  intro G hX hR
  have hX : CX g G cX11_game RX11 12 4 := hX
  suffices S : ∀ K : (Int32 × Mem) → Prop, (∀ a, K a → a = (r0, μ0)) → Sim G (f_X11_game x1 x2 x3 μ) K 0 [(0, rf g 112), (1, .int x1), (2, .int x2), (3, .int x3)] [] μ from S (fun a => a = (r0, μ0)) (fun a h => h) _ hf rfl
  intro K hK
  unfold f_X11_game
  refine s_aload_n hX dX11_game_0 rfl 0 rfl ?_
  refine s_iload_n hX dX11_game_1 rfl 1 rfl ?_
  refine s_iload_n hX dX11_game_2 rfl 2 rfl ?_
  refine s_callVir hX [.int x1, .int x2] (k := 112) (ci := 10) rfl hc10 vkX11_areTwo (fun r hF => c_X11_areTwo  hF) mkX11_areTwo cvX11_86 rfl rfl ⟨by omega, by decide, Nat.le_of_ble_eq_true rfl⟩ dX11_game_3 (fun r1 => ?_)
  refine s_jn (C := fun j => Sim G (j) K 19 [(0, rf g 112)] [] μ) ?_ (fun j2 hj2 => ?_)
  · skip
    show Sim G _ _ 19 [(0, rf g 112)] [] μ
    refine s_aload_n hX dX11_game_19 rfl 0 rfl ?_
    refine s_iconst (v := 0) hX dX11_game_20 (by decide) ?_
    refine s_bipush (v := (-10)) hX dX11_game_21 (by decide) ?_
    refine s_callViw hX [.int 0, .int (-10)] (k := 112) (ci := 10) rfl hc10 vkX11_refuses (fun r ν hF => c_X11_refuses  hF) mkX11_refuses cvX11_47 rfl rfl ⟨by omega, by decide, Nat.le_of_ble_eq_true rfl⟩ dX11_game_23 (fun r3 ν4 => ?_)
    exact s_ireti hK hR dX11_game_26
  refine s_if_eq hX 19 dX11_game_6 (by decide) ?_ ?_
  · exact s_to hX [0] rfl (hj2)
  · refine s_iload_n hX dX11_game_9 rfl 3 rfl ?_
    refine s_i2l hX dX11_game_10 ?_
    refine s_lconst (v := 0) hX dX11_game_11 (by decide) ?_
    refine s_lconst (v := 1) hX dX11_game_12 (by decide) ?_
    refine s_callSir hX [.long (x3 : Int32).toInt64, .long 0, .long 1] skX11_in (fun r hF => c_X11_in  hF) mkX11_in cvX11_51 rfl rfl ⟨by omega, by decide, Nat.le_of_ble_eq_true rfl⟩ dX11_game_13 (fun r5 => ?_)
    refine s_if_ne hX 27 dX11_game_16 (by decide) ?_ ?_
    · refine s_aload_n hX dX11_game_27 rfl 0 rfl ?_
      refine s_callVvw hX [] (k := 112) (ci := 10) rfl hc10 vkX11_asNow (fun ν hF => c_X11_asNow  hF) mkX11_asNow cvX11_187 rfl rfl ⟨by omega, by decide, Nat.le_of_ble_eq_true rfl⟩ dX11_game_28 (fun ν6 => ?_)
      refine s_aload_n hX dX11_game_31 rfl 0 rfl ?_
      refine s_iload_n hX dX11_game_32 rfl 1 rfl ?_
      refine s_aload_n hX dX11_game_33 rfl 0 rfl ?_
      refine s_getR hX (d := 1) 113 flX11_7 rfl rfl dX11_game_34 ?_
      refine s_iconst (v := 3) hX dX11_game_37 (by decide) ?_
      refine s_ialdK hX rfl rfl (by decide) rfl dX11_game_38 ?_
      refine s_callVir hX [.int x1, .int (ν6.1 113 3)] (k := 112) (ci := 10) rfl hc10 vkX11_sightOf (fun r hF => c_X11_sightOf  hF) mkX11_sightOf cvX11_171 rfl rfl ⟨by omega, by decide, Nat.le_of_ble_eq_true rfl⟩ dX11_game_39 (fun r7 => ?_)
      refine s_istore (lv' := [(4, .int r7), (0, rf g 112), (1, .int x1), (2, .int x2), (3, .int x3)]) hX dX11_game_42 (by decide) rfl ?_
      refine s_aload_n hX dX11_game_44 rfl 1 rfl ?_
      refine s_iload_n hX dX11_game_45 rfl 3 rfl ?_
      refine s_aload_n hX dX11_game_46 rfl 1 rfl ?_
      refine s_getR hX (d := 1) 113 flX11_7 rfl rfl dX11_game_47 ?_
      refine s_iconst (v := 3) hX dX11_game_50 (by decide) ?_
      refine s_ialdK hX rfl rfl (by decide) rfl dX11_game_51 ?_
      refine s_callVir hX [.int x2, .int (ν6.1 113 3)] (k := 112) (ci := 10) rfl hc10 vkX11_sightOf (fun r hF => c_X11_sightOf  hF) mkX11_sightOf cvX11_171 rfl rfl ⟨by omega, by decide, Nat.le_of_ble_eq_true rfl⟩ dX11_game_52 (fun r8 => ?_)
      refine s_istore (lv' := [(5, .int r8), (4, .int r7), (0, rf g 112), (1, .int x1), (2, .int x2), (3, .int x3)]) hX dX11_game_55 (by decide) rfl ?_
      refine s_iconst (v := 0) hX dX11_game_57 (by decide) ?_
      refine s_istore (lv' := [(6, .int 0), (5, .int r8), (4, .int r7), (0, rf g 112), (1, .int x1), (2, .int x2), (3, .int x3)]) hX dX11_game_58 (by decide) rfl ?_
      refine s_iconst (v := (-1)) hX dX11_game_60 (by decide) ?_
      refine s_istore (lv' := [(7, .int (-1)), (6, .int 0), (5, .int r8), (4, .int r7), (0, rf g 112), (1, .int x1), (2, .int x2), (3, .int x3)]) hX dX11_game_61 (by decide) rfl ?_
      refine s_iconst (v := 0) hX dX11_game_63 (by decide) ?_
      refine s_istore (lv' := [(8, .int 0), (7, .int (-1)), (6, .int 0), (5, .int r8), (4, .int r7), (0, rf g 112), (1, .int x1), (2, .int x2), (3, .int x3)]) hX dX11_game_64 (by decide) rfl ?_
      refine s_loop hX 66 257 (fun s : Int32 × Int32 × Int32 => [(1, .int x1), (2, .int x2), (3, .int x3), (4, .int r7), (5, .int r8), (6, .int s.1), (7, .int s.2.1), (8, .int s.2.2)]) (fun s : Int32 × Int32 × Int32 => ν6) (fun s : Int32 × Int32 => [(3, .int x3), (6, .int s.1), (7, .int s.2)]) (fun s : Int32 × Int32 => ν6) [6, 7, 8, 4, 3, 2, 1, 0] rfl rfl rfl ?_ ?_
      · intro Kq14 hIq14 hJq14 sq
        obtain ⟨x6_9, x7_10, x8_11⟩ := sq
        refine s_cu3 ?_
        show Sim G _ _ 66 [(1, .int x1), (2, .int x2), (3, .int x3), (4, .int r7), (5, .int r8), (6, .int x6_9), (7, .int x7_10), (8, .int x8_11)] [] ν6
        refine s_iload hX dX11_game_66 7 rfl ?_
        refine s_bipush (v := 10) hX dX11_game_68 (by decide) ?_
        refine s_icmp_ge hX 257 dX11_game_70 (by decide) ?_ ?_
        · exact s_end hX (hJq14 (x6_9, x7_10)) [2, 5, 6] rfl
        · refine s_iconst (v := 0) hX dX11_game_73 (by decide) ?_
          refine s_istore (lv' := [(9, .int 0), (1, .int x1), (2, .int x2), (3, .int x3), (4, .int r7), (5, .int r8), (6, .int x6_9), (7, .int x7_10), (8, .int x8_11)]) hX dX11_game_74 (by decide) rfl ?_
          refine s_loop hX 76 251 (fun s : Int32 × Int32 × Int32 => [(1, .int x1), (2, .int x2), (3, .int x3), (4, .int r7), (5, .int r8), (6, .int s.1), (7, .int s.2.1), (8, .int x8_11), (9, .int s.2.2)]) (fun s : Int32 × Int32 × Int32 => ν6) (fun s : Int32 × Int32 => [(1, .int x1), (2, .int x2), (3, .int x3), (4, .int r7), (5, .int r8), (6, .int s.1), (7, .int s.2), (8, .int x8_11)]) (fun s : Int32 × Int32 => ν6) [1, 2, 3, 4, 5, 6, 7, 8, 0] rfl rfl rfl ?_ ?_
          · intro Kq20 hIq20 hJq20 sq
            obtain ⟨x6_15, x7_16, x9_17⟩ := sq
            refine s_cu3 ?_
            show Sim G _ _ 76 [(1, .int x1), (2, .int x2), (3, .int x3), (4, .int r7), (5, .int r8), (6, .int x6_15), (7, .int x7_16), (8, .int x8_11), (9, .int x9_17)] [] ν6
            refine s_iload hX dX11_game_76 8 rfl ?_
            refine s_bipush (v := 10) hX dX11_game_78 (by decide) ?_
            refine s_icmp_ge hX 251 dX11_game_80 (by decide) ?_ ?_
            · exact s_end hX (hJq20 (x6_15, x7_16)) [0, 1, 2, 3, 4, 5, 6, 7] rfl
            · refine s_iconst (v := 1) hX dX11_game_83 (by decide) ?_
              refine s_istore (lv' := [(10, .int 1), (1, .int x1), (2, .int x2), (3, .int x3), (4, .int r7), (5, .int r8), (6, .int x6_15), (7, .int x7_16), (8, .int x8_11), (9, .int x9_17)]) hX dX11_game_84 (by decide) rfl ?_
              refine s_iconst (v := 0) hX dX11_game_86 (by decide) ?_
              refine s_istore (lv' := [(11, .int 0), (10, .int 1), (1, .int x1), (2, .int x2), (3, .int x3), (4, .int r7), (5, .int r8), (6, .int x6_15), (7, .int x7_16), (8, .int x8_11), (9, .int x9_17)]) hX dX11_game_87 (by decide) rfl ?_
              refine s_loop hX 89 204 (fun s : Int32 × Int32 => [(1, .int x1), (2, .int x2), (3, .int x3), (4, .int r7), (5, .int r8), (6, .int x6_15), (7, .int x7_16), (8, .int x8_11), (9, .int x9_17), (10, .int s.1), (11, .int s.2)]) (fun s : Int32 × Int32 => ν6) (fun s : Int32 => [(1, .int x1), (2, .int x2), (3, .int x3), (4, .int r7), (5, .int r8), (6, .int x6_15), (7, .int x7_16), (8, .int x8_11), (9, .int x9_17), (10, .int s)]) (fun s : Int32 => ν6) [2, 3, 4, 5, 6, 7, 8, 9, 10, 1, 0] rfl rfl rfl ?_ ?_
              · intro Kq24 hIq24 hJq24 sq
                obtain ⟨x10_21, x11_22⟩ := sq
                refine s_cu2 ?_
                show Sim G _ _ 89 [(1, .int x1), (2, .int x2), (3, .int x3), (4, .int r7), (5, .int r8), (6, .int x6_15), (7, .int x7_16), (8, .int x8_11), (9, .int x9_17), (10, .int x10_21), (11, .int x11_22)] [] ν6
                refine s_iload hX dX11_game_89 10 rfl ?_
                refine s_bipush (v := 10) hX dX11_game_91 (by decide) ?_
                refine s_icmp_ge hX 204 dX11_game_93 (by decide) ?_ ?_
                · exact s_end hX (hJq24 x10_21) [0, 1, 2, 3, 4, 5, 6, 7, 8, 9] rfl
                · refine s_iload hX dX11_game_96 9 rfl ?_
                  refine s_jn (C := fun j => ∀ (y25 : Int32), Sim G (j y25) Kq24 196 [(1, .int x1), (2, .int x2), (3, .int x3), (4, .int r7), (5, .int r8), (6, .int x6_15), (7, .int x7_16), (8, .int x8_11), (9, .int x9_17), (11, .int x11_22)] [.int y25] ν6) ?_ (fun j26 hj26 => ?_)
                  · intro y25
                    show Sim G _ _ 196 [(1, .int x1), (2, .int x2), (3, .int x3), (4, .int r7), (5, .int r8), (6, .int x6_15), (7, .int x7_16), (8, .int x8_11), (9, .int x9_17), (11, .int x11_22)] [.int y25] ν6
                    refine s_istore (lv' := [(10, .int y25), (1, .int x1), (2, .int x2), (3, .int x3), (4, .int r7), (5, .int r8), (6, .int x6_15), (7, .int x7_16), (8, .int x8_11), (9, .int x9_17), (11, .int x11_22)]) hX dX11_game_196 (by decide) rfl ?_
                    refine s_iinc (v := (x11_22 + 1)) (lv' := [(11, .int (x11_22 + 1)), (10, .int y25), (1, .int x1), (2, .int x2), (3, .int x3), (4, .int r7), (5, .int r8), (6, .int x6_15), (7, .int x7_16), (8, .int x8_11), (9, .int x9_17)]) hX dX11_game_198 10 rfl rfl (by decide) rfl ?_
                    refine s_goto hX 89 dX11_game_201 (by decide) ?_
                    exact s_end hX (hIq24 (y25, (x11_22 + 1))) [2, 3, 4, 5, 6, 7, 8, 9, 10, 1, 0] rfl
                  refine s_jn (C := fun j => Sim G (j) Kq24 195 [(1, .int x1), (2, .int x2), (3, .int x3), (4, .int r7), (5, .int r8), (6, .int x6_15), (7, .int x7_16), (8, .int x8_11), (9, .int x9_17), (11, .int x11_22)] [] ν6) ?_ (fun j27 hj27 => ?_)
                  · skip
                    show Sim G _ _ 195 [(1, .int x1), (2, .int x2), (3, .int x3), (4, .int r7), (5, .int r8), (6, .int x6_15), (7, .int x7_16), (8, .int x8_11), (9, .int x9_17), (11, .int x11_22)] [] ν6
                    refine s_iconst (v := 0) hX dX11_game_195 (by decide) ?_
                    exact s_to hX [0, 1, 2, 3, 4, 5, 6, 7, 8, 9] rfl (hj26 0)
                  refine s_if_eq hX 195 dX11_game_98 (by decide) ?_ ?_
                  · exact s_to hX [0, 1, 2, 3, 4, 5, 6, 7, 8, 10] rfl (hj27)
                  · refine s_iload hX dX11_game_101 3 rfl ?_
                    refine s_iload hX dX11_game_103 4 rfl ?_
                    refine s_iload hX dX11_game_105 10 rfl ?_
                    refine s_iload hX dX11_game_107 8 rfl ?_
                    refine s_iload_n hX dX11_game_109 rfl 0 rfl ?_
                    refine s_iload_n hX dX11_game_110 rfl 1 rfl ?_
                    refine s_jn (C := fun j => ∀ (y28 : Int32), Sim G (j y28) Kq24 119 [(1, .int x1), (2, .int x2), (3, .int x3), (4, .int r7), (5, .int r8), (6, .int x6_15), (7, .int x7_16), (8, .int x8_11), (9, .int x9_17), (11, .int x11_22)] [.int y28, .int x9_17, .int x11_22, .int r8, .int r7] ν6) ?_ (fun j29 hj29 => ?_)
                    · intro y28
                      show Sim G _ _ 119 [(1, .int x1), (2, .int x2), (3, .int x3), (4, .int r7), (5, .int r8), (6, .int x6_15), (7, .int x7_16), (8, .int x8_11), (9, .int x9_17), (11, .int x11_22)] [.int y28, .int x9_17, .int x11_22, .int r8, .int r7] ν6
                      refine s_callSir hX [.int r7, .int r8, .int x11_22, .int x9_17, .int y28] skX11_loss (fun r hF => c_X11_loss  hF) mkX11_loss cvX11_256 rfl rfl ⟨by omega, by decide, Nat.le_of_ble_eq_true rfl⟩ dX11_game_119 (fun r30 => ?_)
                      refine s_iload hX dX11_game_122 3 rfl ?_
                      refine s_iload hX dX11_game_124 4 rfl ?_
                      refine s_iload hX dX11_game_126 7 rfl ?_
                      refine s_iload hX dX11_game_128 8 rfl ?_
                      refine s_iload_n hX dX11_game_130 rfl 0 rfl ?_
                      refine s_iload_n hX dX11_game_131 rfl 1 rfl ?_
                      refine s_jn (C := fun j => ∀ (y31 : Int32), Sim G (j y31) Kq24 140 [(1, .int x1), (2, .int x2), (3, .int x3), (4, .int r7), (5, .int r8), (6, .int x6_15), (7, .int x7_16), (8, .int x8_11), (9, .int x9_17), (11, .int x11_22)] [.int y31, .int x9_17, .int x8_11, .int r8, .int r7, .int r30] ν6) ?_ (fun j32 hj32 => ?_)
                      · intro y31
                        show Sim G _ _ 140 [(1, .int x1), (2, .int x2), (3, .int x3), (4, .int r7), (5, .int r8), (6, .int x6_15), (7, .int x7_16), (8, .int x8_11), (9, .int x9_17), (11, .int x11_22)] [.int y31, .int x9_17, .int x8_11, .int r8, .int r7, .int r30] ν6
                        refine s_callSir hX [.int r7, .int r8, .int x8_11, .int x9_17, .int y31] skX11_loss (fun r hF => c_X11_loss  hF) mkX11_loss cvX11_256 rfl rfl ⟨by omega, by decide, Nat.le_of_ble_eq_true rfl⟩ dX11_game_140 (fun r33 => ?_)
                        refine s_icmp_lt hX 195 dX11_game_143 (by decide) ?_ ?_
                        · exact s_to hX [0, 1, 2, 3, 4, 5, 6, 7, 8, 9] rfl (hj27)
                        · refine s_iload hX dX11_game_146 4 rfl ?_
                          refine s_iload hX dX11_game_148 3 rfl ?_
                          refine s_iload hX dX11_game_150 9 rfl ?_
                          refine s_iload hX dX11_game_152 7 rfl ?_
                          refine s_iload_n hX dX11_game_154 rfl 1 rfl ?_
                          refine s_iload_n hX dX11_game_155 rfl 0 rfl ?_
                          refine s_jn (C := fun j => ∀ (y34 : Int32), Sim G (j y34) Kq24 164 [(1, .int x1), (2, .int x2), (3, .int x3), (4, .int r7), (5, .int r8), (6, .int x6_15), (7, .int x7_16), (8, .int x8_11), (9, .int x9_17), (11, .int x11_22)] [.int y34, .int x8_11, .int x11_22, .int r7, .int r8] ν6) ?_ (fun j35 hj35 => ?_)
                          · intro y34
                            show Sim G _ _ 164 [(1, .int x1), (2, .int x2), (3, .int x3), (4, .int r7), (5, .int r8), (6, .int x6_15), (7, .int x7_16), (8, .int x8_11), (9, .int x9_17), (11, .int x11_22)] [.int y34, .int x8_11, .int x11_22, .int r7, .int r8] ν6
                            refine s_callSir hX [.int r8, .int r7, .int x11_22, .int x8_11, .int y34] skX11_loss (fun r hF => c_X11_loss  hF) mkX11_loss cvX11_256 rfl rfl ⟨by omega, by decide, Nat.le_of_ble_eq_true rfl⟩ dX11_game_164 (fun r36 => ?_)
                            refine s_iload hX dX11_game_167 4 rfl ?_
                            refine s_iload hX dX11_game_169 3 rfl ?_
                            refine s_iload hX dX11_game_171 8 rfl ?_
                            refine s_iload hX dX11_game_173 7 rfl ?_
                            refine s_iload_n hX dX11_game_175 rfl 1 rfl ?_
                            refine s_iload_n hX dX11_game_176 rfl 0 rfl ?_
                            refine s_jn (C := fun j => ∀ (y37 : Int32), Sim G (j y37) Kq24 185 [(1, .int x1), (2, .int x2), (3, .int x3), (4, .int r7), (5, .int r8), (6, .int x6_15), (7, .int x7_16), (8, .int x8_11), (9, .int x9_17), (11, .int x11_22)] [.int y37, .int x8_11, .int x9_17, .int r7, .int r8, .int r36] ν6) ?_ (fun j38 hj38 => ?_)
                            · intro y37
                              show Sim G _ _ 185 [(1, .int x1), (2, .int x2), (3, .int x3), (4, .int r7), (5, .int r8), (6, .int x6_15), (7, .int x7_16), (8, .int x8_11), (9, .int x9_17), (11, .int x11_22)] [.int y37, .int x8_11, .int x9_17, .int r7, .int r8, .int r36] ν6
                              refine s_callSir hX [.int r8, .int r7, .int x9_17, .int x8_11, .int y37] skX11_loss (fun r hF => c_X11_loss  hF) mkX11_loss cvX11_256 rfl rfl ⟨by omega, by decide, Nat.le_of_ble_eq_true rfl⟩ dX11_game_185 (fun r39 => ?_)
                              refine s_icmp_lt hX 195 dX11_game_188 (by decide) ?_ ?_
                              · exact s_to hX [0, 1, 2, 3, 4, 5, 6, 7, 8, 9] rfl (hj27)
                              · refine s_iconst (v := 1) hX dX11_game_191 (by decide) ?_
                                refine s_goto hX 196 dX11_game_192 (by decide) ?_
                                exact s_to hX [0, 1, 2, 3, 4, 5, 6, 7, 8, 9] rfl (hj26 1)
                            refine s_icmp_ge hX 184 dX11_game_177 (by decide) ?_ ?_
                            · refine s_iconst (v := 0) hX dX11_game_184 (by decide) ?_
                              exact s_to hX [0, 1, 2, 3, 4, 5, 6, 7, 8, 9] rfl (hj38 0)
                            · refine s_iconst (v := 1) hX dX11_game_180 (by decide) ?_
                              refine s_goto hX 185 dX11_game_181 (by decide) ?_
                              exact s_to hX [0, 1, 2, 3, 4, 5, 6, 7, 8, 9] rfl (hj38 1)
                          refine s_icmp_ge hX 163 dX11_game_156 (by decide) ?_ ?_
                          · refine s_iconst (v := 0) hX dX11_game_163 (by decide) ?_
                            exact s_to hX [0, 1, 2, 3, 4, 5, 6, 7, 8, 9] rfl (hj35 0)
                          · refine s_iconst (v := 1) hX dX11_game_159 (by decide) ?_
                            refine s_goto hX 164 dX11_game_160 (by decide) ?_
                            exact s_to hX [0, 1, 2, 3, 4, 5, 6, 7, 8, 9] rfl (hj35 1)
                      refine s_icmp_ge hX 139 dX11_game_132 (by decide) ?_ ?_
                      · refine s_iconst (v := 0) hX dX11_game_139 (by decide) ?_
                        exact s_to hX [0, 1, 2, 3, 4, 5, 6, 7, 8, 9] rfl (hj32 0)
                      · refine s_iconst (v := 1) hX dX11_game_135 (by decide) ?_
                        refine s_goto hX 140 dX11_game_136 (by decide) ?_
                        exact s_to hX [0, 1, 2, 3, 4, 5, 6, 7, 8, 9] rfl (hj32 1)
                    refine s_icmp_ge hX 118 dX11_game_111 (by decide) ?_ ?_
                    · refine s_iconst (v := 0) hX dX11_game_118 (by decide) ?_
                      exact s_to hX [0, 1, 2, 3, 4, 5, 6, 7, 8, 10] rfl (hj29 0)
                    · refine s_iconst (v := 1) hX dX11_game_114 (by decide) ?_
                      refine s_goto hX 119 dX11_game_115 (by decide) ?_
                      exact s_to hX [0, 1, 2, 3, 4, 5, 6, 7, 8, 10] rfl (hj29 1)
              · intro sq
                obtain ⟨x10_23, rfl⟩ : ∃ z, z = sq := ⟨_, rfl⟩
                show Sim G _ _ 204 [(1, .int x1), (2, .int x2), (3, .int x3), (4, .int r7), (5, .int r8), (6, .int x6_15), (7, .int x7_16), (8, .int x8_11), (9, .int x9_17), (10, .int x10_23)] [] ν6
                refine s_iload hX dX11_game_204 5 rfl ?_
                refine s_iload hX dX11_game_206 9 rfl ?_
                refine s_jn (C := fun j => ∀ (y40 : Int32), Sim G (j y40) Kq20 216 [(1, .int x1), (2, .int x2), (3, .int x3), (4, .int r7), (5, .int r8), (7, .int x7_16), (8, .int x8_11), (9, .int x9_17), (10, .int x10_23)] [.int y40, .int x6_15] ν6) ?_ (fun j41 hj41 => ?_)
                · intro y40
                  show Sim G _ _ 216 [(1, .int x1), (2, .int x2), (3, .int x3), (4, .int r7), (5, .int r8), (7, .int x7_16), (8, .int x8_11), (9, .int x9_17), (10, .int x10_23)] [.int y40, .int x6_15] ν6
                  refine s_iadd hX dX11_game_216 ?_
                  refine s_istore (lv' := [(6, .int (x6_15 + y40)), (1, .int x1), (2, .int x2), (3, .int x3), (4, .int r7), (5, .int r8), (7, .int x7_16), (8, .int x8_11), (9, .int x9_17), (10, .int x10_23)]) hX dX11_game_217 (by decide) rfl ?_
                  refine s_iload hX dX11_game_219 9 rfl ?_
                  refine s_jn (C := fun j => ∀ (y42 : Int32), Sim G (j y42) Kq20 243 [(1, .int x1), (2, .int x2), (3, .int x3), (4, .int r7), (5, .int r8), (6, .int (x6_15 + y40)), (8, .int x8_11), (9, .int x9_17)] [.int y42] ν6) ?_ (fun j43 hj43 => ?_)
                  · intro y42
                    show Sim G _ _ 243 [(1, .int x1), (2, .int x2), (3, .int x3), (4, .int r7), (5, .int r8), (6, .int (x6_15 + y40)), (8, .int x8_11), (9, .int x9_17)] [.int y42] ν6
                    refine s_istore (lv' := [(7, .int y42), (1, .int x1), (2, .int x2), (3, .int x3), (4, .int r7), (5, .int r8), (6, .int (x6_15 + y40)), (8, .int x8_11), (9, .int x9_17)]) hX dX11_game_243 (by decide) rfl ?_
                    refine s_iinc (v := (x9_17 + 1)) (lv' := [(9, .int (x9_17 + 1)), (7, .int y42), (1, .int x1), (2, .int x2), (3, .int x3), (4, .int r7), (5, .int r8), (6, .int (x6_15 + y40)), (8, .int x8_11)]) hX dX11_game_245 8 rfl rfl (by decide) rfl ?_
                    refine s_goto hX 76 dX11_game_248 (by decide) ?_
                    exact s_end hX (hIq20 ((x6_15 + y40), y42, (x9_17 + 1))) [2, 3, 4, 5, 6, 7, 1, 8, 0] rfl
                  refine s_jn (C := fun j => Sim G (j) Kq20 241 [(1, .int x1), (2, .int x2), (3, .int x3), (4, .int r7), (5, .int r8), (6, .int (x6_15 + y40)), (7, .int x7_16), (8, .int x8_11), (9, .int x9_17)] [] ν6) ?_ (fun j44 hj44 => ?_)
                  · skip
                    show Sim G _ _ 241 [(1, .int x1), (2, .int x2), (3, .int x3), (4, .int r7), (5, .int r8), (6, .int (x6_15 + y40)), (7, .int x7_16), (8, .int x8_11), (9, .int x9_17)] [] ν6
                    refine s_iload hX dX11_game_241 6 rfl ?_
                    exact s_to hX [0, 1, 2, 3, 4, 5, 7, 8] rfl (hj43 x7_16)
                  refine s_if_eq hX 241 dX11_game_221 (by decide) ?_ ?_
                  · exact s_to hX [1, 2, 3, 4, 5, 0, 6, 7, 8] rfl (hj44)
                  · refine s_iload hX dX11_game_224 6 rfl ?_
                    refine s_iconst (v := (-1)) hX dX11_game_226 (by decide) ?_
                    refine s_icmp_ne hX 241 dX11_game_227 (by decide) ?_ ?_
                    · exact s_to hX [1, 2, 3, 4, 5, 0, 6, 7, 8] rfl (hj44)
                    · refine s_bipush (v := 10) hX dX11_game_230 (by decide) ?_
                      refine s_iload hX dX11_game_232 7 rfl ?_
                      refine s_imul hX dX11_game_234 ?_
                      refine s_iload hX dX11_game_235 8 rfl ?_
                      refine s_iadd hX dX11_game_237 ?_
                      refine s_goto hX 243 dX11_game_238 (by decide) ?_
                      exact s_to hX [1, 2, 3, 4, 5, 0, 7, 8] rfl (hj43 ((10 * x8_11) + x9_17))
                refine s_if_eq hX 215 dX11_game_208 (by decide) ?_ ?_
                · refine s_iconst (v := 0) hX dX11_game_215 (by decide) ?_
                  exact s_to hX [0, 1, 2, 3, 4, 6, 7, 8, 9] rfl (hj41 0)
                · refine s_iconst (v := 1) hX dX11_game_211 (by decide) ?_
                  refine s_goto hX 216 dX11_game_212 (by decide) ?_
                  exact s_to hX [0, 1, 2, 3, 4, 6, 7, 8, 9] rfl (hj41 1)
          · intro sq
            obtain ⟨x6_18, x7_19⟩ := sq
            refine s_cu2 ?_
            show Sim G _ _ 251 [(1, .int x1), (2, .int x2), (3, .int x3), (4, .int r7), (5, .int r8), (6, .int x6_18), (7, .int x7_19), (8, .int x8_11)] [] ν6
            refine s_iinc (v := (x8_11 + 1)) (lv' := [(8, .int (x8_11 + 1)), (1, .int x1), (2, .int x2), (3, .int x3), (4, .int r7), (5, .int r8), (6, .int x6_18), (7, .int x7_19)]) hX dX11_game_251 7 rfl rfl (by decide) rfl ?_
            refine s_goto hX 66 dX11_game_254 (by decide) ?_
            exact s_end hX (hIq14 (x6_18, x7_19, (x8_11 + 1))) [1, 2, 3, 4, 5, 6, 7, 0] rfl
      · intro sq
        obtain ⟨x6_12, x7_13⟩ := sq
        refine s_cu2 ?_
        show Sim G _ _ 257 [(3, .int x3), (6, .int x6_12), (7, .int x7_13)] [] ν6
        refine s_iload_n hX dX11_game_257 rfl 0 rfl ?_
        refine s_jn (C := fun j => ∀ (y45 : Int32), Sim G (j y45) K 268 [] [.int y45] ν6) ?_ (fun j46 hj46 => ?_)
        · intro y45
          show Sim G _ _ 268 [] [.int y45] ν6
          exact s_ireti hK hR dX11_game_268
        refine s_if_ne hX 266 dX11_game_258 (by decide) ?_ ?_
        · refine s_iload hX dX11_game_266 2 rfl ?_
          exact s_to hX [] rfl (hj46 x7_13)
        · refine s_iload hX dX11_game_261 1 rfl ?_
          refine s_goto hX 268 dX11_game_263 (by decide) ?_
          exact s_to hX [] rfl (hj46 x6_12)
    · exact s_to hX [0] rfl (hj2)
theorem dX11_goes_0 : decode cX11_goes 0 = .ok (.aload_n 0, 1) := by decide +kernel
theorem dX11_goes_1 : decode cX11_goes 1 = .ok (.aload_n 0, 1) := by decide +kernel
theorem dX11_goes_2 : decode cX11_goes 2 = .ok (.invokevirtual 177, 3) := by decide +kernel
theorem dX11_goes_5 : decode cX11_goes 5 = .ok (.iload_n 1, 1) := by decide +kernel
theorem dX11_goes_6 : decode cX11_goes 6 = .ok (.iconst (-1), 1) := by decide +kernel
theorem dX11_goes_7 : decode cX11_goes 7 = .ok (.ixor, 1) := by decide +kernel
theorem dX11_goes_8 : decode cX11_goes 8 = .ok (.iand, 1) := by decide +kernel
theorem dX11_goes_9 : decode cX11_goes 9 = .ok (.iload_n 3, 1) := by decide +kernel
theorem dX11_goes_10 : decode cX11_goes 10 = .ok (.iconst (-1), 1) := by decide +kernel
theorem dX11_goes_11 : decode cX11_goes 11 = .ok (.iconst 0, 1) := by decide +kernel
theorem dX11_goes_12 : decode cX11_goes 12 = .ok (.invokevirtual 180, 3) := by decide +kernel
theorem dX11_goes_15 : decode cX11_goes 15 = .ok (.istore 5, 2) := by decide +kernel
theorem dX11_goes_17 : decode cX11_goes 17 = .ok (.iload 5, 2) := by decide +kernel
theorem dX11_goes_19 : decode cX11_goes 19 = .ok (.iconst (-1), 1) := by decide +kernel
theorem dX11_goes_20 : decode cX11_goes 20 = .ok (.if_icmp .eq 7, 3) := by decide +kernel
theorem dX11_goes_23 : decode cX11_goes 23 = .ok (.iload_n 2, 1) := by decide +kernel
theorem dX11_goes_24 : decode cX11_goes 24 = .ok (.ifCond .ne 7, 3) := by decide +kernel
theorem dX11_goes_27 : decode cX11_goes 27 = .ok (.iconst (-1), 1) := by decide +kernel
theorem dX11_goes_28 : decode cX11_goes 28 = .ok (.goto 25, 3) := by decide +kernel
theorem dX11_goes_31 : decode cX11_goes 31 = .ok (.aload_n 0, 1) := by decide +kernel
theorem dX11_goes_32 : decode cX11_goes 32 = .ok (.aload_n 0, 1) := by decide +kernel
theorem dX11_goes_33 : decode cX11_goes 33 = .ok (.invokevirtual 177, 3) := by decide +kernel
theorem dX11_goes_36 : decode cX11_goes 36 = .ok (.iload_n 1, 1) := by decide +kernel
theorem dX11_goes_37 : decode cX11_goes 37 = .ok (.iconst (-1), 1) := by decide +kernel
theorem dX11_goes_38 : decode cX11_goes 38 = .ok (.ixor, 1) := by decide +kernel
theorem dX11_goes_39 : decode cX11_goes 39 = .ok (.iand, 1) := by decide +kernel
theorem dX11_goes_40 : decode cX11_goes 40 = .ok (.iconst 1, 1) := by decide +kernel
theorem dX11_goes_41 : decode cX11_goes 41 = .ok (.iload 5, 2) := by decide +kernel
theorem dX11_goes_43 : decode cX11_goes 43 = .ok (.ishl, 1) := by decide +kernel
theorem dX11_goes_44 : decode cX11_goes 44 = .ok (.iconst (-1), 1) := by decide +kernel
theorem dX11_goes_45 : decode cX11_goes 45 = .ok (.ixor, 1) := by decide +kernel
theorem dX11_goes_46 : decode cX11_goes 46 = .ok (.iand, 1) := by decide +kernel
theorem dX11_goes_47 : decode cX11_goes 47 = .ok (.iload_n 3, 1) := by decide +kernel
theorem dX11_goes_48 : decode cX11_goes 48 = .ok (.iconst (-1), 1) := by decide +kernel
theorem dX11_goes_49 : decode cX11_goes 49 = .ok (.iconst 0, 1) := by decide +kernel
theorem dX11_goes_50 : decode cX11_goes 50 = .ok (.invokevirtual 180, 3) := by decide +kernel
theorem dX11_goes_53 : decode cX11_goes 53 = .ok (.istore 6, 2) := by decide +kernel
theorem dX11_goes_55 : decode cX11_goes 55 = .ok (.iconst 0, 1) := by decide +kernel
theorem dX11_goes_56 : decode cX11_goes 56 = .ok (.istore 7, 2) := by decide +kernel
theorem dX11_goes_58 : decode cX11_goes 58 = .ok (.iconst 0, 1) := by decide +kernel
theorem dX11_goes_59 : decode cX11_goes 59 = .ok (.istore 8, 2) := by decide +kernel
theorem dX11_goes_61 : decode cX11_goes 61 = .ok (.iload 8, 2) := by decide +kernel
theorem dX11_goes_63 : decode cX11_goes 63 = .ok (.aload_n 0, 1) := by decide +kernel
theorem dX11_goes_64 : decode cX11_goes 64 = .ok (.getfield 7, 3) := by decide +kernel
theorem dX11_goes_67 : decode cX11_goes 67 = .ok (.iconst 1, 1) := by decide +kernel
theorem dX11_goes_68 : decode cX11_goes 68 = .ok (.iaload, 1) := by decide +kernel
theorem dX11_goes_69 : decode cX11_goes 69 = .ok (.if_icmp .ge 177, 3) := by decide +kernel
theorem dX11_goes_72 : decode cX11_goes 72 = .ok (.aload_n 0, 1) := by decide +kernel
theorem dX11_goes_73 : decode cX11_goes 73 = .ok (.getfield 7, 3) := by decide +kernel
theorem dX11_goes_76 : decode cX11_goes 76 = .ok (.bipush 6, 2) := by decide +kernel
theorem dX11_goes_78 : decode cX11_goes 78 = .ok (.iload 8, 2) := by decide +kernel
theorem dX11_goes_80 : decode cX11_goes 80 = .ok (.iadd, 1) := by decide +kernel
theorem dX11_goes_81 : decode cX11_goes 81 = .ok (.iaload, 1) := by decide +kernel
theorem dX11_goes_82 : decode cX11_goes 82 = .ok (.istore 9, 2) := by decide +kernel
theorem dX11_goes_84 : decode cX11_goes 84 = .ok (.aload_n 0, 1) := by decide +kernel
theorem dX11_goes_85 : decode cX11_goes 85 = .ok (.getfield 7, 3) := by decide +kernel
theorem dX11_goes_88 : decode cX11_goes 88 = .ok (.bipush 16, 2) := by decide +kernel
theorem dX11_goes_90 : decode cX11_goes 90 = .ok (.iload 8, 2) := by decide +kernel
theorem dX11_goes_92 : decode cX11_goes 92 = .ok (.iadd, 1) := by decide +kernel
theorem dX11_goes_93 : decode cX11_goes 93 = .ok (.iaload, 1) := by decide +kernel
theorem dX11_goes_94 : decode cX11_goes 94 = .ok (.istore 10, 2) := by decide +kernel
theorem dX11_goes_96 : decode cX11_goes 96 = .ok (.iload 10, 2) := by decide +kernel
theorem dX11_goes_98 : decode cX11_goes 98 = .ok (.iload 5, 2) := by decide +kernel
theorem dX11_goes_100 : decode cX11_goes 100 = .ok (.if_icmp .ne 9, 3) := by decide +kernel
theorem dX11_goes_103 : decode cX11_goes 103 = .ok (.iload 5, 2) := by decide +kernel
theorem dX11_goes_105 : decode cX11_goes 105 = .ok (.iconst (-1), 1) := by decide +kernel
theorem dX11_goes_106 : decode cX11_goes 106 = .ok (.if_icmp .ne 16, 3) := by decide +kernel
theorem dX11_goes_109 : decode cX11_goes 109 = .ok (.iload 10, 2) := by decide +kernel
theorem dX11_goes_111 : decode cX11_goes 111 = .ok (.iload 6, 2) := by decide +kernel
theorem dX11_goes_113 : decode cX11_goes 113 = .ok (.if_icmp .ne 24, 3) := by decide +kernel
theorem dX11_goes_116 : decode cX11_goes 116 = .ok (.iload 6, 2) := by decide +kernel
theorem dX11_goes_118 : decode cX11_goes 118 = .ok (.iconst (-1), 1) := by decide +kernel
theorem dX11_goes_119 : decode cX11_goes 119 = .ok (.if_icmp .eq 18, 3) := by decide +kernel
theorem dX11_goes_122 : decode cX11_goes 122 = .ok (.iload 9, 2) := by decide +kernel
theorem dX11_goes_124 : decode cX11_goes 124 = .ok (.aload_n 0, 1) := by decide +kernel
theorem dX11_goes_125 : decode cX11_goes 125 = .ok (.getfield 32, 3) := by decide +kernel
theorem dX11_goes_128 : decode cX11_goes 128 = .ok (.iload 8, 2) := by decide +kernel
theorem dX11_goes_130 : decode cX11_goes 130 = .ok (.iaload, 1) := by decide +kernel
theorem dX11_goes_131 : decode cX11_goes 131 = .ok (.invokestatic 174, 3) := by decide +kernel
theorem dX11_goes_134 : decode cX11_goes 134 = .ok (.goto 4, 3) := by decide +kernel
theorem dX11_goes_137 : decode cX11_goes 137 = .ok (.iconst 0, 1) := by decide +kernel
theorem dX11_goes_138 : decode cX11_goes 138 = .ok (.istore 11, 2) := by decide +kernel
theorem dX11_goes_140 : decode cX11_goes 140 = .ok (.aload_n 0, 1) := by decide +kernel
theorem dX11_goes_141 : decode cX11_goes 141 = .ok (.getfield 32, 3) := by decide +kernel
theorem dX11_goes_144 : decode cX11_goes 144 = .ok (.iload 8, 2) := by decide +kernel
theorem dX11_goes_146 : decode cX11_goes 146 = .ok (.dup2, 1) := by decide +kernel
theorem dX11_goes_147 : decode cX11_goes 147 = .ok (.iaload, 1) := by decide +kernel
theorem dX11_goes_148 : decode cX11_goes 148 = .ok (.iload 11, 2) := by decide +kernel
theorem dX11_goes_150 : decode cX11_goes 150 = .ok (.isub, 1) := by decide +kernel
theorem dX11_goes_151 : decode cX11_goes 151 = .ok (.iastore, 1) := by decide +kernel
theorem dX11_goes_152 : decode cX11_goes 152 = .ok (.iload 7, 2) := by decide +kernel
theorem dX11_goes_154 : decode cX11_goes 154 = .ok (.iload 11, 2) := by decide +kernel
theorem dX11_goes_156 : decode cX11_goes 156 = .ok (.iadd, 1) := by decide +kernel
theorem dX11_goes_157 : decode cX11_goes 157 = .ok (.istore 7, 2) := by decide +kernel
theorem dX11_goes_159 : decode cX11_goes 159 = .ok (.aload_n 0, 1) := by decide +kernel
theorem dX11_goes_160 : decode cX11_goes 160 = .ok (.getfield 32, 3) := by decide +kernel
theorem dX11_goes_163 : decode cX11_goes 163 = .ok (.iload 8, 2) := by decide +kernel
theorem dX11_goes_165 : decode cX11_goes 165 = .ok (.iaload, 1) := by decide +kernel
theorem dX11_goes_166 : decode cX11_goes 166 = .ok (.ifCond .le 19, 3) := by decide +kernel
theorem dX11_goes_169 : decode cX11_goes 169 = .ok (.iload 9, 2) := by decide +kernel
theorem dX11_goes_171 : decode cX11_goes 171 = .ok (.iconst 2, 1) := by decide +kernel
theorem dX11_goes_172 : decode cX11_goes 172 = .ok (.if_icmp .eq 13, 3) := by decide +kernel
theorem dX11_goes_175 : decode cX11_goes 175 = .ok (.iload 9, 2) := by decide +kernel
theorem dX11_goes_177 : decode cX11_goes 177 = .ok (.iconst 5, 1) := by decide +kernel
theorem dX11_goes_178 : decode cX11_goes 178 = .ok (.if_icmp .eq 7, 3) := by decide +kernel
theorem dX11_goes_181 : decode cX11_goes 181 = .ok (.iconst 1, 1) := by decide +kernel
theorem dX11_goes_182 : decode cX11_goes 182 = .ok (.goto 4, 3) := by decide +kernel
theorem dX11_goes_185 : decode cX11_goes 185 = .ok (.iconst 0, 1) := by decide +kernel
theorem dX11_goes_186 : decode cX11_goes 186 = .ok (.istore 12, 2) := by decide +kernel
theorem dX11_goes_188 : decode cX11_goes 188 = .ok (.aload_n 0, 1) := by decide +kernel
theorem dX11_goes_189 : decode cX11_goes 189 = .ok (.getfield 32, 3) := by decide +kernel
theorem dX11_goes_192 : decode cX11_goes 192 = .ok (.iload 8, 2) := by decide +kernel
theorem dX11_goes_194 : decode cX11_goes 194 = .ok (.dup2, 1) := by decide +kernel
theorem dX11_goes_195 : decode cX11_goes 195 = .ok (.iaload, 1) := by decide +kernel
theorem dX11_goes_196 : decode cX11_goes 196 = .ok (.iload 12, 2) := by decide +kernel
theorem dX11_goes_198 : decode cX11_goes 198 = .ok (.ifCond .eq 8, 3) := by decide +kernel
theorem dX11_goes_201 : decode cX11_goes 201 = .ok (.iload 4, 2) := by decide +kernel
theorem dX11_goes_203 : decode cX11_goes 203 = .ok (.goto 4, 3) := by decide +kernel
theorem dX11_goes_206 : decode cX11_goes 206 = .ok (.iconst 0, 1) := by decide +kernel
theorem dX11_goes_207 : decode cX11_goes 207 = .ok (.iadd, 1) := by decide +kernel
theorem dX11_goes_208 : decode cX11_goes 208 = .ok (.iastore, 1) := by decide +kernel
theorem dX11_goes_209 : decode cX11_goes 209 = .ok (.aload_n 0, 1) := by decide +kernel
theorem dX11_goes_210 : decode cX11_goes 210 = .ok (.getfield 32, 3) := by decide +kernel
theorem dX11_goes_213 : decode cX11_goes 213 = .ok (.iload 8, 2) := by decide +kernel
theorem dX11_goes_215 : decode cX11_goes 215 = .ok (.aload_n 0, 1) := by decide +kernel
theorem dX11_goes_216 : decode cX11_goes 216 = .ok (.getfield 32, 3) := by decide +kernel
theorem dX11_goes_219 : decode cX11_goes 219 = .ok (.iload 8, 2) := by decide +kernel
theorem dX11_goes_221 : decode cX11_goes 221 = .ok (.iaload, 1) := by decide +kernel
theorem dX11_goes_222 : decode cX11_goes 222 = .ok (.bipush 99, 2) := by decide +kernel
theorem dX11_goes_224 : decode cX11_goes 224 = .ok (.if_icmp .le 8, 3) := by decide +kernel
theorem dX11_goes_227 : decode cX11_goes 227 = .ok (.bipush 99, 2) := by decide +kernel
theorem dX11_goes_229 : decode cX11_goes 229 = .ok (.goto 10, 3) := by decide +kernel
theorem dX11_goes_232 : decode cX11_goes 232 = .ok (.aload_n 0, 1) := by decide +kernel
theorem dX11_goes_233 : decode cX11_goes 233 = .ok (.getfield 32, 3) := by decide +kernel
theorem dX11_goes_236 : decode cX11_goes 236 = .ok (.iload 8, 2) := by decide +kernel
theorem dX11_goes_238 : decode cX11_goes 238 = .ok (.iaload, 1) := by decide +kernel
theorem dX11_goes_239 : decode cX11_goes 239 = .ok (.iastore, 1) := by decide +kernel
theorem dX11_goes_240 : decode cX11_goes 240 = .ok (.iinc 8 1, 3) := by decide +kernel
theorem dX11_goes_243 : decode cX11_goes 243 = .ok (.goto (-182), 3) := by decide +kernel
theorem dX11_goes_246 : decode cX11_goes 246 = .ok (.iload 7, 2) := by decide +kernel
theorem dX11_goes_248 : decode cX11_goes 248 = .ok (.ireturn, 1) := by decide +kernel
noncomputable def f_X11_goes (x1 : Int32) (x2 : Int32) (x3 : Int32) (x4 : Int32) (μ : Mem) : Option (Int32 × Mem) :=
  bd (f_X11_all  μ) fun r1 =>
  bd (f_X11_greatestOf (r1 &&& (x1 ^^^ (-1))) x3 (-1) 0 μ) fun r2 =>
  jn (fun (y3 : Int32) =>
    bd (lp (ε := Int32 × Mem) (cu3 fun (x7_5 : Int32) (x8_6 : Int32) (ν7 : Mem) =>
      if x8_6 < (ν7.1 113 1) then
        chk (6 + x8_6) 184 (
          chk (16 + x8_6) 184 (
            jn (fun (y11 : Int32) =>
              chk x8_6 10 (
                chk x8_6 10 (lt (setI ν7 120 (ix x8_6) ((ν7.1 120 (ix x8_6)) - y11)) fun ν13 =>
                  chk x8_6 10 (
                    jn (fun (y14 : Int32) =>
                      chk x8_6 10 (
                        jn (fun (y16 : Int32) =>
                          chk x8_6 10 (lt (setI ν13 120 (ix x8_6) ((ν13.1 120 (ix x8_6)) + y16)) fun ν18 =>
                            chk x8_6 10 (
                              jn (fun (y19 : Int32) =>
                                chk x8_6 10 (lt (setI ν18 120 (ix x8_6) y19) fun ν21 =>
                                  some (.inl ((x7_5 + y11), (x8_6 + 1), ν21))
                                  )
                                ) fun j20 =>
                              if 99 < (ν18.1 120 (ix x8_6)) then
                                j20 99
                              else
                                chk x8_6 10 (
                                  j20 (ν18.1 120 (ix x8_6))
                                  )
                              )
                            )
                          ) fun j17 =>
                        if y14 = 0 then
                          j17 0
                        else
                          j17 x4
                        )
                      ) fun j15 =>
                    jn (
                      j15 0
                      ) fun j22 =>
                    if 0 < (ν13.1 120 (ix x8_6)) then
                      if (ν7.1 113 (ix (6 + x8_6))) = 2 then
                        j22
                      else
                        if (ν7.1 113 (ix (6 + x8_6))) = 5 then
                          j22
                        else
                          j15 1
                    else
                      j22
                    )
                  )
                )
              ) fun j12 =>
            jn (
              chk x8_6 10 (
                bd (f_X11_takenOf (ν7.1 113 (ix (6 + x8_6))) (ν7.1 120 (ix x8_6))) fun r24 =>
                j12 r24
                )
              ) fun j23 =>
            jn (
              jn (
                j12 0
                ) fun j26 =>
              if (ν7.1 113 (ix (16 + x8_6))) = y3 then
                if y3 = (-1) then
                  j26
                else
                  j23
              else
                j26
              ) fun j25 =>
            if (ν7.1 113 (ix (16 + x8_6))) = r2 then
              if r2 = (-1) then
                j25
              else
                j23
            else
              j25
            )
          )
      else
        some (.inr (x7_5, ν7))
      ) (0, 0, μ)) (cu2 fun (x7_8 : Int32) (ν9 : Mem) =>
      some (x7_8, ν9)
      )
    ) fun j4 =>
  jn (
    j4 (-1)
    ) fun j27 =>
  if r2 = (-1) then
    j27
  else
    if x2 = 0 then
      j27
    else
      bd (f_X11_all  μ) fun r28 =>
      bd (f_X11_greatestOf ((r28 &&& (x1 ^^^ (-1))) &&& (((1 : Int32) <<< (r2 &&& 31)) ^^^ (-1))) x3 (-1) 0 μ) fun r29 =>
      j4 r29
set_option maxHeartbeats 4000000 in
set_option maxRecDepth 100000 in
theorem c_X11_goes {g : GT} {x1 : Int32} {x2 : Int32} {x3 : Int32} {x4 : Int32} {μ : Mem} {μ0 : Mem} {r0 : Int32} (hf : f_X11_goes x1 x2 x3 x4 μ = some (r0, μ0)) : CI g yX11_goes cX11_goes 13 (some .int) 4 [rf g 112, .int x1, .int x2, .int x3, .int x4] μ r0 μ0 := by
  refine mk_i (by decide) (Nat.le_of_ble_eq_true rfl) ?_
  intro G hX hR
  have hX : CX g G cX11_goes RX11 13 4 := hX
  suffices S : ∀ K : (Int32 × Mem) → Prop, (∀ a, K a → a = (r0, μ0)) → Sim G (f_X11_goes x1 x2 x3 x4 μ) K 0 [(0, rf g 112), (1, .int x1), (2, .int x2), (3, .int x3), (4, .int x4)] [] μ from S (fun a => a = (r0, μ0)) (fun a h => h) _ hf rfl
  intro K hK
  unfold f_X11_goes
  refine s_aload_n hX dX11_goes_0 rfl 0 rfl ?_
  refine s_aload_n hX dX11_goes_1 rfl 0 rfl ?_
  refine s_callVir hX [] (k := 112) (ci := 10) rfl hc10 vkX11_all (fun r hF => c_X11_all  hF) mkX11_all cvX11_177 rfl rfl ⟨by omega, by decide, Nat.le_of_ble_eq_true rfl⟩ dX11_goes_2 (fun r1 => ?_)
  refine s_iload_n hX dX11_goes_5 rfl 1 rfl ?_
  refine s_iconst (v := (-1)) hX dX11_goes_6 (by decide) ?_
  refine s_ixor hX dX11_goes_7 ?_
  refine s_iand hX dX11_goes_8 ?_
  refine s_iload_n hX dX11_goes_9 rfl 3 rfl ?_
  refine s_iconst (v := (-1)) hX dX11_goes_10 (by decide) ?_
  refine s_iconst (v := 0) hX dX11_goes_11 (by decide) ?_
  refine s_callVir hX [.int (r1 &&& (x1 ^^^ (-1))), .int x3, .int (-1), .int 0] (k := 112) (ci := 10) rfl hc10 vkX11_greatestOf (fun r hF => c_X11_greatestOf  hF) mkX11_greatestOf cvX11_180 rfl rfl ⟨by omega, by decide, Nat.le_of_ble_eq_true rfl⟩ dX11_goes_12 (fun r2 => ?_)
  refine s_istore (lv' := [(5, .int r2), (0, rf g 112), (1, .int x1), (2, .int x2), (3, .int x3), (4, .int x4)]) hX dX11_goes_15 (by decide) rfl ?_
  refine s_iload hX dX11_goes_17 0 rfl ?_
  refine s_iconst (v := (-1)) hX dX11_goes_19 (by decide) ?_
  refine s_jn (C := fun j => ∀ (y3 : Int32), Sim G (j y3) K 53 [(0, rf g 112), (4, .int x4), (5, .int r2)] [.int y3] μ) ?_ (fun j4 hj4 => ?_)
  · intro y3
    show Sim G _ _ 53 [(0, rf g 112), (4, .int x4), (5, .int r2)] [.int y3] μ
    refine s_istore (lv' := [(6, .int y3), (0, rf g 112), (4, .int x4), (5, .int r2)]) hX dX11_goes_53 (by decide) rfl ?_
    refine s_iconst (v := 0) hX dX11_goes_55 (by decide) ?_
    refine s_istore (lv' := [(7, .int 0), (6, .int y3), (0, rf g 112), (4, .int x4), (5, .int r2)]) hX dX11_goes_56 (by decide) rfl ?_
    refine s_iconst (v := 0) hX dX11_goes_58 (by decide) ?_
    refine s_istore (lv' := [(8, .int 0), (7, .int 0), (6, .int y3), (0, rf g 112), (4, .int x4), (5, .int r2)]) hX dX11_goes_59 (by decide) rfl ?_
    refine s_loop hX 61 246 (fun s : Int32 × Int32 × Mem => [(0, rf g 112), (4, .int x4), (5, .int r2), (6, .int y3), (7, .int s.1), (8, .int s.2.1)]) (fun s : Int32 × Int32 × Mem => s.2.2) (fun s : Int32 × Mem => [(7, .int s.1)]) (fun s : Int32 × Mem => s.2) [3, 4, 5, 2, 1, 0] rfl rfl rfl ?_ ?_
    · intro Kq10 hIq10 hJq10 sq
      obtain ⟨x7_5, x8_6, ν7⟩ := sq
      refine s_cu3 ?_
      show Sim G _ _ 61 [(0, rf g 112), (4, .int x4), (5, .int r2), (6, .int y3), (7, .int x7_5), (8, .int x8_6)] [] ν7
      refine s_iload hX dX11_goes_61 5 rfl ?_
      refine s_aload_n hX dX11_goes_63 rfl 0 rfl ?_
      refine s_getR hX (d := 1) 113 flX11_7 rfl rfl dX11_goes_64 ?_
      refine s_iconst (v := 1) hX dX11_goes_67 (by decide) ?_
      refine s_ialdK hX rfl rfl (by decide) rfl dX11_goes_68 ?_
      refine s_icmp_ge hX 246 dX11_goes_69 (by decide) ?_ ?_
      · exact s_end hX (hJq10 (x7_5, ν7)) [4] rfl
      · refine s_aload_n hX dX11_goes_72 rfl 0 rfl ?_
        refine s_getR hX (d := 1) 113 flX11_7 rfl rfl dX11_goes_73 ?_
        refine s_bipush (v := 6) hX dX11_goes_76 (by decide) ?_
        refine s_iload hX dX11_goes_78 5 rfl ?_
        refine s_iadd hX dX11_goes_80 ?_
        refine s_iald hX rfl rfl dX11_goes_81 ?_
        refine s_istore (lv' := [(9, .int (ν7.1 113 (ix (6 + x8_6)))), (0, rf g 112), (4, .int x4), (5, .int r2), (6, .int y3), (7, .int x7_5), (8, .int x8_6)]) hX dX11_goes_82 (by decide) rfl ?_
        refine s_aload_n hX dX11_goes_84 rfl 1 rfl ?_
        refine s_getR hX (d := 1) 113 flX11_7 rfl rfl dX11_goes_85 ?_
        refine s_bipush (v := 16) hX dX11_goes_88 (by decide) ?_
        refine s_iload hX dX11_goes_90 6 rfl ?_
        refine s_iadd hX dX11_goes_92 ?_
        refine s_iald hX rfl rfl dX11_goes_93 ?_
        refine s_istore (lv' := [(10, .int (ν7.1 113 (ix (16 + x8_6)))), (9, .int (ν7.1 113 (ix (6 + x8_6)))), (0, rf g 112), (4, .int x4), (5, .int r2), (6, .int y3), (7, .int x7_5), (8, .int x8_6)]) hX dX11_goes_94 (by decide) rfl ?_
        refine s_iload hX dX11_goes_96 0 rfl ?_
        refine s_iload hX dX11_goes_98 4 rfl ?_
        refine s_jn (C := fun j => ∀ (y11 : Int32), Sim G (j y11) Kq10 138 [(0, rf g 112), (4, .int x4), (5, .int r2), (6, .int y3), (7, .int x7_5), (8, .int x8_6), (9, .int (ν7.1 113 (ix (6 + x8_6))))] [.int y11] ν7) ?_ (fun j12 hj12 => ?_)
        · intro y11
          show Sim G _ _ 138 [(0, rf g 112), (4, .int x4), (5, .int r2), (6, .int y3), (7, .int x7_5), (8, .int x8_6), (9, .int (ν7.1 113 (ix (6 + x8_6))))] [.int y11] ν7
          refine s_istore (lv' := [(11, .int y11), (0, rf g 112), (4, .int x4), (5, .int r2), (6, .int y3), (7, .int x7_5), (8, .int x8_6), (9, .int (ν7.1 113 (ix (6 + x8_6))))]) hX dX11_goes_138 (by decide) rfl ?_
          refine s_aload_n hX dX11_goes_140 rfl 1 rfl ?_
          refine s_getR hX (d := 8) 120 flX11_32 rfl rfl dX11_goes_141 ?_
          refine s_iload hX dX11_goes_144 6 rfl ?_
          refine s_dup2 hX dX11_goes_146 rfl rfl ?_
          refine s_iald hX rfl rfl dX11_goes_147 ?_
          refine s_iload hX dX11_goes_148 0 rfl ?_
          refine s_isub hX dX11_goes_150 ?_
          refine s_iast hX rfl rfl dX11_goes_151 (fun ν13 => ?_)
          refine s_iload hX dX11_goes_152 5 rfl ?_
          refine s_iload hX dX11_goes_154 0 rfl ?_
          refine s_iadd hX dX11_goes_156 ?_
          refine s_istore (lv' := [(7, .int (x7_5 + y11)), (11, .int y11), (0, rf g 112), (4, .int x4), (5, .int r2), (6, .int y3), (8, .int x8_6), (9, .int (ν7.1 113 (ix (6 + x8_6))))]) hX dX11_goes_157 (by decide) rfl ?_
          refine s_aload_n hX dX11_goes_159 rfl 2 rfl ?_
          refine s_getR hX (d := 8) 120 flX11_32 rfl rfl dX11_goes_160 ?_
          refine s_iload hX dX11_goes_163 6 rfl ?_
          refine s_iald hX rfl rfl dX11_goes_165 ?_
          refine s_jn (C := fun j => ∀ (y14 : Int32), Sim G (j y14) Kq10 186 [(0, rf g 112), (4, .int x4), (5, .int r2), (6, .int y3), (7, .int (x7_5 + y11)), (8, .int x8_6)] [.int y14] ν13) ?_ (fun j15 hj15 => ?_)
          · intro y14
            show Sim G _ _ 186 [(0, rf g 112), (4, .int x4), (5, .int r2), (6, .int y3), (7, .int (x7_5 + y11)), (8, .int x8_6)] [.int y14] ν13
            refine s_istore (lv' := [(12, .int y14), (0, rf g 112), (4, .int x4), (5, .int r2), (6, .int y3), (7, .int (x7_5 + y11)), (8, .int x8_6)]) hX dX11_goes_186 (by decide) rfl ?_
            refine s_aload_n hX dX11_goes_188 rfl 1 rfl ?_
            refine s_getR hX (d := 8) 120 flX11_32 rfl rfl dX11_goes_189 ?_
            refine s_iload hX dX11_goes_192 6 rfl ?_
            refine s_dup2 hX dX11_goes_194 rfl rfl ?_
            refine s_iald hX rfl rfl dX11_goes_195 ?_
            refine s_iload hX dX11_goes_196 0 rfl ?_
            refine s_jn (C := fun j => ∀ (y16 : Int32), Sim G (j y16) Kq10 207 [(0, rf g 112), (4, .int x4), (5, .int r2), (6, .int y3), (7, .int (x7_5 + y11)), (8, .int x8_6)] [.int y16, .int (ν13.1 120 (ix x8_6)), .int x8_6, rf g 120] ν13) ?_ (fun j17 hj17 => ?_)
            · intro y16
              show Sim G _ _ 207 [(0, rf g 112), (4, .int x4), (5, .int r2), (6, .int y3), (7, .int (x7_5 + y11)), (8, .int x8_6)] [.int y16, .int (ν13.1 120 (ix x8_6)), .int x8_6, rf g 120] ν13
              refine s_iadd hX dX11_goes_207 ?_
              refine s_iast hX rfl rfl dX11_goes_208 (fun ν18 => ?_)
              refine s_aload_n hX dX11_goes_209 rfl 0 rfl ?_
              refine s_getR hX (d := 8) 120 flX11_32 rfl rfl dX11_goes_210 ?_
              refine s_iload hX dX11_goes_213 5 rfl ?_
              refine s_aload_n hX dX11_goes_215 rfl 0 rfl ?_
              refine s_getR hX (d := 8) 120 flX11_32 rfl rfl dX11_goes_216 ?_
              refine s_iload hX dX11_goes_219 5 rfl ?_
              refine s_iald hX rfl rfl dX11_goes_221 ?_
              refine s_bipush (v := 99) hX dX11_goes_222 (by decide) ?_
              refine s_jn (C := fun j => ∀ (y19 : Int32), Sim G (j y19) Kq10 239 [(0, rf g 112), (4, .int x4), (5, .int r2), (6, .int y3), (7, .int (x7_5 + y11)), (8, .int x8_6)] [.int y19, .int x8_6, rf g 120] ν18) ?_ (fun j20 hj20 => ?_)
              · intro y19
                show Sim G _ _ 239 [(0, rf g 112), (4, .int x4), (5, .int r2), (6, .int y3), (7, .int (x7_5 + y11)), (8, .int x8_6)] [.int y19, .int x8_6, rf g 120] ν18
                refine s_iast hX rfl rfl dX11_goes_239 (fun ν21 => ?_)
                refine s_iinc (v := (x8_6 + 1)) (lv' := [(8, .int (x8_6 + 1)), (0, rf g 112), (4, .int x4), (5, .int r2), (6, .int y3), (7, .int (x7_5 + y11))]) hX dX11_goes_240 5 rfl rfl (by decide) rfl ?_
                refine s_goto hX 61 dX11_goes_243 (by decide) ?_
                exact s_end hX (hIq10 ((x7_5 + y11), (x8_6 + 1), ν21)) [1, 2, 3, 4, 5, 0] rfl
              refine s_icmp_le hX 232 dX11_goes_224 (by decide) ?_ ?_
              · refine s_aload_n hX dX11_goes_232 rfl 0 rfl ?_
                refine s_getR hX (d := 8) 120 flX11_32 rfl rfl dX11_goes_233 ?_
                refine s_iload hX dX11_goes_236 5 rfl ?_
                refine s_iald hX rfl rfl dX11_goes_238 ?_
                exact s_to hX [0, 1, 2, 3, 4, 5] rfl (hj20 (ν18.1 120 (ix x8_6)))
              · refine s_bipush (v := 99) hX dX11_goes_227 (by decide) ?_
                refine s_goto hX 239 dX11_goes_229 (by decide) ?_
                exact s_to hX [0, 1, 2, 3, 4, 5] rfl (hj20 99)
            refine s_if_eq hX 206 dX11_goes_198 (by decide) ?_ ?_
            · refine s_iconst (v := 0) hX dX11_goes_206 (by decide) ?_
              exact s_to hX [1, 2, 3, 4, 5, 6] rfl (hj17 0)
            · refine s_iload hX dX11_goes_201 2 rfl ?_
              refine s_goto hX 207 dX11_goes_203 (by decide) ?_
              exact s_to hX [1, 2, 3, 4, 5, 6] rfl (hj17 x4)
          refine s_jn (C := fun j => Sim G (j) Kq10 185 [(0, rf g 112), (4, .int x4), (5, .int r2), (6, .int y3), (7, .int (x7_5 + y11)), (8, .int x8_6)] [] ν13) ?_ (fun j22 hj22 => ?_)
          · skip
            show Sim G _ _ 185 [(0, rf g 112), (4, .int x4), (5, .int r2), (6, .int y3), (7, .int (x7_5 + y11)), (8, .int x8_6)] [] ν13
            refine s_iconst (v := 0) hX dX11_goes_185 (by decide) ?_
            exact s_to hX [0, 1, 2, 3, 4, 5] rfl (hj15 0)
          refine s_if_le hX 185 dX11_goes_166 (by decide) ?_ ?_
          · exact s_to hX [2, 3, 4, 5, 0, 6] rfl (hj22)
          · refine s_iload hX dX11_goes_169 7 rfl ?_
            refine s_iconst (v := 2) hX dX11_goes_171 (by decide) ?_
            refine s_icmp_eq hX 185 dX11_goes_172 (by decide) ?_ ?_
            · exact s_to hX [2, 3, 4, 5, 0, 6] rfl (hj22)
            · refine s_iload hX dX11_goes_175 7 rfl ?_
              refine s_iconst (v := 5) hX dX11_goes_177 (by decide) ?_
              refine s_icmp_eq hX 185 dX11_goes_178 (by decide) ?_ ?_
              · exact s_to hX [2, 3, 4, 5, 0, 6] rfl (hj22)
              · refine s_iconst (v := 1) hX dX11_goes_181 (by decide) ?_
                refine s_goto hX 186 dX11_goes_182 (by decide) ?_
                exact s_to hX [2, 3, 4, 5, 0, 6] rfl (hj15 1)
        refine s_jn (C := fun j => Sim G (j) Kq10 122 [(0, rf g 112), (4, .int x4), (5, .int r2), (6, .int y3), (7, .int x7_5), (8, .int x8_6), (9, .int (ν7.1 113 (ix (6 + x8_6))))] [] ν7) ?_ (fun j23 hj23 => ?_)
        · skip
          show Sim G _ _ 122 [(0, rf g 112), (4, .int x4), (5, .int r2), (6, .int y3), (7, .int x7_5), (8, .int x8_6), (9, .int (ν7.1 113 (ix (6 + x8_6))))] [] ν7
          refine s_iload hX dX11_goes_122 6 rfl ?_
          refine s_aload_n hX dX11_goes_124 rfl 0 rfl ?_
          refine s_getR hX (d := 8) 120 flX11_32 rfl rfl dX11_goes_125 ?_
          refine s_iload hX dX11_goes_128 5 rfl ?_
          refine s_iald hX rfl rfl dX11_goes_130 ?_
          refine s_callSir hX [.int (ν7.1 113 (ix (6 + x8_6))), .int (ν7.1 120 (ix x8_6))] skX11_takenOf (fun r hF => c_X11_takenOf  hF) mkX11_takenOf cvX11_174 rfl rfl ⟨by omega, by decide, Nat.le_of_ble_eq_true rfl⟩ dX11_goes_131 (fun r24 => ?_)
          refine s_goto hX 138 dX11_goes_134 (by decide) ?_
          exact s_to hX [0, 1, 2, 3, 4, 5, 6] rfl (hj12 r24)
        refine s_jn (C := fun j => Sim G (j) Kq10 109 [(0, rf g 112), (4, .int x4), (5, .int r2), (6, .int y3), (7, .int x7_5), (8, .int x8_6), (9, .int (ν7.1 113 (ix (6 + x8_6)))), (10, .int (ν7.1 113 (ix (16 + x8_6))))] [] ν7) ?_ (fun j25 hj25 => ?_)
        · skip
          show Sim G _ _ 109 [(0, rf g 112), (4, .int x4), (5, .int r2), (6, .int y3), (7, .int x7_5), (8, .int x8_6), (9, .int (ν7.1 113 (ix (6 + x8_6)))), (10, .int (ν7.1 113 (ix (16 + x8_6))))] [] ν7
          refine s_iload hX dX11_goes_109 7 rfl ?_
          refine s_iload hX dX11_goes_111 3 rfl ?_
          refine s_jn (C := fun j => Sim G (j) Kq10 137 [(0, rf g 112), (4, .int x4), (5, .int r2), (6, .int y3), (7, .int x7_5), (8, .int x8_6), (9, .int (ν7.1 113 (ix (6 + x8_6))))] [] ν7) ?_ (fun j26 hj26 => ?_)
          · skip
            show Sim G _ _ 137 [(0, rf g 112), (4, .int x4), (5, .int r2), (6, .int y3), (7, .int x7_5), (8, .int x8_6), (9, .int (ν7.1 113 (ix (6 + x8_6))))] [] ν7
            refine s_iconst (v := 0) hX dX11_goes_137 (by decide) ?_
            exact s_to hX [0, 1, 2, 3, 4, 5, 6] rfl (hj12 0)
          refine s_icmp_ne hX 137 dX11_goes_113 (by decide) ?_ ?_
          · exact s_to hX [0, 1, 2, 3, 4, 5, 6] rfl (hj26)
          · refine s_iload hX dX11_goes_116 3 rfl ?_
            refine s_iconst (v := (-1)) hX dX11_goes_118 (by decide) ?_
            refine s_icmp_eq hX 137 dX11_goes_119 (by decide) ?_ ?_
            · exact s_to hX [0, 1, 2, 3, 4, 5, 6] rfl (hj26)
            · exact s_to hX [0, 1, 2, 3, 4, 5, 6] rfl (hj23)
        refine s_icmp_ne hX 109 dX11_goes_100 (by decide) ?_ ?_
        · exact s_to hX [2, 3, 4, 5, 6, 7, 1, 0] rfl (hj25)
        · refine s_iload hX dX11_goes_103 4 rfl ?_
          refine s_iconst (v := (-1)) hX dX11_goes_105 (by decide) ?_
          refine s_icmp_ne hX 122 dX11_goes_106 (by decide) ?_ ?_
          · exact s_to hX [2, 3, 4, 5, 6, 7, 1] rfl (hj23)
          · exact s_to hX [2, 3, 4, 5, 6, 7, 1, 0] rfl (hj25)
    · intro sq
      obtain ⟨x7_8, ν9⟩ := sq
      refine s_cu2 ?_
      show Sim G _ _ 246 [(7, .int x7_8)] [] ν9
      refine s_iload hX dX11_goes_246 0 rfl ?_
      exact s_ireti hK hR dX11_goes_248
  refine s_jn (C := fun j => Sim G (j) K 27 [(0, rf g 112), (4, .int x4), (5, .int r2)] [] μ) ?_ (fun j27 hj27 => ?_)
  · skip
    show Sim G _ _ 27 [(0, rf g 112), (4, .int x4), (5, .int r2)] [] μ
    refine s_iconst (v := (-1)) hX dX11_goes_27 (by decide) ?_
    refine s_goto hX 53 dX11_goes_28 (by decide) ?_
    exact s_to hX [0, 1, 2] rfl (hj4 (-1))
  refine s_icmp_eq hX 27 dX11_goes_20 (by decide) ?_ ?_
  · exact s_to hX [1, 5, 0] rfl (hj27)
  · refine s_iload_n hX dX11_goes_23 rfl 3 rfl ?_
    refine s_if_ne hX 31 dX11_goes_24 (by decide) ?_ ?_
    · refine s_aload_n hX dX11_goes_31 rfl 1 rfl ?_
      refine s_aload_n hX dX11_goes_32 rfl 1 rfl ?_
      refine s_callVir hX [] (k := 112) (ci := 10) rfl hc10 vkX11_all (fun r hF => c_X11_all  hF) mkX11_all cvX11_177 rfl rfl ⟨by omega, by decide, Nat.le_of_ble_eq_true rfl⟩ dX11_goes_33 (fun r28 => ?_)
      refine s_iload_n hX dX11_goes_36 rfl 2 rfl ?_
      refine s_iconst (v := (-1)) hX dX11_goes_37 (by decide) ?_
      refine s_ixor hX dX11_goes_38 ?_
      refine s_iand hX dX11_goes_39 ?_
      refine s_iconst (v := 1) hX dX11_goes_40 (by decide) ?_
      refine s_iload hX dX11_goes_41 0 rfl ?_
      refine s_ishl hX dX11_goes_43 ?_
      refine s_iconst (v := (-1)) hX dX11_goes_44 (by decide) ?_
      refine s_ixor hX dX11_goes_45 ?_
      refine s_iand hX dX11_goes_46 ?_
      refine s_iload_n hX dX11_goes_47 rfl 4 rfl ?_
      refine s_iconst (v := (-1)) hX dX11_goes_48 (by decide) ?_
      refine s_iconst (v := 0) hX dX11_goes_49 (by decide) ?_
      refine s_callVir hX [.int ((r28 &&& (x1 ^^^ (-1))) &&& (((1 : Int32) <<< (r2 &&& 31)) ^^^ (-1))), .int x3, .int (-1), .int 0] (k := 112) (ci := 10) rfl hc10 vkX11_greatestOf (fun r hF => c_X11_greatestOf  hF) mkX11_greatestOf cvX11_180 rfl rfl ⟨by omega, by decide, Nat.le_of_ble_eq_true rfl⟩ dX11_goes_50 (fun r29 => ?_)
      exact s_to hX [1, 5, 0] rfl (hj4 r29)
    · exact s_to hX [1, 5, 0] rfl (hj27)
theorem dX11_greatest_0 : decode cX11_greatest 0 = .ok (.aload_n 0, 1) := by decide +kernel
theorem dX11_greatest_1 : decode cX11_greatest 1 = .ok (.iload_n 1, 1) := by decide +kernel
theorem dX11_greatest_2 : decode cX11_greatest 2 = .ok (.invokevirtual 184, 3) := by decide +kernel
theorem dX11_greatest_5 : decode cX11_greatest 5 = .ok (.ifCond .ne 11, 3) := by decide +kernel
theorem dX11_greatest_8 : decode cX11_greatest 8 = .ok (.aload_n 0, 1) := by decide +kernel
theorem dX11_greatest_9 : decode cX11_greatest 9 = .ok (.iconst 0, 1) := by decide +kernel
theorem dX11_greatest_10 : decode cX11_greatest 10 = .ok (.bipush (-10), 2) := by decide +kernel
theorem dX11_greatest_12 : decode cX11_greatest 12 = .ok (.invokevirtual 47, 3) := by decide +kernel
theorem dX11_greatest_15 : decode cX11_greatest 15 = .ok (.ireturn, 1) := by decide +kernel
theorem dX11_greatest_16 : decode cX11_greatest 16 = .ok (.aload_n 0, 1) := by decide +kernel
theorem dX11_greatest_17 : decode cX11_greatest 17 = .ok (.invokevirtual 187, 3) := by decide +kernel
theorem dX11_greatest_20 : decode cX11_greatest 20 = .ok (.aload_n 0, 1) := by decide +kernel
theorem dX11_greatest_21 : decode cX11_greatest 21 = .ok (.aload_n 0, 1) := by decide +kernel
theorem dX11_greatest_22 : decode cX11_greatest 22 = .ok (.invokevirtual 177, 3) := by decide +kernel
theorem dX11_greatest_25 : decode cX11_greatest 25 = .ok (.iload_n 1, 1) := by decide +kernel
theorem dX11_greatest_26 : decode cX11_greatest 26 = .ok (.iconst (-1), 1) := by decide +kernel
theorem dX11_greatest_27 : decode cX11_greatest 27 = .ok (.ixor, 1) := by decide +kernel
theorem dX11_greatest_28 : decode cX11_greatest 28 = .ok (.iand, 1) := by decide +kernel
theorem dX11_greatest_29 : decode cX11_greatest 29 = .ok (.aload_n 0, 1) := by decide +kernel
theorem dX11_greatest_30 : decode cX11_greatest 30 = .ok (.getfield 7, 3) := by decide +kernel
theorem dX11_greatest_33 : decode cX11_greatest 33 = .ok (.iconst 3, 1) := by decide +kernel
theorem dX11_greatest_34 : decode cX11_greatest 34 = .ok (.iaload, 1) := by decide +kernel
theorem dX11_greatest_35 : decode cX11_greatest 35 = .ok (.iconst (-1), 1) := by decide +kernel
theorem dX11_greatest_36 : decode cX11_greatest 36 = .ok (.iconst 0, 1) := by decide +kernel
theorem dX11_greatest_37 : decode cX11_greatest 37 = .ok (.invokevirtual 180, 3) := by decide +kernel
theorem dX11_greatest_40 : decode cX11_greatest 40 = .ok (.ireturn, 1) := by decide +kernel
noncomputable def f_X11_greatest (x1 : Int32) (μ : Mem) : Option (Int32 × Mem) :=
  bd (f_X11_isSet x1 μ) fun r1 =>
  if r1 = 0 then
    bd2 (f_X11_refuses 0 (-10) μ) fun r5 ν6 =>
    some (r5, ν6)
  else
    bd (f_X11_asNow  μ) fun ν2 =>
    bd (f_X11_all  ν2) fun r3 =>
    bd (f_X11_greatestOf (r3 &&& (x1 ^^^ (-1))) (ν2.1 113 3) (-1) 0 ν2) fun r4 =>
    some (r4, ν2)
set_option maxHeartbeats 4000000 in
set_option maxRecDepth 100000 in
theorem c_X11_greatest {g : GT} {x1 : Int32} {μ : Mem} {μ0 : Mem} {r0 : Int32} (hf : f_X11_greatest x1 μ = some (r0, μ0)) : CI g yX11_greatest cX11_greatest 2 (some .int) 4 [rf g 112, .int x1] μ r0 μ0 := by
  refine mk_i (by decide) (Nat.le_of_ble_eq_true rfl) ?_
  intro G hX hR
  have hX : CX g G cX11_greatest RX11 2 4 := hX
  suffices S : ∀ K : (Int32 × Mem) → Prop, (∀ a, K a → a = (r0, μ0)) → Sim G (f_X11_greatest x1 μ) K 0 [(0, rf g 112), (1, .int x1)] [] μ from S (fun a => a = (r0, μ0)) (fun a h => h) _ hf rfl
  intro K hK
  unfold f_X11_greatest
  refine s_aload_n hX dX11_greatest_0 rfl 0 rfl ?_
  refine s_iload_n hX dX11_greatest_1 rfl 1 rfl ?_
  refine s_callVir hX [.int x1] (k := 112) (ci := 10) rfl hc10 vkX11_isSet (fun r hF => c_X11_isSet  hF) mkX11_isSet cvX11_184 rfl rfl ⟨by omega, by decide, Nat.le_of_ble_eq_true rfl⟩ dX11_greatest_2 (fun r1 => ?_)
  refine s_if_ne hX 16 dX11_greatest_5 (by decide) ?_ ?_
  · refine s_aload_n hX dX11_greatest_16 rfl 0 rfl ?_
    refine s_callVvw hX [] (k := 112) (ci := 10) rfl hc10 vkX11_asNow (fun ν hF => c_X11_asNow  hF) mkX11_asNow cvX11_187 rfl rfl ⟨by omega, by decide, Nat.le_of_ble_eq_true rfl⟩ dX11_greatest_17 (fun ν2 => ?_)
    refine s_aload_n hX dX11_greatest_20 rfl 0 rfl ?_
    refine s_aload_n hX dX11_greatest_21 rfl 0 rfl ?_
    refine s_callVir hX [] (k := 112) (ci := 10) rfl hc10 vkX11_all (fun r hF => c_X11_all  hF) mkX11_all cvX11_177 rfl rfl ⟨by omega, by decide, Nat.le_of_ble_eq_true rfl⟩ dX11_greatest_22 (fun r3 => ?_)
    refine s_iload_n hX dX11_greatest_25 rfl 1 rfl ?_
    refine s_iconst (v := (-1)) hX dX11_greatest_26 (by decide) ?_
    refine s_ixor hX dX11_greatest_27 ?_
    refine s_iand hX dX11_greatest_28 ?_
    refine s_aload_n hX dX11_greatest_29 rfl 0 rfl ?_
    refine s_getR hX (d := 1) 113 flX11_7 rfl rfl dX11_greatest_30 ?_
    refine s_iconst (v := 3) hX dX11_greatest_33 (by decide) ?_
    refine s_ialdK hX rfl rfl (by decide) rfl dX11_greatest_34 ?_
    refine s_iconst (v := (-1)) hX dX11_greatest_35 (by decide) ?_
    refine s_iconst (v := 0) hX dX11_greatest_36 (by decide) ?_
    refine s_callVir hX [.int (r3 &&& (x1 ^^^ (-1))), .int (ν2.1 113 3), .int (-1), .int 0] (k := 112) (ci := 10) rfl hc10 vkX11_greatestOf (fun r hF => c_X11_greatestOf  hF) mkX11_greatestOf cvX11_180 rfl rfl ⟨by omega, by decide, Nat.le_of_ble_eq_true rfl⟩ dX11_greatest_37 (fun r4 => ?_)
    exact s_ireti hK hR dX11_greatest_40
  · refine s_aload_n hX dX11_greatest_8 rfl 0 rfl ?_
    refine s_iconst (v := 0) hX dX11_greatest_9 (by decide) ?_
    refine s_bipush (v := (-10)) hX dX11_greatest_10 (by decide) ?_
    refine s_callViw hX [.int 0, .int (-10)] (k := 112) (ci := 10) rfl hc10 vkX11_refuses (fun r ν hF => c_X11_refuses  hF) mkX11_refuses cvX11_47 rfl rfl ⟨by omega, by decide, Nat.le_of_ble_eq_true rfl⟩ dX11_greatest_12 (fun r5 ν6 => ?_)
    exact s_ireti hK hR dX11_greatest_15
