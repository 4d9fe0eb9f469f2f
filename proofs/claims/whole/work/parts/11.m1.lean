theorem dX11_whole_0 : decode cX11_whole 0 = .ok (.lconst 1, 1) := by decide +kernel
theorem dX11_whole_1 : decode cX11_whole 1 = .ok (.lstore_n 1, 1) := by decide +kernel
theorem dX11_whole_2 : decode cX11_whole 2 = .ok (.iconst 0, 1) := by decide +kernel
theorem dX11_whole_3 : decode cX11_whole 3 = .ok (.istore_n 3, 1) := by decide +kernel
theorem dX11_whole_4 : decode cX11_whole 4 = .ok (.iload_n 3, 1) := by decide +kernel
theorem dX11_whole_5 : decode cX11_whole 5 = .ok (.aload_n 0, 1) := by decide +kernel
theorem dX11_whole_6 : decode cX11_whole 6 = .ok (.getfield 7, 3) := by decide +kernel
theorem dX11_whole_9 : decode cX11_whole 9 = .ok (.iconst 0, 1) := by decide +kernel
theorem dX11_whole_10 : decode cX11_whole 10 = .ok (.iaload, 1) := by decide +kernel
theorem dX11_whole_11 : decode cX11_whole 11 = .ok (.if_icmp .ge 15, 3) := by decide +kernel
theorem dX11_whole_14 : decode cX11_whole 14 = .ok (.lload_n 1, 1) := by decide +kernel
theorem dX11_whole_15 : decode cX11_whole 15 = .ok (.ldc2_w 84, 3) := by decide +kernel
theorem dX11_whole_18 : decode cX11_whole 18 = .ok (.lmul, 1) := by decide +kernel
theorem dX11_whole_19 : decode cX11_whole 19 = .ok (.lstore_n 1, 1) := by decide +kernel
theorem dX11_whole_20 : decode cX11_whole 20 = .ok (.iinc 3 1, 3) := by decide +kernel
theorem dX11_whole_23 : decode cX11_whole 23 = .ok (.goto (-19), 3) := by decide +kernel
theorem dX11_whole_26 : decode cX11_whole 26 = .ok (.lload_n 1, 1) := by decide +kernel
theorem dX11_whole_27 : decode cX11_whole 27 = .ok (.lreturn, 1) := by decide +kernel
noncomputable def f_X11_whole  (μ : Mem) : Option Int64 :=
  bd (lp (ε := Int64) (cu2 fun (x1_1 : Int64) (x3_2 : Int32) =>
    if x3_2 < (μ.1 113 0) then
      some (.inl ((x1_1 * 10), (x3_2 + 1)))
    else
      some (.inr x1_1)
    ) (1, 0)) (fun (x1_3 : Int64) =>
    some x1_3
    )
set_option maxHeartbeats 4000000 in
set_option maxRecDepth 100000 in
theorem c_X11_whole {g : GT}  {μ : Mem} {r0 : Int64} (hf : f_X11_whole  μ = some r0) : CL g yX11_whole cX11_whole 4 (some .long) 1 [rf g 112] μ r0 μ := by
  refine mk_l (by decide) (Nat.le_of_ble_eq_true rfl) ?_
  intro G hX hR
  have hX : CX g G cX11_whole RX11 4 1 := hX
  suffices S : ∀ K : Int64 → Prop, (∀ a, K a → a = r0) → Sim G (f_X11_whole  μ) K 0 [(0, rf g 112)] [] μ from S (fun a => a = r0) (fun a h => h) _ hf rfl
  intro K hK
  unfold f_X11_whole
  refine s_lconst (v := 1) hX dX11_whole_0 (by decide) ?_
  refine s_lstore_n (lv' := [(1, .long 1), (0, rf g 112)]) hX dX11_whole_1 rfl (by decide) rfl ?_
  refine s_iconst (v := 0) hX dX11_whole_2 (by decide) ?_
  refine s_istore_n (lv' := [(3, .int 0), (1, .long 1), (0, rf g 112)]) hX dX11_whole_3 rfl (by decide) rfl ?_
  refine s_loop hX 4 26 (fun s : Int64 × Int32 => [(0, rf g 112), (1, .long s.1), (3, .int s.2)]) (fun s : Int64 × Int32 => μ) (fun s : Int64 => [(1, .long s)]) (fun s : Int64 => μ) [2, 1, 0] rfl rfl rfl ?_ ?_
  · intro Kq4 hIq4 hJq4 sq
    obtain ⟨x1_1, x3_2⟩ := sq
    refine s_cu2 ?_
    show Sim G _ _ 4 [(0, rf g 112), (1, .long x1_1), (3, .int x3_2)] [] μ
    refine s_iload_n hX dX11_whole_4 rfl 2 rfl ?_
    refine s_aload_n hX dX11_whole_5 rfl 0 rfl ?_
    refine s_getR hX (d := 1) 113 flX11_7 rfl rfl dX11_whole_6 ?_
    refine s_iconst (v := 0) hX dX11_whole_9 (by decide) ?_
    refine s_ialdK hX rfl rfl (by decide) rfl dX11_whole_10 ?_
    refine s_icmp_ge hX 26 dX11_whole_11 (by decide) ?_ ?_
    · exact s_end hX (hJq4 x1_1) [1] rfl
    · refine s_lload_n hX dX11_whole_14 rfl 1 rfl ?_
      refine s_ldc2 hX dX11_whole_15 klX11_84 ?_
      refine s_lmul hX dX11_whole_18 ?_
      refine s_lstore_n (lv' := [(1, .long (x1_1 * 10)), (0, rf g 112), (3, .int x3_2)]) hX dX11_whole_19 rfl (by decide) rfl ?_
      refine s_iinc (v := (x3_2 + 1)) (lv' := [(3, .int (x3_2 + 1)), (1, .long (x1_1 * 10)), (0, rf g 112)]) hX dX11_whole_20 2 rfl rfl (by decide) rfl ?_
      refine s_goto hX 4 dX11_whole_23 (by decide) ?_
      exact s_end hX (hIq4 ((x1_1 * 10), (x3_2 + 1))) [2, 1, 0] rfl
  · intro sq
    obtain ⟨x1_3, rfl⟩ : ∃ z, z = sq := ⟨_, rfl⟩
    show Sim G _ _ 26 [(1, .long x1_3)] [] μ
    refine s_lload_n hX dX11_whole_26 rfl 0 rfl ?_
    exact s_lretr hK hR dX11_whole_27
theorem dX2_takesFromOne_0 : decode cX2_takesFromOne 0 = .ok (.aload_n 0, 1) := by decide +kernel
theorem dX2_takesFromOne_1 : decode cX2_takesFromOne 1 = .ok (.getfield 9, 3) := by decide +kernel
theorem dX2_takesFromOne_4 : decode cX2_takesFromOne 4 = .ok (.bipush 10, 2) := by decide +kernel
theorem dX2_takesFromOne_6 : decode cX2_takesFromOne 6 = .ok (.iadd, 1) := by decide +kernel
theorem dX2_takesFromOne_7 : decode cX2_takesFromOne 7 = .ok (.iload_n 1, 1) := by decide +kernel
theorem dX2_takesFromOne_8 : decode cX2_takesFromOne 8 = .ok (.isub, 1) := by decide +kernel
theorem dX2_takesFromOne_9 : decode cX2_takesFromOne 9 = .ok (.iload_n 1, 1) := by decide +kernel
theorem dX2_takesFromOne_10 : decode cX2_takesFromOne 10 = .ok (.iconst 2, 1) := by decide +kernel
theorem dX2_takesFromOne_11 : decode cX2_takesFromOne 11 = .ok (.idiv, 1) := by decide +kernel
theorem dX2_takesFromOne_12 : decode cX2_takesFromOne 12 = .ok (.iadd, 1) := by decide +kernel
theorem dX2_takesFromOne_13 : decode cX2_takesFromOne 13 = .ok (.istore_n 3, 1) := by decide +kernel
theorem dX2_takesFromOne_14 : decode cX2_takesFromOne 14 = .ok (.aload_n 0, 1) := by decide +kernel
theorem dX2_takesFromOne_15 : decode cX2_takesFromOne 15 = .ok (.getfield 15, 3) := by decide +kernel
theorem dX2_takesFromOne_18 : decode cX2_takesFromOne 18 = .ok (.bipush 10, 2) := by decide +kernel
theorem dX2_takesFromOne_20 : decode cX2_takesFromOne 20 = .ok (.iadd, 1) := by decide +kernel
theorem dX2_takesFromOne_21 : decode cX2_takesFromOne 21 = .ok (.iload_n 2, 1) := by decide +kernel
theorem dX2_takesFromOne_22 : decode cX2_takesFromOne 22 = .ok (.isub, 1) := by decide +kernel
theorem dX2_takesFromOne_23 : decode cX2_takesFromOne 23 = .ok (.iload_n 2, 1) := by decide +kernel
theorem dX2_takesFromOne_24 : decode cX2_takesFromOne 24 = .ok (.iconst 2, 1) := by decide +kernel
theorem dX2_takesFromOne_25 : decode cX2_takesFromOne 25 = .ok (.idiv, 1) := by decide +kernel
theorem dX2_takesFromOne_26 : decode cX2_takesFromOne 26 = .ok (.iadd, 1) := by decide +kernel
theorem dX2_takesFromOne_27 : decode cX2_takesFromOne 27 = .ok (.istore 4, 2) := by decide +kernel
theorem dX2_takesFromOne_29 : decode cX2_takesFromOne 29 = .ok (.iload_n 3, 1) := by decide +kernel
theorem dX2_takesFromOne_30 : decode cX2_takesFromOne 30 = .ok (.iload 4, 2) := by decide +kernel
theorem dX2_takesFromOne_32 : decode cX2_takesFromOne 32 = .ok (.if_icmp .gt 16, 3) := by decide +kernel
theorem dX2_takesFromOne_35 : decode cX2_takesFromOne 35 = .ok (.iload_n 3, 1) := by decide +kernel
theorem dX2_takesFromOne_36 : decode cX2_takesFromOne 36 = .ok (.iload 4, 2) := by decide +kernel
theorem dX2_takesFromOne_38 : decode cX2_takesFromOne 38 = .ok (.if_icmp .ne 14, 3) := by decide +kernel
theorem dX2_takesFromOne_41 : decode cX2_takesFromOne 41 = .ok (.aload_n 0, 1) := by decide +kernel
theorem dX2_takesFromOne_42 : decode cX2_takesFromOne 42 = .ok (.getfield 18, 3) := by decide +kernel
theorem dX2_takesFromOne_45 : decode cX2_takesFromOne 45 = .ok (.ifCond .eq 7, 3) := by decide +kernel
theorem dX2_takesFromOne_48 : decode cX2_takesFromOne 48 = .ok (.iconst 1, 1) := by decide +kernel
theorem dX2_takesFromOne_49 : decode cX2_takesFromOne 49 = .ok (.goto 4, 3) := by decide +kernel
theorem dX2_takesFromOne_52 : decode cX2_takesFromOne 52 = .ok (.iconst 0, 1) := by decide +kernel
theorem dX2_takesFromOne_53 : decode cX2_takesFromOne 53 = .ok (.ireturn, 1) := by decide +kernel
noncomputable def f_X2_takesFromOne (x1 : Int32) (x2 : Int32) (μ : Mem) : Option Int32 :=
  lt ((((μ.1 80 0) + 10) - x1) + (x1 / 2)) fun x3_1 =>
  lt ((((μ.1 80 1) + 10) - x2) + (x2 / 2)) fun x4_2 =>
  jn (fun (y3 : Int32) =>
    ckB y3 (
      some y3
      )
    ) fun j4 =>
  jn (
    j4 1
    ) fun j5 =>
  if x4_2 < x3_1 then
    j5
  else
    jn (
      j4 0
      ) fun j6 =>
    if x3_1 = x4_2 then
      if (μ.1 80 2) = 0 then
        j6
      else
        j5
    else
      j6
set_option maxHeartbeats 4000000 in
set_option maxRecDepth 100000 in
theorem c_X2_takesFromOne {g : GT} {x1 : Int32} {x2 : Int32} {μ : Mem} {r0 : Int32} (hf : f_X2_takesFromOne x1 x2 μ = some r0) : CI g yX2_takesFromOne cX2_takesFromOne 5 (some .boolean) 1 [rf g 80, .int x1, .int x2] μ r0 μ := by
  refine mk_z (by decide) (Nat.le_of_ble_eq_true rfl) ?_
  intro G hX hR
  have hX : CX g G cX2_takesFromOne RX2 5 1 := hX
  suffices S : ∀ K : Int32 → Prop, (∀ a, K a → a = r0) → Sim G (f_X2_takesFromOne x1 x2 μ) K 0 [(0, rf g 80), (1, .int x1), (2, .int x2)] [] μ from S (fun a => a = r0) (fun a h => h) _ hf rfl
  intro K hK
  unfold f_X2_takesFromOne
  refine s_aload_n hX dX2_takesFromOne_0 rfl 0 rfl ?_
  refine s_getI hX flX2_9 rfl dX2_takesFromOne_1 ?_
  refine s_bipush (v := 10) hX dX2_takesFromOne_4 (by decide) ?_
  refine s_iadd hX dX2_takesFromOne_6 ?_
  refine s_iload_n hX dX2_takesFromOne_7 rfl 1 rfl ?_
  refine s_isub hX dX2_takesFromOne_8 ?_
  refine s_iload_n hX dX2_takesFromOne_9 rfl 1 rfl ?_
  refine s_iconst (v := 2) hX dX2_takesFromOne_10 (by decide) ?_
  refine s_idiv hX dX2_takesFromOne_11 (by decide) ?_
  refine s_iadd hX dX2_takesFromOne_12 ?_
  refine s_lti (fun x3_1 => ?_)
  refine s_istore_n (lv' := [(3, .int x3_1), (0, rf g 80), (1, .int x1), (2, .int x2)]) hX dX2_takesFromOne_13 rfl (by decide) rfl ?_
  refine s_aload_n hX dX2_takesFromOne_14 rfl 1 rfl ?_
  refine s_getI hX flX2_15 rfl dX2_takesFromOne_15 ?_
  refine s_bipush (v := 10) hX dX2_takesFromOne_18 (by decide) ?_
  refine s_iadd hX dX2_takesFromOne_20 ?_
  refine s_iload_n hX dX2_takesFromOne_21 rfl 3 rfl ?_
  refine s_isub hX dX2_takesFromOne_22 ?_
  refine s_iload_n hX dX2_takesFromOne_23 rfl 3 rfl ?_
  refine s_iconst (v := 2) hX dX2_takesFromOne_24 (by decide) ?_
  refine s_idiv hX dX2_takesFromOne_25 (by decide) ?_
  refine s_iadd hX dX2_takesFromOne_26 ?_
  refine s_lti (fun x4_2 => ?_)
  refine s_istore (lv' := [(4, .int x4_2), (3, .int x3_1), (0, rf g 80), (1, .int x1), (2, .int x2)]) hX dX2_takesFromOne_27 (by decide) rfl ?_
  refine s_iload_n hX dX2_takesFromOne_29 rfl 1 rfl ?_
  refine s_iload hX dX2_takesFromOne_30 0 rfl ?_
  refine s_jn (C := fun j => ∀ (y3 : Int32), Sim G (j y3) K 53 [] [.int y3] μ) ?_ (fun j4 hj4 => ?_)
  · intro y3
    show Sim G _ _ 53 [] [.int y3] μ
    refine s_ckB (fun hzb => ?_)
    exact s_zretr hzb hK hR dX2_takesFromOne_53
  refine s_jn (C := fun j => Sim G (j) K 48 [] [] μ) ?_ (fun j5 hj5 => ?_)
  · skip
    show Sim G _ _ 48 [] [] μ
    refine s_iconst (v := 1) hX dX2_takesFromOne_48 (by decide) ?_
    refine s_goto hX 53 dX2_takesFromOne_49 (by decide) ?_
    exact s_to hX [] rfl (hj4 1)
  refine s_icmp_gt hX 48 dX2_takesFromOne_32 (by decide) ?_ ?_
  · exact s_to hX [] rfl (hj5)
  · refine s_iload_n hX dX2_takesFromOne_35 rfl 1 rfl ?_
    refine s_iload hX dX2_takesFromOne_36 0 rfl ?_
    refine s_jn (C := fun j => Sim G (j) K 52 [] [] μ) ?_ (fun j6 hj6 => ?_)
    · skip
      show Sim G _ _ 52 [] [] μ
      refine s_iconst (v := 0) hX dX2_takesFromOne_52 (by decide) ?_
      exact s_to hX [] rfl (hj4 0)
    refine s_icmp_ne hX 52 dX2_takesFromOne_38 (by decide) ?_ ?_
    · exact s_to hX [] rfl (hj6)
    · refine s_aload_n hX dX2_takesFromOne_41 rfl 2 rfl ?_
      refine s_getI hX flX2_18 rfl dX2_takesFromOne_42 ?_
      refine s_if_eq hX 52 dX2_takesFromOne_45 (by decide) ?_ ?_
      · exact s_to hX [] rfl (hj6)
      · exact s_to hX [] rfl (hj5)
theorem dX3_become_0 : decode cX3_become 0 = .ok (.aload_n 0, 1) := by decide +kernel
theorem dX3_become_1 : decode cX3_become 1 = .ok (.aload_n 1, 1) := by decide +kernel
theorem dX3_become_2 : decode cX3_become 2 = .ok (.getfield 9, 3) := by decide +kernel
theorem dX3_become_5 : decode cX3_become 5 = .ok (.putfield 9, 3) := by decide +kernel
theorem dX3_become_8 : decode cX3_become 8 = .ok (.aload_n 0, 1) := by decide +kernel
theorem dX3_become_9 : decode cX3_become 9 = .ok (.aload_n 1, 1) := by decide +kernel
theorem dX3_become_10 : decode cX3_become 10 = .ok (.getfield 15, 3) := by decide +kernel
theorem dX3_become_13 : decode cX3_become 13 = .ok (.putfield 15, 3) := by decide +kernel
theorem dX3_become_16 : decode cX3_become 16 = .ok (.aload_n 0, 1) := by decide +kernel
theorem dX3_become_17 : decode cX3_become 17 = .ok (.aload_n 1, 1) := by decide +kernel
theorem dX3_become_18 : decode cX3_become 18 = .ok (.getfield 18, 3) := by decide +kernel
theorem dX3_become_21 : decode cX3_become 21 = .ok (.putfield 18, 3) := by decide +kernel
theorem dX3_become_24 : decode cX3_become 24 = .ok (.aload_n 0, 1) := by decide +kernel
theorem dX3_become_25 : decode cX3_become 25 = .ok (.aload_n 1, 1) := by decide +kernel
theorem dX3_become_26 : decode cX3_become 26 = .ok (.getfield 21, 3) := by decide +kernel
theorem dX3_become_29 : decode cX3_become 29 = .ok (.putfield 21, 3) := by decide +kernel
theorem dX3_become_32 : decode cX3_become 32 = .ok (.aload_n 1, 1) := by decide +kernel
theorem dX3_become_33 : decode cX3_become 33 = .ok (.getfield 24, 3) := by decide +kernel
theorem dX3_become_36 : decode cX3_become 36 = .ok (.iconst 0, 1) := by decide +kernel
theorem dX3_become_37 : decode cX3_become 37 = .ok (.aload_n 0, 1) := by decide +kernel
theorem dX3_become_38 : decode cX3_become 38 = .ok (.getfield 24, 3) := by decide +kernel
theorem dX3_become_41 : decode cX3_become 41 = .ok (.iconst 0, 1) := by decide +kernel
theorem dX3_become_42 : decode cX3_become 42 = .ok (.bipush 10, 2) := by decide +kernel
theorem dX3_become_44 : decode cX3_become 44 = .ok (.invokestatic 37, 3) := by decide +kernel
theorem dX3_become_47 : decode cX3_become 47 = .ok (.aload_n 1, 1) := by decide +kernel
theorem dX3_become_48 : decode cX3_become 48 = .ok (.getfield 28, 3) := by decide +kernel
theorem dX3_become_51 : decode cX3_become 51 = .ok (.iconst 0, 1) := by decide +kernel
theorem dX3_become_52 : decode cX3_become 52 = .ok (.aload_n 0, 1) := by decide +kernel
theorem dX3_become_53 : decode cX3_become 53 = .ok (.getfield 28, 3) := by decide +kernel
theorem dX3_become_56 : decode cX3_become 56 = .ok (.iconst 0, 1) := by decide +kernel
theorem dX3_become_57 : decode cX3_become 57 = .ok (.bipush 10, 2) := by decide +kernel
theorem dX3_become_59 : decode cX3_become 59 = .ok (.invokestatic 37, 3) := by decide +kernel
theorem dX3_become_62 : decode cX3_become 62 = .ok (.aload_n 1, 1) := by decide +kernel
theorem dX3_become_63 : decode cX3_become 63 = .ok (.getfield 31, 3) := by decide +kernel
theorem dX3_become_66 : decode cX3_become 66 = .ok (.iconst 0, 1) := by decide +kernel
theorem dX3_become_67 : decode cX3_become 67 = .ok (.aload_n 0, 1) := by decide +kernel
theorem dX3_become_68 : decode cX3_become 68 = .ok (.getfield 31, 3) := by decide +kernel
theorem dX3_become_71 : decode cX3_become 71 = .ok (.iconst 0, 1) := by decide +kernel
theorem dX3_become_72 : decode cX3_become 72 = .ok (.bipush 10, 2) := by decide +kernel
theorem dX3_become_74 : decode cX3_become 74 = .ok (.invokestatic 37, 3) := by decide +kernel
theorem dX3_become_77 : decode cX3_become 77 = .ok (.return_, 1) := by decide +kernel
noncomputable def f_X3_become (k0 : Nat) (k1 : Nat) (μ : Mem) : Option Mem :=
  lt (setI μ k0 0 (μ.1 k1 0)) fun ν1 =>
  lt (setI ν1 k0 1 (ν1.1 k1 1)) fun ν2 =>
  lt (setI ν2 k0 2 (ν2.1 k1 2)) fun ν3 =>
  lt (setI ν3 k0 3 (ν3.1 k1 3)) fun ν4 =>
  ckC 0 0 10 10 10 (lt (cpyI ν4 (k1 + 1) (ix 0) (k0 + 1) (ix 0) (ix 10)) fun ν5 =>
    ckC 0 0 10 10 10 (lt (cpyI ν5 (k1 + 2) (ix 0) (k0 + 2) (ix 0) (ix 10)) fun ν6 =>
      ckC 0 0 10 10 10 (lt (cpyI ν6 (k1 + 3) (ix 0) (k0 + 3) (ix 0) (ix 10)) fun ν7 =>
        some ν7
        )
      )
    )
set_option maxHeartbeats 4000000 in
set_option maxRecDepth 100000 in
theorem c_X3_become {g : GT} {k0 : Nat} {k1 : Nat} {μ : Mem} {μ0 : Mem} (hk0 : tyOf k0 = 3) (hk1 : tyOf k1 = 3) (hf : f_X3_become k0 k1 μ = some μ0) : CV g yX3_become cX3_become 2 (none) 1 [rf g k0, rf g k1] μ μ0 := by
  refine mk_v (by decide) (Nat.le_of_ble_eq_true rfl) ?_
  intro G hX hR
  have hX : CX g G cX3_become RX3 2 1 := hX
  suffices S : ∀ K : Mem → Prop, (∀ a, K a → a = μ0) → Sim G (f_X3_become k0 k1 μ) K 0 [(0, rf g k0), (1, rf g k1)] [] μ from S (fun a => a = μ0) (fun a h => h) _ hf rfl
  intro K hK
  unfold f_X3_become
  refine s_aload_n hX dX3_become_0 rfl 0 rfl ?_
  refine s_aload_n hX dX3_become_1 rfl 1 rfl ?_
  refine s_getI hX flX3_9 hk1 dX3_become_2 ?_
  refine s_putI hX flX3_9 hk0 ⟨rfl, rfl⟩ dX3_become_5 (fun ν1 => ?_)
  refine s_aload_n hX dX3_become_8 rfl 0 rfl ?_
  refine s_aload_n hX dX3_become_9 rfl 1 rfl ?_
  refine s_getI hX flX3_15 hk1 dX3_become_10 ?_
  refine s_putI hX flX3_15 hk0 ⟨rfl, rfl⟩ dX3_become_13 (fun ν2 => ?_)
  refine s_aload_n hX dX3_become_16 rfl 0 rfl ?_
  refine s_aload_n hX dX3_become_17 rfl 1 rfl ?_
  refine s_getI hX flX3_18 hk1 dX3_become_18 ?_
  refine s_putI hX flX3_18 hk0 ⟨rfl, rfl⟩ dX3_become_21 (fun ν3 => ?_)
  refine s_aload_n hX dX3_become_24 rfl 0 rfl ?_
  refine s_aload_n hX dX3_become_25 rfl 1 rfl ?_
  refine s_getI hX flX3_21 hk1 dX3_become_26 ?_
  refine s_putI hX flX3_21 hk0 ⟨rfl, rfl⟩ dX3_become_29 (fun ν4 => ?_)
  refine s_aload_n hX dX3_become_32 rfl 1 rfl ?_
  refine s_getR hX (d := 1) (k1 + 1) flX3_24 hk1 rfl dX3_become_33 ?_
  refine s_iconst (v := 0) hX dX3_become_36 (by decide) ?_
  refine s_aload_n hX dX3_become_37 rfl 0 rfl ?_
  refine s_getR hX (d := 1) (k0 + 1) flX3_24 hk0 rfl dX3_become_38 ?_
  refine s_iconst (v := 0) hX dX3_become_41 (by decide) ?_
  refine s_bipush (v := 10) hX dX3_become_42 (by decide) ?_
  refine s_copy hX (ty_3_1 hk1).1 (ty_3_1 hk1).2 (ty_3_1 hk0).1 (ty_3_1 hk0).2 cvX3_37 ⟨by omega, Nat.le_of_ble_eq_true rfl⟩ kw_copy dX3_become_44 (fun ν5 => ?_)
  refine s_aload_n hX dX3_become_47 rfl 1 rfl ?_
  refine s_getR hX (d := 2) (k1 + 2) flX3_28 hk1 rfl dX3_become_48 ?_
  refine s_iconst (v := 0) hX dX3_become_51 (by decide) ?_
  refine s_aload_n hX dX3_become_52 rfl 0 rfl ?_
  refine s_getR hX (d := 2) (k0 + 2) flX3_28 hk0 rfl dX3_become_53 ?_
  refine s_iconst (v := 0) hX dX3_become_56 (by decide) ?_
  refine s_bipush (v := 10) hX dX3_become_57 (by decide) ?_
  refine s_copy hX (ty_3_2 hk1).1 (ty_3_2 hk1).2 (ty_3_2 hk0).1 (ty_3_2 hk0).2 cvX3_37 ⟨by omega, Nat.le_of_ble_eq_true rfl⟩ kw_copy dX3_become_59 (fun ν6 => ?_)
  refine s_aload_n hX dX3_become_62 rfl 1 rfl ?_
  refine s_getR hX (d := 3) (k1 + 3) flX3_31 hk1 rfl dX3_become_63 ?_
  refine s_iconst (v := 0) hX dX3_become_66 (by decide) ?_
  refine s_aload_n hX dX3_become_67 rfl 0 rfl ?_
  refine s_getR hX (d := 3) (k0 + 3) flX3_31 hk0 rfl dX3_become_68 ?_
  refine s_iconst (v := 0) hX dX3_become_71 (by decide) ?_
  refine s_bipush (v := 10) hX dX3_become_72 (by decide) ?_
  refine s_copy hX (ty_3_3 hk1).1 (ty_3_3 hk1).2 (ty_3_3 hk0).1 (ty_3_3 hk0).2 cvX3_37 ⟨by omega, Nat.le_of_ble_eq_true rfl⟩ kw_copy dX3_become_74 (fun ν7 => ?_)
  exact s_vreti hK hR dX3_become_77
theorem dX3_greatestIn_0 : decode cX3_greatestIn 0 = .ok (.iconst (-1), 1) := by decide +kernel
theorem dX3_greatestIn_1 : decode cX3_greatestIn 1 = .ok (.istore_n 3, 1) := by decide +kernel
theorem dX3_greatestIn_2 : decode cX3_greatestIn 2 = .ok (.iconst 0, 1) := by decide +kernel
theorem dX3_greatestIn_3 : decode cX3_greatestIn 3 = .ok (.istore 4, 2) := by decide +kernel
theorem dX3_greatestIn_5 : decode cX3_greatestIn 5 = .ok (.iconst 0, 1) := by decide +kernel
theorem dX3_greatestIn_6 : decode cX3_greatestIn 6 = .ok (.istore 5, 2) := by decide +kernel
theorem dX3_greatestIn_8 : decode cX3_greatestIn 8 = .ok (.iload 5, 2) := by decide +kernel
theorem dX3_greatestIn_10 : decode cX3_greatestIn 10 = .ok (.iload_n 1, 1) := by decide +kernel
theorem dX3_greatestIn_11 : decode cX3_greatestIn 11 = .ok (.if_icmp .ge 43, 3) := by decide +kernel
theorem dX3_greatestIn_14 : decode cX3_greatestIn 14 = .ok (.iload 5, 2) := by decide +kernel
theorem dX3_greatestIn_16 : decode cX3_greatestIn 16 = .ok (.aload_n 0, 1) := by decide +kernel
theorem dX3_greatestIn_17 : decode cX3_greatestIn 17 = .ok (.arraylength, 1) := by decide +kernel
theorem dX3_greatestIn_18 : decode cX3_greatestIn 18 = .ok (.if_icmp .ge 36, 3) := by decide +kernel
theorem dX3_greatestIn_21 : decode cX3_greatestIn 21 = .ok (.iload_n 2, 1) := by decide +kernel
theorem dX3_greatestIn_22 : decode cX3_greatestIn 22 = .ok (.iload 5, 2) := by decide +kernel
theorem dX3_greatestIn_24 : decode cX3_greatestIn 24 = .ok (.ishr, 1) := by decide +kernel
theorem dX3_greatestIn_25 : decode cX3_greatestIn 25 = .ok (.iconst 1, 1) := by decide +kernel
theorem dX3_greatestIn_26 : decode cX3_greatestIn 26 = .ok (.iand, 1) := by decide +kernel
theorem dX3_greatestIn_27 : decode cX3_greatestIn 27 = .ok (.ifCond .ne 21, 3) := by decide +kernel
theorem dX3_greatestIn_30 : decode cX3_greatestIn 30 = .ok (.aload_n 0, 1) := by decide +kernel
theorem dX3_greatestIn_31 : decode cX3_greatestIn 31 = .ok (.iload 5, 2) := by decide +kernel
theorem dX3_greatestIn_33 : decode cX3_greatestIn 33 = .ok (.iaload, 1) := by decide +kernel
theorem dX3_greatestIn_34 : decode cX3_greatestIn 34 = .ok (.iload 4, 2) := by decide +kernel
theorem dX3_greatestIn_36 : decode cX3_greatestIn 36 = .ok (.if_icmp .le 12, 3) := by decide +kernel
theorem dX3_greatestIn_39 : decode cX3_greatestIn 39 = .ok (.aload_n 0, 1) := by decide +kernel
theorem dX3_greatestIn_40 : decode cX3_greatestIn 40 = .ok (.iload 5, 2) := by decide +kernel
theorem dX3_greatestIn_42 : decode cX3_greatestIn 42 = .ok (.iaload, 1) := by decide +kernel
theorem dX3_greatestIn_43 : decode cX3_greatestIn 43 = .ok (.istore 4, 2) := by decide +kernel
theorem dX3_greatestIn_45 : decode cX3_greatestIn 45 = .ok (.iload 5, 2) := by decide +kernel
theorem dX3_greatestIn_47 : decode cX3_greatestIn 47 = .ok (.istore_n 3, 1) := by decide +kernel
theorem dX3_greatestIn_48 : decode cX3_greatestIn 48 = .ok (.iinc 5 1, 3) := by decide +kernel
theorem dX3_greatestIn_51 : decode cX3_greatestIn 51 = .ok (.goto (-43), 3) := by decide +kernel
theorem dX3_greatestIn_54 : decode cX3_greatestIn 54 = .ok (.iload_n 3, 1) := by decide +kernel
theorem dX3_greatestIn_55 : decode cX3_greatestIn 55 = .ok (.ireturn, 1) := by decide +kernel
noncomputable def f_X3_greatestIn (k0 : Nat) (x1 : Int32) (x2 : Int32) (μ : Mem) : Option Int32 :=
  bd (lp (ε := Int32) (cu3 fun (x3_1 : Int32) (x4_2 : Int32) (x5_3 : Int32) =>
    if x5_3 < x1 then
      if x5_3 < 5 then
        jn (fun (x3_6 : Int32) (x4_7 : Int32) =>
          some (.inl (x3_6, x4_7, (x5_3 + 1)))
          ) fun j8 =>
        if ((x2 >>> (x5_3 &&& 31)) &&& 1) = 0 then
          chk x5_3 5 (
            if x4_2 < (μ.1 k0 (ix x5_3)) then
              chk x5_3 5 (
                j8 x5_3 (μ.1 k0 (ix x5_3))
                )
            else
              j8 x3_1 x4_2
            )
        else
          j8 x3_1 x4_2
      else
        some (.inr x3_1)
    else
      some (.inr x3_1)
    ) ((-1), 0, 0)) (fun (x3_4 : Int32) =>
    some x3_4
    )
set_option maxHeartbeats 4000000 in
set_option maxRecDepth 100000 in
theorem c_X3_greatestIn {g : GT} {k0 : Nat} {x1 : Int32} {x2 : Int32} {μ : Mem} {r0 : Int32} (hk0 : tyOf k0 = 11) (hk0n : lenOf k0 = 5) (hf : f_X3_greatestIn k0 x1 x2 μ = some r0) : CI g yX3_greatestIn cX3_greatestIn 6 (some .int) 1 [rf g k0, .int x1, .int x2] μ r0 μ := by
  refine mk_i (by decide) (Nat.le_of_ble_eq_true rfl) ?_
  intro G hX hR
  have hX : CX g G cX3_greatestIn RX3 6 1 := hX
  suffices S : ∀ K : Int32 → Prop, (∀ a, K a → a = r0) → Sim G (f_X3_greatestIn k0 x1 x2 μ) K 0 [(0, rf g k0), (1, .int x1), (2, .int x2)] [] μ from S (fun a => a = r0) (fun a h => h) _ hf rfl
  intro K hK
  unfold f_X3_greatestIn
  refine s_iconst (v := (-1)) hX dX3_greatestIn_0 (by decide) ?_
  refine s_istore_n (lv' := [(3, .int (-1)), (0, rf g k0), (1, .int x1), (2, .int x2)]) hX dX3_greatestIn_1 rfl (by decide) rfl ?_
  refine s_iconst (v := 0) hX dX3_greatestIn_2 (by decide) ?_
  refine s_istore (lv' := [(4, .int 0), (3, .int (-1)), (0, rf g k0), (1, .int x1), (2, .int x2)]) hX dX3_greatestIn_3 (by decide) rfl ?_
  refine s_iconst (v := 0) hX dX3_greatestIn_5 (by decide) ?_
  refine s_istore (lv' := [(5, .int 0), (4, .int 0), (3, .int (-1)), (0, rf g k0), (1, .int x1), (2, .int x2)]) hX dX3_greatestIn_6 (by decide) rfl ?_
  refine s_loop hX 8 54 (fun s : Int32 × Int32 × Int32 => [(0, rf g k0), (1, .int x1), (2, .int x2), (3, .int s.1), (4, .int s.2.1), (5, .int s.2.2)]) (fun s : Int32 × Int32 × Int32 => μ) (fun s : Int32 => [(3, .int s)]) (fun s : Int32 => μ) [3, 4, 5, 2, 1, 0] rfl rfl rfl ?_ ?_
  · intro Kq5 hIq5 hJq5 sq
    obtain ⟨x3_1, x4_2, x5_3⟩ := sq
    refine s_cu3 ?_
    show Sim G _ _ 8 [(0, rf g k0), (1, .int x1), (2, .int x2), (3, .int x3_1), (4, .int x4_2), (5, .int x5_3)] [] μ
    refine s_iload hX dX3_greatestIn_8 5 rfl ?_
    refine s_iload_n hX dX3_greatestIn_10 rfl 1 rfl ?_
    refine s_icmp_ge hX 54 dX3_greatestIn_11 (by decide) ?_ ?_
    · exact s_end hX (hJq5 x3_1) [3] rfl
    · refine s_iload hX dX3_greatestIn_14 5 rfl ?_
      refine s_aload_n hX dX3_greatestIn_16 rfl 0 rfl ?_
      refine s_alen (v := 5) hX hk0 hk0n (by decide) dX3_greatestIn_17 ?_
      refine s_icmp_ge hX 54 dX3_greatestIn_18 (by decide) ?_ ?_
      · exact s_end hX (hJq5 x3_1) [3] rfl
      · refine s_iload_n hX dX3_greatestIn_21 rfl 2 rfl ?_
        refine s_iload hX dX3_greatestIn_22 5 rfl ?_
        refine s_ishr hX dX3_greatestIn_24 ?_
        refine s_iconst (v := 1) hX dX3_greatestIn_25 (by decide) ?_
        refine s_iand hX dX3_greatestIn_26 ?_
        refine s_jn (C := fun j => ∀ (x3_6 : Int32) (x4_7 : Int32), Sim G (j x3_6 x4_7) Kq5 48 [(0, rf g k0), (1, .int x1), (2, .int x2), (3, .int x3_6), (4, .int x4_7), (5, .int x5_3)] [] μ) ?_ (fun j8 hj8 => ?_)
        · intro x3_6 x4_7
          show Sim G _ _ 48 [(0, rf g k0), (1, .int x1), (2, .int x2), (3, .int x3_6), (4, .int x4_7), (5, .int x5_3)] [] μ
          refine s_iinc (v := (x5_3 + 1)) (lv' := [(5, .int (x5_3 + 1)), (0, rf g k0), (1, .int x1), (2, .int x2), (3, .int x3_6), (4, .int x4_7)]) hX dX3_greatestIn_48 5 rfl rfl (by decide) rfl ?_
          refine s_goto hX 8 dX3_greatestIn_51 (by decide) ?_
          exact s_end hX (hIq5 (x3_6, x4_7, (x5_3 + 1))) [1, 2, 3, 4, 5, 0] rfl
        refine s_if_ne hX 48 dX3_greatestIn_27 (by decide) ?_ ?_
        · exact s_to hX [0, 1, 2, 3, 4, 5] rfl (hj8 x3_1 x4_2)
        · refine s_aload_n hX dX3_greatestIn_30 rfl 0 rfl ?_
          refine s_iload hX dX3_greatestIn_31 5 rfl ?_
          refine s_iald hX hk0 hk0n dX3_greatestIn_33 ?_
          refine s_iload hX dX3_greatestIn_34 4 rfl ?_
          refine s_icmp_le hX 48 dX3_greatestIn_36 (by decide) ?_ ?_
          · exact s_to hX [0, 1, 2, 3, 4, 5] rfl (hj8 x3_1 x4_2)
          · refine s_aload_n hX dX3_greatestIn_39 rfl 0 rfl ?_
            refine s_iload hX dX3_greatestIn_40 5 rfl ?_
            refine s_iald hX hk0 hk0n dX3_greatestIn_42 ?_
            refine s_istore (lv' := [(4, .int (μ.1 k0 (ix x5_3))), (0, rf g k0), (1, .int x1), (2, .int x2), (3, .int x3_1), (5, .int x5_3)]) hX dX3_greatestIn_43 (by decide) rfl ?_
            refine s_iload hX dX3_greatestIn_45 5 rfl ?_
            refine s_istore_n (lv' := [(3, .int x5_3), (4, .int (μ.1 k0 (ix x5_3))), (0, rf g k0), (1, .int x1), (2, .int x2), (5, .int x5_3)]) hX dX3_greatestIn_47 rfl (by decide) rfl ?_
            exact s_to hX [2, 3, 4, 0, 1, 5] rfl (hj8 x5_3 (μ.1 k0 (ix x5_3)))
  · intro sq
    obtain ⟨x3_4, rfl⟩ : ∃ z, z = sq := ⟨_, rfl⟩
    show Sim G _ _ 54 [(3, .int x3_4)] [] μ
    refine s_iload_n hX dX3_greatestIn_54 rfl 0 rfl ?_
    exact s_iretr hK hR dX3_greatestIn_55
theorem dX3_hasClouds_0 : decode cX3_hasClouds 0 = .ok (.iload_n 1, 1) := by decide +kernel
theorem dX3_hasClouds_1 : decode cX3_hasClouds 1 = .ok (.ifCond .lt 17, 3) := by decide +kernel
theorem dX3_hasClouds_4 : decode cX3_hasClouds 4 = .ok (.iload_n 1, 1) := by decide +kernel
theorem dX3_hasClouds_5 : decode cX3_hasClouds 5 = .ok (.iconst 1, 1) := by decide +kernel
theorem dX3_hasClouds_6 : decode cX3_hasClouds 6 = .ok (.aload_n 0, 1) := by decide +kernel
theorem dX3_hasClouds_7 : decode cX3_hasClouds 7 = .ok (.getfield 9, 3) := by decide +kernel
theorem dX3_hasClouds_10 : decode cX3_hasClouds 10 = .ok (.ishl, 1) := by decide +kernel
theorem dX3_hasClouds_11 : decode cX3_hasClouds 11 = .ok (.if_icmp .ge 7, 3) := by decide +kernel
theorem dX3_hasClouds_14 : decode cX3_hasClouds 14 = .ok (.iconst 1, 1) := by decide +kernel
theorem dX3_hasClouds_15 : decode cX3_hasClouds 15 = .ok (.goto 4, 3) := by decide +kernel
theorem dX3_hasClouds_18 : decode cX3_hasClouds 18 = .ok (.iconst 0, 1) := by decide +kernel
theorem dX3_hasClouds_19 : decode cX3_hasClouds 19 = .ok (.ireturn, 1) := by decide +kernel
noncomputable def f_X3_hasClouds (k0 : Nat) (x1 : Int32) (μ : Mem) : Option Int32 :=
  jn (fun (y1 : Int32) =>
    ckB y1 (
      some y1
      )
    ) fun j2 =>
  jn (
    j2 0
    ) fun j3 =>
  if x1 < 0 then
    j3
  else
    if x1 < ((1 : Int32) <<< ((μ.1 k0 0) &&& 31)) then
      j2 1
    else
      j3
set_option maxHeartbeats 4000000 in
set_option maxRecDepth 100000 in
theorem c_X3_hasClouds {g : GT} {k0 : Nat} {x1 : Int32} {μ : Mem} {r0 : Int32} (hk0 : tyOf k0 = 3) (hf : f_X3_hasClouds k0 x1 μ = some r0) : CI g yX3_hasClouds cX3_hasClouds 2 (some .boolean) 1 [rf g k0, .int x1] μ r0 μ := by
  refine mk_z (by decide) (Nat.le_of_ble_eq_true rfl) ?_
  intro G hX hR
  have hX : CX g G cX3_hasClouds RX3 2 1 := hX
  suffices S : ∀ K : Int32 → Prop, (∀ a, K a → a = r0) → Sim G (f_X3_hasClouds k0 x1 μ) K 0 [(0, rf g k0), (1, .int x1)] [] μ from S (fun a => a = r0) (fun a h => h) _ hf rfl
  intro K hK
  unfold f_X3_hasClouds
  refine s_iload_n hX dX3_hasClouds_0 rfl 1 rfl ?_
  refine s_jn (C := fun j => ∀ (y1 : Int32), Sim G (j y1) K 19 [] [.int y1] μ) ?_ (fun j2 hj2 => ?_)
  · intro y1
    show Sim G _ _ 19 [] [.int y1] μ
    refine s_ckB (fun hzb => ?_)
    exact s_zretr hzb hK hR dX3_hasClouds_19
  refine s_jn (C := fun j => Sim G (j) K 18 [] [] μ) ?_ (fun j3 hj3 => ?_)
  · skip
    show Sim G _ _ 18 [] [] μ
    refine s_iconst (v := 0) hX dX3_hasClouds_18 (by decide) ?_
    exact s_to hX [] rfl (hj2 0)
  refine s_if_lt hX 18 dX3_hasClouds_1 (by decide) ?_ ?_
  · exact s_to hX [] rfl (hj3)
  · refine s_iload_n hX dX3_hasClouds_4 rfl 1 rfl ?_
    refine s_iconst (v := 1) hX dX3_hasClouds_5 (by decide) ?_
    refine s_aload_n hX dX3_hasClouds_6 rfl 0 rfl ?_
    refine s_getI hX flX3_9 hk0 dX3_hasClouds_7 ?_
    refine s_ishl hX dX3_hasClouds_10 ?_
    refine s_icmp_ge hX 18 dX3_hasClouds_11 (by decide) ?_ ?_
    · exact s_to hX [] rfl (hj3)
    · refine s_iconst (v := 1) hX dX3_hasClouds_14 (by decide) ?_
      refine s_goto hX 19 dX3_hasClouds_15 (by decide) ?_
      exact s_to hX [] rfl (hj2 1)
theorem dX3_hasLot_0 : decode cX3_hasLot 0 = .ok (.iload_n 1, 1) := by decide +kernel
theorem dX3_hasLot_1 : decode cX3_hasLot 1 = .ok (.ifCond .lt 15, 3) := by decide +kernel
theorem dX3_hasLot_4 : decode cX3_hasLot 4 = .ok (.iload_n 1, 1) := by decide +kernel
theorem dX3_hasLot_5 : decode cX3_hasLot 5 = .ok (.aload_n 0, 1) := by decide +kernel
theorem dX3_hasLot_6 : decode cX3_hasLot 6 = .ok (.getfield 15, 3) := by decide +kernel
theorem dX3_hasLot_9 : decode cX3_hasLot 9 = .ok (.if_icmp .ge 7, 3) := by decide +kernel
theorem dX3_hasLot_12 : decode cX3_hasLot 12 = .ok (.iconst 1, 1) := by decide +kernel
theorem dX3_hasLot_13 : decode cX3_hasLot 13 = .ok (.goto 4, 3) := by decide +kernel
theorem dX3_hasLot_16 : decode cX3_hasLot 16 = .ok (.iconst 0, 1) := by decide +kernel
theorem dX3_hasLot_17 : decode cX3_hasLot 17 = .ok (.ireturn, 1) := by decide +kernel
noncomputable def f_X3_hasLot (k0 : Nat) (x1 : Int32) (μ : Mem) : Option Int32 :=
  jn (fun (y1 : Int32) =>
    ckB y1 (
      some y1
      )
    ) fun j2 =>
  jn (
    j2 0
    ) fun j3 =>
  if x1 < 0 then
    j3
  else
    if x1 < (μ.1 k0 1) then
      j2 1
    else
      j3
set_option maxHeartbeats 4000000 in
set_option maxRecDepth 100000 in
theorem c_X3_hasLot {g : GT} {k0 : Nat} {x1 : Int32} {μ : Mem} {r0 : Int32} (hk0 : tyOf k0 = 3) (hf : f_X3_hasLot k0 x1 μ = some r0) : CI g yX3_hasLot cX3_hasLot 2 (some .boolean) 1 [rf g k0, .int x1] μ r0 μ := by
  refine mk_z (by decide) (Nat.le_of_ble_eq_true rfl) ?_
  intro G hX hR
  have hX : CX g G cX3_hasLot RX3 2 1 := hX
  suffices S : ∀ K : Int32 → Prop, (∀ a, K a → a = r0) → Sim G (f_X3_hasLot k0 x1 μ) K 0 [(0, rf g k0), (1, .int x1)] [] μ from S (fun a => a = r0) (fun a h => h) _ hf rfl
  intro K hK
  unfold f_X3_hasLot
  refine s_iload_n hX dX3_hasLot_0 rfl 1 rfl ?_
  refine s_jn (C := fun j => ∀ (y1 : Int32), Sim G (j y1) K 17 [] [.int y1] μ) ?_ (fun j2 hj2 => ?_)
  · intro y1
    show Sim G _ _ 17 [] [.int y1] μ
    refine s_ckB (fun hzb => ?_)
    exact s_zretr hzb hK hR dX3_hasLot_17
  refine s_jn (C := fun j => Sim G (j) K 16 [] [] μ) ?_ (fun j3 hj3 => ?_)
  · skip
    show Sim G _ _ 16 [] [] μ
    refine s_iconst (v := 0) hX dX3_hasLot_16 (by decide) ?_
    exact s_to hX [] rfl (hj2 0)
  refine s_if_lt hX 16 dX3_hasLot_1 (by decide) ?_ ?_
  · exact s_to hX [] rfl (hj3)
  · refine s_iload_n hX dX3_hasLot_4 rfl 1 rfl ?_
    refine s_aload_n hX dX3_hasLot_5 rfl 0 rfl ?_
    refine s_getI hX flX3_15 hk0 dX3_hasLot_6 ?_
    refine s_icmp_ge hX 16 dX3_hasLot_9 (by decide) ?_ ?_
    · exact s_to hX [] rfl (hj3)
    · refine s_iconst (v := 1) hX dX3_hasLot_12 (by decide) ?_
      refine s_goto hX 17 dX3_hasLot_13 (by decide) ?_
      exact s_to hX [] rfl (hj2 1)
theorem dX3_hasVillage_0 : decode cX3_hasVillage 0 = .ok (.iload_n 1, 1) := by decide +kernel
theorem dX3_hasVillage_1 : decode cX3_hasVillage 1 = .ok (.ifCond .lt 15, 3) := by decide +kernel
theorem dX3_hasVillage_4 : decode cX3_hasVillage 4 = .ok (.iload_n 1, 1) := by decide +kernel
theorem dX3_hasVillage_5 : decode cX3_hasVillage 5 = .ok (.aload_n 0, 1) := by decide +kernel
theorem dX3_hasVillage_6 : decode cX3_hasVillage 6 = .ok (.getfield 9, 3) := by decide +kernel
theorem dX3_hasVillage_9 : decode cX3_hasVillage 9 = .ok (.if_icmp .ge 7, 3) := by decide +kernel
theorem dX3_hasVillage_12 : decode cX3_hasVillage 12 = .ok (.iconst 1, 1) := by decide +kernel
theorem dX3_hasVillage_13 : decode cX3_hasVillage 13 = .ok (.goto 4, 3) := by decide +kernel
theorem dX3_hasVillage_16 : decode cX3_hasVillage 16 = .ok (.iconst 0, 1) := by decide +kernel
theorem dX3_hasVillage_17 : decode cX3_hasVillage 17 = .ok (.ireturn, 1) := by decide +kernel
noncomputable def f_X3_hasVillage (k0 : Nat) (x1 : Int32) (μ : Mem) : Option Int32 :=
  jn (fun (y1 : Int32) =>
    ckB y1 (
      some y1
      )
    ) fun j2 =>
  jn (
    j2 0
    ) fun j3 =>
  if x1 < 0 then
    j3
  else
    if x1 < (μ.1 k0 0) then
      j2 1
    else
      j3
set_option maxHeartbeats 4000000 in
set_option maxRecDepth 100000 in
theorem c_X3_hasVillage {g : GT} {k0 : Nat} {x1 : Int32} {μ : Mem} {r0 : Int32} (hk0 : tyOf k0 = 3) (hf : f_X3_hasVillage k0 x1 μ = some r0) : CI g yX3_hasVillage cX3_hasVillage 2 (some .boolean) 1 [rf g k0, .int x1] μ r0 μ := by
  refine mk_z (by decide) (Nat.le_of_ble_eq_true rfl) ?_
  intro G hX hR
  have hX : CX g G cX3_hasVillage RX3 2 1 := hX
  suffices S : ∀ K : Int32 → Prop, (∀ a, K a → a = r0) → Sim G (f_X3_hasVillage k0 x1 μ) K 0 [(0, rf g k0), (1, .int x1)] [] μ from S (fun a => a = r0) (fun a h => h) _ hf rfl
  intro K hK
  unfold f_X3_hasVillage
  refine s_iload_n hX dX3_hasVillage_0 rfl 1 rfl ?_
  refine s_jn (C := fun j => ∀ (y1 : Int32), Sim G (j y1) K 17 [] [.int y1] μ) ?_ (fun j2 hj2 => ?_)
  · intro y1
    show Sim G _ _ 17 [] [.int y1] μ
    refine s_ckB (fun hzb => ?_)
    exact s_zretr hzb hK hR dX3_hasVillage_17
  refine s_jn (C := fun j => Sim G (j) K 16 [] [] μ) ?_ (fun j3 hj3 => ?_)
  · skip
    show Sim G _ _ 16 [] [] μ
    refine s_iconst (v := 0) hX dX3_hasVillage_16 (by decide) ?_
    exact s_to hX [] rfl (hj2 0)
  refine s_if_lt hX 16 dX3_hasVillage_1 (by decide) ?_ ?_
  · exact s_to hX [] rfl (hj3)
  · refine s_iload_n hX dX3_hasVillage_4 rfl 1 rfl ?_
    refine s_aload_n hX dX3_hasVillage_5 rfl 0 rfl ?_
    refine s_getI hX flX3_9 hk0 dX3_hasVillage_6 ?_
    refine s_icmp_ge hX 16 dX3_hasVillage_9 (by decide) ?_ ?_
    · exact s_to hX [] rfl (hj3)
    · refine s_iconst (v := 1) hX dX3_hasVillage_12 (by decide) ?_
      refine s_goto hX 17 dX3_hasVillage_13 (by decide) ?_
      exact s_to hX [] rfl (hj2 1)
theorem dX3_headsIn_0 : decode cX3_headsIn 0 = .ok (.iconst 0, 1) := by decide +kernel
theorem dX3_headsIn_1 : decode cX3_headsIn 1 = .ok (.istore_n 2, 1) := by decide +kernel
theorem dX3_headsIn_2 : decode cX3_headsIn 2 = .ok (.iconst 0, 1) := by decide +kernel
theorem dX3_headsIn_3 : decode cX3_headsIn 3 = .ok (.istore_n 3, 1) := by decide +kernel
theorem dX3_headsIn_4 : decode cX3_headsIn 4 = .ok (.iload_n 3, 1) := by decide +kernel
theorem dX3_headsIn_5 : decode cX3_headsIn 5 = .ok (.aload_n 0, 1) := by decide +kernel
theorem dX3_headsIn_6 : decode cX3_headsIn 6 = .ok (.getfield 15, 3) := by decide +kernel
theorem dX3_headsIn_9 : decode cX3_headsIn 9 = .ok (.if_icmp .ge 28, 3) := by decide +kernel
theorem dX3_headsIn_12 : decode cX3_headsIn 12 = .ok (.aload_n 0, 1) := by decide +kernel
theorem dX3_headsIn_13 : decode cX3_headsIn 13 = .ok (.getfield 28, 3) := by decide +kernel
theorem dX3_headsIn_16 : decode cX3_headsIn 16 = .ok (.iload_n 3, 1) := by decide +kernel
theorem dX3_headsIn_17 : decode cX3_headsIn 17 = .ok (.iaload, 1) := by decide +kernel
theorem dX3_headsIn_18 : decode cX3_headsIn 18 = .ok (.iload_n 1, 1) := by decide +kernel
theorem dX3_headsIn_19 : decode cX3_headsIn 19 = .ok (.if_icmp .ne 12, 3) := by decide +kernel
theorem dX3_headsIn_22 : decode cX3_headsIn 22 = .ok (.iload_n 2, 1) := by decide +kernel
theorem dX3_headsIn_23 : decode cX3_headsIn 23 = .ok (.aload_n 0, 1) := by decide +kernel
theorem dX3_headsIn_24 : decode cX3_headsIn 24 = .ok (.getfield 31, 3) := by decide +kernel
theorem dX3_headsIn_27 : decode cX3_headsIn 27 = .ok (.iload_n 3, 1) := by decide +kernel
theorem dX3_headsIn_28 : decode cX3_headsIn 28 = .ok (.iaload, 1) := by decide +kernel
theorem dX3_headsIn_29 : decode cX3_headsIn 29 = .ok (.iadd, 1) := by decide +kernel
theorem dX3_headsIn_30 : decode cX3_headsIn 30 = .ok (.istore_n 2, 1) := by decide +kernel
theorem dX3_headsIn_31 : decode cX3_headsIn 31 = .ok (.iinc 3 1, 3) := by decide +kernel
theorem dX3_headsIn_34 : decode cX3_headsIn 34 = .ok (.goto (-30), 3) := by decide +kernel
theorem dX3_headsIn_37 : decode cX3_headsIn 37 = .ok (.iload_n 2, 1) := by decide +kernel
theorem dX3_headsIn_38 : decode cX3_headsIn 38 = .ok (.ireturn, 1) := by decide +kernel
noncomputable def f_X3_headsIn (k0 : Nat) (x1 : Int32) (μ : Mem) : Option Int32 :=
  bd (lp (ε := Int32) (cu2 fun (x2_1 : Int32) (x3_2 : Int32) =>
    if x3_2 < (μ.1 k0 1) then
      chk x3_2 10 (
        jn (fun (x2_5 : Int32) =>
          some (.inl (x2_5, (x3_2 + 1)))
          ) fun j6 =>
        if (μ.1 (k0 + 2) (ix x3_2)) = x1 then
          chk x3_2 10 (
            lt (x2_1 + (μ.1 (k0 + 3) (ix x3_2))) fun x2_7 =>
            j6 x2_7
            )
        else
          j6 x2_1
        )
    else
      some (.inr x2_1)
    ) (0, 0)) (fun (x2_3 : Int32) =>
    some x2_3
    )
set_option maxHeartbeats 4000000 in
set_option maxRecDepth 100000 in
theorem c_X3_headsIn {g : GT} {k0 : Nat} {x1 : Int32} {μ : Mem} {r0 : Int32} (hk0 : tyOf k0 = 3) (hf : f_X3_headsIn k0 x1 μ = some r0) : CI g yX3_headsIn cX3_headsIn 4 (some .int) 1 [rf g k0, .int x1] μ r0 μ := by
  refine mk_i (by decide) (Nat.le_of_ble_eq_true rfl) ?_
  intro G hX hR
  have hX : CX g G cX3_headsIn RX3 4 1 := hX
  suffices S : ∀ K : Int32 → Prop, (∀ a, K a → a = r0) → Sim G (f_X3_headsIn k0 x1 μ) K 0 [(0, rf g k0), (1, .int x1)] [] μ from S (fun a => a = r0) (fun a h => h) _ hf rfl
  intro K hK
  unfold f_X3_headsIn
  refine s_iconst (v := 0) hX dX3_headsIn_0 (by decide) ?_
  refine s_istore_n (lv' := [(2, .int 0), (0, rf g k0), (1, .int x1)]) hX dX3_headsIn_1 rfl (by decide) rfl ?_
  refine s_iconst (v := 0) hX dX3_headsIn_2 (by decide) ?_
  refine s_istore_n (lv' := [(3, .int 0), (2, .int 0), (0, rf g k0), (1, .int x1)]) hX dX3_headsIn_3 rfl (by decide) rfl ?_
  refine s_loop hX 4 37 (fun s : Int32 × Int32 => [(0, rf g k0), (1, .int x1), (2, .int s.1), (3, .int s.2)]) (fun s : Int32 × Int32 => μ) (fun s : Int32 => [(2, .int s)]) (fun s : Int32 => μ) [2, 3, 1, 0] rfl rfl rfl ?_ ?_
  · intro Kq4 hIq4 hJq4 sq
    obtain ⟨x2_1, x3_2⟩ := sq
    refine s_cu2 ?_
    show Sim G _ _ 4 [(0, rf g k0), (1, .int x1), (2, .int x2_1), (3, .int x3_2)] [] μ
    refine s_iload_n hX dX3_headsIn_4 rfl 3 rfl ?_
    refine s_aload_n hX dX3_headsIn_5 rfl 0 rfl ?_
    refine s_getI hX flX3_15 hk0 dX3_headsIn_6 ?_
    refine s_icmp_ge hX 37 dX3_headsIn_9 (by decide) ?_ ?_
    · exact s_end hX (hJq4 x2_1) [2] rfl
    · refine s_aload_n hX dX3_headsIn_12 rfl 0 rfl ?_
      refine s_getR hX (d := 2) (k0 + 2) flX3_28 hk0 rfl dX3_headsIn_13 ?_
      refine s_iload_n hX dX3_headsIn_16 rfl 3 rfl ?_
      refine s_iald hX (ty_3_2 hk0).1 (ty_3_2 hk0).2 dX3_headsIn_17 ?_
      refine s_iload_n hX dX3_headsIn_18 rfl 1 rfl ?_
      refine s_jn (C := fun j => ∀ (x2_5 : Int32), Sim G (j x2_5) Kq4 31 [(0, rf g k0), (1, .int x1), (2, .int x2_5), (3, .int x3_2)] [] μ) ?_ (fun j6 hj6 => ?_)
      · intro x2_5
        show Sim G _ _ 31 [(0, rf g k0), (1, .int x1), (2, .int x2_5), (3, .int x3_2)] [] μ
        refine s_iinc (v := (x3_2 + 1)) (lv' := [(3, .int (x3_2 + 1)), (0, rf g k0), (1, .int x1), (2, .int x2_5)]) hX dX3_headsIn_31 3 rfl rfl (by decide) rfl ?_
        refine s_goto hX 4 dX3_headsIn_34 (by decide) ?_
        exact s_end hX (hIq4 (x2_5, (x3_2 + 1))) [1, 2, 3, 0] rfl
      refine s_icmp_ne hX 31 dX3_headsIn_19 (by decide) ?_ ?_
      · exact s_to hX [0, 1, 2, 3] rfl (hj6 x2_1)
      · refine s_iload_n hX dX3_headsIn_22 rfl 2 rfl ?_
        refine s_aload_n hX dX3_headsIn_23 rfl 0 rfl ?_
        refine s_getR hX (d := 3) (k0 + 3) flX3_31 hk0 rfl dX3_headsIn_24 ?_
        refine s_iload_n hX dX3_headsIn_27 rfl 3 rfl ?_
        refine s_iald hX (ty_3_3 hk0).1 (ty_3_3 hk0).2 dX3_headsIn_28 ?_
        refine s_iadd hX dX3_headsIn_29 ?_
        refine s_lti (fun x2_7 => ?_)
        refine s_istore_n (lv' := [(2, .int x2_7), (0, rf g k0), (1, .int x1), (3, .int x3_2)]) hX dX3_headsIn_30 rfl (by decide) rfl ?_
        exact s_to hX [1, 2, 0, 3] rfl (hj6 x2_7)
  · intro sq
    obtain ⟨x2_3, rfl⟩ : ∃ z, z = sq := ⟨_, rfl⟩
    show Sim G _ _ 37 [(2, .int x2_3)] [] μ
    refine s_iload_n hX dX3_headsIn_37 rfl 0 rfl ?_
    exact s_iretr hK hR dX3_headsIn_38
theorem dX3_startAnew_0 : decode cX3_startAnew 0 = .ok (.aload_n 0, 1) := by decide +kernel
theorem dX3_startAnew_1 : decode cX3_startAnew 1 = .ok (.iload_n 1, 1) := by decide +kernel
theorem dX3_startAnew_2 : decode cX3_startAnew 2 = .ok (.putfield 9, 3) := by decide +kernel
theorem dX3_startAnew_5 : decode cX3_startAnew 5 = .ok (.aload_n 0, 1) := by decide +kernel
theorem dX3_startAnew_6 : decode cX3_startAnew 6 = .ok (.iconst 0, 1) := by decide +kernel
theorem dX3_startAnew_7 : decode cX3_startAnew 7 = .ok (.putfield 15, 3) := by decide +kernel
theorem dX3_startAnew_10 : decode cX3_startAnew 10 = .ok (.aload_n 0, 1) := by decide +kernel
theorem dX3_startAnew_11 : decode cX3_startAnew 11 = .ok (.iconst 0, 1) := by decide +kernel
theorem dX3_startAnew_12 : decode cX3_startAnew 12 = .ok (.putfield 18, 3) := by decide +kernel
theorem dX3_startAnew_15 : decode cX3_startAnew 15 = .ok (.aload_n 0, 1) := by decide +kernel
theorem dX3_startAnew_16 : decode cX3_startAnew 16 = .ok (.iconst 0, 1) := by decide +kernel
theorem dX3_startAnew_17 : decode cX3_startAnew 17 = .ok (.putfield 21, 3) := by decide +kernel
theorem dX3_startAnew_20 : decode cX3_startAnew 20 = .ok (.return_, 1) := by decide +kernel
noncomputable def f_X3_startAnew (k0 : Nat) (x1 : Int32) (μ : Mem) : Option Mem :=
  lt (setI μ k0 0 x1) fun ν1 =>
  lt (setI ν1 k0 1 0) fun ν2 =>
  lt (setI ν2 k0 2 0) fun ν3 =>
  lt (setI ν3 k0 3 0) fun ν4 =>
  some ν4
set_option maxHeartbeats 4000000 in
set_option maxRecDepth 100000 in
theorem c_X3_startAnew {g : GT} {k0 : Nat} {x1 : Int32} {μ : Mem} {μ0 : Mem} (hk0 : tyOf k0 = 3) (hf : f_X3_startAnew k0 x1 μ = some μ0) : CV g yX3_startAnew cX3_startAnew 2 (none) 1 [rf g k0, .int x1] μ μ0 := by
  refine mk_v (by decide) (Nat.le_of_ble_eq_true rfl) ?_
  intro G hX hR
  have hX : CX g G cX3_startAnew RX3 2 1 := hX
  suffices S : ∀ K : Mem → Prop, (∀ a, K a → a = μ0) → Sim G (f_X3_startAnew k0 x1 μ) K 0 [(0, rf g k0), (1, .int x1)] [] μ from S (fun a => a = μ0) (fun a h => h) _ hf rfl
  intro K hK
  unfold f_X3_startAnew
  refine s_aload_n hX dX3_startAnew_0 rfl 0 rfl ?_
  refine s_iload_n hX dX3_startAnew_1 rfl 1 rfl ?_
  refine s_putI hX flX3_9 hk0 ⟨rfl, rfl⟩ dX3_startAnew_2 (fun ν1 => ?_)
  refine s_aload_n hX dX3_startAnew_5 rfl 0 rfl ?_
  refine s_iconst (v := 0) hX dX3_startAnew_6 (by decide) ?_
  refine s_putI hX flX3_15 hk0 ⟨rfl, rfl⟩ dX3_startAnew_7 (fun ν2 => ?_)
  refine s_aload_n hX dX3_startAnew_10 rfl 0 rfl ?_
  refine s_iconst (v := 0) hX dX3_startAnew_11 (by decide) ?_
  refine s_putI hX flX3_18 hk0 ⟨rfl, rfl⟩ dX3_startAnew_12 (fun ν3 => ?_)
  refine s_aload_n hX dX3_startAnew_15 rfl 0 rfl ?_
  refine s_iconst (v := 0) hX dX3_startAnew_16 (by decide) ?_
  refine s_putI hX flX3_21 hk0 ⟨rfl, rfl⟩ dX3_startAnew_17 (fun ν4 => ?_)
  exact s_vreti hK hR dX3_startAnew_20
theorem dX4_grows_0 : decode cX4_grows 0 = .ok (.iload_n 0, 1) := by decide +kernel
theorem dX4_grows_1 : decode cX4_grows 1 = .ok (.ifCond .eq 18, 3) := by decide +kernel
theorem dX4_grows_4 : decode cX4_grows 4 = .ok (.iload_n 0, 1) := by decide +kernel
theorem dX4_grows_5 : decode cX4_grows 5 = .ok (.iconst 1, 1) := by decide +kernel
theorem dX4_grows_6 : decode cX4_grows 6 = .ok (.if_icmp .eq 13, 3) := by decide +kernel
theorem dX4_grows_9 : decode cX4_grows 9 = .ok (.iload_n 0, 1) := by decide +kernel
theorem dX4_grows_10 : decode cX4_grows 10 = .ok (.iconst 3, 1) := by decide +kernel
theorem dX4_grows_11 : decode cX4_grows 11 = .ok (.if_icmp .eq 8, 3) := by decide +kernel
theorem dX4_grows_14 : decode cX4_grows 14 = .ok (.iload_n 0, 1) := by decide +kernel
theorem dX4_grows_15 : decode cX4_grows 15 = .ok (.iconst 4, 1) := by decide +kernel
theorem dX4_grows_16 : decode cX4_grows 16 = .ok (.if_icmp .ne 7, 3) := by decide +kernel
theorem dX4_grows_19 : decode cX4_grows 19 = .ok (.iconst 1, 1) := by decide +kernel
theorem dX4_grows_20 : decode cX4_grows 20 = .ok (.goto 4, 3) := by decide +kernel
theorem dX4_grows_23 : decode cX4_grows 23 = .ok (.iconst 0, 1) := by decide +kernel
theorem dX4_grows_24 : decode cX4_grows 24 = .ok (.ireturn, 1) := by decide +kernel
noncomputable def f_X4_grows (x0 : Int32) : Option Int32 :=
  jn (fun (y1 : Int32) =>
    ckB y1 (
      some y1
      )
    ) fun j2 =>
  jn (
    j2 1
    ) fun j3 =>
  if x0 = 0 then
    j3
  else
    if x0 = 1 then
      j3
    else
      if x0 = 3 then
        j3
      else
        if x0 = 4 then
          j3
        else
          j2 0
set_option maxHeartbeats 4000000 in
set_option maxRecDepth 100000 in
theorem c_X4_grows {g : GT} {x0 : Int32} {μ : Mem} {r0 : Int32} (hf : f_X4_grows x0 = some r0) : CI g yX4_grows cX4_grows 1 (some .boolean) 1 [.int x0] μ r0 μ := by
  refine mk_z (by decide) (Nat.le_of_ble_eq_true rfl) ?_
  intro G hX hR
  have hX : CX g G cX4_grows RX4 1 1 := hX
  suffices S : ∀ K : Int32 → Prop, (∀ a, K a → a = r0) → Sim G (f_X4_grows x0) K 0 [(0, .int x0)] [] μ from S (fun a => a = r0) (fun a h => h) _ hf rfl
  intro K hK
  unfold f_X4_grows
  refine s_iload_n hX dX4_grows_0 rfl 0 rfl ?_
  refine s_jn (C := fun j => ∀ (y1 : Int32), Sim G (j y1) K 24 [] [.int y1] μ) ?_ (fun j2 hj2 => ?_)
  · intro y1
    show Sim G _ _ 24 [] [.int y1] μ
    refine s_ckB (fun hzb => ?_)
    exact s_zretr hzb hK hR dX4_grows_24
  refine s_jn (C := fun j => Sim G (j) K 19 [] [] μ) ?_ (fun j3 hj3 => ?_)
  · skip
    show Sim G _ _ 19 [] [] μ
    refine s_iconst (v := 1) hX dX4_grows_19 (by decide) ?_
    refine s_goto hX 24 dX4_grows_20 (by decide) ?_
    exact s_to hX [] rfl (hj2 1)
  refine s_if_eq hX 19 dX4_grows_1 (by decide) ?_ ?_
  · exact s_to hX [] rfl (hj3)
  · refine s_iload_n hX dX4_grows_4 rfl 0 rfl ?_
    refine s_iconst (v := 1) hX dX4_grows_5 (by decide) ?_
    refine s_icmp_eq hX 19 dX4_grows_6 (by decide) ?_ ?_
    · exact s_to hX [] rfl (hj3)
    · refine s_iload_n hX dX4_grows_9 rfl 0 rfl ?_
      refine s_iconst (v := 3) hX dX4_grows_10 (by decide) ?_
      refine s_icmp_eq hX 19 dX4_grows_11 (by decide) ?_ ?_
      · exact s_to hX [] rfl (hj3)
      · refine s_iload_n hX dX4_grows_14 rfl 0 rfl ?_
        refine s_iconst (v := 4) hX dX4_grows_15 (by decide) ?_
        refine s_icmp_ne hX 23 dX4_grows_16 (by decide) ?_ ?_
        · refine s_iconst (v := 0) hX dX4_grows_23 (by decide) ?_
          exact s_to hX [] rfl (hj2 0)
        · exact s_to hX [] rfl (hj3)
theorem dX4_seen_0 : decode cX4_seen 0 = .ok (.iload_n 1, 1) := by decide +kernel
theorem dX4_seen_1 : decode cX4_seen 1 = .ok (.istore_n 3, 1) := by decide +kernel
theorem dX4_seen_2 : decode cX4_seen 2 = .ok (.iload_n 3, 1) := by decide +kernel
theorem dX4_seen_3 : decode cX4_seen 3 = .ok (.iconst 2, 1) := by decide +kernel
theorem dX4_seen_4 : decode cX4_seen 4 = .ok (.idiv, 1) := by decide +kernel
theorem dX4_seen_5 : decode cX4_seen 5 = .ok (.istore 4, 2) := by decide +kernel
theorem dX4_seen_7 : decode cX4_seen 7 = .ok (.iload_n 3, 1) := by decide +kernel
theorem dX4_seen_8 : decode cX4_seen 8 = .ok (.bipush 10, 2) := by decide +kernel
theorem dX4_seen_10 : decode cX4_seen 10 = .ok (.iadd, 1) := by decide +kernel
theorem dX4_seen_11 : decode cX4_seen 11 = .ok (.istore 5, 2) := by decide +kernel
theorem dX4_seen_13 : decode cX4_seen 13 = .ok (.iload_n 0, 1) := by decide +kernel
theorem dX4_seen_14 : decode cX4_seen 14 = .ok (.tableswitch 59 0 4 #[34, 36, 39, 42, 54], 34) := by decide +kernel
theorem dX4_seen_48 : decode cX4_seen 48 = .ok (.iload_n 3, 1) := by decide +kernel
theorem dX4_seen_49 : decode cX4_seen 49 = .ok (.ireturn, 1) := by decide +kernel
theorem dX4_seen_50 : decode cX4_seen 50 = .ok (.iload 4, 2) := by decide +kernel
theorem dX4_seen_52 : decode cX4_seen 52 = .ok (.ireturn, 1) := by decide +kernel
theorem dX4_seen_53 : decode cX4_seen 53 = .ok (.iload 5, 2) := by decide +kernel
theorem dX4_seen_55 : decode cX4_seen 55 = .ok (.ireturn, 1) := by decide +kernel
theorem dX4_seen_56 : decode cX4_seen 56 = .ok (.iload_n 2, 1) := by decide +kernel
theorem dX4_seen_57 : decode cX4_seen 57 = .ok (.iconst 2, 1) := by decide +kernel
theorem dX4_seen_58 : decode cX4_seen 58 = .ok (.irem, 1) := by decide +kernel
theorem dX4_seen_59 : decode cX4_seen 59 = .ok (.ifCond .ne 7, 3) := by decide +kernel
theorem dX4_seen_62 : decode cX4_seen 62 = .ok (.iload_n 3, 1) := by decide +kernel
theorem dX4_seen_63 : decode cX4_seen 63 = .ok (.goto 4, 3) := by decide +kernel
theorem dX4_seen_66 : decode cX4_seen 66 = .ok (.iconst 0, 1) := by decide +kernel
theorem dX4_seen_67 : decode cX4_seen 67 = .ok (.ireturn, 1) := by decide +kernel
theorem dX4_seen_68 : decode cX4_seen 68 = .ok (.iload 4, 2) := by decide +kernel
theorem dX4_seen_70 : decode cX4_seen 70 = .ok (.iconst 2, 1) := by decide +kernel
theorem dX4_seen_71 : decode cX4_seen 71 = .ok (.idiv, 1) := by decide +kernel
theorem dX4_seen_72 : decode cX4_seen 72 = .ok (.ireturn, 1) := by decide +kernel
theorem dX4_seen_73 : decode cX4_seen 73 = .ok (.iconst 2, 1) := by decide +kernel
theorem dX4_seen_74 : decode cX4_seen 74 = .ok (.iload 5, 2) := by decide +kernel
theorem dX4_seen_76 : decode cX4_seen 76 = .ok (.imul, 1) := by decide +kernel
theorem dX4_seen_77 : decode cX4_seen 77 = .ok (.ireturn, 1) := by decide +kernel
noncomputable def f_X4_seen (x0 : Int32) (x1 : Int32) (x2 : Int32) : Option Int32 :=
  if x0 = 0 then
    some x1
  else
  if x0 = 1 then
    some (x1 / 2)
  else
  if x0 = 2 then
    some (x1 + 10)
  else
  if x0 = 3 then
    jn (fun (y4 : Int32) =>
      some y4
      ) fun j5 =>
    if (x2 - x2 / 2 * 2) = 0 then
      j5 x1
    else
      j5 0
  else
  if x0 = 4 then
    some ((x1 / 2) / 2)
  else
  some (2 * (x1 + 10))
set_option maxHeartbeats 4000000 in
set_option maxRecDepth 100000 in
theorem c_X4_seen {g : GT} {x0 : Int32} {x1 : Int32} {x2 : Int32} {μ : Mem} {r0 : Int32} (hf : f_X4_seen x0 x1 x2 = some r0) : CI g yX4_seen cX4_seen 6 (some .int) 1 [.int x0, .int x1, .int x2] μ r0 μ := by
  refine mk_i (by decide) (Nat.le_of_ble_eq_true rfl) ?_
  intro G hX hR
  have hX : CX g G cX4_seen RX4 6 1 := hX
  suffices S : ∀ K : Int32 → Prop, (∀ a, K a → a = r0) → Sim G (f_X4_seen x0 x1 x2) K 0 [(0, .int x0), (1, .int x1), (2, .int x2)] [] μ from S (fun a => a = r0) (fun a h => h) _ hf rfl
  intro K hK
  unfold f_X4_seen
  refine s_iload_n hX dX4_seen_0 rfl 1 rfl ?_
  refine s_istore_n (lv' := [(3, .int x1), (0, .int x0), (1, .int x1), (2, .int x2)]) hX dX4_seen_1 rfl (by decide) rfl ?_
  refine s_iload_n hX dX4_seen_2 rfl 0 rfl ?_
  refine s_iconst (v := 2) hX dX4_seen_3 (by decide) ?_
  refine s_idiv hX dX4_seen_4 (by decide) ?_
  refine s_istore (lv' := [(4, .int (x1 / 2)), (3, .int x1), (0, .int x0), (1, .int x1), (2, .int x2)]) hX dX4_seen_5 (by decide) rfl ?_
  refine s_iload_n hX dX4_seen_7 rfl 1 rfl ?_
  refine s_bipush (v := 10) hX dX4_seen_8 (by decide) ?_
  refine s_iadd hX dX4_seen_10 ?_
  refine s_istore (lv' := [(5, .int (x1 + 10)), (4, .int (x1 / 2)), (3, .int x1), (0, .int x0), (1, .int x1), (2, .int x2)]) hX dX4_seen_11 (by decide) rfl ?_
  refine s_iload_n hX dX4_seen_13 rfl 3 rfl ?_
  refine s_tabC (v := 0) (a := 0) hX 48 dX4_seen_14 (by decide) (by decide) (by decide) rfl (by decide) ?_ (fun hne1 => ?_)
  · refine s_iload_n hX dX4_seen_48 rfl 2 rfl ?_
    exact s_iretr hK hR dX4_seen_49
  refine s_tabC (v := 1) (a := 1) hX 50 dX4_seen_14 (by decide) (by decide) (by decide) rfl (by decide) ?_ (fun hne2 => ?_)
  · refine s_iload hX dX4_seen_50 1 rfl ?_
    exact s_iretr hK hR dX4_seen_52
  refine s_tabC (v := 2) (a := 2) hX 53 dX4_seen_14 (by decide) (by decide) (by decide) rfl (by decide) ?_ (fun hne3 => ?_)
  · refine s_iload hX dX4_seen_53 0 rfl ?_
    exact s_iretr hK hR dX4_seen_55
  refine s_tabC (v := 3) (a := 3) hX 56 dX4_seen_14 (by decide) (by decide) (by decide) rfl (by decide) ?_ (fun hne6 => ?_)
  · refine s_iload_n hX dX4_seen_56 rfl 5 rfl ?_
    refine s_iconst (v := 2) hX dX4_seen_57 (by decide) ?_
    refine s_irem hX dX4_seen_58 (by decide) ?_
    refine s_jn (C := fun j => ∀ (y4 : Int32), Sim G (j y4) K 67 [] [.int y4] μ) ?_ (fun j5 hj5 => ?_)
    · intro y4
      show Sim G _ _ 67 [] [.int y4] μ
      exact s_iretr hK hR dX4_seen_67
    refine s_if_ne hX 66 dX4_seen_59 (by decide) ?_ ?_
    · refine s_iconst (v := 0) hX dX4_seen_66 (by decide) ?_
      exact s_to hX [] rfl (hj5 0)
    · refine s_iload_n hX dX4_seen_62 rfl 2 rfl ?_
      refine s_goto hX 67 dX4_seen_63 (by decide) ?_
      exact s_to hX [] rfl (hj5 x1)
  refine s_tabC (v := 4) (a := 4) hX 68 dX4_seen_14 (by decide) (by decide) (by decide) rfl (by decide) ?_ (fun hne7 => ?_)
  · refine s_iload hX dX4_seen_68 1 rfl ?_
    refine s_iconst (v := 2) hX dX4_seen_70 (by decide) ?_
    refine s_idiv hX dX4_seen_71 (by decide) ?_
    exact s_iretr hK hR dX4_seen_72
  refine s_tabD hX 73 dX4_seen_14 (by omega) (by decide) ?_
  refine s_iconst (v := 2) hX dX4_seen_73 (by decide) ?_
  refine s_iload hX dX4_seen_74 0 rfl ?_
  refine s_imul hX dX4_seen_76 ?_
  exact s_iretr hK hR dX4_seen_77
theorem dX6_become_0 : decode cX6_become 0 = .ok (.aload_n 0, 1) := by decide +kernel
theorem dX6_become_1 : decode cX6_become 1 = .ok (.aload_n 1, 1) := by decide +kernel
theorem dX6_become_2 : decode cX6_become 2 = .ok (.getfield 9, 3) := by decide +kernel
theorem dX6_become_5 : decode cX6_become 5 = .ok (.putfield 9, 3) := by decide +kernel
theorem dX6_become_8 : decode cX6_become 8 = .ok (.aload_n 1, 1) := by decide +kernel
theorem dX6_become_9 : decode cX6_become 9 = .ok (.getfield 15, 3) := by decide +kernel
theorem dX6_become_12 : decode cX6_become 12 = .ok (.iconst 0, 1) := by decide +kernel
theorem dX6_become_13 : decode cX6_become 13 = .ok (.aload_n 0, 1) := by decide +kernel
theorem dX6_become_14 : decode cX6_become 14 = .ok (.getfield 15, 3) := by decide +kernel
theorem dX6_become_17 : decode cX6_become 17 = .ok (.iconst 0, 1) := by decide +kernel
theorem dX6_become_18 : decode cX6_become 18 = .ok (.aload_n 0, 1) := by decide +kernel
theorem dX6_become_19 : decode cX6_become 19 = .ok (.getfield 15, 3) := by decide +kernel
theorem dX6_become_22 : decode cX6_become 22 = .ok (.arraylength, 1) := by decide +kernel
theorem dX6_become_23 : decode cX6_become 23 = .ok (.invokestatic 22, 3) := by decide +kernel
theorem dX6_become_26 : decode cX6_become 26 = .ok (.aload_n 1, 1) := by decide +kernel
theorem dX6_become_27 : decode cX6_become 27 = .ok (.getfield 19, 3) := by decide +kernel
theorem dX6_become_30 : decode cX6_become 30 = .ok (.iconst 0, 1) := by decide +kernel
theorem dX6_become_31 : decode cX6_become 31 = .ok (.aload_n 0, 1) := by decide +kernel
theorem dX6_become_32 : decode cX6_become 32 = .ok (.getfield 19, 3) := by decide +kernel
theorem dX6_become_35 : decode cX6_become 35 = .ok (.iconst 0, 1) := by decide +kernel
theorem dX6_become_36 : decode cX6_become 36 = .ok (.aload_n 0, 1) := by decide +kernel
theorem dX6_become_37 : decode cX6_become 37 = .ok (.getfield 19, 3) := by decide +kernel
theorem dX6_become_40 : decode cX6_become 40 = .ok (.arraylength, 1) := by decide +kernel
theorem dX6_become_41 : decode cX6_become 41 = .ok (.invokestatic 22, 3) := by decide +kernel
theorem dX6_become_44 : decode cX6_become 44 = .ok (.return_, 1) := by decide +kernel
noncomputable def f_X6_become (k0 : Nat) (k1 : Nat) (μ : Mem) : Option Mem :=
  lt (setI μ k0 0 (μ.1 k1 0)) fun ν1 =>
  ckC 0 0 10 10 10 (lt (cpyI ν1 (k1 + 1) (ix 0) (k0 + 1) (ix 0) (ix 10)) fun ν2 =>
    ckC 0 0 100 100 100 (lt (cpyI ν2 (k1 + 2) (ix 0) (k0 + 2) (ix 0) (ix 100)) fun ν3 =>
      some ν3
      )
    )
set_option maxHeartbeats 4000000 in
set_option maxRecDepth 100000 in
theorem c_X6_become {g : GT} {k0 : Nat} {k1 : Nat} {μ : Mem} {μ0 : Mem} (hk0 : tyOf k0 = 5) (hk1 : tyOf k1 = 5) (hf : f_X6_become k0 k1 μ = some μ0) : CV g yX6_become cX6_become 2 (none) 1 [rf g k0, rf g k1] μ μ0 := by
  refine mk_v (by decide) (Nat.le_of_ble_eq_true rfl) ?_
  intro G hX hR
  have hX : CX g G cX6_become RX6 2 1 := hX
  suffices S : ∀ K : Mem → Prop, (∀ a, K a → a = μ0) → Sim G (f_X6_become k0 k1 μ) K 0 [(0, rf g k0), (1, rf g k1)] [] μ from S (fun a => a = μ0) (fun a h => h) _ hf rfl
  intro K hK
  unfold f_X6_become
  refine s_aload_n hX dX6_become_0 rfl 0 rfl ?_
  refine s_aload_n hX dX6_become_1 rfl 1 rfl ?_
  refine s_getI hX flX6_9 hk1 dX6_become_2 ?_
  refine s_putI hX flX6_9 hk0 ⟨rfl, rfl⟩ dX6_become_5 (fun ν1 => ?_)
  refine s_aload_n hX dX6_become_8 rfl 1 rfl ?_
  refine s_getR hX (d := 1) (k1 + 1) flX6_15 hk1 rfl dX6_become_9 ?_
  refine s_iconst (v := 0) hX dX6_become_12 (by decide) ?_
  refine s_aload_n hX dX6_become_13 rfl 0 rfl ?_
  refine s_getR hX (d := 1) (k0 + 1) flX6_15 hk0 rfl dX6_become_14 ?_
  refine s_iconst (v := 0) hX dX6_become_17 (by decide) ?_
  refine s_aload_n hX dX6_become_18 rfl 0 rfl ?_
  refine s_getR hX (d := 1) (k0 + 1) flX6_15 hk0 rfl dX6_become_19 ?_
  refine s_alen (v := 10) hX (ty_5_1 hk0).1 (ty_5_1 hk0).2 (by decide) dX6_become_22 ?_
  refine s_copy hX (ty_5_1 hk1).1 (ty_5_1 hk1).2 (ty_5_1 hk0).1 (ty_5_1 hk0).2 cvX6_22 ⟨by omega, Nat.le_of_ble_eq_true rfl⟩ kw_copy dX6_become_23 (fun ν2 => ?_)
  refine s_aload_n hX dX6_become_26 rfl 1 rfl ?_
  refine s_getR hX (d := 2) (k1 + 2) flX6_19 hk1 rfl dX6_become_27 ?_
  refine s_iconst (v := 0) hX dX6_become_30 (by decide) ?_
  refine s_aload_n hX dX6_become_31 rfl 0 rfl ?_
  refine s_getR hX (d := 2) (k0 + 2) flX6_19 hk0 rfl dX6_become_32 ?_
  refine s_iconst (v := 0) hX dX6_become_35 (by decide) ?_
  refine s_aload_n hX dX6_become_36 rfl 0 rfl ?_
  refine s_getR hX (d := 2) (k0 + 2) flX6_19 hk0 rfl dX6_become_37 ?_
  refine s_alen (v := 100) hX (ty_5_2 hk0).1 (ty_5_2 hk0).2 (by decide) dX6_become_40 ?_
  refine s_copy hX (ty_5_2 hk1).1 (ty_5_2 hk1).2 (ty_5_2 hk0).1 (ty_5_2 hk0).2 cvX6_22 ⟨by omega, Nat.le_of_ble_eq_true rfl⟩ kw_copy dX6_become_41 (fun ν3 => ?_)
  exact s_vreti hK hR dX6_become_44
theorem dX6_keep_0 : decode cX6_keep 0 = .ok (.aload_n 0, 1) := by decide +kernel
theorem dX6_keep_1 : decode cX6_keep 1 = .ok (.getfield 9, 3) := by decide +kernel
theorem dX6_keep_4 : decode cX6_keep 4 = .ok (.bipush 10, 2) := by decide +kernel
theorem dX6_keep_6 : decode cX6_keep 6 = .ok (.if_icmp .lt 46, 3) := by decide +kernel
theorem dX6_keep_9 : decode cX6_keep 9 = .ok (.aload_n 0, 1) := by decide +kernel
theorem dX6_keep_10 : decode cX6_keep 10 = .ok (.getfield 15, 3) := by decide +kernel
theorem dX6_keep_13 : decode cX6_keep 13 = .ok (.iconst 1, 1) := by decide +kernel
theorem dX6_keep_14 : decode cX6_keep 14 = .ok (.aload_n 0, 1) := by decide +kernel
theorem dX6_keep_15 : decode cX6_keep 15 = .ok (.getfield 15, 3) := by decide +kernel
theorem dX6_keep_18 : decode cX6_keep 18 = .ok (.iconst 0, 1) := by decide +kernel
theorem dX6_keep_19 : decode cX6_keep 19 = .ok (.bipush 9, 2) := by decide +kernel
theorem dX6_keep_21 : decode cX6_keep 21 = .ok (.invokestatic 22, 3) := by decide +kernel
theorem dX6_keep_24 : decode cX6_keep 24 = .ok (.aload_n 0, 1) := by decide +kernel
theorem dX6_keep_25 : decode cX6_keep 25 = .ok (.getfield 19, 3) := by decide +kernel
theorem dX6_keep_28 : decode cX6_keep 28 = .ok (.bipush 10, 2) := by decide +kernel
theorem dX6_keep_30 : decode cX6_keep 30 = .ok (.aload_n 0, 1) := by decide +kernel
theorem dX6_keep_31 : decode cX6_keep 31 = .ok (.getfield 19, 3) := by decide +kernel
theorem dX6_keep_34 : decode cX6_keep 34 = .ok (.iconst 0, 1) := by decide +kernel
theorem dX6_keep_35 : decode cX6_keep 35 = .ok (.aload_n 0, 1) := by decide +kernel
theorem dX6_keep_36 : decode cX6_keep 36 = .ok (.getfield 19, 3) := by decide +kernel
theorem dX6_keep_39 : decode cX6_keep 39 = .ok (.arraylength, 1) := by decide +kernel
theorem dX6_keep_40 : decode cX6_keep 40 = .ok (.bipush 10, 2) := by decide +kernel
theorem dX6_keep_42 : decode cX6_keep 42 = .ok (.isub, 1) := by decide +kernel
theorem dX6_keep_43 : decode cX6_keep 43 = .ok (.invokestatic 22, 3) := by decide +kernel
theorem dX6_keep_46 : decode cX6_keep 46 = .ok (.aload_n 0, 1) := by decide +kernel
theorem dX6_keep_47 : decode cX6_keep 47 = .ok (.bipush 9, 2) := by decide +kernel
theorem dX6_keep_49 : decode cX6_keep 49 = .ok (.putfield 9, 3) := by decide +kernel
theorem dX6_keep_52 : decode cX6_keep 52 = .ok (.aload_n 0, 1) := by decide +kernel
theorem dX6_keep_53 : decode cX6_keep 53 = .ok (.getfield 15, 3) := by decide +kernel
theorem dX6_keep_56 : decode cX6_keep 56 = .ok (.aload_n 0, 1) := by decide +kernel
theorem dX6_keep_57 : decode cX6_keep 57 = .ok (.getfield 9, 3) := by decide +kernel
theorem dX6_keep_60 : decode cX6_keep 60 = .ok (.aload_n 1, 1) := by decide +kernel
theorem dX6_keep_61 : decode cX6_keep 61 = .ok (.getfield 28, 3) := by decide +kernel
theorem dX6_keep_64 : decode cX6_keep 64 = .ok (.iastore, 1) := by decide +kernel
theorem dX6_keep_65 : decode cX6_keep 65 = .ok (.aload_n 1, 1) := by decide +kernel
theorem dX6_keep_66 : decode cX6_keep 66 = .ok (.getfield 33, 3) := by decide +kernel
theorem dX6_keep_69 : decode cX6_keep 69 = .ok (.iconst 0, 1) := by decide +kernel
theorem dX6_keep_70 : decode cX6_keep 70 = .ok (.aload_n 0, 1) := by decide +kernel
theorem dX6_keep_71 : decode cX6_keep 71 = .ok (.getfield 19, 3) := by decide +kernel
theorem dX6_keep_74 : decode cX6_keep 74 = .ok (.aload_n 0, 1) := by decide +kernel
theorem dX6_keep_75 : decode cX6_keep 75 = .ok (.getfield 9, 3) := by decide +kernel
theorem dX6_keep_78 : decode cX6_keep 78 = .ok (.bipush 10, 2) := by decide +kernel
theorem dX6_keep_80 : decode cX6_keep 80 = .ok (.imul, 1) := by decide +kernel
theorem dX6_keep_81 : decode cX6_keep 81 = .ok (.bipush 10, 2) := by decide +kernel
theorem dX6_keep_83 : decode cX6_keep 83 = .ok (.invokestatic 22, 3) := by decide +kernel
theorem dX6_keep_86 : decode cX6_keep 86 = .ok (.aload_n 0, 1) := by decide +kernel
theorem dX6_keep_87 : decode cX6_keep 87 = .ok (.dup, 1) := by decide +kernel
theorem dX6_keep_88 : decode cX6_keep 88 = .ok (.getfield 9, 3) := by decide +kernel
theorem dX6_keep_91 : decode cX6_keep 91 = .ok (.iconst 1, 1) := by decide +kernel
theorem dX6_keep_92 : decode cX6_keep 92 = .ok (.iadd, 1) := by decide +kernel
theorem dX6_keep_93 : decode cX6_keep 93 = .ok (.putfield 9, 3) := by decide +kernel
theorem dX6_keep_96 : decode cX6_keep 96 = .ok (.return_, 1) := by decide +kernel
noncomputable def f_X6_keep (k0 : Nat) (k1 : Nat) (μ : Mem) : Option Mem :=
  jn (fun (ν1 : Mem) =>
    chk (ν1.1 k0 0) 10 (lt (setI ν1 (k0 + 1) (ix (ν1.1 k0 0)) (ν1.1 k1 2)) fun ν3 =>
      ckC 0 ((ν3.1 k0 0) * 10) 10 10 100 (lt (cpyI ν3 (k1 + 3) (ix 0) (k0 + 2) (ix ((ν3.1 k0 0) * 10)) (ix 10)) fun ν4 =>
        lt (setI ν4 k0 0 ((ν4.1 k0 0) + 1)) fun ν5 =>
        some ν5
        )
      )
    ) fun j2 =>
  if (μ.1 k0 0) < 10 then
    j2 μ
  else
    ckC 1 0 9 10 10 (lt (cpyI μ (k0 + 1) (ix 1) (k0 + 1) (ix 0) (ix 9)) fun ν6 =>
      ckC 10 0 (100 - 10) 100 100 (lt (cpyI ν6 (k0 + 2) (ix 10) (k0 + 2) (ix 0) (ix (100 - 10))) fun ν7 =>
        lt (setI ν7 k0 0 9) fun ν8 =>
        j2 ν8
        )
      )
set_option maxHeartbeats 4000000 in
set_option maxRecDepth 100000 in
theorem c_X6_keep {g : GT} {k0 : Nat} {k1 : Nat} {μ : Mem} {μ0 : Mem} (hk0 : tyOf k0 = 5) (hk1 : tyOf k1 = 3) (hf : f_X6_keep k0 k1 μ = some μ0) : CV g yX6_keep cX6_keep 2 (none) 1 [rf g k0, rf g k1] μ μ0 := by
  refine mk_v (by decide) (Nat.le_of_ble_eq_true rfl) ?_
  intro G hX hR
  have hX : CX g G cX6_keep RX6 2 1 := hX
  suffices S : ∀ K : Mem → Prop, (∀ a, K a → a = μ0) → Sim G (f_X6_keep k0 k1 μ) K 0 [(0, rf g k0), (1, rf g k1)] [] μ from S (fun a => a = μ0) (fun a h => h) _ hf rfl
  intro K hK
  unfold f_X6_keep
  refine s_aload_n hX dX6_keep_0 rfl 0 rfl ?_
  refine s_getI hX flX6_9 hk0 dX6_keep_1 ?_
  refine s_bipush (v := 10) hX dX6_keep_4 (by decide) ?_
  refine s_jn (C := fun j => ∀ (ν1 : Mem), Sim G (j ν1) K 52 [(0, rf g k0), (1, rf g k1)] [] ν1) ?_ (fun j2 hj2 => ?_)
  · intro ν1
    show Sim G _ _ 52 [(0, rf g k0), (1, rf g k1)] [] ν1
    refine s_aload_n hX dX6_keep_52 rfl 0 rfl ?_
    refine s_getR hX (d := 1) (k0 + 1) flX6_15 hk0 rfl dX6_keep_53 ?_
    refine s_aload_n hX dX6_keep_56 rfl 0 rfl ?_
    refine s_getI hX flX6_9 hk0 dX6_keep_57 ?_
    refine s_aload_n hX dX6_keep_60 rfl 1 rfl ?_
    refine s_getI hX flX6_28 hk1 dX6_keep_61 ?_
    refine s_iast hX (ty_5_1 hk0).1 (ty_5_1 hk0).2 dX6_keep_64 (fun ν3 => ?_)
    refine s_aload_n hX dX6_keep_65 rfl 1 rfl ?_
    refine s_getR hX (d := 3) (k1 + 3) flX6_33 hk1 rfl dX6_keep_66 ?_
    refine s_iconst (v := 0) hX dX6_keep_69 (by decide) ?_
    refine s_aload_n hX dX6_keep_70 rfl 0 rfl ?_
    refine s_getR hX (d := 2) (k0 + 2) flX6_19 hk0 rfl dX6_keep_71 ?_
    refine s_aload_n hX dX6_keep_74 rfl 0 rfl ?_
    refine s_getI hX flX6_9 hk0 dX6_keep_75 ?_
    refine s_bipush (v := 10) hX dX6_keep_78 (by decide) ?_
    refine s_imul hX dX6_keep_80 ?_
    refine s_bipush (v := 10) hX dX6_keep_81 (by decide) ?_
    refine s_copy hX (ty_3_3 hk1).1 (ty_3_3 hk1).2 (ty_5_2 hk0).1 (ty_5_2 hk0).2 cvX6_22 ⟨by omega, Nat.le_of_ble_eq_true rfl⟩ kw_copy dX6_keep_83 (fun ν4 => ?_)
    refine s_aload_n hX dX6_keep_86 rfl 0 rfl ?_
    refine s_dup hX dX6_keep_87 rfl ?_
    refine s_getI hX flX6_9 hk0 dX6_keep_88 ?_
    refine s_iconst (v := 1) hX dX6_keep_91 (by decide) ?_
    refine s_iadd hX dX6_keep_92 ?_
    refine s_putI hX flX6_9 hk0 ⟨rfl, rfl⟩ dX6_keep_93 (fun ν5 => ?_)
    exact s_vreti hK hR dX6_keep_96
  refine s_icmp_lt hX 52 dX6_keep_6 (by decide) ?_ ?_
  · exact s_to hX [0, 1] rfl (hj2 μ)
  · refine s_aload_n hX dX6_keep_9 rfl 0 rfl ?_
    refine s_getR hX (d := 1) (k0 + 1) flX6_15 hk0 rfl dX6_keep_10 ?_
    refine s_iconst (v := 1) hX dX6_keep_13 (by decide) ?_
    refine s_aload_n hX dX6_keep_14 rfl 0 rfl ?_
    refine s_getR hX (d := 1) (k0 + 1) flX6_15 hk0 rfl dX6_keep_15 ?_
    refine s_iconst (v := 0) hX dX6_keep_18 (by decide) ?_
    refine s_bipush (v := 9) hX dX6_keep_19 (by decide) ?_
    refine s_copy hX (ty_5_1 hk0).1 (ty_5_1 hk0).2 (ty_5_1 hk0).1 (ty_5_1 hk0).2 cvX6_22 ⟨by omega, Nat.le_of_ble_eq_true rfl⟩ kw_copy dX6_keep_21 (fun ν6 => ?_)
    refine s_aload_n hX dX6_keep_24 rfl 0 rfl ?_
    refine s_getR hX (d := 2) (k0 + 2) flX6_19 hk0 rfl dX6_keep_25 ?_
    refine s_bipush (v := 10) hX dX6_keep_28 (by decide) ?_
    refine s_aload_n hX dX6_keep_30 rfl 0 rfl ?_
    refine s_getR hX (d := 2) (k0 + 2) flX6_19 hk0 rfl dX6_keep_31 ?_
    refine s_iconst (v := 0) hX dX6_keep_34 (by decide) ?_
    refine s_aload_n hX dX6_keep_35 rfl 0 rfl ?_
    refine s_getR hX (d := 2) (k0 + 2) flX6_19 hk0 rfl dX6_keep_36 ?_
    refine s_alen (v := 100) hX (ty_5_2 hk0).1 (ty_5_2 hk0).2 (by decide) dX6_keep_39 ?_
    refine s_bipush (v := 10) hX dX6_keep_40 (by decide) ?_
    refine s_isub hX dX6_keep_42 ?_
    refine s_copy hX (ty_5_2 hk0).1 (ty_5_2 hk0).2 (ty_5_2 hk0).1 (ty_5_2 hk0).2 cvX6_22 ⟨by omega, Nat.le_of_ble_eq_true rfl⟩ kw_copy dX6_keep_43 (fun ν7 => ?_)
    refine s_aload_n hX dX6_keep_46 rfl 0 rfl ?_
    refine s_bipush (v := 9) hX dX6_keep_47 (by decide) ?_
    refine s_putI hX flX6_9 hk0 ⟨rfl, rfl⟩ dX6_keep_49 (fun ν8 => ?_)
    exact s_to hX [0, 1] rfl (hj2 ν8)
theorem dX6_putBack_0 : decode cX6_putBack 0 = .ok (.aload_n 0, 1) := by decide +kernel
theorem dX6_putBack_1 : decode cX6_putBack 1 = .ok (.getfield 9, 3) := by decide +kernel
theorem dX6_putBack_4 : decode cX6_putBack 4 = .ok (.ifCond .gt 6, 3) := by decide +kernel
theorem dX6_putBack_7 : decode cX6_putBack 7 = .ok (.bipush (-3), 2) := by decide +kernel
theorem dX6_putBack_9 : decode cX6_putBack 9 = .ok (.ireturn, 1) := by decide +kernel
theorem dX6_putBack_10 : decode cX6_putBack 10 = .ok (.aload_n 0, 1) := by decide +kernel
theorem dX6_putBack_11 : decode cX6_putBack 11 = .ok (.dup, 1) := by decide +kernel
theorem dX6_putBack_12 : decode cX6_putBack 12 = .ok (.getfield 9, 3) := by decide +kernel
theorem dX6_putBack_15 : decode cX6_putBack 15 = .ok (.iconst 1, 1) := by decide +kernel
theorem dX6_putBack_16 : decode cX6_putBack 16 = .ok (.isub, 1) := by decide +kernel
theorem dX6_putBack_17 : decode cX6_putBack 17 = .ok (.putfield 9, 3) := by decide +kernel
theorem dX6_putBack_20 : decode cX6_putBack 20 = .ok (.aload_n 1, 1) := by decide +kernel
theorem dX6_putBack_21 : decode cX6_putBack 21 = .ok (.aload_n 0, 1) := by decide +kernel
theorem dX6_putBack_22 : decode cX6_putBack 22 = .ok (.getfield 15, 3) := by decide +kernel
theorem dX6_putBack_25 : decode cX6_putBack 25 = .ok (.aload_n 0, 1) := by decide +kernel
theorem dX6_putBack_26 : decode cX6_putBack 26 = .ok (.getfield 9, 3) := by decide +kernel
theorem dX6_putBack_29 : decode cX6_putBack 29 = .ok (.iaload, 1) := by decide +kernel
theorem dX6_putBack_30 : decode cX6_putBack 30 = .ok (.putfield 28, 3) := by decide +kernel
theorem dX6_putBack_33 : decode cX6_putBack 33 = .ok (.aload_n 0, 1) := by decide +kernel
theorem dX6_putBack_34 : decode cX6_putBack 34 = .ok (.getfield 19, 3) := by decide +kernel
theorem dX6_putBack_37 : decode cX6_putBack 37 = .ok (.aload_n 0, 1) := by decide +kernel
theorem dX6_putBack_38 : decode cX6_putBack 38 = .ok (.getfield 9, 3) := by decide +kernel
theorem dX6_putBack_41 : decode cX6_putBack 41 = .ok (.bipush 10, 2) := by decide +kernel
theorem dX6_putBack_43 : decode cX6_putBack 43 = .ok (.imul, 1) := by decide +kernel
theorem dX6_putBack_44 : decode cX6_putBack 44 = .ok (.aload_n 1, 1) := by decide +kernel
theorem dX6_putBack_45 : decode cX6_putBack 45 = .ok (.getfield 33, 3) := by decide +kernel
theorem dX6_putBack_48 : decode cX6_putBack 48 = .ok (.iconst 0, 1) := by decide +kernel
theorem dX6_putBack_49 : decode cX6_putBack 49 = .ok (.bipush 10, 2) := by decide +kernel
theorem dX6_putBack_51 : decode cX6_putBack 51 = .ok (.invokestatic 22, 3) := by decide +kernel
theorem dX6_putBack_54 : decode cX6_putBack 54 = .ok (.iconst 1, 1) := by decide +kernel
theorem dX6_putBack_55 : decode cX6_putBack 55 = .ok (.ireturn, 1) := by decide +kernel
noncomputable def f_X6_putBack (k0 : Nat) (k1 : Nat) (μ : Mem) : Option (Int32 × Mem) :=
  if 0 < (μ.1 k0 0) then
    lt (setI μ k0 0 ((μ.1 k0 0) - 1)) fun ν1 =>
    chk (ν1.1 k0 0) 10 (
      lt (setI ν1 k1 2 (ν1.1 (k0 + 1) (ix (ν1.1 k0 0)))) fun ν2 =>
      ckC ((ν2.1 k0 0) * 10) 0 10 100 10 (lt (cpyI ν2 (k0 + 2) (ix ((ν2.1 k0 0) * 10)) (k1 + 3) (ix 0) (ix 10)) fun ν3 =>
        some (1, ν3)
        )
      )
  else
    some ((-3), μ)
set_option maxHeartbeats 4000000 in
set_option maxRecDepth 100000 in
theorem c_X6_putBack {g : GT} {k0 : Nat} {k1 : Nat} {μ : Mem} {μ0 : Mem} {r0 : Int32} (hk0 : tyOf k0 = 5) (hk1 : tyOf k1 = 3) (hf : f_X6_putBack k0 k1 μ = some (r0, μ0)) : CI g yX6_putBack cX6_putBack 2 (some .int) 1 [rf g k0, rf g k1] μ r0 μ0 := by
  refine mk_i (by decide) (Nat.le_of_ble_eq_true rfl) ?_
  intro G hX hR
  have hX : CX g G cX6_putBack RX6 2 1 := hX
  suffices S : ∀ K : (Int32 × Mem) → Prop, (∀ a, K a → a = (r0, μ0)) → Sim G (f_X6_putBack k0 k1 μ) K 0 [(0, rf g k0), (1, rf g k1)] [] μ from S (fun a => a = (r0, μ0)) (fun a h => h) _ hf rfl
  intro K hK
  unfold f_X6_putBack
  refine s_aload_n hX dX6_putBack_0 rfl 0 rfl ?_
  refine s_getI hX flX6_9 hk0 dX6_putBack_1 ?_
  refine s_if_gt hX 10 dX6_putBack_4 (by decide) ?_ ?_
  · refine s_aload_n hX dX6_putBack_10 rfl 0 rfl ?_
    refine s_dup hX dX6_putBack_11 rfl ?_
    refine s_getI hX flX6_9 hk0 dX6_putBack_12 ?_
    refine s_iconst (v := 1) hX dX6_putBack_15 (by decide) ?_
    refine s_isub hX dX6_putBack_16 ?_
    refine s_putI hX flX6_9 hk0 ⟨rfl, rfl⟩ dX6_putBack_17 (fun ν1 => ?_)
    refine s_aload_n hX dX6_putBack_20 rfl 1 rfl ?_
    refine s_aload_n hX dX6_putBack_21 rfl 0 rfl ?_
    refine s_getR hX (d := 1) (k0 + 1) flX6_15 hk0 rfl dX6_putBack_22 ?_
    refine s_aload_n hX dX6_putBack_25 rfl 0 rfl ?_
    refine s_getI hX flX6_9 hk0 dX6_putBack_26 ?_
    refine s_iald hX (ty_5_1 hk0).1 (ty_5_1 hk0).2 dX6_putBack_29 ?_
    refine s_putI hX flX6_28 hk1 ⟨rfl, rfl⟩ dX6_putBack_30 (fun ν2 => ?_)
    refine s_aload_n hX dX6_putBack_33 rfl 0 rfl ?_
    refine s_getR hX (d := 2) (k0 + 2) flX6_19 hk0 rfl dX6_putBack_34 ?_
    refine s_aload_n hX dX6_putBack_37 rfl 0 rfl ?_
    refine s_getI hX flX6_9 hk0 dX6_putBack_38 ?_
    refine s_bipush (v := 10) hX dX6_putBack_41 (by decide) ?_
    refine s_imul hX dX6_putBack_43 ?_
    refine s_aload_n hX dX6_putBack_44 rfl 1 rfl ?_
    refine s_getR hX (d := 3) (k1 + 3) flX6_33 hk1 rfl dX6_putBack_45 ?_
    refine s_iconst (v := 0) hX dX6_putBack_48 (by decide) ?_
    refine s_bipush (v := 10) hX dX6_putBack_49 (by decide) ?_
    refine s_copy hX (ty_5_2 hk0).1 (ty_5_2 hk0).2 (ty_3_3 hk1).1 (ty_3_3 hk1).2 cvX6_22 ⟨by omega, Nat.le_of_ble_eq_true rfl⟩ kw_copy dX6_putBack_51 (fun ν3 => ?_)
    refine s_iconst (v := 1) hX dX6_putBack_54 (by decide) ?_
    exact s_ireti hK hR dX6_putBack_55
  · refine s_bipush (v := (-3)) hX dX6_putBack_7 (by decide) ?_
    exact s_ireti hK hR dX6_putBack_9
theorem dX7_add_0 : decode cX7_add 0 = .ok (.iconst 0, 1) := by decide +kernel
theorem dX7_add_1 : decode cX7_add 1 = .ok (.istore_n 3, 1) := by decide +kernel
theorem dX7_add_2 : decode cX7_add 2 = .ok (.iload_n 3, 1) := by decide +kernel
theorem dX7_add_3 : decode cX7_add 3 = .ok (.aload_n 0, 1) := by decide +kernel
theorem dX7_add_4 : decode cX7_add 4 = .ok (.getfield 9, 3) := by decide +kernel
theorem dX7_add_7 : decode cX7_add 7 = .ok (.if_icmp .ge 52, 3) := by decide +kernel
theorem dX7_add_10 : decode cX7_add 10 = .ok (.aload_n 0, 1) := by decide +kernel
theorem dX7_add_11 : decode cX7_add 11 = .ok (.getfield 15, 3) := by decide +kernel
theorem dX7_add_14 : decode cX7_add 14 = .ok (.iload_n 3, 1) := by decide +kernel
theorem dX7_add_15 : decode cX7_add 15 = .ok (.iaload, 1) := by decide +kernel
theorem dX7_add_16 : decode cX7_add 16 = .ok (.iload_n 1, 1) := by decide +kernel
theorem dX7_add_17 : decode cX7_add 17 = .ok (.if_icmp .ne 13, 3) := by decide +kernel
theorem dX7_add_20 : decode cX7_add 20 = .ok (.aload_n 0, 1) := by decide +kernel
theorem dX7_add_21 : decode cX7_add 21 = .ok (.getfield 19, 3) := by decide +kernel
theorem dX7_add_24 : decode cX7_add 24 = .ok (.iload_n 3, 1) := by decide +kernel
theorem dX7_add_25 : decode cX7_add 25 = .ok (.iaload, 1) := by decide +kernel
theorem dX7_add_26 : decode cX7_add 26 = .ok (.iload_n 2, 1) := by decide +kernel
theorem dX7_add_27 : decode cX7_add 27 = .ok (.if_icmp .eq 23, 3) := by decide +kernel
theorem dX7_add_30 : decode cX7_add 30 = .ok (.aload_n 0, 1) := by decide +kernel
theorem dX7_add_31 : decode cX7_add 31 = .ok (.getfield 15, 3) := by decide +kernel
theorem dX7_add_34 : decode cX7_add 34 = .ok (.iload_n 3, 1) := by decide +kernel
theorem dX7_add_35 : decode cX7_add 35 = .ok (.iaload, 1) := by decide +kernel
theorem dX7_add_36 : decode cX7_add 36 = .ok (.iload_n 2, 1) := by decide +kernel
theorem dX7_add_37 : decode cX7_add 37 = .ok (.if_icmp .ne 16, 3) := by decide +kernel
theorem dX7_add_40 : decode cX7_add 40 = .ok (.aload_n 0, 1) := by decide +kernel
theorem dX7_add_41 : decode cX7_add 41 = .ok (.getfield 19, 3) := by decide +kernel
theorem dX7_add_44 : decode cX7_add 44 = .ok (.iload_n 3, 1) := by decide +kernel
theorem dX7_add_45 : decode cX7_add 45 = .ok (.iaload, 1) := by decide +kernel
theorem dX7_add_46 : decode cX7_add 46 = .ok (.iload_n 1, 1) := by decide +kernel
theorem dX7_add_47 : decode cX7_add 47 = .ok (.if_icmp .ne 6, 3) := by decide +kernel
theorem dX7_add_50 : decode cX7_add 50 = .ok (.bipush (-3), 2) := by decide +kernel
theorem dX7_add_52 : decode cX7_add 52 = .ok (.ireturn, 1) := by decide +kernel
theorem dX7_add_53 : decode cX7_add 53 = .ok (.iinc 3 1, 3) := by decide +kernel
theorem dX7_add_56 : decode cX7_add 56 = .ok (.goto (-54), 3) := by decide +kernel
theorem dX7_add_59 : decode cX7_add 59 = .ok (.aload_n 0, 1) := by decide +kernel
theorem dX7_add_60 : decode cX7_add 60 = .ok (.getfield 9, 3) := by decide +kernel
theorem dX7_add_63 : decode cX7_add 63 = .ok (.bipush 10, 2) := by decide +kernel
theorem dX7_add_65 : decode cX7_add 65 = .ok (.if_icmp .lt 6, 3) := by decide +kernel
theorem dX7_add_68 : decode cX7_add 68 = .ok (.bipush (-4), 2) := by decide +kernel
theorem dX7_add_70 : decode cX7_add 70 = .ok (.ireturn, 1) := by decide +kernel
theorem dX7_add_71 : decode cX7_add 71 = .ok (.aload_n 0, 1) := by decide +kernel
theorem dX7_add_72 : decode cX7_add 72 = .ok (.getfield 15, 3) := by decide +kernel
theorem dX7_add_75 : decode cX7_add 75 = .ok (.aload_n 0, 1) := by decide +kernel
theorem dX7_add_76 : decode cX7_add 76 = .ok (.getfield 9, 3) := by decide +kernel
theorem dX7_add_79 : decode cX7_add 79 = .ok (.iload_n 1, 1) := by decide +kernel
theorem dX7_add_80 : decode cX7_add 80 = .ok (.iastore, 1) := by decide +kernel
theorem dX7_add_81 : decode cX7_add 81 = .ok (.aload_n 0, 1) := by decide +kernel
theorem dX7_add_82 : decode cX7_add 82 = .ok (.getfield 19, 3) := by decide +kernel
theorem dX7_add_85 : decode cX7_add 85 = .ok (.aload_n 0, 1) := by decide +kernel
theorem dX7_add_86 : decode cX7_add 86 = .ok (.getfield 9, 3) := by decide +kernel
theorem dX7_add_89 : decode cX7_add 89 = .ok (.iload_n 2, 1) := by decide +kernel
theorem dX7_add_90 : decode cX7_add 90 = .ok (.iastore, 1) := by decide +kernel
theorem dX7_add_91 : decode cX7_add 91 = .ok (.aload_n 0, 1) := by decide +kernel
theorem dX7_add_92 : decode cX7_add 92 = .ok (.dup, 1) := by decide +kernel
theorem dX7_add_93 : decode cX7_add 93 = .ok (.getfield 9, 3) := by decide +kernel
theorem dX7_add_96 : decode cX7_add 96 = .ok (.iconst 1, 1) := by decide +kernel
theorem dX7_add_97 : decode cX7_add 97 = .ok (.iadd, 1) := by decide +kernel
theorem dX7_add_98 : decode cX7_add 98 = .ok (.putfield 9, 3) := by decide +kernel
theorem dX7_add_101 : decode cX7_add 101 = .ok (.aload_n 0, 1) := by decide +kernel
theorem dX7_add_102 : decode cX7_add 102 = .ok (.getfield 9, 3) := by decide +kernel
theorem dX7_add_105 : decode cX7_add 105 = .ok (.iconst 1, 1) := by decide +kernel
theorem dX7_add_106 : decode cX7_add 106 = .ok (.isub, 1) := by decide +kernel
theorem dX7_add_107 : decode cX7_add 107 = .ok (.ireturn, 1) := by decide +kernel
noncomputable def f_X7_add (k0 : Nat) (x1 : Int32) (x2 : Int32) (μ : Mem) : Option (Int32 × Mem) :=
  bdr (lp (ε := (Unit) ⊕ (Int32 × Mem)) (fun (x3_1 : Int32) =>
    if x3_1 < (μ.1 k0 0) then
      chk x3_1 10 (
        jn (
          some (.inr (.inr ((-3), μ)))
          ) fun j3 =>
        jn (
          chk x3_1 10 (
            jn (
              some (.inl (x3_1 + 1))
              ) fun j5 =>
            if (μ.1 (k0 + 1) (ix x3_1)) = x2 then
              chk x3_1 10 (
                if (μ.1 (k0 + 2) (ix x3_1)) = x1 then
                  j3
                else
                  j5
                )
            else
              j5
            )
          ) fun j4 =>
        if (μ.1 (k0 + 1) (ix x3_1)) = x1 then
          chk x3_1 10 (
            if (μ.1 (k0 + 2) (ix x3_1)) = x2 then
              j3
            else
              j4
            )
        else
          j4
        )
    else
      some (.inr (.inl ()))
    ) 0) (fun (_ : Unit) =>
    if (μ.1 k0 0) < 10 then
      chk (μ.1 k0 0) 10 (lt (setI μ (k0 + 1) (ix (μ.1 k0 0)) x1) fun ν6 =>
        chk (ν6.1 k0 0) 10 (lt (setI ν6 (k0 + 2) (ix (ν6.1 k0 0)) x2) fun ν7 =>
          lt (setI ν7 k0 0 ((ν7.1 k0 0) + 1)) fun ν8 =>
          some (((ν8.1 k0 0) - 1), ν8)
          )
        )
    else
      some ((-4), μ)
    ) (fun r => some (r))
set_option maxHeartbeats 4000000 in
set_option maxRecDepth 100000 in
theorem c_X7_add {g : GT} {k0 : Nat} {x1 : Int32} {x2 : Int32} {μ : Mem} {μ0 : Mem} {r0 : Int32} (hk0 : tyOf k0 = 6) (hf : f_X7_add k0 x1 x2 μ = some (r0, μ0)) : CI g yX7_add cX7_add 4 (some .int) 1 [rf g k0, .int x1, .int x2] μ r0 μ0 := by
  refine mk_i (by decide) (Nat.le_of_ble_eq_true rfl) ?_
  intro G hX hR
  have hX : CX g G cX7_add RX7 4 1 := hX
  suffices S : ∀ K : (Int32 × Mem) → Prop, (∀ a, K a → a = (r0, μ0)) → Sim G (f_X7_add k0 x1 x2 μ) K 0 [(0, rf g k0), (1, .int x1), (2, .int x2)] [] μ from S (fun a => a = (r0, μ0)) (fun a h => h) _ hf rfl
  intro K hK
  unfold f_X7_add
  refine s_iconst (v := 0) hX dX7_add_0 (by decide) ?_
  refine s_istore_n (lv' := [(3, .int 0), (0, rf g k0), (1, .int x1), (2, .int x2)]) hX dX7_add_1 rfl (by decide) rfl ?_
  refine s_loopR hX 2 59 (fun s : Int32 => [(0, rf g k0), (1, .int x1), (2, .int x2), (3, .int s)]) (fun s : Int32 => μ) (fun _ : Unit => [(0, rf g k0), (1, .int x1), (2, .int x2)]) (fun _ : Unit => μ) [1, 2, 3, 0] rfl rfl rfl (fun r => r = (r0, μ0)) (fun r a h k => by cases h; exact hK _ k) ?_ ?_
  · intro Kq2 hIq2 hJq2 hKq2 sq
    obtain ⟨x3_1, rfl⟩ : ∃ z, z = sq := ⟨_, rfl⟩
    show Sim G _ _ 2 [(0, rf g k0), (1, .int x1), (2, .int x2), (3, .int x3_1)] [] μ
    refine s_iload_n hX dX7_add_2 rfl 3 rfl ?_
    refine s_aload_n hX dX7_add_3 rfl 0 rfl ?_
    refine s_getI hX flX7_9 hk0 dX7_add_4 ?_
    refine s_icmp_ge hX 59 dX7_add_7 (by decide) ?_ ?_
    · exact s_end hX (hJq2 ()) [0, 1, 2] rfl
    · refine s_aload_n hX dX7_add_10 rfl 0 rfl ?_
      refine s_getR hX (d := 1) (k0 + 1) flX7_15 hk0 rfl dX7_add_11 ?_
      refine s_iload_n hX dX7_add_14 rfl 3 rfl ?_
      refine s_iald hX (ty_6_1 hk0).1 (ty_6_1 hk0).2 dX7_add_15 ?_
      refine s_iload_n hX dX7_add_16 rfl 1 rfl ?_
      refine s_jn (C := fun j => Sim G (j) Kq2 50 [] [] μ) ?_ (fun j3 hj3 => ?_)
      · skip
        show Sim G _ _ 50 [] [] μ
        refine s_bipush (v := (-3)) hX dX7_add_50 (by decide) ?_
        exact s_ireti hKq2 hR dX7_add_52
      refine s_jn (C := fun j => Sim G (j) Kq2 30 [(0, rf g k0), (1, .int x1), (2, .int x2), (3, .int x3_1)] [] μ) ?_ (fun j4 hj4 => ?_)
      · skip
        show Sim G _ _ 30 [(0, rf g k0), (1, .int x1), (2, .int x2), (3, .int x3_1)] [] μ
        refine s_aload_n hX dX7_add_30 rfl 0 rfl ?_
        refine s_getR hX (d := 1) (k0 + 1) flX7_15 hk0 rfl dX7_add_31 ?_
        refine s_iload_n hX dX7_add_34 rfl 3 rfl ?_
        refine s_iald hX (ty_6_1 hk0).1 (ty_6_1 hk0).2 dX7_add_35 ?_
        refine s_iload_n hX dX7_add_36 rfl 2 rfl ?_
        refine s_jn (C := fun j => Sim G (j) Kq2 53 [(0, rf g k0), (1, .int x1), (2, .int x2), (3, .int x3_1)] [] μ) ?_ (fun j5 hj5 => ?_)
        · skip
          show Sim G _ _ 53 [(0, rf g k0), (1, .int x1), (2, .int x2), (3, .int x3_1)] [] μ
          refine s_iinc (v := (x3_1 + 1)) (lv' := [(3, .int (x3_1 + 1)), (0, rf g k0), (1, .int x1), (2, .int x2)]) hX dX7_add_53 3 rfl rfl (by decide) rfl ?_
          refine s_goto hX 2 dX7_add_56 (by decide) ?_
          exact s_end hX (hIq2 (x3_1 + 1)) [1, 2, 3, 0] rfl
        refine s_icmp_ne hX 53 dX7_add_37 (by decide) ?_ ?_
        · exact s_to hX [0, 1, 2, 3] rfl (hj5)
        · refine s_aload_n hX dX7_add_40 rfl 0 rfl ?_
          refine s_getR hX (d := 2) (k0 + 2) flX7_19 hk0 rfl dX7_add_41 ?_
          refine s_iload_n hX dX7_add_44 rfl 3 rfl ?_
          refine s_iald hX (ty_6_2 hk0).1 (ty_6_2 hk0).2 dX7_add_45 ?_
          refine s_iload_n hX dX7_add_46 rfl 1 rfl ?_
          refine s_icmp_ne hX 53 dX7_add_47 (by decide) ?_ ?_
          · exact s_to hX [0, 1, 2, 3] rfl (hj5)
          · exact s_to hX [] rfl (hj3)
      refine s_icmp_ne hX 30 dX7_add_17 (by decide) ?_ ?_
      · exact s_to hX [0, 1, 2, 3] rfl (hj4)
      · refine s_aload_n hX dX7_add_20 rfl 0 rfl ?_
        refine s_getR hX (d := 2) (k0 + 2) flX7_19 hk0 rfl dX7_add_21 ?_
        refine s_iload_n hX dX7_add_24 rfl 3 rfl ?_
        refine s_iald hX (ty_6_2 hk0).1 (ty_6_2 hk0).2 dX7_add_25 ?_
        refine s_iload_n hX dX7_add_26 rfl 2 rfl ?_
        refine s_icmp_eq hX 50 dX7_add_27 (by decide) ?_ ?_
        · exact s_to hX [] rfl (hj3)
        · exact s_to hX [0, 1, 2, 3] rfl (hj4)
  · intro sq
    show Sim G _ _ 59 [(0, rf g k0), (1, .int x1), (2, .int x2)] [] μ
    refine s_aload_n hX dX7_add_59 rfl 0 rfl ?_
    refine s_getI hX flX7_9 hk0 dX7_add_60 ?_
    refine s_bipush (v := 10) hX dX7_add_63 (by decide) ?_
    refine s_icmp_lt hX 71 dX7_add_65 (by decide) ?_ ?_
    · refine s_aload_n hX dX7_add_71 rfl 0 rfl ?_
      refine s_getR hX (d := 1) (k0 + 1) flX7_15 hk0 rfl dX7_add_72 ?_
      refine s_aload_n hX dX7_add_75 rfl 0 rfl ?_
      refine s_getI hX flX7_9 hk0 dX7_add_76 ?_
      refine s_iload_n hX dX7_add_79 rfl 1 rfl ?_
      refine s_iast hX (ty_6_1 hk0).1 (ty_6_1 hk0).2 dX7_add_80 (fun ν6 => ?_)
      refine s_aload_n hX dX7_add_81 rfl 0 rfl ?_
      refine s_getR hX (d := 2) (k0 + 2) flX7_19 hk0 rfl dX7_add_82 ?_
      refine s_aload_n hX dX7_add_85 rfl 0 rfl ?_
      refine s_getI hX flX7_9 hk0 dX7_add_86 ?_
      refine s_iload_n hX dX7_add_89 rfl 2 rfl ?_
      refine s_iast hX (ty_6_2 hk0).1 (ty_6_2 hk0).2 dX7_add_90 (fun ν7 => ?_)
      refine s_aload_n hX dX7_add_91 rfl 0 rfl ?_
      refine s_dup hX dX7_add_92 rfl ?_
      refine s_getI hX flX7_9 hk0 dX7_add_93 ?_
      refine s_iconst (v := 1) hX dX7_add_96 (by decide) ?_
      refine s_iadd hX dX7_add_97 ?_
      refine s_putI hX flX7_9 hk0 ⟨rfl, rfl⟩ dX7_add_98 (fun ν8 => ?_)
      refine s_aload_n hX dX7_add_101 rfl 0 rfl ?_
      refine s_getI hX flX7_9 hk0 dX7_add_102 ?_
      refine s_iconst (v := 1) hX dX7_add_105 (by decide) ?_
      refine s_isub hX dX7_add_106 ?_
      exact s_ireti hK hR dX7_add_107
    · refine s_bipush (v := (-4)) hX dX7_add_68 (by decide) ?_
      exact s_ireti hK hR dX7_add_70
theorem dX7_become_0 : decode cX7_become 0 = .ok (.aload_n 0, 1) := by decide +kernel
theorem dX7_become_1 : decode cX7_become 1 = .ok (.aload_n 1, 1) := by decide +kernel
theorem dX7_become_2 : decode cX7_become 2 = .ok (.getfield 9, 3) := by decide +kernel
theorem dX7_become_5 : decode cX7_become 5 = .ok (.putfield 9, 3) := by decide +kernel
theorem dX7_become_8 : decode cX7_become 8 = .ok (.aload_n 0, 1) := by decide +kernel
theorem dX7_become_9 : decode cX7_become 9 = .ok (.aload_n 1, 1) := by decide +kernel
theorem dX7_become_10 : decode cX7_become 10 = .ok (.getfield 22, 3) := by decide +kernel
theorem dX7_become_13 : decode cX7_become 13 = .ok (.putfield 22, 3) := by decide +kernel
theorem dX7_become_16 : decode cX7_become 16 = .ok (.aload_n 1, 1) := by decide +kernel
theorem dX7_become_17 : decode cX7_become 17 = .ok (.getfield 15, 3) := by decide +kernel
theorem dX7_become_20 : decode cX7_become 20 = .ok (.iconst 0, 1) := by decide +kernel
theorem dX7_become_21 : decode cX7_become 21 = .ok (.aload_n 0, 1) := by decide +kernel
theorem dX7_become_22 : decode cX7_become 22 = .ok (.getfield 15, 3) := by decide +kernel
theorem dX7_become_25 : decode cX7_become 25 = .ok (.iconst 0, 1) := by decide +kernel
theorem dX7_become_26 : decode cX7_become 26 = .ok (.bipush 10, 2) := by decide +kernel
theorem dX7_become_28 : decode cX7_become 28 = .ok (.invokestatic 25, 3) := by decide +kernel
theorem dX7_become_31 : decode cX7_become 31 = .ok (.aload_n 1, 1) := by decide +kernel
theorem dX7_become_32 : decode cX7_become 32 = .ok (.getfield 19, 3) := by decide +kernel
theorem dX7_become_35 : decode cX7_become 35 = .ok (.iconst 0, 1) := by decide +kernel
theorem dX7_become_36 : decode cX7_become 36 = .ok (.aload_n 0, 1) := by decide +kernel
theorem dX7_become_37 : decode cX7_become 37 = .ok (.getfield 19, 3) := by decide +kernel
theorem dX7_become_40 : decode cX7_become 40 = .ok (.iconst 0, 1) := by decide +kernel
theorem dX7_become_41 : decode cX7_become 41 = .ok (.bipush 10, 2) := by decide +kernel
theorem dX7_become_43 : decode cX7_become 43 = .ok (.invokestatic 25, 3) := by decide +kernel
theorem dX7_become_46 : decode cX7_become 46 = .ok (.return_, 1) := by decide +kernel
noncomputable def f_X7_become (k0 : Nat) (k1 : Nat) (μ : Mem) : Option Mem :=
  lt (setI μ k0 0 (μ.1 k1 0)) fun ν1 =>
  lt (setI ν1 k0 3 (ν1.1 k1 3)) fun ν2 =>
  ckC 0 0 10 10 10 (lt (cpyI ν2 (k1 + 1) (ix 0) (k0 + 1) (ix 0) (ix 10)) fun ν3 =>
    ckC 0 0 10 10 10 (lt (cpyI ν3 (k1 + 2) (ix 0) (k0 + 2) (ix 0) (ix 10)) fun ν4 =>
      some ν4
      )
    )
set_option maxHeartbeats 4000000 in
set_option maxRecDepth 100000 in
theorem c_X7_become {g : GT} {k0 : Nat} {k1 : Nat} {μ : Mem} {μ0 : Mem} (hk0 : tyOf k0 = 6) (hk1 : tyOf k1 = 6) (hf : f_X7_become k0 k1 μ = some μ0) : CV g yX7_become cX7_become 2 (none) 1 [rf g k0, rf g k1] μ μ0 := by
  refine mk_v (by decide) (Nat.le_of_ble_eq_true rfl) ?_
  intro G hX hR
  have hX : CX g G cX7_become RX7 2 1 := hX
  suffices S : ∀ K : Mem → Prop, (∀ a, K a → a = μ0) → Sim G (f_X7_become k0 k1 μ) K 0 [(0, rf g k0), (1, rf g k1)] [] μ from S (fun a => a = μ0) (fun a h => h) _ hf rfl
  intro K hK
  unfold f_X7_become
  refine s_aload_n hX dX7_become_0 rfl 0 rfl ?_
  refine s_aload_n hX dX7_become_1 rfl 1 rfl ?_
  refine s_getI hX flX7_9 hk1 dX7_become_2 ?_
  refine s_putI hX flX7_9 hk0 ⟨rfl, rfl⟩ dX7_become_5 (fun ν1 => ?_)
  refine s_aload_n hX dX7_become_8 rfl 0 rfl ?_
  refine s_aload_n hX dX7_become_9 rfl 1 rfl ?_
  refine s_getI hX flX7_22 hk1 dX7_become_10 ?_
  refine s_putI hX flX7_22 hk0 ⟨rfl, rfl⟩ dX7_become_13 (fun ν2 => ?_)
  refine s_aload_n hX dX7_become_16 rfl 1 rfl ?_
  refine s_getR hX (d := 1) (k1 + 1) flX7_15 hk1 rfl dX7_become_17 ?_
  refine s_iconst (v := 0) hX dX7_become_20 (by decide) ?_
  refine s_aload_n hX dX7_become_21 rfl 0 rfl ?_
  refine s_getR hX (d := 1) (k0 + 1) flX7_15 hk0 rfl dX7_become_22 ?_
  refine s_iconst (v := 0) hX dX7_become_25 (by decide) ?_
  refine s_bipush (v := 10) hX dX7_become_26 (by decide) ?_
  refine s_copy hX (ty_6_1 hk1).1 (ty_6_1 hk1).2 (ty_6_1 hk0).1 (ty_6_1 hk0).2 cvX7_25 ⟨by omega, Nat.le_of_ble_eq_true rfl⟩ kw_copy dX7_become_28 (fun ν3 => ?_)
  refine s_aload_n hX dX7_become_31 rfl 1 rfl ?_
  refine s_getR hX (d := 2) (k1 + 2) flX7_19 hk1 rfl dX7_become_32 ?_
  refine s_iconst (v := 0) hX dX7_become_35 (by decide) ?_
  refine s_aload_n hX dX7_become_36 rfl 0 rfl ?_
  refine s_getR hX (d := 2) (k0 + 2) flX7_19 hk0 rfl dX7_become_37 ?_
  refine s_iconst (v := 0) hX dX7_become_40 (by decide) ?_
  refine s_bipush (v := 10) hX dX7_become_41 (by decide) ?_
  refine s_copy hX (ty_6_2 hk1).1 (ty_6_2 hk1).2 (ty_6_2 hk0).1 (ty_6_2 hk0).2 cvX7_25 ⟨by omega, Nat.le_of_ble_eq_true rfl⟩ kw_copy dX7_become_43 (fun ν4 => ?_)
  exact s_vreti hK hR dX7_become_46
theorem dX7_isGuarded_0 : decode cX7_isGuarded 0 = .ok (.aload_n 0, 1) := by decide +kernel
theorem dX7_isGuarded_1 : decode cX7_isGuarded 1 = .ok (.getfield 22, 3) := by decide +kernel
theorem dX7_isGuarded_4 : decode cX7_isGuarded 4 = .ok (.iload_n 1, 1) := by decide +kernel
theorem dX7_isGuarded_5 : decode cX7_isGuarded 5 = .ok (.ishr, 1) := by decide +kernel
theorem dX7_isGuarded_6 : decode cX7_isGuarded 6 = .ok (.iconst 1, 1) := by decide +kernel
theorem dX7_isGuarded_7 : decode cX7_isGuarded 7 = .ok (.iand, 1) := by decide +kernel
theorem dX7_isGuarded_8 : decode cX7_isGuarded 8 = .ok (.iconst 1, 1) := by decide +kernel
theorem dX7_isGuarded_9 : decode cX7_isGuarded 9 = .ok (.if_icmp .ne 7, 3) := by decide +kernel
theorem dX7_isGuarded_12 : decode cX7_isGuarded 12 = .ok (.iconst 1, 1) := by decide +kernel
theorem dX7_isGuarded_13 : decode cX7_isGuarded 13 = .ok (.goto 4, 3) := by decide +kernel
theorem dX7_isGuarded_16 : decode cX7_isGuarded 16 = .ok (.iconst 0, 1) := by decide +kernel
theorem dX7_isGuarded_17 : decode cX7_isGuarded 17 = .ok (.ireturn, 1) := by decide +kernel
noncomputable def f_X7_isGuarded (k0 : Nat) (x1 : Int32) (μ : Mem) : Option Int32 :=
  jn (fun (y1 : Int32) =>
    ckB y1 (
      some y1
      )
    ) fun j2 =>
  if (((μ.1 k0 3) >>> (x1 &&& 31)) &&& 1) = 1 then
    j2 1
  else
    j2 0
set_option maxHeartbeats 4000000 in
set_option maxRecDepth 100000 in
theorem c_X7_isGuarded {g : GT} {k0 : Nat} {x1 : Int32} {μ : Mem} {r0 : Int32} (hk0 : tyOf k0 = 6) (hf : f_X7_isGuarded k0 x1 μ = some r0) : CI g yX7_isGuarded cX7_isGuarded 2 (some .boolean) 1 [rf g k0, .int x1] μ r0 μ := by
  refine mk_z (by decide) (Nat.le_of_ble_eq_true rfl) ?_
  intro G hX hR
  have hX : CX g G cX7_isGuarded RX7 2 1 := hX
  suffices S : ∀ K : Int32 → Prop, (∀ a, K a → a = r0) → Sim G (f_X7_isGuarded k0 x1 μ) K 0 [(0, rf g k0), (1, .int x1)] [] μ from S (fun a => a = r0) (fun a h => h) _ hf rfl
  intro K hK
  unfold f_X7_isGuarded
  refine s_aload_n hX dX7_isGuarded_0 rfl 0 rfl ?_
  refine s_getI hX flX7_22 hk0 dX7_isGuarded_1 ?_
  refine s_iload_n hX dX7_isGuarded_4 rfl 1 rfl ?_
  refine s_ishr hX dX7_isGuarded_5 ?_
  refine s_iconst (v := 1) hX dX7_isGuarded_6 (by decide) ?_
  refine s_iand hX dX7_isGuarded_7 ?_
  refine s_iconst (v := 1) hX dX7_isGuarded_8 (by decide) ?_
  refine s_jn (C := fun j => ∀ (y1 : Int32), Sim G (j y1) K 17 [] [.int y1] μ) ?_ (fun j2 hj2 => ?_)
  · intro y1
    show Sim G _ _ 17 [] [.int y1] μ
    refine s_ckB (fun hzb => ?_)
    exact s_zretr hzb hK hR dX7_isGuarded_17
  refine s_icmp_ne hX 16 dX7_isGuarded_9 (by decide) ?_ ?_
  · refine s_iconst (v := 0) hX dX7_isGuarded_16 (by decide) ?_
    exact s_to hX [] rfl (hj2 0)
  · refine s_iconst (v := 1) hX dX7_isGuarded_12 (by decide) ?_
    refine s_goto hX 17 dX7_isGuarded_13 (by decide) ?_
    exact s_to hX [] rfl (hj2 1)
theorem dX7_spread_0 : decode cX7_spread 0 = .ok (.iload_n 1, 1) := by decide +kernel
theorem dX7_spread_1 : decode cX7_spread 1 = .ok (.istore_n 3, 1) := by decide +kernel
theorem dX7_spread_2 : decode cX7_spread 2 = .ok (.iconst 0, 1) := by decide +kernel
theorem dX7_spread_3 : decode cX7_spread 3 = .ok (.istore 4, 2) := by decide +kernel
theorem dX7_spread_5 : decode cX7_spread 5 = .ok (.iload 4, 2) := by decide +kernel
theorem dX7_spread_7 : decode cX7_spread 7 = .ok (.aload_n 0, 1) := by decide +kernel
theorem dX7_spread_8 : decode cX7_spread 8 = .ok (.getfield 9, 3) := by decide +kernel
theorem dX7_spread_11 : decode cX7_spread 11 = .ok (.if_icmp .ge 72, 3) := by decide +kernel
theorem dX7_spread_14 : decode cX7_spread 14 = .ok (.iload_n 2, 1) := by decide +kernel
theorem dX7_spread_15 : decode cX7_spread 15 = .ok (.iload 4, 2) := by decide +kernel
theorem dX7_spread_17 : decode cX7_spread 17 = .ok (.ishr, 1) := by decide +kernel
theorem dX7_spread_18 : decode cX7_spread 18 = .ok (.iconst 1, 1) := by decide +kernel
theorem dX7_spread_19 : decode cX7_spread 19 = .ok (.iand, 1) := by decide +kernel
theorem dX7_spread_20 : decode cX7_spread 20 = .ok (.ifCond .ne 57, 3) := by decide +kernel
theorem dX7_spread_23 : decode cX7_spread 23 = .ok (.iload_n 1, 1) := by decide +kernel
theorem dX7_spread_24 : decode cX7_spread 24 = .ok (.aload_n 0, 1) := by decide +kernel
theorem dX7_spread_25 : decode cX7_spread 25 = .ok (.getfield 15, 3) := by decide +kernel
theorem dX7_spread_28 : decode cX7_spread 28 = .ok (.iload 4, 2) := by decide +kernel
theorem dX7_spread_30 : decode cX7_spread 30 = .ok (.iaload, 1) := by decide +kernel
theorem dX7_spread_31 : decode cX7_spread 31 = .ok (.ishr, 1) := by decide +kernel
theorem dX7_spread_32 : decode cX7_spread 32 = .ok (.iconst 1, 1) := by decide +kernel
theorem dX7_spread_33 : decode cX7_spread 33 = .ok (.iand, 1) := by decide +kernel
theorem dX7_spread_34 : decode cX7_spread 34 = .ok (.iconst 1, 1) := by decide +kernel
theorem dX7_spread_35 : decode cX7_spread 35 = .ok (.if_icmp .ne 15, 3) := by decide +kernel
theorem dX7_spread_38 : decode cX7_spread 38 = .ok (.iload_n 3, 1) := by decide +kernel
theorem dX7_spread_39 : decode cX7_spread 39 = .ok (.iconst 1, 1) := by decide +kernel
theorem dX7_spread_40 : decode cX7_spread 40 = .ok (.aload_n 0, 1) := by decide +kernel
theorem dX7_spread_41 : decode cX7_spread 41 = .ok (.getfield 19, 3) := by decide +kernel
theorem dX7_spread_44 : decode cX7_spread 44 = .ok (.iload 4, 2) := by decide +kernel
theorem dX7_spread_46 : decode cX7_spread 46 = .ok (.iaload, 1) := by decide +kernel
theorem dX7_spread_47 : decode cX7_spread 47 = .ok (.ishl, 1) := by decide +kernel
theorem dX7_spread_48 : decode cX7_spread 48 = .ok (.ior, 1) := by decide +kernel
theorem dX7_spread_49 : decode cX7_spread 49 = .ok (.istore_n 3, 1) := by decide +kernel
theorem dX7_spread_50 : decode cX7_spread 50 = .ok (.iload_n 1, 1) := by decide +kernel
theorem dX7_spread_51 : decode cX7_spread 51 = .ok (.aload_n 0, 1) := by decide +kernel
theorem dX7_spread_52 : decode cX7_spread 52 = .ok (.getfield 19, 3) := by decide +kernel
theorem dX7_spread_55 : decode cX7_spread 55 = .ok (.iload 4, 2) := by decide +kernel
theorem dX7_spread_57 : decode cX7_spread 57 = .ok (.iaload, 1) := by decide +kernel
theorem dX7_spread_58 : decode cX7_spread 58 = .ok (.ishr, 1) := by decide +kernel
theorem dX7_spread_59 : decode cX7_spread 59 = .ok (.iconst 1, 1) := by decide +kernel
theorem dX7_spread_60 : decode cX7_spread 60 = .ok (.iand, 1) := by decide +kernel
theorem dX7_spread_61 : decode cX7_spread 61 = .ok (.iconst 1, 1) := by decide +kernel
theorem dX7_spread_62 : decode cX7_spread 62 = .ok (.if_icmp .ne 15, 3) := by decide +kernel
theorem dX7_spread_65 : decode cX7_spread 65 = .ok (.iload_n 3, 1) := by decide +kernel
theorem dX7_spread_66 : decode cX7_spread 66 = .ok (.iconst 1, 1) := by decide +kernel
theorem dX7_spread_67 : decode cX7_spread 67 = .ok (.aload_n 0, 1) := by decide +kernel
theorem dX7_spread_68 : decode cX7_spread 68 = .ok (.getfield 15, 3) := by decide +kernel
theorem dX7_spread_71 : decode cX7_spread 71 = .ok (.iload 4, 2) := by decide +kernel
theorem dX7_spread_73 : decode cX7_spread 73 = .ok (.iaload, 1) := by decide +kernel
theorem dX7_spread_74 : decode cX7_spread 74 = .ok (.ishl, 1) := by decide +kernel
theorem dX7_spread_75 : decode cX7_spread 75 = .ok (.ior, 1) := by decide +kernel
theorem dX7_spread_76 : decode cX7_spread 76 = .ok (.istore_n 3, 1) := by decide +kernel
theorem dX7_spread_77 : decode cX7_spread 77 = .ok (.iinc 4 1, 3) := by decide +kernel
theorem dX7_spread_80 : decode cX7_spread 80 = .ok (.goto (-75), 3) := by decide +kernel
theorem dX7_spread_83 : decode cX7_spread 83 = .ok (.iload_n 3, 1) := by decide +kernel
theorem dX7_spread_84 : decode cX7_spread 84 = .ok (.ireturn, 1) := by decide +kernel
noncomputable def f_X7_spread (k0 : Nat) (x1 : Int32) (x2 : Int32) (μ : Mem) : Option Int32 :=
  bd (lp (ε := Int32) (cu2 fun (x3_1 : Int32) (x4_2 : Int32) =>
    if x4_2 < (μ.1 k0 0) then
      jn (fun (x3_5 : Int32) =>
        some (.inl (x3_5, (x4_2 + 1)))
        ) fun j6 =>
      if ((x2 >>> (x4_2 &&& 31)) &&& 1) = 0 then
        chk x4_2 10 (
          jn (fun (x3_7 : Int32) =>
            chk x4_2 10 (
              if ((x1 >>> ((μ.1 (k0 + 2) (ix x4_2)) &&& 31)) &&& 1) = 1 then
                chk x4_2 10 (
                  lt (x3_7 ||| ((1 : Int32) <<< ((μ.1 (k0 + 1) (ix x4_2)) &&& 31))) fun x3_9 =>
                  j6 x3_9
                  )
              else
                j6 x3_7
              )
            ) fun j8 =>
          if ((x1 >>> ((μ.1 (k0 + 1) (ix x4_2)) &&& 31)) &&& 1) = 1 then
            chk x4_2 10 (
              lt (x3_1 ||| ((1 : Int32) <<< ((μ.1 (k0 + 2) (ix x4_2)) &&& 31))) fun x3_10 =>
              j8 x3_10
              )
          else
            j8 x3_1
          )
      else
        j6 x3_1
    else
      some (.inr x3_1)
    ) (x1, 0)) (fun (x3_3 : Int32) =>
    some x3_3
    )
set_option maxHeartbeats 4000000 in
set_option maxRecDepth 100000 in
theorem c_X7_spread {g : GT} {k0 : Nat} {x1 : Int32} {x2 : Int32} {μ : Mem} {r0 : Int32} (hk0 : tyOf k0 = 6) (hf : f_X7_spread k0 x1 x2 μ = some r0) : CI g yX7_spread cX7_spread 5 (some .int) 1 [rf g k0, .int x1, .int x2] μ r0 μ := by
  refine mk_i (by decide) (Nat.le_of_ble_eq_true rfl) ?_
  intro G hX hR
  have hX : CX g G cX7_spread RX7 5 1 := hX
  suffices S : ∀ K : Int32 → Prop, (∀ a, K a → a = r0) → Sim G (f_X7_spread k0 x1 x2 μ) K 0 [(0, rf g k0), (1, .int x1), (2, .int x2)] [] μ from S (fun a => a = r0) (fun a h => h) _ hf rfl
  intro K hK
  unfold f_X7_spread
  refine s_iload_n hX dX7_spread_0 rfl 1 rfl ?_
  refine s_istore_n (lv' := [(3, .int x1), (0, rf g k0), (1, .int x1), (2, .int x2)]) hX dX7_spread_1 rfl (by decide) rfl ?_
  refine s_iconst (v := 0) hX dX7_spread_2 (by decide) ?_
  refine s_istore (lv' := [(4, .int 0), (3, .int x1), (0, rf g k0), (1, .int x1), (2, .int x2)]) hX dX7_spread_3 (by decide) rfl ?_
  refine s_loop hX 5 83 (fun s : Int32 × Int32 => [(0, rf g k0), (1, .int x1), (2, .int x2), (3, .int s.1), (4, .int s.2)]) (fun s : Int32 × Int32 => μ) (fun s : Int32 => [(3, .int s)]) (fun s : Int32 => μ) [2, 3, 4, 1, 0] rfl rfl rfl ?_ ?_
  · intro Kq4 hIq4 hJq4 sq
    obtain ⟨x3_1, x4_2⟩ := sq
    refine s_cu2 ?_
    show Sim G _ _ 5 [(0, rf g k0), (1, .int x1), (2, .int x2), (3, .int x3_1), (4, .int x4_2)] [] μ
    refine s_iload hX dX7_spread_5 4 rfl ?_
    refine s_aload_n hX dX7_spread_7 rfl 0 rfl ?_
    refine s_getI hX flX7_9 hk0 dX7_spread_8 ?_
    refine s_icmp_ge hX 83 dX7_spread_11 (by decide) ?_ ?_
    · exact s_end hX (hJq4 x3_1) [3] rfl
    · refine s_iload_n hX dX7_spread_14 rfl 2 rfl ?_
      refine s_iload hX dX7_spread_15 4 rfl ?_
      refine s_ishr hX dX7_spread_17 ?_
      refine s_iconst (v := 1) hX dX7_spread_18 (by decide) ?_
      refine s_iand hX dX7_spread_19 ?_
      refine s_jn (C := fun j => ∀ (x3_5 : Int32), Sim G (j x3_5) Kq4 77 [(0, rf g k0), (1, .int x1), (2, .int x2), (3, .int x3_5), (4, .int x4_2)] [] μ) ?_ (fun j6 hj6 => ?_)
      · intro x3_5
        show Sim G _ _ 77 [(0, rf g k0), (1, .int x1), (2, .int x2), (3, .int x3_5), (4, .int x4_2)] [] μ
        refine s_iinc (v := (x4_2 + 1)) (lv' := [(4, .int (x4_2 + 1)), (0, rf g k0), (1, .int x1), (2, .int x2), (3, .int x3_5)]) hX dX7_spread_77 4 rfl rfl (by decide) rfl ?_
        refine s_goto hX 5 dX7_spread_80 (by decide) ?_
        exact s_end hX (hIq4 (x3_5, (x4_2 + 1))) [1, 2, 3, 4, 0] rfl
      refine s_if_ne hX 77 dX7_spread_20 (by decide) ?_ ?_
      · exact s_to hX [0, 1, 2, 3, 4] rfl (hj6 x3_1)
      · refine s_iload_n hX dX7_spread_23 rfl 1 rfl ?_
        refine s_aload_n hX dX7_spread_24 rfl 0 rfl ?_
        refine s_getR hX (d := 1) (k0 + 1) flX7_15 hk0 rfl dX7_spread_25 ?_
        refine s_iload hX dX7_spread_28 4 rfl ?_
        refine s_iald hX (ty_6_1 hk0).1 (ty_6_1 hk0).2 dX7_spread_30 ?_
        refine s_ishr hX dX7_spread_31 ?_
        refine s_iconst (v := 1) hX dX7_spread_32 (by decide) ?_
        refine s_iand hX dX7_spread_33 ?_
        refine s_iconst (v := 1) hX dX7_spread_34 (by decide) ?_
        refine s_jn (C := fun j => ∀ (x3_7 : Int32), Sim G (j x3_7) Kq4 50 [(0, rf g k0), (1, .int x1), (2, .int x2), (3, .int x3_7), (4, .int x4_2)] [] μ) ?_ (fun j8 hj8 => ?_)
        · intro x3_7
          show Sim G _ _ 50 [(0, rf g k0), (1, .int x1), (2, .int x2), (3, .int x3_7), (4, .int x4_2)] [] μ
          refine s_iload_n hX dX7_spread_50 rfl 1 rfl ?_
          refine s_aload_n hX dX7_spread_51 rfl 0 rfl ?_
          refine s_getR hX (d := 2) (k0 + 2) flX7_19 hk0 rfl dX7_spread_52 ?_
          refine s_iload hX dX7_spread_55 4 rfl ?_
          refine s_iald hX (ty_6_2 hk0).1 (ty_6_2 hk0).2 dX7_spread_57 ?_
          refine s_ishr hX dX7_spread_58 ?_
          refine s_iconst (v := 1) hX dX7_spread_59 (by decide) ?_
          refine s_iand hX dX7_spread_60 ?_
          refine s_iconst (v := 1) hX dX7_spread_61 (by decide) ?_
          refine s_icmp_ne hX 77 dX7_spread_62 (by decide) ?_ ?_
          · exact s_to hX [0, 1, 2, 3, 4] rfl (hj6 x3_7)
          · refine s_iload_n hX dX7_spread_65 rfl 3 rfl ?_
            refine s_iconst (v := 1) hX dX7_spread_66 (by decide) ?_
            refine s_aload_n hX dX7_spread_67 rfl 0 rfl ?_
            refine s_getR hX (d := 1) (k0 + 1) flX7_15 hk0 rfl dX7_spread_68 ?_
            refine s_iload hX dX7_spread_71 4 rfl ?_
            refine s_iald hX (ty_6_1 hk0).1 (ty_6_1 hk0).2 dX7_spread_73 ?_
            refine s_ishl hX dX7_spread_74 ?_
            refine s_ior hX dX7_spread_75 ?_
            refine s_lti (fun x3_9 => ?_)
            refine s_istore_n (lv' := [(3, .int x3_9), (0, rf g k0), (1, .int x1), (2, .int x2), (4, .int x4_2)]) hX dX7_spread_76 rfl (by decide) rfl ?_
            exact s_to hX [1, 2, 3, 0, 4] rfl (hj6 x3_9)
        refine s_icmp_ne hX 50 dX7_spread_35 (by decide) ?_ ?_
        · exact s_to hX [0, 1, 2, 3, 4] rfl (hj8 x3_1)
        · refine s_iload_n hX dX7_spread_38 rfl 3 rfl ?_
          refine s_iconst (v := 1) hX dX7_spread_39 (by decide) ?_
          refine s_aload_n hX dX7_spread_40 rfl 0 rfl ?_
          refine s_getR hX (d := 2) (k0 + 2) flX7_19 hk0 rfl dX7_spread_41 ?_
          refine s_iload hX dX7_spread_44 4 rfl ?_
          refine s_iald hX (ty_6_2 hk0).1 (ty_6_2 hk0).2 dX7_spread_46 ?_
          refine s_ishl hX dX7_spread_47 ?_
          refine s_ior hX dX7_spread_48 ?_
          refine s_lti (fun x3_10 => ?_)
          refine s_istore_n (lv' := [(3, .int x3_10), (0, rf g k0), (1, .int x1), (2, .int x2), (4, .int x4_2)]) hX dX7_spread_49 rfl (by decide) rfl ?_
          exact s_to hX [1, 2, 3, 0, 4] rfl (hj8 x3_10)
  · intro sq
    obtain ⟨x3_3, rfl⟩ : ∃ z, z = sq := ⟨_, rfl⟩
    show Sim G _ _ 83 [(3, .int x3_3)] [] μ
    refine s_iload_n hX dX7_spread_83 rfl 0 rfl ?_
    exact s_iretr hK hR dX7_spread_84
theorem dX7_startAnew_0 : decode cX7_startAnew 0 = .ok (.aload_n 0, 1) := by decide +kernel
theorem dX7_startAnew_1 : decode cX7_startAnew 1 = .ok (.iconst 0, 1) := by decide +kernel
theorem dX7_startAnew_2 : decode cX7_startAnew 2 = .ok (.putfield 9, 3) := by decide +kernel
theorem dX7_startAnew_5 : decode cX7_startAnew 5 = .ok (.aload_n 0, 1) := by decide +kernel
theorem dX7_startAnew_6 : decode cX7_startAnew 6 = .ok (.iconst 0, 1) := by decide +kernel
theorem dX7_startAnew_7 : decode cX7_startAnew 7 = .ok (.putfield 22, 3) := by decide +kernel
theorem dX7_startAnew_10 : decode cX7_startAnew 10 = .ok (.return_, 1) := by decide +kernel
noncomputable def f_X7_startAnew (k0 : Nat) (μ : Mem) : Option Mem :=
  lt (setI μ k0 0 0) fun ν1 =>
  lt (setI ν1 k0 3 0) fun ν2 =>
  some ν2
set_option maxHeartbeats 4000000 in
set_option maxRecDepth 100000 in
theorem c_X7_startAnew {g : GT} {k0 : Nat} {μ : Mem} {μ0 : Mem} (hk0 : tyOf k0 = 6) (hf : f_X7_startAnew k0 μ = some μ0) : CV g yX7_startAnew cX7_startAnew 1 (none) 1 [rf g k0] μ μ0 := by
  refine mk_v (by decide) (Nat.le_of_ble_eq_true rfl) ?_
  intro G hX hR
  have hX : CX g G cX7_startAnew RX7 1 1 := hX
  suffices S : ∀ K : Mem → Prop, (∀ a, K a → a = μ0) → Sim G (f_X7_startAnew k0 μ) K 0 [(0, rf g k0)] [] μ from S (fun a => a = μ0) (fun a h => h) _ hf rfl
  intro K hK
  unfold f_X7_startAnew
  refine s_aload_n hX dX7_startAnew_0 rfl 0 rfl ?_
  refine s_iconst (v := 0) hX dX7_startAnew_1 (by decide) ?_
  refine s_putI hX flX7_9 hk0 ⟨rfl, rfl⟩ dX7_startAnew_2 (fun ν1 => ?_)
  refine s_aload_n hX dX7_startAnew_5 rfl 0 rfl ?_
  refine s_iconst (v := 0) hX dX7_startAnew_6 (by decide) ?_
  refine s_putI hX flX7_22 hk0 ⟨rfl, rfl⟩ dX7_startAnew_7 (fun ν2 => ?_)
  exact s_vreti hK hR dX7_startAnew_10
theorem dX8_append_0 : decode cX8_append 0 = .ok (.iload_n 1, 1) := by decide +kernel
theorem dX8_append_1 : decode cX8_append 1 = .ok (.ifCond .lt 9, 3) := by decide +kernel
theorem dX8_append_4 : decode cX8_append 4 = .ok (.iload_n 1, 1) := by decide +kernel
theorem dX8_append_5 : decode cX8_append 5 = .ok (.bipush 127, 2) := by decide +kernel
theorem dX8_append_7 : decode cX8_append 7 = .ok (.if_icmp .le 6, 3) := by decide +kernel
theorem dX8_append_10 : decode cX8_append 10 = .ok (.bipush (-2), 2) := by decide +kernel
theorem dX8_append_12 : decode cX8_append 12 = .ok (.ireturn, 1) := by decide +kernel
theorem dX8_append_13 : decode cX8_append 13 = .ok (.aload_n 0, 1) := by decide +kernel
theorem dX8_append_14 : decode cX8_append 14 = .ok (.getfield 15, 3) := by decide +kernel
theorem dX8_append_17 : decode cX8_append 17 = .ok (.sipush 150, 3) := by decide +kernel
theorem dX8_append_20 : decode cX8_append 20 = .ok (.if_icmp .lt 6, 3) := by decide +kernel
theorem dX8_append_23 : decode cX8_append 23 = .ok (.bipush (-4), 2) := by decide +kernel
theorem dX8_append_25 : decode cX8_append 25 = .ok (.ireturn, 1) := by decide +kernel
theorem dX8_append_26 : decode cX8_append 26 = .ok (.aload_n 0, 1) := by decide +kernel
theorem dX8_append_27 : decode cX8_append 27 = .ok (.getfield 9, 3) := by decide +kernel
theorem dX8_append_30 : decode cX8_append 30 = .ok (.aload_n 0, 1) := by decide +kernel
theorem dX8_append_31 : decode cX8_append 31 = .ok (.getfield 15, 3) := by decide +kernel
theorem dX8_append_34 : decode cX8_append 34 = .ok (.iload_n 1, 1) := by decide +kernel
theorem dX8_append_35 : decode cX8_append 35 = .ok (.i2c, 1) := by decide +kernel
theorem dX8_append_36 : decode cX8_append 36 = .ok (.castore, 1) := by decide +kernel
theorem dX8_append_37 : decode cX8_append 37 = .ok (.aload_n 0, 1) := by decide +kernel
theorem dX8_append_38 : decode cX8_append 38 = .ok (.dup, 1) := by decide +kernel
theorem dX8_append_39 : decode cX8_append 39 = .ok (.getfield 15, 3) := by decide +kernel
theorem dX8_append_42 : decode cX8_append 42 = .ok (.iconst 1, 1) := by decide +kernel
theorem dX8_append_43 : decode cX8_append 43 = .ok (.iadd, 1) := by decide +kernel
theorem dX8_append_44 : decode cX8_append 44 = .ok (.putfield 15, 3) := by decide +kernel
theorem dX8_append_47 : decode cX8_append 47 = .ok (.aload_n 0, 1) := by decide +kernel
theorem dX8_append_48 : decode cX8_append 48 = .ok (.getfield 15, 3) := by decide +kernel
theorem dX8_append_51 : decode cX8_append 51 = .ok (.ireturn, 1) := by decide +kernel
noncomputable def f_X8_append (x1 : Int32) (μ : Mem) : Option (Int32 × Mem) :=
  jn (
    some ((-2), μ)
    ) fun j1 =>
  if x1 < 0 then
    j1
  else
    if 127 < x1 then
      j1
    else
      if (μ.1 45 1) < 150 then
        chk (μ.1 45 1) 150 (lt (setI μ 46 (ix (μ.1 45 1)) (((x1).toUInt32 % 65536).toInt32)) fun ν2 =>
          lt (setI ν2 45 1 ((ν2.1 45 1) + 1)) fun ν3 =>
          some ((ν3.1 45 1), ν3)
          )
      else
        some ((-4), μ)
set_option maxHeartbeats 4000000 in
set_option maxRecDepth 100000 in
theorem c_X8_append {g : GT} {x1 : Int32} {μ : Mem} {μ0 : Mem} {r0 : Int32} (hf : f_X8_append x1 μ = some (r0, μ0)) : CI g yX8_append cX8_append 2 (some .int) 1 [rf g 45, .int x1] μ r0 μ0 := by
  refine mk_i (by decide) (Nat.le_of_ble_eq_true rfl) ?_
  intro G hX hR
  have hX : CX g G cX8_append RX8 2 1 := hX
  suffices S : ∀ K : (Int32 × Mem) → Prop, (∀ a, K a → a = (r0, μ0)) → Sim G (f_X8_append x1 μ) K 0 [(0, rf g 45), (1, .int x1)] [] μ from S (fun a => a = (r0, μ0)) (fun a h => h) _ hf rfl
  intro K hK
  unfold f_X8_append
  refine s_iload_n hX dX8_append_0 rfl 1 rfl ?_
  refine s_jn (C := fun j => Sim G (j) K 10 [] [] μ) ?_ (fun j1 hj1 => ?_)
  · skip
    show Sim G _ _ 10 [] [] μ
    refine s_bipush (v := (-2)) hX dX8_append_10 (by decide) ?_
    exact s_ireti hK hR dX8_append_12
  refine s_if_lt hX 10 dX8_append_1 (by decide) ?_ ?_
  · exact s_to hX [] rfl (hj1)
  · refine s_iload_n hX dX8_append_4 rfl 1 rfl ?_
    refine s_bipush (v := 127) hX dX8_append_5 (by decide) ?_
    refine s_icmp_le hX 13 dX8_append_7 (by decide) ?_ ?_
    · refine s_aload_n hX dX8_append_13 rfl 0 rfl ?_
      refine s_getI hX flX8_15 rfl dX8_append_14 ?_
      refine s_sipush (v := 150) hX dX8_append_17 (by decide) ?_
      refine s_icmp_lt hX 26 dX8_append_20 (by decide) ?_ ?_
      · refine s_aload_n hX dX8_append_26 rfl 0 rfl ?_
        refine s_getR hX (d := 1) 46 flX8_9 rfl rfl dX8_append_27 ?_
        refine s_aload_n hX dX8_append_30 rfl 0 rfl ?_
        refine s_getI hX flX8_15 rfl dX8_append_31 ?_
        refine s_iload_n hX dX8_append_34 rfl 1 rfl ?_
        refine s_i2c hX dX8_append_35 ?_
        refine s_cast hX rfl rfl (pk_vc _) dX8_append_36 (fun ν2 => ?_)
        refine s_aload_n hX dX8_append_37 rfl 0 rfl ?_
        refine s_dup hX dX8_append_38 rfl ?_
        refine s_getI hX flX8_15 rfl dX8_append_39 ?_
        refine s_iconst (v := 1) hX dX8_append_42 (by decide) ?_
        refine s_iadd hX dX8_append_43 ?_
        refine s_putI hX flX8_15 rfl ⟨rfl, rfl⟩ dX8_append_44 (fun ν3 => ?_)
        refine s_aload_n hX dX8_append_47 rfl 0 rfl ?_
        refine s_getI hX flX8_15 rfl dX8_append_48 ?_
        exact s_ireti hK hR dX8_append_51
      · refine s_bipush (v := (-4)) hX dX8_append_23 (by decide) ?_
        exact s_ireti hK hR dX8_append_25
    · exact s_to hX [] rfl (hj1)
theorem dX8_isFigure_0 : decode cX8_isFigure 0 = .ok (.iload_n 1, 1) := by decide +kernel
theorem dX8_isFigure_1 : decode cX8_isFigure 1 = .ok (.ifCond .lt 37, 3) := by decide +kernel
theorem dX8_isFigure_4 : decode cX8_isFigure 4 = .ok (.iload_n 1, 1) := by decide +kernel
theorem dX8_isFigure_5 : decode cX8_isFigure 5 = .ok (.aload_n 0, 1) := by decide +kernel
theorem dX8_isFigure_6 : decode cX8_isFigure 6 = .ok (.getfield 15, 3) := by decide +kernel
theorem dX8_isFigure_9 : decode cX8_isFigure 9 = .ok (.if_icmp .ge 29, 3) := by decide +kernel
theorem dX8_isFigure_12 : decode cX8_isFigure 12 = .ok (.aload_n 0, 1) := by decide +kernel
theorem dX8_isFigure_13 : decode cX8_isFigure 13 = .ok (.getfield 9, 3) := by decide +kernel
theorem dX8_isFigure_16 : decode cX8_isFigure 16 = .ok (.iload_n 1, 1) := by decide +kernel
theorem dX8_isFigure_17 : decode cX8_isFigure 17 = .ok (.caload, 1) := by decide +kernel
theorem dX8_isFigure_18 : decode cX8_isFigure 18 = .ok (.bipush 48, 2) := by decide +kernel
theorem dX8_isFigure_20 : decode cX8_isFigure 20 = .ok (.if_icmp .lt 18, 3) := by decide +kernel
theorem dX8_isFigure_23 : decode cX8_isFigure 23 = .ok (.aload_n 0, 1) := by decide +kernel
theorem dX8_isFigure_24 : decode cX8_isFigure 24 = .ok (.getfield 9, 3) := by decide +kernel
theorem dX8_isFigure_27 : decode cX8_isFigure 27 = .ok (.iload_n 1, 1) := by decide +kernel
theorem dX8_isFigure_28 : decode cX8_isFigure 28 = .ok (.caload, 1) := by decide +kernel
theorem dX8_isFigure_29 : decode cX8_isFigure 29 = .ok (.bipush 57, 2) := by decide +kernel
theorem dX8_isFigure_31 : decode cX8_isFigure 31 = .ok (.if_icmp .gt 7, 3) := by decide +kernel
theorem dX8_isFigure_34 : decode cX8_isFigure 34 = .ok (.iconst 1, 1) := by decide +kernel
theorem dX8_isFigure_35 : decode cX8_isFigure 35 = .ok (.goto 4, 3) := by decide +kernel
theorem dX8_isFigure_38 : decode cX8_isFigure 38 = .ok (.iconst 0, 1) := by decide +kernel
theorem dX8_isFigure_39 : decode cX8_isFigure 39 = .ok (.ireturn, 1) := by decide +kernel
noncomputable def f_X8_isFigure (x1 : Int32) (μ : Mem) : Option Int32 :=
  jn (fun (y1 : Int32) =>
    ckB y1 (
      some y1
      )
    ) fun j2 =>
  jn (
    j2 0
    ) fun j3 =>
  if x1 < 0 then
    j3
  else
    if x1 < (μ.1 45 1) then
      chk x1 150 (
        if (μ.1 46 (ix x1)) < 48 then
          j3
        else
          chk x1 150 (
            if 57 < (μ.1 46 (ix x1)) then
              j3
            else
              j2 1
            )
        )
    else
      j3
set_option maxHeartbeats 4000000 in
set_option maxRecDepth 100000 in
theorem c_X8_isFigure {g : GT} {x1 : Int32} {μ : Mem} {r0 : Int32} (hf : f_X8_isFigure x1 μ = some r0) : CI g yX8_isFigure cX8_isFigure 2 (some .boolean) 1 [rf g 45, .int x1] μ r0 μ := by
  refine mk_z (by decide) (Nat.le_of_ble_eq_true rfl) ?_
  intro G hX hR
  have hX : CX g G cX8_isFigure RX8 2 1 := hX
  suffices S : ∀ K : Int32 → Prop, (∀ a, K a → a = r0) → Sim G (f_X8_isFigure x1 μ) K 0 [(0, rf g 45), (1, .int x1)] [] μ from S (fun a => a = r0) (fun a h => h) _ hf rfl
  intro K hK
  unfold f_X8_isFigure
  refine s_iload_n hX dX8_isFigure_0 rfl 1 rfl ?_
  refine s_jn (C := fun j => ∀ (y1 : Int32), Sim G (j y1) K 39 [] [.int y1] μ) ?_ (fun j2 hj2 => ?_)
  · intro y1
    show Sim G _ _ 39 [] [.int y1] μ
    refine s_ckB (fun hzb => ?_)
    exact s_zretr hzb hK hR dX8_isFigure_39
  refine s_jn (C := fun j => Sim G (j) K 38 [] [] μ) ?_ (fun j3 hj3 => ?_)
  · skip
    show Sim G _ _ 38 [] [] μ
    refine s_iconst (v := 0) hX dX8_isFigure_38 (by decide) ?_
    exact s_to hX [] rfl (hj2 0)
  refine s_if_lt hX 38 dX8_isFigure_1 (by decide) ?_ ?_
  · exact s_to hX [] rfl (hj3)
  · refine s_iload_n hX dX8_isFigure_4 rfl 1 rfl ?_
    refine s_aload_n hX dX8_isFigure_5 rfl 0 rfl ?_
    refine s_getI hX flX8_15 rfl dX8_isFigure_6 ?_
    refine s_icmp_ge hX 38 dX8_isFigure_9 (by decide) ?_ ?_
    · exact s_to hX [] rfl (hj3)
    · refine s_aload_n hX dX8_isFigure_12 rfl 0 rfl ?_
      refine s_getR hX (d := 1) 46 flX8_9 rfl rfl dX8_isFigure_13 ?_
      refine s_iload_n hX dX8_isFigure_16 rfl 1 rfl ?_
      refine s_cald hX rfl rfl dX8_isFigure_17 ?_
      refine s_bipush (v := 48) hX dX8_isFigure_18 (by decide) ?_
      refine s_icmp_lt hX 38 dX8_isFigure_20 (by decide) ?_ ?_
      · exact s_to hX [] rfl (hj3)
      · refine s_aload_n hX dX8_isFigure_23 rfl 0 rfl ?_
        refine s_getR hX (d := 1) 46 flX8_9 rfl rfl dX8_isFigure_24 ?_
        refine s_iload_n hX dX8_isFigure_27 rfl 1 rfl ?_
        refine s_cald hX rfl rfl dX8_isFigure_28 ?_
        refine s_bipush (v := 57) hX dX8_isFigure_29 (by decide) ?_
        refine s_icmp_gt hX 38 dX8_isFigure_31 (by decide) ?_ ?_
        · exact s_to hX [] rfl (hj3)
        · refine s_iconst (v := 1) hX dX8_isFigure_34 (by decide) ?_
          refine s_goto hX 39 dX8_isFigure_35 (by decide) ?_
          exact s_to hX [] rfl (hj2 1)
theorem dX8_isLetter_0 : decode cX8_isLetter 0 = .ok (.iload_n 1, 1) := by decide +kernel
theorem dX8_isLetter_1 : decode cX8_isLetter 1 = .ok (.ifCond .lt 37, 3) := by decide +kernel
theorem dX8_isLetter_4 : decode cX8_isLetter 4 = .ok (.iload_n 1, 1) := by decide +kernel
theorem dX8_isLetter_5 : decode cX8_isLetter 5 = .ok (.aload_n 0, 1) := by decide +kernel
theorem dX8_isLetter_6 : decode cX8_isLetter 6 = .ok (.getfield 15, 3) := by decide +kernel
theorem dX8_isLetter_9 : decode cX8_isLetter 9 = .ok (.if_icmp .ge 29, 3) := by decide +kernel
theorem dX8_isLetter_12 : decode cX8_isLetter 12 = .ok (.aload_n 0, 1) := by decide +kernel
theorem dX8_isLetter_13 : decode cX8_isLetter 13 = .ok (.getfield 9, 3) := by decide +kernel
theorem dX8_isLetter_16 : decode cX8_isLetter 16 = .ok (.iload_n 1, 1) := by decide +kernel
theorem dX8_isLetter_17 : decode cX8_isLetter 17 = .ok (.caload, 1) := by decide +kernel
theorem dX8_isLetter_18 : decode cX8_isLetter 18 = .ok (.bipush 97, 2) := by decide +kernel
theorem dX8_isLetter_20 : decode cX8_isLetter 20 = .ok (.if_icmp .lt 18, 3) := by decide +kernel
theorem dX8_isLetter_23 : decode cX8_isLetter 23 = .ok (.aload_n 0, 1) := by decide +kernel
theorem dX8_isLetter_24 : decode cX8_isLetter 24 = .ok (.getfield 9, 3) := by decide +kernel
theorem dX8_isLetter_27 : decode cX8_isLetter 27 = .ok (.iload_n 1, 1) := by decide +kernel
theorem dX8_isLetter_28 : decode cX8_isLetter 28 = .ok (.caload, 1) := by decide +kernel
theorem dX8_isLetter_29 : decode cX8_isLetter 29 = .ok (.bipush 122, 2) := by decide +kernel
theorem dX8_isLetter_31 : decode cX8_isLetter 31 = .ok (.if_icmp .gt 7, 3) := by decide +kernel
theorem dX8_isLetter_34 : decode cX8_isLetter 34 = .ok (.iconst 1, 1) := by decide +kernel
theorem dX8_isLetter_35 : decode cX8_isLetter 35 = .ok (.goto 4, 3) := by decide +kernel
theorem dX8_isLetter_38 : decode cX8_isLetter 38 = .ok (.iconst 0, 1) := by decide +kernel
theorem dX8_isLetter_39 : decode cX8_isLetter 39 = .ok (.ireturn, 1) := by decide +kernel
noncomputable def f_X8_isLetter (x1 : Int32) (μ : Mem) : Option Int32 :=
  jn (fun (y1 : Int32) =>
    ckB y1 (
      some y1
      )
    ) fun j2 =>
  jn (
    j2 0
    ) fun j3 =>
  if x1 < 0 then
    j3
  else
    if x1 < (μ.1 45 1) then
      chk x1 150 (
        if (μ.1 46 (ix x1)) < 97 then
          j3
        else
          chk x1 150 (
            if 122 < (μ.1 46 (ix x1)) then
              j3
            else
              j2 1
            )
        )
    else
      j3
set_option maxHeartbeats 4000000 in
set_option maxRecDepth 100000 in
theorem c_X8_isLetter {g : GT} {x1 : Int32} {μ : Mem} {r0 : Int32} (hf : f_X8_isLetter x1 μ = some r0) : CI g yX8_isLetter cX8_isLetter 2 (some .boolean) 1 [rf g 45, .int x1] μ r0 μ := by
  refine mk_z (by decide) (Nat.le_of_ble_eq_true rfl) ?_
  intro G hX hR
  have hX : CX g G cX8_isLetter RX8 2 1 := hX
  suffices S : ∀ K : Int32 → Prop, (∀ a, K a → a = r0) → Sim G (f_X8_isLetter x1 μ) K 0 [(0, rf g 45), (1, .int x1)] [] μ from S (fun a => a = r0) (fun a h => h) _ hf rfl
  intro K hK
  unfold f_X8_isLetter
  refine s_iload_n hX dX8_isLetter_0 rfl 1 rfl ?_
  refine s_jn (C := fun j => ∀ (y1 : Int32), Sim G (j y1) K 39 [] [.int y1] μ) ?_ (fun j2 hj2 => ?_)
  · intro y1
    show Sim G _ _ 39 [] [.int y1] μ
    refine s_ckB (fun hzb => ?_)
    exact s_zretr hzb hK hR dX8_isLetter_39
  refine s_jn (C := fun j => Sim G (j) K 38 [] [] μ) ?_ (fun j3 hj3 => ?_)
  · skip
    show Sim G _ _ 38 [] [] μ
    refine s_iconst (v := 0) hX dX8_isLetter_38 (by decide) ?_
    exact s_to hX [] rfl (hj2 0)
  refine s_if_lt hX 38 dX8_isLetter_1 (by decide) ?_ ?_
  · exact s_to hX [] rfl (hj3)
  · refine s_iload_n hX dX8_isLetter_4 rfl 1 rfl ?_
    refine s_aload_n hX dX8_isLetter_5 rfl 0 rfl ?_
    refine s_getI hX flX8_15 rfl dX8_isLetter_6 ?_
    refine s_icmp_ge hX 38 dX8_isLetter_9 (by decide) ?_ ?_
    · exact s_to hX [] rfl (hj3)
    · refine s_aload_n hX dX8_isLetter_12 rfl 0 rfl ?_
      refine s_getR hX (d := 1) 46 flX8_9 rfl rfl dX8_isLetter_13 ?_
      refine s_iload_n hX dX8_isLetter_16 rfl 1 rfl ?_
      refine s_cald hX rfl rfl dX8_isLetter_17 ?_
      refine s_bipush (v := 97) hX dX8_isLetter_18 (by decide) ?_
      refine s_icmp_lt hX 38 dX8_isLetter_20 (by decide) ?_ ?_
      · exact s_to hX [] rfl (hj3)
      · refine s_aload_n hX dX8_isLetter_23 rfl 0 rfl ?_
        refine s_getR hX (d := 1) 46 flX8_9 rfl rfl dX8_isLetter_24 ?_
        refine s_iload_n hX dX8_isLetter_27 rfl 1 rfl ?_
        refine s_cald hX rfl rfl dX8_isLetter_28 ?_
        refine s_bipush (v := 122) hX dX8_isLetter_29 (by decide) ?_
        refine s_icmp_gt hX 38 dX8_isLetter_31 (by decide) ?_ ?_
        · exact s_to hX [] rfl (hj3)
        · refine s_iconst (v := 1) hX dX8_isLetter_34 (by decide) ?_
          refine s_goto hX 39 dX8_isLetter_35 (by decide) ?_
          exact s_to hX [] rfl (hj2 1)
theorem dX8_nameOf_0 : decode cX8_nameOf 0 = .ok (.iload_n 0, 1) := by decide +kernel
theorem dX8_nameOf_1 : decode cX8_nameOf 1 = .ok (.tableswitch 50 0 4 #[35, 38, 41, 44, 47], 35) := by decide +kernel
theorem dX8_nameOf_36 : decode cX8_nameOf 36 = .ok (.ldc 80, 2) := by decide +kernel
theorem dX8_nameOf_38 : decode cX8_nameOf 38 = .ok (.areturn, 1) := by decide +kernel
theorem dX8_nameOf_39 : decode cX8_nameOf 39 = .ok (.ldc 82, 2) := by decide +kernel
theorem dX8_nameOf_41 : decode cX8_nameOf 41 = .ok (.areturn, 1) := by decide +kernel
theorem dX8_nameOf_42 : decode cX8_nameOf 42 = .ok (.ldc 84, 2) := by decide +kernel
theorem dX8_nameOf_44 : decode cX8_nameOf 44 = .ok (.areturn, 1) := by decide +kernel
theorem dX8_nameOf_45 : decode cX8_nameOf 45 = .ok (.ldc 86, 2) := by decide +kernel
theorem dX8_nameOf_47 : decode cX8_nameOf 47 = .ok (.areturn, 1) := by decide +kernel
theorem dX8_nameOf_48 : decode cX8_nameOf 48 = .ok (.ldc 88, 2) := by decide +kernel
theorem dX8_nameOf_50 : decode cX8_nameOf 50 = .ok (.areturn, 1) := by decide +kernel
theorem dX8_nameOf_51 : decode cX8_nameOf 51 = .ok (.ldc 90, 2) := by decide +kernel
theorem dX8_nameOf_53 : decode cX8_nameOf 53 = .ok (.areturn, 1) := by decide +kernel
noncomputable def f_X8_nameOf (x0 : Int32) : Option Nat :=
  if x0 = 0 then
    some 0
  else
  if x0 = 1 then
    some 1
  else
  if x0 = 2 then
    some 2
  else
  if x0 = 3 then
    some 3
  else
  if x0 = 4 then
    some 4
  else
  some 5
set_option maxHeartbeats 4000000 in
set_option maxRecDepth 100000 in
theorem c_X8_nameOf {g : GT} {x0 : Int32} {μ : Mem} {r0 : Nat} (hf : f_X8_nameOf x0 = some r0) : CS g yX8_nameOf cX8_nameOf 1 (some (.object "java/lang/String")) 1 [.int x0] μ r0 μ := by
  refine mk_S (by decide) (Nat.le_of_ble_eq_true rfl) ?_
  intro G hX hR
  have hX : CX g G cX8_nameOf RX8 1 1 := hX
  suffices S : ∀ K : Nat → Prop, (∀ a, K a → a = r0) → Sim G (f_X8_nameOf x0) K 0 [(0, .int x0)] [] μ from S (fun a => a = r0) (fun a h => h) _ hf rfl
  intro K hK
  unfold f_X8_nameOf
  refine s_iload_n hX dX8_nameOf_0 rfl 0 rfl ?_
  refine s_tabC (v := 0) (a := 0) hX 36 dX8_nameOf_1 (by decide) (by decide) (by decide) rfl (by decide) ?_ (fun hne1 => ?_)
  · refine s_ldcS 0 hX dX8_nameOf_36 (by decide) ?_
    exact s_Sret (by decide) hK hR dX8_nameOf_38
  refine s_tabC (v := 1) (a := 1) hX 39 dX8_nameOf_1 (by decide) (by decide) (by decide) rfl (by decide) ?_ (fun hne2 => ?_)
  · refine s_ldcS 1 hX dX8_nameOf_39 (by decide) ?_
    exact s_Sret (by decide) hK hR dX8_nameOf_41
  refine s_tabC (v := 2) (a := 2) hX 42 dX8_nameOf_1 (by decide) (by decide) (by decide) rfl (by decide) ?_ (fun hne3 => ?_)
  · refine s_ldcS 2 hX dX8_nameOf_42 (by decide) ?_
    exact s_Sret (by decide) hK hR dX8_nameOf_44
  refine s_tabC (v := 3) (a := 3) hX 45 dX8_nameOf_1 (by decide) (by decide) (by decide) rfl (by decide) ?_ (fun hne4 => ?_)
  · refine s_ldcS 3 hX dX8_nameOf_45 (by decide) ?_
    exact s_Sret (by decide) hK hR dX8_nameOf_47
  refine s_tabC (v := 4) (a := 4) hX 48 dX8_nameOf_1 (by decide) (by decide) (by decide) rfl (by decide) ?_ (fun hne5 => ?_)
  · refine s_ldcS 4 hX dX8_nameOf_48 (by decide) ?_
    exact s_Sret (by decide) hK hR dX8_nameOf_50
  refine s_tabD hX 51 dX8_nameOf_1 (by omega) (by decide) ?_
  refine s_ldcS 5 hX dX8_nameOf_51 (by decide) ?_
  exact s_Sret (by decide) hK hR dX8_nameOf_53
theorem dX8_numberOf_0 : decode cX8_numberOf 0 = .ok (.aload_n 0, 1) := by decide +kernel
theorem dX8_numberOf_1 : decode cX8_numberOf 1 = .ok (.getfield 26, 3) := by decide +kernel
theorem dX8_numberOf_4 : decode cX8_numberOf 4 = .ok (.iload_n 1, 1) := by decide +kernel
theorem dX8_numberOf_5 : decode cX8_numberOf 5 = .ok (.iconst 3, 1) := by decide +kernel
theorem dX8_numberOf_6 : decode cX8_numberOf 6 = .ok (.imul, 1) := by decide +kernel
theorem dX8_numberOf_7 : decode cX8_numberOf 7 = .ok (.iload_n 2, 1) := by decide +kernel
theorem dX8_numberOf_8 : decode cX8_numberOf 8 = .ok (.iadd, 1) := by decide +kernel
theorem dX8_numberOf_9 : decode cX8_numberOf 9 = .ok (.iaload, 1) := by decide +kernel
theorem dX8_numberOf_10 : decode cX8_numberOf 10 = .ok (.ireturn, 1) := by decide +kernel
noncomputable def f_X8_numberOf (x1 : Int32) (x2 : Int32) (μ : Mem) : Option Int32 :=
  chk ((x1 * 3) + x2) 90 (
    some (μ.1 48 (ix ((x1 * 3) + x2)))
    )
set_option maxHeartbeats 4000000 in
set_option maxRecDepth 100000 in
theorem c_X8_numberOf {g : GT} {x1 : Int32} {x2 : Int32} {μ : Mem} {r0 : Int32} (hf : f_X8_numberOf x1 x2 μ = some r0) : CI g yX8_numberOf cX8_numberOf 3 (some .int) 1 [rf g 45, .int x1, .int x2] μ r0 μ := by
  refine mk_i (by decide) (Nat.le_of_ble_eq_true rfl) ?_
  intro G hX hR
  have hX : CX g G cX8_numberOf RX8 3 1 := hX
  suffices S : ∀ K : Int32 → Prop, (∀ a, K a → a = r0) → Sim G (f_X8_numberOf x1 x2 μ) K 0 [(0, rf g 45), (1, .int x1), (2, .int x2)] [] μ from S (fun a => a = r0) (fun a h => h) _ hf rfl
  intro K hK
  unfold f_X8_numberOf
  refine s_aload_n hX dX8_numberOf_0 rfl 0 rfl ?_
  refine s_getR hX (d := 3) 48 flX8_26 rfl rfl dX8_numberOf_1 ?_
  refine s_iload_n hX dX8_numberOf_4 rfl 1 rfl ?_
  refine s_iconst (v := 3) hX dX8_numberOf_5 (by decide) ?_
  refine s_imul hX dX8_numberOf_6 ?_
  refine s_iload_n hX dX8_numberOf_7 rfl 2 rfl ?_
  refine s_iadd hX dX8_numberOf_8 ?_
  refine s_iald hX rfl rfl dX8_numberOf_9 ?_
  exact s_iretr hK hR dX8_numberOf_10
theorem dX9_casesOf_0 : decode cX9_casesOf 0 = .ok (.lconst 1, 1) := by decide +kernel
theorem dX9_casesOf_1 : decode cX9_casesOf 1 = .ok (.lstore_n 3, 1) := by decide +kernel
theorem dX9_casesOf_2 : decode cX9_casesOf 2 = .ok (.iconst 0, 1) := by decide +kernel
theorem dX9_casesOf_3 : decode cX9_casesOf 3 = .ok (.istore 5, 2) := by decide +kernel
theorem dX9_casesOf_5 : decode cX9_casesOf 5 = .ok (.iload 5, 2) := by decide +kernel
theorem dX9_casesOf_7 : decode cX9_casesOf 7 = .ok (.aload_n 0, 1) := by decide +kernel
theorem dX9_casesOf_8 : decode cX9_casesOf 8 = .ok (.getfield 26, 3) := by decide +kernel
theorem dX9_casesOf_11 : decode cX9_casesOf 11 = .ok (.if_icmp .ge 38, 3) := by decide +kernel
theorem dX9_casesOf_14 : decode cX9_casesOf 14 = .ok (.lload_n 3, 1) := by decide +kernel
theorem dX9_casesOf_15 : decode cX9_casesOf 15 = .ok (.iload_n 1, 1) := by decide +kernel
theorem dX9_casesOf_16 : decode cX9_casesOf 16 = .ok (.iload 5, 2) := by decide +kernel
theorem dX9_casesOf_18 : decode cX9_casesOf 18 = .ok (.ishr, 1) := by decide +kernel
theorem dX9_casesOf_19 : decode cX9_casesOf 19 = .ok (.iconst 1, 1) := by decide +kernel
theorem dX9_casesOf_20 : decode cX9_casesOf 20 = .ok (.iand, 1) := by decide +kernel
theorem dX9_casesOf_21 : decode cX9_casesOf 21 = .ok (.iconst 1, 1) := by decide +kernel
theorem dX9_casesOf_22 : decode cX9_casesOf 22 = .ok (.if_icmp .ne 11, 3) := by decide +kernel
theorem dX9_casesOf_25 : decode cX9_casesOf 25 = .ok (.aload_n 2, 1) := by decide +kernel
theorem dX9_casesOf_26 : decode cX9_casesOf 26 = .ok (.iload 5, 2) := by decide +kernel
theorem dX9_casesOf_28 : decode cX9_casesOf 28 = .ok (.iaload, 1) := by decide +kernel
theorem dX9_casesOf_29 : decode cX9_casesOf 29 = .ok (.i2l, 1) := by decide +kernel
theorem dX9_casesOf_30 : decode cX9_casesOf 30 = .ok (.goto 11, 3) := by decide +kernel
theorem dX9_casesOf_33 : decode cX9_casesOf 33 = .ok (.bipush 10, 2) := by decide +kernel
theorem dX9_casesOf_35 : decode cX9_casesOf 35 = .ok (.aload_n 2, 1) := by decide +kernel
theorem dX9_casesOf_36 : decode cX9_casesOf 36 = .ok (.iload 5, 2) := by decide +kernel
theorem dX9_casesOf_38 : decode cX9_casesOf 38 = .ok (.iaload, 1) := by decide +kernel
theorem dX9_casesOf_39 : decode cX9_casesOf 39 = .ok (.isub, 1) := by decide +kernel
theorem dX9_casesOf_40 : decode cX9_casesOf 40 = .ok (.i2l, 1) := by decide +kernel
theorem dX9_casesOf_41 : decode cX9_casesOf 41 = .ok (.lmul, 1) := by decide +kernel
theorem dX9_casesOf_42 : decode cX9_casesOf 42 = .ok (.lstore_n 3, 1) := by decide +kernel
theorem dX9_casesOf_43 : decode cX9_casesOf 43 = .ok (.iinc 5 1, 3) := by decide +kernel
theorem dX9_casesOf_46 : decode cX9_casesOf 46 = .ok (.goto (-41), 3) := by decide +kernel
theorem dX9_casesOf_49 : decode cX9_casesOf 49 = .ok (.lload_n 3, 1) := by decide +kernel
theorem dX9_casesOf_50 : decode cX9_casesOf 50 = .ok (.lreturn, 1) := by decide +kernel
noncomputable def f_X9_casesOf (x1 : Int32) (k2 : Nat) (μ : Mem) : Option Int64 :=
  bd (lp (ε := Int64) (cu2 fun (x3_1 : Int64) (x5_2 : Int32) =>
    if x5_2 < (μ.1 68 4) then
      jn (fun (y5 : Int64) =>
        some (.inl ((x3_1 * y5), (x5_2 + 1)))
        ) fun j6 =>
      if ((x1 >>> (x5_2 &&& 31)) &&& 1) = 1 then
        chk x5_2 5 (
          j6 (((μ.1 k2 (ix x5_2)) : Int32).toInt64)
          )
      else
        chk x5_2 5 (
          j6 (((10 - (μ.1 k2 (ix x5_2))) : Int32).toInt64)
          )
    else
      some (.inr x3_1)
    ) (1, 0)) (fun (x3_3 : Int64) =>
    some x3_3
    )
set_option maxHeartbeats 4000000 in
set_option maxRecDepth 100000 in
theorem c_X9_casesOf {g : GT} {x1 : Int32} {k2 : Nat} {μ : Mem} {r0 : Int64} (hk2 : tyOf k2 = 11) (hk2n : lenOf k2 = 5) (hf : f_X9_casesOf x1 k2 μ = some r0) : CL g yX9_casesOf cX9_casesOf 6 (some .long) 1 [rf g 68, .int x1, rf g k2] μ r0 μ := by
  refine mk_l (by decide) (Nat.le_of_ble_eq_true rfl) ?_
  intro G hX hR
  have hX : CX g G cX9_casesOf RX9 6 1 := hX
  suffices S : ∀ K : Int64 → Prop, (∀ a, K a → a = r0) → Sim G (f_X9_casesOf x1 k2 μ) K 0 [(0, rf g 68), (1, .int x1), (2, rf g k2)] [] μ from S (fun a => a = r0) (fun a h => h) _ hf rfl
  intro K hK
  unfold f_X9_casesOf
  refine s_lconst (v := 1) hX dX9_casesOf_0 (by decide) ?_
  refine s_lstore_n (lv' := [(3, .long 1), (0, rf g 68), (1, .int x1), (2, rf g k2)]) hX dX9_casesOf_1 rfl (by decide) rfl ?_
  refine s_iconst (v := 0) hX dX9_casesOf_2 (by decide) ?_
  refine s_istore (lv' := [(5, .int 0), (3, .long 1), (0, rf g 68), (1, .int x1), (2, rf g k2)]) hX dX9_casesOf_3 (by decide) rfl ?_
  refine s_loop hX 5 49 (fun s : Int64 × Int32 => [(0, rf g 68), (1, .int x1), (2, rf g k2), (3, .long s.1), (5, .int s.2)]) (fun s : Int64 × Int32 => μ) (fun s : Int64 => [(3, .long s)]) (fun s : Int64 => μ) [2, 3, 4, 1, 0] rfl rfl rfl ?_ ?_
  · intro Kq4 hIq4 hJq4 sq
    obtain ⟨x3_1, x5_2⟩ := sq
    refine s_cu2 ?_
    show Sim G _ _ 5 [(0, rf g 68), (1, .int x1), (2, rf g k2), (3, .long x3_1), (5, .int x5_2)] [] μ
    refine s_iload hX dX9_casesOf_5 4 rfl ?_
    refine s_aload_n hX dX9_casesOf_7 rfl 0 rfl ?_
    refine s_getI hX flX9_26 rfl dX9_casesOf_8 ?_
    refine s_icmp_ge hX 49 dX9_casesOf_11 (by decide) ?_ ?_
    · exact s_end hX (hJq4 x3_1) [3] rfl
    · refine s_lload_n hX dX9_casesOf_14 rfl 3 rfl ?_
      refine s_iload_n hX dX9_casesOf_15 rfl 1 rfl ?_
      refine s_iload hX dX9_casesOf_16 4 rfl ?_
      refine s_ishr hX dX9_casesOf_18 ?_
      refine s_iconst (v := 1) hX dX9_casesOf_19 (by decide) ?_
      refine s_iand hX dX9_casesOf_20 ?_
      refine s_iconst (v := 1) hX dX9_casesOf_21 (by decide) ?_
      refine s_jn (C := fun j => ∀ (y5 : Int64), Sim G (j y5) Kq4 41 [(0, rf g 68), (1, .int x1), (2, rf g k2), (5, .int x5_2)] [.long y5, .long x3_1] μ) ?_ (fun j6 hj6 => ?_)
      · intro y5
        show Sim G _ _ 41 [(0, rf g 68), (1, .int x1), (2, rf g k2), (5, .int x5_2)] [.long y5, .long x3_1] μ
        refine s_lmul hX dX9_casesOf_41 ?_
        refine s_lstore_n (lv' := [(3, .long (x3_1 * y5)), (0, rf g 68), (1, .int x1), (2, rf g k2), (5, .int x5_2)]) hX dX9_casesOf_42 rfl (by decide) rfl ?_
        refine s_iinc (v := (x5_2 + 1)) (lv' := [(5, .int (x5_2 + 1)), (3, .long (x3_1 * y5)), (0, rf g 68), (1, .int x1), (2, rf g k2)]) hX dX9_casesOf_43 4 rfl rfl (by decide) rfl ?_
        refine s_goto hX 5 dX9_casesOf_46 (by decide) ?_
        exact s_end hX (hIq4 ((x3_1 * y5), (x5_2 + 1))) [2, 3, 4, 1, 0] rfl
      refine s_icmp_ne hX 33 dX9_casesOf_22 (by decide) ?_ ?_
      · refine s_bipush (v := 10) hX dX9_casesOf_33 (by decide) ?_
        refine s_aload_n hX dX9_casesOf_35 rfl 2 rfl ?_
        refine s_iload hX dX9_casesOf_36 4 rfl ?_
        refine s_iald hX hk2 hk2n dX9_casesOf_38 ?_
        refine s_isub hX dX9_casesOf_39 ?_
        refine s_i2l hX dX9_casesOf_40 ?_
        exact s_to hX [0, 1, 2, 4] rfl (hj6 (((10 - (μ.1 k2 (ix x5_2))) : Int32).toInt64))
      · refine s_aload_n hX dX9_casesOf_25 rfl 2 rfl ?_
        refine s_iload hX dX9_casesOf_26 4 rfl ?_
        refine s_iald hX hk2 hk2n dX9_casesOf_28 ?_
        refine s_i2l hX dX9_casesOf_29 ?_
        refine s_goto hX 41 dX9_casesOf_30 (by decide) ?_
        exact s_to hX [0, 1, 2, 4] rfl (hj6 (((μ.1 k2 (ix x5_2)) : Int32).toInt64))
  · intro sq
    obtain ⟨x3_3, rfl⟩ : ∃ z, z = sq := ⟨_, rfl⟩
    show Sim G _ _ 49 [(3, .long x3_3)] [] μ
    refine s_lload_n hX dX9_casesOf_49 rfl 0 rfl ?_
    exact s_lretr hK hR dX9_casesOf_50
theorem dX9_lossOf_0 : decode cX9_lossOf 0 = .ok (.aload_n 0, 1) := by decide +kernel
theorem dX9_lossOf_1 : decode cX9_lossOf 1 = .ok (.getfield 18, 3) := by decide +kernel
theorem dX9_lossOf_4 : decode cX9_lossOf 4 = .ok (.iload_n 1, 1) := by decide +kernel
theorem dX9_lossOf_5 : decode cX9_lossOf 5 = .ok (.laload, 1) := by decide +kernel
theorem dX9_lossOf_6 : decode cX9_lossOf 6 = .ok (.aload_n 0, 1) := by decide +kernel
theorem dX9_lossOf_7 : decode cX9_lossOf 7 = .ok (.getfield 15, 3) := by decide +kernel
theorem dX9_lossOf_10 : decode cX9_lossOf 10 = .ok (.iload_n 1, 1) := by decide +kernel
theorem dX9_lossOf_11 : decode cX9_lossOf 11 = .ok (.iaload, 1) := by decide +kernel
theorem dX9_lossOf_12 : decode cX9_lossOf 12 = .ok (.i2l, 1) := by decide +kernel
theorem dX9_lossOf_13 : decode cX9_lossOf 13 = .ok (.lmul, 1) := by decide +kernel
theorem dX9_lossOf_14 : decode cX9_lossOf 14 = .ok (.lreturn, 1) := by decide +kernel
noncomputable def f_X9_lossOf (x1 : Int32) (μ : Mem) : Option Int64 :=
  chk x1 5 (
    chk x1 5 (
      some ((μ.2 71 (ix x1)) * ((μ.1 70 (ix x1)) : Int32).toInt64)
      )
    )
set_option maxHeartbeats 4000000 in
set_option maxRecDepth 100000 in
theorem c_X9_lossOf {g : GT} {x1 : Int32} {μ : Mem} {r0 : Int64} (hf : f_X9_lossOf x1 μ = some r0) : CL g yX9_lossOf cX9_lossOf 2 (some .long) 1 [rf g 68, .int x1] μ r0 μ := by
  refine mk_l (by decide) (Nat.le_of_ble_eq_true rfl) ?_
  intro G hX hR
  have hX : CX g G cX9_lossOf RX9 2 1 := hX
  suffices S : ∀ K : Int64 → Prop, (∀ a, K a → a = r0) → Sim G (f_X9_lossOf x1 μ) K 0 [(0, rf g 68), (1, .int x1)] [] μ from S (fun a => a = r0) (fun a h => h) _ hf rfl
  intro K hK
  unfold f_X9_lossOf
  refine s_aload_n hX dX9_lossOf_0 rfl 0 rfl ?_
  refine s_getR hX (d := 3) 71 flX9_18 rfl rfl dX9_lossOf_1 ?_
  refine s_iload_n hX dX9_lossOf_4 rfl 1 rfl ?_
  refine s_lald hX rfl rfl dX9_lossOf_5 ?_
  refine s_aload_n hX dX9_lossOf_6 rfl 0 rfl ?_
  refine s_getR hX (d := 2) 70 flX9_15 rfl rfl dX9_lossOf_7 ?_
  refine s_iload_n hX dX9_lossOf_10 rfl 1 rfl ?_
  refine s_iald hX rfl rfl dX9_lossOf_11 ?_
  refine s_i2l hX dX9_lossOf_12 ?_
  refine s_lmul hX dX9_lossOf_13 ?_
  exact s_lretr hK hR dX9_lossOf_14
theorem dJ0_checkIndex_df160_0 : decode cJ0_checkIndex_df160 0 = .ok (.iload_n 0, 1) := by decide +kernel
theorem dJ0_checkIndex_df160_1 : decode cJ0_checkIndex_df160 1 = .ok (.iload_n 1, 1) := by decide +kernel
theorem dJ0_checkIndex_df160_2 : decode cJ0_checkIndex_df160 2 = .ok (.getstatic 1053, 3) := by decide +kernel
theorem dJ0_checkIndex_df160_5 : decode cJ0_checkIndex_df160 5 = .ok (.invokestatic 1059, 3) := by decide +kernel
theorem dJ0_checkIndex_df160_8 : decode cJ0_checkIndex_df160 8 = .ok (.pop, 1) := by decide +kernel
theorem dJ0_checkIndex_df160_9 : decode cJ0_checkIndex_df160 9 = .ok (.return_, 1) := by decide +kernel
noncomputable def f_J0_checkIndex_df160 (x0 : Int32) (x1 : Int32) : Option Unit :=
  bd (f_J3_checkIndex_8e157 x0 x1) fun r2 =>
  some ()
set_option maxHeartbeats 4000000 in
set_option maxRecDepth 100000 in
theorem c_J0_checkIndex_df160 {g : GT} {x0 : Int32} {x1 : Int32} {μ : Mem} (hf : f_J0_checkIndex_df160 x0 x1 = some ()) : CV g yJ0_checkIndex_df160 cJ0_checkIndex_df160 2 (none) 2 [.int x0, .int x1] μ μ := by
  refine mk_v (by decide) (Nat.le_of_ble_eq_true rfl) ?_
  intro G hX hR
  have hX : CX g G cJ0_checkIndex_df160 RJ0 2 2 := hX
  suffices S : ∀ K : Unit → Prop, (∀ a, K a → a = ()) → Sim G (f_J0_checkIndex_df160 x0 x1) K 0 [(0, .int x0), (1, .int x1)] [] μ from S (fun a => a = ()) (fun a h => h) _ hf rfl
  intro K hK
  unfold f_J0_checkIndex_df160
  refine s_iload_n hX dJ0_checkIndex_df160_0 rfl 0 rfl ?_
  refine s_iload_n hX dJ0_checkIndex_df160_1 rfl 1 rfl ?_
  refine s_getsF hX kfJ0_1053 dJ0_checkIndex_df160_2 (fun v1 hv1 => ?_)
  refine s_callSir hX [.int x0, .int x1, v1] skJ3_checkIndex_8e157 (fun r hF => c_J3_checkIndex_8e157 hv1 hF) mkJ3_checkIndex_8e157 cvJ0_1059 rfl rfl ⟨by omega, by decide, Nat.le_of_ble_eq_true rfl⟩ dJ0_checkIndex_df160_5 (fun r2 => ?_)
  refine s_pop hX dJ0_checkIndex_df160_8 rfl ?_
  exact s_vretr hK hR dJ0_checkIndex_df160_9
theorem dJ0_length_8abf5_0 : decode cJ0_length_8abf5 0 = .ok (.aload_n 0, 1) := by decide +kernel
theorem dJ0_length_8abf5_1 : decode cJ0_length_8abf5 1 = .ok (.getfield 9, 3) := by decide +kernel
theorem dJ0_length_8abf5_4 : decode cJ0_length_8abf5 4 = .ok (.arraylength, 1) := by decide +kernel
theorem dJ0_length_8abf5_5 : decode cJ0_length_8abf5 5 = .ok (.aload_n 0, 1) := by decide +kernel
theorem dJ0_length_8abf5_6 : decode cJ0_length_8abf5 6 = .ok (.invokevirtual 335, 3) := by decide +kernel
theorem dJ0_length_8abf5_9 : decode cJ0_length_8abf5 9 = .ok (.ishr, 1) := by decide +kernel
theorem dJ0_length_8abf5_10 : decode cJ0_length_8abf5 10 = .ok (.ireturn, 1) := by decide +kernel
noncomputable def f_J0_length_8abf5 (w0 : Nat) : Option Int32 :=
  bd (f_J0_coder_7d493 w0) fun r1 =>
  some ((Int32.ofNat (SLEN.getD w0 0)) >>> (r1 &&& 31))
set_option maxHeartbeats 4000000 in
set_option maxRecDepth 100000 in
theorem c_J0_length_8abf5 {g : GT} {w0 : Nat} {μ : Mem} {r0 : Int32} (hw0 : w0 < 6) (hf : f_J0_length_8abf5 w0 = some r0) : CI g yJ0_length_8abf5 cJ0_length_8abf5 1 (some .int) 2 [rfS g w0] μ r0 μ := by
  refine mk_i (by decide) (Nat.le_of_ble_eq_true rfl) ?_
  intro G hX hR
  have hX : CX g G cJ0_length_8abf5 RJ0 1 2 := hX
  suffices S : ∀ K : Int32 → Prop, (∀ a, K a → a = r0) → Sim G (f_J0_length_8abf5 w0) K 0 [(0, rfS g w0)] [] μ from S (fun a => a = r0) (fun a h => h) _ hf rfl
  intro K hK
  unfold f_J0_length_8abf5
  refine s_Sload_n hX dJ0_length_8abf5_0 rfl 0 rfl ?_
  refine s_getSv hX hw0 kfJ0_9 dJ0_length_8abf5_1 ?_
  refine s_vlen hX hw0 dJ0_length_8abf5_4 ?_
  refine s_Sload_n hX dJ0_length_8abf5_5 rfl 0 rfl ?_
  refine s_callUir hX [] hw0 vkJ0_coder_7d493 (fun r hF => c_J0_coder_7d493 hw0 hF) mkJ0_coder_7d493 cvJ0_335 rfl rfl ⟨by omega, by decide, Nat.le_of_ble_eq_true rfl⟩ dJ0_length_8abf5_6 (fun r1 => ?_)
  refine s_ishr hX dJ0_length_8abf5_9 ?_
  exact s_iretr hK hR dJ0_length_8abf5_10
theorem dX0_addLot_0 : decode cX0_addLot 0 = .ok (.iload_n 1, 1) := by decide +kernel
theorem dX0_addLot_1 : decode cX0_addLot 1 = .ok (.ifCond .lt 29, 3) := by decide +kernel
theorem dX0_addLot_4 : decode cX0_addLot 4 = .ok (.iload_n 1, 1) := by decide +kernel
theorem dX0_addLot_5 : decode cX0_addLot 5 = .ok (.iconst 5, 1) := by decide +kernel
theorem dX0_addLot_6 : decode cX0_addLot 6 = .ok (.if_icmp .gt 24, 3) := by decide +kernel
theorem dX0_addLot_9 : decode cX0_addLot 9 = .ok (.aload_n 0, 1) := by decide +kernel
theorem dX0_addLot_10 : decode cX0_addLot 10 = .ok (.getfield 12, 3) := by decide +kernel
theorem dX0_addLot_13 : decode cX0_addLot 13 = .ok (.iload_n 2, 1) := by decide +kernel
theorem dX0_addLot_14 : decode cX0_addLot 14 = .ok (.invokevirtual 68, 3) := by decide +kernel
theorem dX0_addLot_17 : decode cX0_addLot 17 = .ok (.ifCond .eq 13, 3) := by decide +kernel
theorem dX0_addLot_20 : decode cX0_addLot 20 = .ok (.iload_n 3, 1) := by decide +kernel
theorem dX0_addLot_21 : decode cX0_addLot 21 = .ok (.ifCond .lt 9, 3) := by decide +kernel
theorem dX0_addLot_24 : decode cX0_addLot 24 = .ok (.iload_n 3, 1) := by decide +kernel
theorem dX0_addLot_25 : decode cX0_addLot 25 = .ok (.bipush 99, 2) := by decide +kernel
theorem dX0_addLot_27 : decode cX0_addLot 27 = .ok (.if_icmp .le 6, 3) := by decide +kernel
theorem dX0_addLot_30 : decode cX0_addLot 30 = .ok (.bipush (-2), 2) := by decide +kernel
theorem dX0_addLot_32 : decode cX0_addLot 32 = .ok (.ireturn, 1) := by decide +kernel
theorem dX0_addLot_33 : decode cX0_addLot 33 = .ok (.aload_n 0, 1) := by decide +kernel
theorem dX0_addLot_34 : decode cX0_addLot 34 = .ok (.getfield 12, 3) := by decide +kernel
theorem dX0_addLot_37 : decode cX0_addLot 37 = .ok (.getfield 72, 3) := by decide +kernel
theorem dX0_addLot_40 : decode cX0_addLot 40 = .ok (.istore 4, 2) := by decide +kernel
theorem dX0_addLot_42 : decode cX0_addLot 42 = .ok (.iload 4, 2) := by decide +kernel
theorem dX0_addLot_44 : decode cX0_addLot 44 = .ok (.bipush 10, 2) := by decide +kernel
theorem dX0_addLot_46 : decode cX0_addLot 46 = .ok (.if_icmp .lt 6, 3) := by decide +kernel
theorem dX0_addLot_49 : decode cX0_addLot 49 = .ok (.bipush (-4), 2) := by decide +kernel
theorem dX0_addLot_51 : decode cX0_addLot 51 = .ok (.ireturn, 1) := by decide +kernel
theorem dX0_addLot_52 : decode cX0_addLot 52 = .ok (.aload_n 0, 1) := by decide +kernel
theorem dX0_addLot_53 : decode cX0_addLot 53 = .ok (.getfield 12, 3) := by decide +kernel
theorem dX0_addLot_56 : decode cX0_addLot 56 = .ok (.getfield 75, 3) := by decide +kernel
theorem dX0_addLot_59 : decode cX0_addLot 59 = .ok (.iload 4, 2) := by decide +kernel
theorem dX0_addLot_61 : decode cX0_addLot 61 = .ok (.iload_n 1, 1) := by decide +kernel
theorem dX0_addLot_62 : decode cX0_addLot 62 = .ok (.iastore, 1) := by decide +kernel
theorem dX0_addLot_63 : decode cX0_addLot 63 = .ok (.aload_n 0, 1) := by decide +kernel
theorem dX0_addLot_64 : decode cX0_addLot 64 = .ok (.getfield 12, 3) := by decide +kernel
theorem dX0_addLot_67 : decode cX0_addLot 67 = .ok (.getfield 78, 3) := by decide +kernel
theorem dX0_addLot_70 : decode cX0_addLot 70 = .ok (.iload 4, 2) := by decide +kernel
theorem dX0_addLot_72 : decode cX0_addLot 72 = .ok (.iload_n 2, 1) := by decide +kernel
theorem dX0_addLot_73 : decode cX0_addLot 73 = .ok (.iastore, 1) := by decide +kernel
theorem dX0_addLot_74 : decode cX0_addLot 74 = .ok (.aload_n 0, 1) := by decide +kernel
theorem dX0_addLot_75 : decode cX0_addLot 75 = .ok (.getfield 12, 3) := by decide +kernel
theorem dX0_addLot_78 : decode cX0_addLot 78 = .ok (.getfield 81, 3) := by decide +kernel
theorem dX0_addLot_81 : decode cX0_addLot 81 = .ok (.iload 4, 2) := by decide +kernel
theorem dX0_addLot_83 : decode cX0_addLot 83 = .ok (.iload_n 3, 1) := by decide +kernel
theorem dX0_addLot_84 : decode cX0_addLot 84 = .ok (.iastore, 1) := by decide +kernel
theorem dX0_addLot_85 : decode cX0_addLot 85 = .ok (.aload_n 0, 1) := by decide +kernel
theorem dX0_addLot_86 : decode cX0_addLot 86 = .ok (.getfield 12, 3) := by decide +kernel
theorem dX0_addLot_89 : decode cX0_addLot 89 = .ok (.iload 4, 2) := by decide +kernel
theorem dX0_addLot_91 : decode cX0_addLot 91 = .ok (.iconst 1, 1) := by decide +kernel
theorem dX0_addLot_92 : decode cX0_addLot 92 = .ok (.iadd, 1) := by decide +kernel
theorem dX0_addLot_93 : decode cX0_addLot 93 = .ok (.putfield 72, 3) := by decide +kernel
theorem dX0_addLot_96 : decode cX0_addLot 96 = .ok (.aload_n 0, 1) := by decide +kernel
theorem dX0_addLot_97 : decode cX0_addLot 97 = .ok (.getfield 28, 3) := by decide +kernel
theorem dX0_addLot_100 : decode cX0_addLot 100 = .ok (.iconst 0, 1) := by decide +kernel
theorem dX0_addLot_101 : decode cX0_addLot 101 = .ok (.putfield 65, 3) := by decide +kernel
theorem dX0_addLot_104 : decode cX0_addLot 104 = .ok (.iload 4, 2) := by decide +kernel
theorem dX0_addLot_106 : decode cX0_addLot 106 = .ok (.ireturn, 1) := by decide +kernel
noncomputable def f_X0_addLot (k0 : Nat) (x1 : Int32) (x2 : Int32) (x3 : Int32) (μ : Mem) : Option (Int32 × Mem) :=
  jn (
    some ((-2), μ)
    ) fun j1 =>
  if x1 < 0 then
    j1
  else
    if 5 < x1 then
      j1
    else
      bd (f_X3_hasVillage (k0 + 1) x2 μ) fun r2 =>
      if r2 = 0 then
        j1
      else
        if x3 < 0 then
          j1
        else
          if 99 < x3 then
            j1
          else
            if (μ.1 (k0 + 1) 1) < 10 then
              chk (μ.1 (k0 + 1) 1) 10 (lt (setI μ (k0 + 2) (ix (μ.1 (k0 + 1) 1)) x1) fun ν3 =>
                chk (μ.1 (k0 + 1) 1) 10 (lt (setI ν3 (k0 + 3) (ix (μ.1 (k0 + 1) 1)) x2) fun ν4 =>
                  chk (μ.1 (k0 + 1) 1) 10 (lt (setI ν4 (k0 + 4) (ix (μ.1 (k0 + 1) 1)) x3) fun ν5 =>
                    lt (setI ν5 (k0 + 1) 1 ((μ.1 (k0 + 1) 1) + 1)) fun ν6 =>
                    lt (setI ν6 (k0 + 9) 0 0) fun ν7 =>
                    some ((μ.1 (k0 + 1) 1), ν7)
                    )
                  )
                )
            else
              some ((-4), μ)
set_option maxHeartbeats 4000000 in
set_option maxRecDepth 100000 in
theorem c_X0_addLot {g : GT} {k0 : Nat} {x1 : Int32} {x2 : Int32} {x3 : Int32} {μ : Mem} {μ0 : Mem} {r0 : Int32} (hk0 : tyOf k0 = 0) (hf : f_X0_addLot k0 x1 x2 x3 μ = some (r0, μ0)) : CI g yX0_addLot cX0_addLot 5 (some .int) 2 [rf g k0, .int x1, .int x2, .int x3] μ r0 μ0 := by
  refine mk_i (by decide) (Nat.le_of_ble_eq_true rfl) ?_
  intro G hX hR
  have hX : CX g G cX0_addLot RX0 5 2 := hX
  suffices S : ∀ K : (Int32 × Mem) → Prop, (∀ a, K a → a = (r0, μ0)) → Sim G (f_X0_addLot k0 x1 x2 x3 μ) K 0 [(0, rf g k0), (1, .int x1), (2, .int x2), (3, .int x3)] [] μ from S (fun a => a = (r0, μ0)) (fun a h => h) _ hf rfl
  intro K hK
  unfold f_X0_addLot
  refine s_iload_n hX dX0_addLot_0 rfl 1 rfl ?_
  refine s_jn (C := fun j => Sim G (j) K 30 [] [] μ) ?_ (fun j1 hj1 => ?_)
  · skip
    show Sim G _ _ 30 [] [] μ
    refine s_bipush (v := (-2)) hX dX0_addLot_30 (by decide) ?_
    exact s_ireti hK hR dX0_addLot_32
  refine s_if_lt hX 30 dX0_addLot_1 (by decide) ?_ ?_
  · exact s_to hX [] rfl (hj1)
  · refine s_iload_n hX dX0_addLot_4 rfl 1 rfl ?_
    refine s_iconst (v := 5) hX dX0_addLot_5 (by decide) ?_
    refine s_icmp_gt hX 30 dX0_addLot_6 (by decide) ?_ ?_
    · exact s_to hX [] rfl (hj1)
    · refine s_aload_n hX dX0_addLot_9 rfl 0 rfl ?_
      refine s_getR hX (d := 1) (k0 + 1) flX0_12 hk0 rfl dX0_addLot_10 ?_
      refine s_iload_n hX dX0_addLot_13 rfl 2 rfl ?_
      refine s_callVir hX [.int x2] (k := (k0 + 1)) (ci := 3) (ty_0_1 hk0).1 hc3 vkX3_hasVillage (fun r hF => c_X3_hasVillage (ty_0_1 hk0).1 hF) mkX3_hasVillage cvX0_68 rfl rfl ⟨by omega, by decide, Nat.le_of_ble_eq_true rfl⟩ dX0_addLot_14 (fun r2 => ?_)
      refine s_if_eq hX 30 dX0_addLot_17 (by decide) ?_ ?_
      · exact s_to hX [] rfl (hj1)
      · refine s_iload_n hX dX0_addLot_20 rfl 3 rfl ?_
        refine s_if_lt hX 30 dX0_addLot_21 (by decide) ?_ ?_
        · exact s_to hX [] rfl (hj1)
        · refine s_iload_n hX dX0_addLot_24 rfl 3 rfl ?_
          refine s_bipush (v := 99) hX dX0_addLot_25 (by decide) ?_
          refine s_icmp_le hX 33 dX0_addLot_27 (by decide) ?_ ?_
          · refine s_aload_n hX dX0_addLot_33 rfl 0 rfl ?_
            refine s_getR hX (d := 1) (k0 + 1) flX0_12 hk0 rfl dX0_addLot_34 ?_
            refine s_getI hX flX0_72 (ty_0_1 hk0).1 dX0_addLot_37 ?_
            refine s_istore (lv' := [(4, .int (μ.1 (k0 + 1) 1)), (0, rf g k0), (1, .int x1), (2, .int x2), (3, .int x3)]) hX dX0_addLot_40 (by decide) rfl ?_
            refine s_iload hX dX0_addLot_42 0 rfl ?_
            refine s_bipush (v := 10) hX dX0_addLot_44 (by decide) ?_
            refine s_icmp_lt hX 52 dX0_addLot_46 (by decide) ?_ ?_
            · refine s_aload_n hX dX0_addLot_52 rfl 1 rfl ?_
              refine s_getR hX (d := 1) (k0 + 1) flX0_12 hk0 rfl dX0_addLot_53 ?_
              refine s_getR hX (d := 1) (k0 + 2) flX0_75 (ty_0_1 hk0).1 rfl dX0_addLot_56 ?_
              refine s_iload hX dX0_addLot_59 0 rfl ?_
              refine s_iload_n hX dX0_addLot_61 rfl 2 rfl ?_
              refine s_iast hX (ty_0_2 hk0).1 (ty_0_2 hk0).2 dX0_addLot_62 (fun ν3 => ?_)
              refine s_aload_n hX dX0_addLot_63 rfl 1 rfl ?_
              refine s_getR hX (d := 1) (k0 + 1) flX0_12 hk0 rfl dX0_addLot_64 ?_
              refine s_getR hX (d := 2) (k0 + 3) flX0_78 (ty_0_1 hk0).1 rfl dX0_addLot_67 ?_
              refine s_iload hX dX0_addLot_70 0 rfl ?_
              refine s_iload_n hX dX0_addLot_72 rfl 3 rfl ?_
              refine s_iast hX (ty_0_3 hk0).1 (ty_0_3 hk0).2 dX0_addLot_73 (fun ν4 => ?_)
              refine s_aload_n hX dX0_addLot_74 rfl 1 rfl ?_
              refine s_getR hX (d := 1) (k0 + 1) flX0_12 hk0 rfl dX0_addLot_75 ?_
              refine s_getR hX (d := 3) (k0 + 4) flX0_81 (ty_0_1 hk0).1 rfl dX0_addLot_78 ?_
              refine s_iload hX dX0_addLot_81 0 rfl ?_
              refine s_iload_n hX dX0_addLot_83 rfl 4 rfl ?_
              refine s_iast hX (ty_0_4 hk0).1 (ty_0_4 hk0).2 dX0_addLot_84 (fun ν5 => ?_)
              refine s_aload_n hX dX0_addLot_85 rfl 1 rfl ?_
              refine s_getR hX (d := 1) (k0 + 1) flX0_12 hk0 rfl dX0_addLot_86 ?_
              refine s_iload hX dX0_addLot_89 0 rfl ?_
              refine s_iconst (v := 1) hX dX0_addLot_91 (by decide) ?_
              refine s_iadd hX dX0_addLot_92 ?_
              refine s_putI hX flX0_72 (ty_0_1 hk0).1 ⟨rfl, rfl⟩ dX0_addLot_93 (fun ν6 => ?_)
              refine s_aload_n hX dX0_addLot_96 rfl 1 rfl ?_
              refine s_getR hX (d := 9) (k0 + 9) flX0_28 hk0 rfl dX0_addLot_97 ?_
              refine s_iconst (v := 0) hX dX0_addLot_100 (by decide) ?_
              refine s_putI hX flX0_65 (ty_0_9 hk0).1 ⟨rfl, rfl⟩ dX0_addLot_101 (fun ν7 => ?_)
              refine s_iload hX dX0_addLot_104 0 rfl ?_
              exact s_ireti hK hR dX0_addLot_106
            · refine s_bipush (v := (-4)) hX dX0_addLot_49 (by decide) ?_
              exact s_ireti hK hR dX0_addLot_51
          · exact s_to hX [] rfl (hj1)
theorem dX0_become_0 : decode cX0_become 0 = .ok (.aload_n 0, 1) := by decide +kernel
theorem dX0_become_1 : decode cX0_become 1 = .ok (.getfield 12, 3) := by decide +kernel
theorem dX0_become_4 : decode cX0_become 4 = .ok (.aload_n 1, 1) := by decide +kernel
theorem dX0_become_5 : decode cX0_become 5 = .ok (.getfield 12, 3) := by decide +kernel
theorem dX0_become_8 : decode cX0_become 8 = .ok (.invokevirtual 39, 3) := by decide +kernel
theorem dX0_become_11 : decode cX0_become 11 = .ok (.aload_n 0, 1) := by decide +kernel
theorem dX0_become_12 : decode cX0_become 12 = .ok (.getfield 21, 3) := by decide +kernel
theorem dX0_become_15 : decode cX0_become 15 = .ok (.aload_n 1, 1) := by decide +kernel
theorem dX0_become_16 : decode cX0_become 16 = .ok (.getfield 21, 3) := by decide +kernel
theorem dX0_become_19 : decode cX0_become 19 = .ok (.invokevirtual 43, 3) := by decide +kernel
theorem dX0_become_22 : decode cX0_become 22 = .ok (.aload_n 0, 1) := by decide +kernel
theorem dX0_become_23 : decode cX0_become 23 = .ok (.getfield 28, 3) := by decide +kernel
theorem dX0_become_26 : decode cX0_become 26 = .ok (.aload_n 1, 1) := by decide +kernel
theorem dX0_become_27 : decode cX0_become 27 = .ok (.getfield 28, 3) := by decide +kernel
theorem dX0_become_30 : decode cX0_become 30 = .ok (.invokevirtual 46, 3) := by decide +kernel
theorem dX0_become_33 : decode cX0_become 33 = .ok (.aload_n 1, 1) := by decide +kernel
theorem dX0_become_34 : decode cX0_become 34 = .ok (.getfield 32, 3) := by decide +kernel
theorem dX0_become_37 : decode cX0_become 37 = .ok (.iconst 0, 1) := by decide +kernel
theorem dX0_become_38 : decode cX0_become 38 = .ok (.aload_n 0, 1) := by decide +kernel
theorem dX0_become_39 : decode cX0_become 39 = .ok (.getfield 32, 3) := by decide +kernel
theorem dX0_become_42 : decode cX0_become 42 = .ok (.iconst 0, 1) := by decide +kernel
theorem dX0_become_43 : decode cX0_become 43 = .ok (.iconst 5, 1) := by decide +kernel
theorem dX0_become_44 : decode cX0_become 44 = .ok (.invokestatic 49, 3) := by decide +kernel
theorem dX0_become_47 : decode cX0_become 47 = .ok (.aload_n 1, 1) := by decide +kernel
theorem dX0_become_48 : decode cX0_become 48 = .ok (.getfield 36, 3) := by decide +kernel
theorem dX0_become_51 : decode cX0_become 51 = .ok (.iconst 0, 1) := by decide +kernel
theorem dX0_become_52 : decode cX0_become 52 = .ok (.aload_n 0, 1) := by decide +kernel
theorem dX0_become_53 : decode cX0_become 53 = .ok (.getfield 36, 3) := by decide +kernel
theorem dX0_become_56 : decode cX0_become 56 = .ok (.iconst 0, 1) := by decide +kernel
theorem dX0_become_57 : decode cX0_become 57 = .ok (.iconst 3, 1) := by decide +kernel
theorem dX0_become_58 : decode cX0_become 58 = .ok (.invokestatic 49, 3) := by decide +kernel
theorem dX0_become_61 : decode cX0_become 61 = .ok (.return_, 1) := by decide +kernel
noncomputable def f_X0_become (k0 : Nat) (k1 : Nat) (μ : Mem) : Option Mem :=
  bd (f_X3_become (k0 + 1) (k1 + 1) μ) fun ν1 =>
  bd (f_X7_become (k0 + 6) (k1 + 6) ν1) fun ν2 =>
  bd (f_X6_become (k0 + 9) (k1 + 9) ν2) fun ν3 =>
  ckC 0 0 5 5 5 (lt (cpyI ν3 (k1 + 12) (ix 0) (k0 + 12) (ix 0) (ix 5)) fun ν4 =>
    ckC 0 0 3 3 3 (lt (cpyI ν4 (k1 + 13) (ix 0) (k0 + 13) (ix 0) (ix 3)) fun ν5 =>
      some ν5
      )
    )
set_option maxHeartbeats 4000000 in
set_option maxRecDepth 100000 in
theorem c_X0_become {g : GT} {k0 : Nat} {k1 : Nat} {μ : Mem} {μ0 : Mem} (hk0 : tyOf k0 = 0) (hk1 : tyOf k1 = 0) (hf : f_X0_become k0 k1 μ = some μ0) : CV g yX0_become cX0_become 2 (none) 2 [rf g k0, rf g k1] μ μ0 := by
  refine mk_v (by decide) (Nat.le_of_ble_eq_true rfl) ?_
  intro G hX hR
  have hX : CX g G cX0_become RX0 2 2 := hX
  suffices S : ∀ K : Mem → Prop, (∀ a, K a → a = μ0) → Sim G (f_X0_become k0 k1 μ) K 0 [(0, rf g k0), (1, rf g k1)] [] μ from S (fun a => a = μ0) (fun a h => h) _ hf rfl
  intro K hK
  unfold f_X0_become
  refine s_aload_n hX dX0_become_0 rfl 0 rfl ?_
  refine s_getR hX (d := 1) (k0 + 1) flX0_12 hk0 rfl dX0_become_1 ?_
  refine s_aload_n hX dX0_become_4 rfl 1 rfl ?_
  refine s_getR hX (d := 1) (k1 + 1) flX0_12 hk1 rfl dX0_become_5 ?_
  refine s_callVvw hX [rf g (k1 + 1)] (k := (k0 + 1)) (ci := 3) (ty_0_1 hk0).1 hc3 vkX3_become (fun ν hF => c_X3_become (ty_0_1 hk0).1 (ty_0_1 hk1).1 hF) mkX3_become cvX0_39 rfl rfl ⟨by omega, by decide, Nat.le_of_ble_eq_true rfl⟩ dX0_become_8 (fun ν1 => ?_)
  refine s_aload_n hX dX0_become_11 rfl 0 rfl ?_
  refine s_getR hX (d := 6) (k0 + 6) flX0_21 hk0 rfl dX0_become_12 ?_
  refine s_aload_n hX dX0_become_15 rfl 1 rfl ?_
  refine s_getR hX (d := 6) (k1 + 6) flX0_21 hk1 rfl dX0_become_16 ?_
  refine s_callVvw hX [rf g (k1 + 6)] (k := (k0 + 6)) (ci := 6) (ty_0_6 hk0).1 hc6 vkX7_become (fun ν hF => c_X7_become (ty_0_6 hk0).1 (ty_0_6 hk1).1 hF) mkX7_become cvX0_43 rfl rfl ⟨by omega, by decide, Nat.le_of_ble_eq_true rfl⟩ dX0_become_19 (fun ν2 => ?_)
  refine s_aload_n hX dX0_become_22 rfl 0 rfl ?_
  refine s_getR hX (d := 9) (k0 + 9) flX0_28 hk0 rfl dX0_become_23 ?_
  refine s_aload_n hX dX0_become_26 rfl 1 rfl ?_
  refine s_getR hX (d := 9) (k1 + 9) flX0_28 hk1 rfl dX0_become_27 ?_
  refine s_callVvw hX [rf g (k1 + 9)] (k := (k0 + 9)) (ci := 5) (ty_0_9 hk0).1 hc5 vkX6_become (fun ν hF => c_X6_become (ty_0_9 hk0).1 (ty_0_9 hk1).1 hF) mkX6_become cvX0_46 rfl rfl ⟨by omega, by decide, Nat.le_of_ble_eq_true rfl⟩ dX0_become_30 (fun ν3 => ?_)
  refine s_aload_n hX dX0_become_33 rfl 1 rfl ?_
  refine s_getR hX (d := 12) (k1 + 12) flX0_32 hk1 rfl dX0_become_34 ?_
  refine s_iconst (v := 0) hX dX0_become_37 (by decide) ?_
  refine s_aload_n hX dX0_become_38 rfl 0 rfl ?_
  refine s_getR hX (d := 12) (k0 + 12) flX0_32 hk0 rfl dX0_become_39 ?_
  refine s_iconst (v := 0) hX dX0_become_42 (by decide) ?_
  refine s_iconst (v := 5) hX dX0_become_43 (by decide) ?_
  refine s_copy hX (ty_0_12 hk1).1 (ty_0_12 hk1).2 (ty_0_12 hk0).1 (ty_0_12 hk0).2 cvX0_49 ⟨by omega, Nat.le_of_ble_eq_true rfl⟩ kw_copy dX0_become_44 (fun ν4 => ?_)
  refine s_aload_n hX dX0_become_47 rfl 1 rfl ?_
  refine s_getR hX (d := 13) (k1 + 13) flX0_36 hk1 rfl dX0_become_48 ?_
  refine s_iconst (v := 0) hX dX0_become_51 (by decide) ?_
  refine s_aload_n hX dX0_become_52 rfl 0 rfl ?_
  refine s_getR hX (d := 13) (k0 + 13) flX0_36 hk0 rfl dX0_become_53 ?_
  refine s_iconst (v := 0) hX dX0_become_56 (by decide) ?_
  refine s_iconst (v := 3) hX dX0_become_57 (by decide) ?_
  refine s_copy hX (ty_0_13 hk1).1 (ty_0_13 hk1).2 (ty_0_13 hk0).1 (ty_0_13 hk0).2 cvX0_49 ⟨by omega, Nat.le_of_ble_eq_true rfl⟩ kw_copy dX0_become_58 (fun ν5 => ?_)
  exact s_vreti hK hR dX0_become_61
theorem dX0_digestOn_0 : decode cX0_digestOn 0 = .ok (.lload_n 1, 1) := by decide +kernel
theorem dX0_digestOn_1 : decode cX0_digestOn 1 = .ok (.lstore_n 3, 1) := by decide +kernel
theorem dX0_digestOn_2 : decode cX0_digestOn 2 = .ok (.iconst 0, 1) := by decide +kernel
theorem dX0_digestOn_3 : decode cX0_digestOn 3 = .ok (.istore 5, 2) := by decide +kernel
theorem dX0_digestOn_5 : decode cX0_digestOn 5 = .ok (.iload 5, 2) := by decide +kernel
theorem dX0_digestOn_7 : decode cX0_digestOn 7 = .ok (.aload_n 0, 1) := by decide +kernel
theorem dX0_digestOn_8 : decode cX0_digestOn 8 = .ok (.getfield 12, 3) := by decide +kernel
theorem dX0_digestOn_11 : decode cX0_digestOn 11 = .ok (.getfield 55, 3) := by decide +kernel
theorem dX0_digestOn_14 : decode cX0_digestOn 14 = .ok (.if_icmp .ge 24, 3) := by decide +kernel
theorem dX0_digestOn_17 : decode cX0_digestOn 17 = .ok (.ldc2_w 119, 3) := by decide +kernel
theorem dX0_digestOn_20 : decode cX0_digestOn 20 = .ok (.lload_n 3, 1) := by decide +kernel
theorem dX0_digestOn_21 : decode cX0_digestOn 21 = .ok (.lmul, 1) := by decide +kernel
theorem dX0_digestOn_22 : decode cX0_digestOn 22 = .ok (.aload_n 0, 1) := by decide +kernel
theorem dX0_digestOn_23 : decode cX0_digestOn 23 = .ok (.getfield 32, 3) := by decide +kernel
theorem dX0_digestOn_26 : decode cX0_digestOn 26 = .ok (.iload 5, 2) := by decide +kernel
theorem dX0_digestOn_28 : decode cX0_digestOn 28 = .ok (.iaload, 1) := by decide +kernel
theorem dX0_digestOn_29 : decode cX0_digestOn 29 = .ok (.i2l, 1) := by decide +kernel
theorem dX0_digestOn_30 : decode cX0_digestOn 30 = .ok (.ladd, 1) := by decide +kernel
theorem dX0_digestOn_31 : decode cX0_digestOn 31 = .ok (.lstore_n 3, 1) := by decide +kernel
theorem dX0_digestOn_32 : decode cX0_digestOn 32 = .ok (.iinc 5 1, 3) := by decide +kernel
theorem dX0_digestOn_35 : decode cX0_digestOn 35 = .ok (.goto (-30), 3) := by decide +kernel
theorem dX0_digestOn_38 : decode cX0_digestOn 38 = .ok (.iconst 0, 1) := by decide +kernel
theorem dX0_digestOn_39 : decode cX0_digestOn 39 = .ok (.istore 5, 2) := by decide +kernel
theorem dX0_digestOn_41 : decode cX0_digestOn 41 = .ok (.iload 5, 2) := by decide +kernel
theorem dX0_digestOn_43 : decode cX0_digestOn 43 = .ok (.aload_n 0, 1) := by decide +kernel
theorem dX0_digestOn_44 : decode cX0_digestOn 44 = .ok (.getfield 12, 3) := by decide +kernel
theorem dX0_digestOn_47 : decode cX0_digestOn 47 = .ok (.getfield 72, 3) := by decide +kernel
theorem dX0_digestOn_50 : decode cX0_digestOn 50 = .ok (.if_icmp .ge 63, 3) := by decide +kernel
theorem dX0_digestOn_53 : decode cX0_digestOn 53 = .ok (.ldc2_w 119, 3) := by decide +kernel
theorem dX0_digestOn_56 : decode cX0_digestOn 56 = .ok (.lload_n 3, 1) := by decide +kernel
theorem dX0_digestOn_57 : decode cX0_digestOn 57 = .ok (.lmul, 1) := by decide +kernel
theorem dX0_digestOn_58 : decode cX0_digestOn 58 = .ok (.aload_n 0, 1) := by decide +kernel
theorem dX0_digestOn_59 : decode cX0_digestOn 59 = .ok (.getfield 12, 3) := by decide +kernel
theorem dX0_digestOn_62 : decode cX0_digestOn 62 = .ok (.getfield 75, 3) := by decide +kernel
theorem dX0_digestOn_65 : decode cX0_digestOn 65 = .ok (.iload 5, 2) := by decide +kernel
theorem dX0_digestOn_67 : decode cX0_digestOn 67 = .ok (.iaload, 1) := by decide +kernel
theorem dX0_digestOn_68 : decode cX0_digestOn 68 = .ok (.i2l, 1) := by decide +kernel
theorem dX0_digestOn_69 : decode cX0_digestOn 69 = .ok (.ladd, 1) := by decide +kernel
theorem dX0_digestOn_70 : decode cX0_digestOn 70 = .ok (.lstore_n 3, 1) := by decide +kernel
theorem dX0_digestOn_71 : decode cX0_digestOn 71 = .ok (.ldc2_w 119, 3) := by decide +kernel
theorem dX0_digestOn_74 : decode cX0_digestOn 74 = .ok (.lload_n 3, 1) := by decide +kernel
theorem dX0_digestOn_75 : decode cX0_digestOn 75 = .ok (.lmul, 1) := by decide +kernel
theorem dX0_digestOn_76 : decode cX0_digestOn 76 = .ok (.aload_n 0, 1) := by decide +kernel
theorem dX0_digestOn_77 : decode cX0_digestOn 77 = .ok (.getfield 12, 3) := by decide +kernel
theorem dX0_digestOn_80 : decode cX0_digestOn 80 = .ok (.getfield 78, 3) := by decide +kernel
theorem dX0_digestOn_83 : decode cX0_digestOn 83 = .ok (.iload 5, 2) := by decide +kernel
theorem dX0_digestOn_85 : decode cX0_digestOn 85 = .ok (.iaload, 1) := by decide +kernel
theorem dX0_digestOn_86 : decode cX0_digestOn 86 = .ok (.i2l, 1) := by decide +kernel
theorem dX0_digestOn_87 : decode cX0_digestOn 87 = .ok (.ladd, 1) := by decide +kernel
theorem dX0_digestOn_88 : decode cX0_digestOn 88 = .ok (.lstore_n 3, 1) := by decide +kernel
theorem dX0_digestOn_89 : decode cX0_digestOn 89 = .ok (.ldc2_w 119, 3) := by decide +kernel
theorem dX0_digestOn_92 : decode cX0_digestOn 92 = .ok (.lload_n 3, 1) := by decide +kernel
theorem dX0_digestOn_93 : decode cX0_digestOn 93 = .ok (.lmul, 1) := by decide +kernel
theorem dX0_digestOn_94 : decode cX0_digestOn 94 = .ok (.aload_n 0, 1) := by decide +kernel
theorem dX0_digestOn_95 : decode cX0_digestOn 95 = .ok (.getfield 12, 3) := by decide +kernel
theorem dX0_digestOn_98 : decode cX0_digestOn 98 = .ok (.getfield 81, 3) := by decide +kernel
theorem dX0_digestOn_101 : decode cX0_digestOn 101 = .ok (.iload 5, 2) := by decide +kernel
theorem dX0_digestOn_103 : decode cX0_digestOn 103 = .ok (.iaload, 1) := by decide +kernel
theorem dX0_digestOn_104 : decode cX0_digestOn 104 = .ok (.i2l, 1) := by decide +kernel
theorem dX0_digestOn_105 : decode cX0_digestOn 105 = .ok (.ladd, 1) := by decide +kernel
theorem dX0_digestOn_106 : decode cX0_digestOn 106 = .ok (.lstore_n 3, 1) := by decide +kernel
theorem dX0_digestOn_107 : decode cX0_digestOn 107 = .ok (.iinc 5 1, 3) := by decide +kernel
theorem dX0_digestOn_110 : decode cX0_digestOn 110 = .ok (.goto (-69), 3) := by decide +kernel
theorem dX0_digestOn_113 : decode cX0_digestOn 113 = .ok (.iconst 0, 1) := by decide +kernel
theorem dX0_digestOn_114 : decode cX0_digestOn 114 = .ok (.istore 5, 2) := by decide +kernel
theorem dX0_digestOn_116 : decode cX0_digestOn 116 = .ok (.iload 5, 2) := by decide +kernel
theorem dX0_digestOn_118 : decode cX0_digestOn 118 = .ok (.aload_n 0, 1) := by decide +kernel
theorem dX0_digestOn_119 : decode cX0_digestOn 119 = .ok (.getfield 21, 3) := by decide +kernel
theorem dX0_digestOn_122 : decode cX0_digestOn 122 = .ok (.getfield 101, 3) := by decide +kernel
theorem dX0_digestOn_125 : decode cX0_digestOn 125 = .ok (.if_icmp .ge 70, 3) := by decide +kernel
theorem dX0_digestOn_128 : decode cX0_digestOn 128 = .ok (.ldc2_w 119, 3) := by decide +kernel
theorem dX0_digestOn_131 : decode cX0_digestOn 131 = .ok (.lload_n 3, 1) := by decide +kernel
theorem dX0_digestOn_132 : decode cX0_digestOn 132 = .ok (.lmul, 1) := by decide +kernel
theorem dX0_digestOn_133 : decode cX0_digestOn 133 = .ok (.aload_n 0, 1) := by decide +kernel
theorem dX0_digestOn_134 : decode cX0_digestOn 134 = .ok (.getfield 21, 3) := by decide +kernel
theorem dX0_digestOn_137 : decode cX0_digestOn 137 = .ok (.getfield 121, 3) := by decide +kernel
theorem dX0_digestOn_140 : decode cX0_digestOn 140 = .ok (.iload 5, 2) := by decide +kernel
theorem dX0_digestOn_142 : decode cX0_digestOn 142 = .ok (.iaload, 1) := by decide +kernel
theorem dX0_digestOn_143 : decode cX0_digestOn 143 = .ok (.i2l, 1) := by decide +kernel
theorem dX0_digestOn_144 : decode cX0_digestOn 144 = .ok (.ladd, 1) := by decide +kernel
theorem dX0_digestOn_145 : decode cX0_digestOn 145 = .ok (.lstore_n 3, 1) := by decide +kernel
theorem dX0_digestOn_146 : decode cX0_digestOn 146 = .ok (.ldc2_w 119, 3) := by decide +kernel
theorem dX0_digestOn_149 : decode cX0_digestOn 149 = .ok (.lload_n 3, 1) := by decide +kernel
theorem dX0_digestOn_150 : decode cX0_digestOn 150 = .ok (.lmul, 1) := by decide +kernel
theorem dX0_digestOn_151 : decode cX0_digestOn 151 = .ok (.aload_n 0, 1) := by decide +kernel
theorem dX0_digestOn_152 : decode cX0_digestOn 152 = .ok (.getfield 21, 3) := by decide +kernel
theorem dX0_digestOn_155 : decode cX0_digestOn 155 = .ok (.getfield 124, 3) := by decide +kernel
theorem dX0_digestOn_158 : decode cX0_digestOn 158 = .ok (.iload 5, 2) := by decide +kernel
theorem dX0_digestOn_160 : decode cX0_digestOn 160 = .ok (.iaload, 1) := by decide +kernel
theorem dX0_digestOn_161 : decode cX0_digestOn 161 = .ok (.i2l, 1) := by decide +kernel
theorem dX0_digestOn_162 : decode cX0_digestOn 162 = .ok (.ladd, 1) := by decide +kernel
theorem dX0_digestOn_163 : decode cX0_digestOn 163 = .ok (.lstore_n 3, 1) := by decide +kernel
theorem dX0_digestOn_164 : decode cX0_digestOn 164 = .ok (.ldc2_w 119, 3) := by decide +kernel
theorem dX0_digestOn_167 : decode cX0_digestOn 167 = .ok (.lload_n 3, 1) := by decide +kernel
theorem dX0_digestOn_168 : decode cX0_digestOn 168 = .ok (.lmul, 1) := by decide +kernel
theorem dX0_digestOn_169 : decode cX0_digestOn 169 = .ok (.aload_n 0, 1) := by decide +kernel
theorem dX0_digestOn_170 : decode cX0_digestOn 170 = .ok (.getfield 21, 3) := by decide +kernel
theorem dX0_digestOn_173 : decode cX0_digestOn 173 = .ok (.iload 5, 2) := by decide +kernel
theorem dX0_digestOn_175 : decode cX0_digestOn 175 = .ok (.invokevirtual 102, 3) := by decide +kernel
theorem dX0_digestOn_178 : decode cX0_digestOn 178 = .ok (.ifCond .eq 7, 3) := by decide +kernel
theorem dX0_digestOn_181 : decode cX0_digestOn 181 = .ok (.iconst 1, 1) := by decide +kernel
theorem dX0_digestOn_182 : decode cX0_digestOn 182 = .ok (.goto 4, 3) := by decide +kernel
theorem dX0_digestOn_185 : decode cX0_digestOn 185 = .ok (.iconst 0, 1) := by decide +kernel
theorem dX0_digestOn_186 : decode cX0_digestOn 186 = .ok (.i2l, 1) := by decide +kernel
theorem dX0_digestOn_187 : decode cX0_digestOn 187 = .ok (.ladd, 1) := by decide +kernel
theorem dX0_digestOn_188 : decode cX0_digestOn 188 = .ok (.lstore_n 3, 1) := by decide +kernel
theorem dX0_digestOn_189 : decode cX0_digestOn 189 = .ok (.iinc 5 1, 3) := by decide +kernel
theorem dX0_digestOn_192 : decode cX0_digestOn 192 = .ok (.goto (-76), 3) := by decide +kernel
theorem dX0_digestOn_195 : decode cX0_digestOn 195 = .ok (.iconst 0, 1) := by decide +kernel
theorem dX0_digestOn_196 : decode cX0_digestOn 196 = .ok (.istore 5, 2) := by decide +kernel
theorem dX0_digestOn_198 : decode cX0_digestOn 198 = .ok (.iload 5, 2) := by decide +kernel
theorem dX0_digestOn_200 : decode cX0_digestOn 200 = .ok (.iconst 3, 1) := by decide +kernel
theorem dX0_digestOn_201 : decode cX0_digestOn 201 = .ok (.if_icmp .ge 24, 3) := by decide +kernel
theorem dX0_digestOn_204 : decode cX0_digestOn 204 = .ok (.ldc2_w 119, 3) := by decide +kernel
theorem dX0_digestOn_207 : decode cX0_digestOn 207 = .ok (.lload_n 3, 1) := by decide +kernel
theorem dX0_digestOn_208 : decode cX0_digestOn 208 = .ok (.lmul, 1) := by decide +kernel
theorem dX0_digestOn_209 : decode cX0_digestOn 209 = .ok (.aload_n 0, 1) := by decide +kernel
theorem dX0_digestOn_210 : decode cX0_digestOn 210 = .ok (.getfield 36, 3) := by decide +kernel
theorem dX0_digestOn_213 : decode cX0_digestOn 213 = .ok (.iload 5, 2) := by decide +kernel
theorem dX0_digestOn_215 : decode cX0_digestOn 215 = .ok (.iaload, 1) := by decide +kernel
theorem dX0_digestOn_216 : decode cX0_digestOn 216 = .ok (.i2l, 1) := by decide +kernel
theorem dX0_digestOn_217 : decode cX0_digestOn 217 = .ok (.ladd, 1) := by decide +kernel
theorem dX0_digestOn_218 : decode cX0_digestOn 218 = .ok (.lstore_n 3, 1) := by decide +kernel
theorem dX0_digestOn_219 : decode cX0_digestOn 219 = .ok (.iinc 5 1, 3) := by decide +kernel
theorem dX0_digestOn_222 : decode cX0_digestOn 222 = .ok (.goto (-24), 3) := by decide +kernel
theorem dX0_digestOn_225 : decode cX0_digestOn 225 = .ok (.lload_n 3, 1) := by decide +kernel
theorem dX0_digestOn_226 : decode cX0_digestOn 226 = .ok (.lreturn, 1) := by decide +kernel
noncomputable def f_X0_digestOn (k0 : Nat) (x1 : Int64) (μ : Mem) : Option Int64 :=
  bd (lp (ε := Int64) (cu2 fun (x3_1 : Int64) (x5_2 : Int32) =>
    if x5_2 < (μ.1 (k0 + 1) 0) then
      chk x5_2 5 (
        lt ((31 * x3_1) + ((μ.1 (k0 + 12) (ix x5_2)) : Int32).toInt64) fun x3_5 =>
        some (.inl (x3_5, (x5_2 + 1)))
        )
    else
      some (.inr x3_1)
    ) (x1, 0)) (fun (x3_3 : Int64) =>
    bd (lp (ε := Int64) (cu2 fun (x3_6 : Int64) (x5_7 : Int32) =>
      if x5_7 < (μ.1 (k0 + 1) 1) then
        chk x5_7 10 (
          lt ((31 * x3_6) + ((μ.1 (k0 + 2) (ix x5_7)) : Int32).toInt64) fun x3_10 =>
          chk x5_7 10 (
            lt ((31 * x3_10) + ((μ.1 (k0 + 3) (ix x5_7)) : Int32).toInt64) fun x3_11 =>
            chk x5_7 10 (
              lt ((31 * x3_11) + ((μ.1 (k0 + 4) (ix x5_7)) : Int32).toInt64) fun x3_12 =>
              some (.inl (x3_12, (x5_7 + 1)))
              )
            )
          )
      else
        some (.inr x3_6)
      ) (x3_3, 0)) (fun (x3_8 : Int64) =>
      bd (lp (ε := Int64) (cu2 fun (x3_13 : Int64) (x5_14 : Int32) =>
        if x5_14 < (μ.1 (k0 + 6) 0) then
          chk x5_14 10 (
            lt ((31 * x3_13) + ((μ.1 (k0 + 7) (ix x5_14)) : Int32).toInt64) fun x3_17 =>
            chk x5_14 10 (
              lt ((31 * x3_17) + ((μ.1 (k0 + 8) (ix x5_14)) : Int32).toInt64) fun x3_18 =>
              bd (f_X7_isGuarded (k0 + 6) x5_14 μ) fun r19 =>
              jn (fun (y20 : Int32) =>
                lt ((31 * x3_18) + (y20 : Int32).toInt64) fun x3_22 =>
                some (.inl (x3_22, (x5_14 + 1)))
                ) fun j21 =>
              if r19 = 0 then
                j21 0
              else
                j21 1
              )
            )
        else
          some (.inr x3_13)
        ) (x3_8, 0)) (fun (x3_15 : Int64) =>
        bd (lp (ε := Int64) (cu2 fun (x3_23 : Int64) (x5_24 : Int32) =>
          if x5_24 < 3 then
            chk x5_24 3 (
              lt ((31 * x3_23) + ((μ.1 (k0 + 13) (ix x5_24)) : Int32).toInt64) fun x3_27 =>
              some (.inl (x3_27, (x5_24 + 1)))
              )
          else
            some (.inr x3_23)
          ) (x3_15, 0)) (fun (x3_25 : Int64) =>
          some x3_25
          )
        )
      )
    )
set_option maxHeartbeats 4000000 in
set_option maxRecDepth 100000 in
theorem c_X0_digestOn {g : GT} {k0 : Nat} {x1 : Int64} {μ : Mem} {r0 : Int64} (hk0 : tyOf k0 = 0) (hf : f_X0_digestOn k0 x1 μ = some r0) : CL g yX0_digestOn cX0_digestOn 6 (some .long) 2 [rf g k0, .long x1] μ r0 μ := by
  refine mk_l (by decide) (Nat.le_of_ble_eq_true rfl) ?_
  intro G hX hR
  have hX : CX g G cX0_digestOn RX0 6 2 := hX
  suffices S : ∀ K : Int64 → Prop, (∀ a, K a → a = r0) → Sim G (f_X0_digestOn k0 x1 μ) K 0 [(0, rf g k0), (1, .long x1)] [] μ from S (fun a => a = r0) (fun a h => h) _ hf rfl
  intro K hK
  unfold f_X0_digestOn
  refine s_lload_n hX dX0_digestOn_0 rfl 1 rfl ?_
  refine s_lstore_n (lv' := [(3, .long x1), (0, rf g k0), (1, .long x1)]) hX dX0_digestOn_1 rfl (by decide) rfl ?_
  refine s_iconst (v := 0) hX dX0_digestOn_2 (by decide) ?_
  refine s_istore (lv' := [(5, .int 0), (3, .long x1), (0, rf g k0), (1, .long x1)]) hX dX0_digestOn_3 (by decide) rfl ?_
  refine s_loop hX 5 38 (fun s : Int64 × Int32 => [(0, rf g k0), (3, .long s.1), (5, .int s.2)]) (fun s : Int64 × Int32 => μ) (fun s : Int64 => [(0, rf g k0), (3, .long s)]) (fun s : Int64 => μ) [2, 1, 0] rfl rfl rfl ?_ ?_
  · intro Kq4 hIq4 hJq4 sq
    obtain ⟨x3_1, x5_2⟩ := sq
    refine s_cu2 ?_
    show Sim G _ _ 5 [(0, rf g k0), (3, .long x3_1), (5, .int x5_2)] [] μ
    refine s_iload hX dX0_digestOn_5 2 rfl ?_
    refine s_aload_n hX dX0_digestOn_7 rfl 0 rfl ?_
    refine s_getR hX (d := 1) (k0 + 1) flX0_12 hk0 rfl dX0_digestOn_8 ?_
    refine s_getI hX flX0_55 (ty_0_1 hk0).1 dX0_digestOn_11 ?_
    refine s_icmp_ge hX 38 dX0_digestOn_14 (by decide) ?_ ?_
    · exact s_end hX (hJq4 x3_1) [0, 1] rfl
    · refine s_ldc2 hX dX0_digestOn_17 klX0_119 ?_
      refine s_lload_n hX dX0_digestOn_20 rfl 1 rfl ?_
      refine s_lmul hX dX0_digestOn_21 ?_
      refine s_aload_n hX dX0_digestOn_22 rfl 0 rfl ?_
      refine s_getR hX (d := 12) (k0 + 12) flX0_32 hk0 rfl dX0_digestOn_23 ?_
      refine s_iload hX dX0_digestOn_26 2 rfl ?_
      refine s_iald hX (ty_0_12 hk0).1 (ty_0_12 hk0).2 dX0_digestOn_28 ?_
      refine s_i2l hX dX0_digestOn_29 ?_
      refine s_ladd hX dX0_digestOn_30 ?_
      refine s_ltl (fun x3_5 => ?_)
      refine s_lstore_n (lv' := [(3, .long x3_5), (0, rf g k0), (5, .int x5_2)]) hX dX0_digestOn_31 rfl (by decide) rfl ?_
      refine s_iinc (v := (x5_2 + 1)) (lv' := [(5, .int (x5_2 + 1)), (3, .long x3_5), (0, rf g k0)]) hX dX0_digestOn_32 2 rfl rfl (by decide) rfl ?_
      refine s_goto hX 5 dX0_digestOn_35 (by decide) ?_
      exact s_end hX (hIq4 (x3_5, (x5_2 + 1))) [2, 1, 0] rfl
  · intro sq
    obtain ⟨x3_3, rfl⟩ : ∃ z, z = sq := ⟨_, rfl⟩
    show Sim G _ _ 38 [(0, rf g k0), (3, .long x3_3)] [] μ
    refine s_iconst (v := 0) hX dX0_digestOn_38 (by decide) ?_
    refine s_istore (lv' := [(5, .int 0), (0, rf g k0), (3, .long x3_3)]) hX dX0_digestOn_39 (by decide) rfl ?_
    refine s_loop hX 41 113 (fun s : Int64 × Int32 => [(0, rf g k0), (3, .long s.1), (5, .int s.2)]) (fun s : Int64 × Int32 => μ) (fun s : Int64 => [(0, rf g k0), (3, .long s)]) (fun s : Int64 => μ) [1, 2, 0] rfl rfl rfl ?_ ?_
    · intro Kq9 hIq9 hJq9 sq
      obtain ⟨x3_6, x5_7⟩ := sq
      refine s_cu2 ?_
      show Sim G _ _ 41 [(0, rf g k0), (3, .long x3_6), (5, .int x5_7)] [] μ
      refine s_iload hX dX0_digestOn_41 2 rfl ?_
      refine s_aload_n hX dX0_digestOn_43 rfl 0 rfl ?_
      refine s_getR hX (d := 1) (k0 + 1) flX0_12 hk0 rfl dX0_digestOn_44 ?_
      refine s_getI hX flX0_72 (ty_0_1 hk0).1 dX0_digestOn_47 ?_
      refine s_icmp_ge hX 113 dX0_digestOn_50 (by decide) ?_ ?_
      · exact s_end hX (hJq9 x3_6) [0, 1] rfl
      · refine s_ldc2 hX dX0_digestOn_53 klX0_119 ?_
        refine s_lload_n hX dX0_digestOn_56 rfl 1 rfl ?_
        refine s_lmul hX dX0_digestOn_57 ?_
        refine s_aload_n hX dX0_digestOn_58 rfl 0 rfl ?_
        refine s_getR hX (d := 1) (k0 + 1) flX0_12 hk0 rfl dX0_digestOn_59 ?_
        refine s_getR hX (d := 1) (k0 + 2) flX0_75 (ty_0_1 hk0).1 rfl dX0_digestOn_62 ?_
        refine s_iload hX dX0_digestOn_65 2 rfl ?_
        refine s_iald hX (ty_0_2 hk0).1 (ty_0_2 hk0).2 dX0_digestOn_67 ?_
        refine s_i2l hX dX0_digestOn_68 ?_
        refine s_ladd hX dX0_digestOn_69 ?_
        refine s_ltl (fun x3_10 => ?_)
        refine s_lstore_n (lv' := [(3, .long x3_10), (0, rf g k0), (5, .int x5_7)]) hX dX0_digestOn_70 rfl (by decide) rfl ?_
        refine s_ldc2 hX dX0_digestOn_71 klX0_119 ?_
        refine s_lload_n hX dX0_digestOn_74 rfl 0 rfl ?_
        refine s_lmul hX dX0_digestOn_75 ?_
        refine s_aload_n hX dX0_digestOn_76 rfl 1 rfl ?_
        refine s_getR hX (d := 1) (k0 + 1) flX0_12 hk0 rfl dX0_digestOn_77 ?_
        refine s_getR hX (d := 2) (k0 + 3) flX0_78 (ty_0_1 hk0).1 rfl dX0_digestOn_80 ?_
        refine s_iload hX dX0_digestOn_83 2 rfl ?_
        refine s_iald hX (ty_0_3 hk0).1 (ty_0_3 hk0).2 dX0_digestOn_85 ?_
        refine s_i2l hX dX0_digestOn_86 ?_
        refine s_ladd hX dX0_digestOn_87 ?_
        refine s_ltl (fun x3_11 => ?_)
        refine s_lstore_n (lv' := [(3, .long x3_11), (0, rf g k0), (5, .int x5_7)]) hX dX0_digestOn_88 rfl (by decide) rfl ?_
        refine s_ldc2 hX dX0_digestOn_89 klX0_119 ?_
        refine s_lload_n hX dX0_digestOn_92 rfl 0 rfl ?_
        refine s_lmul hX dX0_digestOn_93 ?_
        refine s_aload_n hX dX0_digestOn_94 rfl 1 rfl ?_
        refine s_getR hX (d := 1) (k0 + 1) flX0_12 hk0 rfl dX0_digestOn_95 ?_
        refine s_getR hX (d := 3) (k0 + 4) flX0_81 (ty_0_1 hk0).1 rfl dX0_digestOn_98 ?_
        refine s_iload hX dX0_digestOn_101 2 rfl ?_
        refine s_iald hX (ty_0_4 hk0).1 (ty_0_4 hk0).2 dX0_digestOn_103 ?_
        refine s_i2l hX dX0_digestOn_104 ?_
        refine s_ladd hX dX0_digestOn_105 ?_
        refine s_ltl (fun x3_12 => ?_)
        refine s_lstore_n (lv' := [(3, .long x3_12), (0, rf g k0), (5, .int x5_7)]) hX dX0_digestOn_106 rfl (by decide) rfl ?_
        refine s_iinc (v := (x5_7 + 1)) (lv' := [(5, .int (x5_7 + 1)), (3, .long x3_12), (0, rf g k0)]) hX dX0_digestOn_107 2 rfl rfl (by decide) rfl ?_
        refine s_goto hX 41 dX0_digestOn_110 (by decide) ?_
        exact s_end hX (hIq9 (x3_12, (x5_7 + 1))) [2, 1, 0] rfl
    · intro sq
      obtain ⟨x3_8, rfl⟩ : ∃ z, z = sq := ⟨_, rfl⟩
      show Sim G _ _ 113 [(0, rf g k0), (3, .long x3_8)] [] μ
      refine s_iconst (v := 0) hX dX0_digestOn_113 (by decide) ?_
      refine s_istore (lv' := [(5, .int 0), (0, rf g k0), (3, .long x3_8)]) hX dX0_digestOn_114 (by decide) rfl ?_
      refine s_loop hX 116 195 (fun s : Int64 × Int32 => [(0, rf g k0), (3, .long s.1), (5, .int s.2)]) (fun s : Int64 × Int32 => μ) (fun s : Int64 => [(0, rf g k0), (3, .long s)]) (fun s : Int64 => μ) [1, 2, 0] rfl rfl rfl ?_ ?_
      · intro Kq16 hIq16 hJq16 sq
        obtain ⟨x3_13, x5_14⟩ := sq
        refine s_cu2 ?_
        show Sim G _ _ 116 [(0, rf g k0), (3, .long x3_13), (5, .int x5_14)] [] μ
        refine s_iload hX dX0_digestOn_116 2 rfl ?_
        refine s_aload_n hX dX0_digestOn_118 rfl 0 rfl ?_
        refine s_getR hX (d := 6) (k0 + 6) flX0_21 hk0 rfl dX0_digestOn_119 ?_
        refine s_getI hX flX0_101 (ty_0_6 hk0).1 dX0_digestOn_122 ?_
        refine s_icmp_ge hX 195 dX0_digestOn_125 (by decide) ?_ ?_
        · exact s_end hX (hJq16 x3_13) [0, 1] rfl
        · refine s_ldc2 hX dX0_digestOn_128 klX0_119 ?_
          refine s_lload_n hX dX0_digestOn_131 rfl 1 rfl ?_
          refine s_lmul hX dX0_digestOn_132 ?_
          refine s_aload_n hX dX0_digestOn_133 rfl 0 rfl ?_
          refine s_getR hX (d := 6) (k0 + 6) flX0_21 hk0 rfl dX0_digestOn_134 ?_
          refine s_getR hX (d := 1) (k0 + 7) flX0_121 (ty_0_6 hk0).1 rfl dX0_digestOn_137 ?_
          refine s_iload hX dX0_digestOn_140 2 rfl ?_
          refine s_iald hX (ty_0_7 hk0).1 (ty_0_7 hk0).2 dX0_digestOn_142 ?_
          refine s_i2l hX dX0_digestOn_143 ?_
          refine s_ladd hX dX0_digestOn_144 ?_
          refine s_ltl (fun x3_17 => ?_)
          refine s_lstore_n (lv' := [(3, .long x3_17), (0, rf g k0), (5, .int x5_14)]) hX dX0_digestOn_145 rfl (by decide) rfl ?_
          refine s_ldc2 hX dX0_digestOn_146 klX0_119 ?_
          refine s_lload_n hX dX0_digestOn_149 rfl 0 rfl ?_
          refine s_lmul hX dX0_digestOn_150 ?_
          refine s_aload_n hX dX0_digestOn_151 rfl 1 rfl ?_
          refine s_getR hX (d := 6) (k0 + 6) flX0_21 hk0 rfl dX0_digestOn_152 ?_
          refine s_getR hX (d := 2) (k0 + 8) flX0_124 (ty_0_6 hk0).1 rfl dX0_digestOn_155 ?_
          refine s_iload hX dX0_digestOn_158 2 rfl ?_
          refine s_iald hX (ty_0_8 hk0).1 (ty_0_8 hk0).2 dX0_digestOn_160 ?_
          refine s_i2l hX dX0_digestOn_161 ?_
          refine s_ladd hX dX0_digestOn_162 ?_
          refine s_ltl (fun x3_18 => ?_)
          refine s_lstore_n (lv' := [(3, .long x3_18), (0, rf g k0), (5, .int x5_14)]) hX dX0_digestOn_163 rfl (by decide) rfl ?_
          refine s_ldc2 hX dX0_digestOn_164 klX0_119 ?_
          refine s_lload_n hX dX0_digestOn_167 rfl 0 rfl ?_
          refine s_lmul hX dX0_digestOn_168 ?_
          refine s_aload_n hX dX0_digestOn_169 rfl 1 rfl ?_
          refine s_getR hX (d := 6) (k0 + 6) flX0_21 hk0 rfl dX0_digestOn_170 ?_
          refine s_iload hX dX0_digestOn_173 2 rfl ?_
          refine s_callVir hX [.int x5_14] (k := (k0 + 6)) (ci := 6) (ty_0_6 hk0).1 hc6 vkX7_isGuarded (fun r hF => c_X7_isGuarded (ty_0_6 hk0).1 hF) mkX7_isGuarded cvX0_102 rfl rfl ⟨by omega, by decide, Nat.le_of_ble_eq_true rfl⟩ dX0_digestOn_175 (fun r19 => ?_)
          refine s_jn (C := fun j => ∀ (y20 : Int32), Sim G (j y20) Kq16 186 [(0, rf g k0), (5, .int x5_14)] [.int y20, .long (31 * x3_18)] μ) ?_ (fun j21 hj21 => ?_)
          · intro y20
            show Sim G _ _ 186 [(0, rf g k0), (5, .int x5_14)] [.int y20, .long (31 * x3_18)] μ
            refine s_i2l hX dX0_digestOn_186 ?_
            refine s_ladd hX dX0_digestOn_187 ?_
            refine s_ltl (fun x3_22 => ?_)
            refine s_lstore_n (lv' := [(3, .long x3_22), (0, rf g k0), (5, .int x5_14)]) hX dX0_digestOn_188 rfl (by decide) rfl ?_
            refine s_iinc (v := (x5_14 + 1)) (lv' := [(5, .int (x5_14 + 1)), (3, .long x3_22), (0, rf g k0)]) hX dX0_digestOn_189 2 rfl rfl (by decide) rfl ?_
            refine s_goto hX 116 dX0_digestOn_192 (by decide) ?_
            exact s_end hX (hIq16 (x3_22, (x5_14 + 1))) [2, 1, 0] rfl
          refine s_if_eq hX 185 dX0_digestOn_178 (by decide) ?_ ?_
          · refine s_iconst (v := 0) hX dX0_digestOn_185 (by decide) ?_
            exact s_to hX [1, 2] rfl (hj21 0)
          · refine s_iconst (v := 1) hX dX0_digestOn_181 (by decide) ?_
            refine s_goto hX 186 dX0_digestOn_182 (by decide) ?_
            exact s_to hX [1, 2] rfl (hj21 1)
      · intro sq
        obtain ⟨x3_15, rfl⟩ : ∃ z, z = sq := ⟨_, rfl⟩
        show Sim G _ _ 195 [(0, rf g k0), (3, .long x3_15)] [] μ
        refine s_iconst (v := 0) hX dX0_digestOn_195 (by decide) ?_
        refine s_istore (lv' := [(5, .int 0), (0, rf g k0), (3, .long x3_15)]) hX dX0_digestOn_196 (by decide) rfl ?_
        refine s_loop hX 198 225 (fun s : Int64 × Int32 => [(0, rf g k0), (3, .long s.1), (5, .int s.2)]) (fun s : Int64 × Int32 => μ) (fun s : Int64 => [(3, .long s)]) (fun s : Int64 => μ) [1, 2, 0] rfl rfl rfl ?_ ?_
        · intro Kq26 hIq26 hJq26 sq
          obtain ⟨x3_23, x5_24⟩ := sq
          refine s_cu2 ?_
          show Sim G _ _ 198 [(0, rf g k0), (3, .long x3_23), (5, .int x5_24)] [] μ
          refine s_iload hX dX0_digestOn_198 2 rfl ?_
          refine s_iconst (v := 3) hX dX0_digestOn_200 (by decide) ?_
          refine s_icmp_ge hX 225 dX0_digestOn_201 (by decide) ?_ ?_
          · exact s_end hX (hJq26 x3_23) [1] rfl
          · refine s_ldc2 hX dX0_digestOn_204 klX0_119 ?_
            refine s_lload_n hX dX0_digestOn_207 rfl 1 rfl ?_
            refine s_lmul hX dX0_digestOn_208 ?_
            refine s_aload_n hX dX0_digestOn_209 rfl 0 rfl ?_
            refine s_getR hX (d := 13) (k0 + 13) flX0_36 hk0 rfl dX0_digestOn_210 ?_
            refine s_iload hX dX0_digestOn_213 2 rfl ?_
            refine s_iald hX (ty_0_13 hk0).1 (ty_0_13 hk0).2 dX0_digestOn_215 ?_
            refine s_i2l hX dX0_digestOn_216 ?_
            refine s_ladd hX dX0_digestOn_217 ?_
            refine s_ltl (fun x3_27 => ?_)
            refine s_lstore_n (lv' := [(3, .long x3_27), (0, rf g k0), (5, .int x5_24)]) hX dX0_digestOn_218 rfl (by decide) rfl ?_
            refine s_iinc (v := (x5_24 + 1)) (lv' := [(5, .int (x5_24 + 1)), (3, .long x3_27), (0, rf g k0)]) hX dX0_digestOn_219 2 rfl rfl (by decide) rfl ?_
            refine s_goto hX 198 dX0_digestOn_222 (by decide) ?_
            exact s_end hX (hIq26 (x3_27, (x5_24 + 1))) [2, 1, 0] rfl
        · intro sq
          obtain ⟨x3_25, rfl⟩ : ∃ z, z = sq := ⟨_, rfl⟩
          show Sim G _ _ 225 [(3, .long x3_25)] [] μ
          refine s_lload_n hX dX0_digestOn_225 rfl 0 rfl ?_
          exact s_lretr hK hR dX0_digestOn_226
