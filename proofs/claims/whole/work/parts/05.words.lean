theorem tyd_0_1 : ∀ k, k < 121 → tyOf k = 0 → tyOf (k + 1) = 3 ∧ lenOf (k + 1) = 0 := by decide +kernel
theorem ty_0_1 {k : Nat} (h : tyOf k = 0) : tyOf (k + 1) = 3 ∧ lenOf (k + 1) = 0 := tyd_0_1 k (ty_lt (by omega)) h
theorem tyd_0_2 : ∀ k, k < 121 → tyOf k = 0 → tyOf (k + 2) = 11 ∧ lenOf (k + 2) = 10 := by decide +kernel
theorem ty_0_2 {k : Nat} (h : tyOf k = 0) : tyOf (k + 2) = 11 ∧ lenOf (k + 2) = 10 := tyd_0_2 k (ty_lt (by omega)) h
theorem tyd_0_3 : ∀ k, k < 121 → tyOf k = 0 → tyOf (k + 3) = 11 ∧ lenOf (k + 3) = 10 := by decide +kernel
theorem ty_0_3 {k : Nat} (h : tyOf k = 0) : tyOf (k + 3) = 11 ∧ lenOf (k + 3) = 10 := tyd_0_3 k (ty_lt (by omega)) h
theorem tyd_0_4 : ∀ k, k < 121 → tyOf k = 0 → tyOf (k + 4) = 11 ∧ lenOf (k + 4) = 10 := by decide +kernel
theorem ty_0_4 {k : Nat} (h : tyOf k = 0) : tyOf (k + 4) = 11 ∧ lenOf (k + 4) = 10 := tyd_0_4 k (ty_lt (by omega)) h
theorem tyd_0_6 : ∀ k, k < 121 → tyOf k = 0 → tyOf (k + 6) = 6 ∧ lenOf (k + 6) = 0 := by decide +kernel
theorem ty_0_6 {k : Nat} (h : tyOf k = 0) : tyOf (k + 6) = 6 ∧ lenOf (k + 6) = 0 := tyd_0_6 k (ty_lt (by omega)) h
theorem tyd_0_7 : ∀ k, k < 121 → tyOf k = 0 → tyOf (k + 7) = 11 ∧ lenOf (k + 7) = 10 := by decide +kernel
theorem ty_0_7 {k : Nat} (h : tyOf k = 0) : tyOf (k + 7) = 11 ∧ lenOf (k + 7) = 10 := tyd_0_7 k (ty_lt (by omega)) h
theorem tyd_0_8 : ∀ k, k < 121 → tyOf k = 0 → tyOf (k + 8) = 11 ∧ lenOf (k + 8) = 10 := by decide +kernel
theorem ty_0_8 {k : Nat} (h : tyOf k = 0) : tyOf (k + 8) = 11 ∧ lenOf (k + 8) = 10 := tyd_0_8 k (ty_lt (by omega)) h
theorem tyd_0_9 : ∀ k, k < 121 → tyOf k = 0 → tyOf (k + 9) = 5 ∧ lenOf (k + 9) = 0 := by decide +kernel
theorem ty_0_9 {k : Nat} (h : tyOf k = 0) : tyOf (k + 9) = 5 ∧ lenOf (k + 9) = 0 := tyd_0_9 k (ty_lt (by omega)) h
theorem tyd_0_12 : ∀ k, k < 121 → tyOf k = 0 → tyOf (k + 12) = 11 ∧ lenOf (k + 12) = 5 := by decide +kernel
theorem ty_0_12 {k : Nat} (h : tyOf k = 0) : tyOf (k + 12) = 11 ∧ lenOf (k + 12) = 5 := tyd_0_12 k (ty_lt (by omega)) h
theorem tyd_0_13 : ∀ k, k < 121 → tyOf k = 0 → tyOf (k + 13) = 11 ∧ lenOf (k + 13) = 3 := by decide +kernel
theorem ty_0_13 {k : Nat} (h : tyOf k = 0) : tyOf (k + 13) = 11 ∧ lenOf (k + 13) = 3 := tyd_0_13 k (ty_lt (by omega)) h
theorem tyd_3_1 : ∀ k, k < 121 → tyOf k = 3 → tyOf (k + 1) = 11 ∧ lenOf (k + 1) = 10 := by decide +kernel
theorem ty_3_1 {k : Nat} (h : tyOf k = 3) : tyOf (k + 1) = 11 ∧ lenOf (k + 1) = 10 := tyd_3_1 k (ty_lt (by omega)) h
theorem tyd_3_2 : ∀ k, k < 121 → tyOf k = 3 → tyOf (k + 2) = 11 ∧ lenOf (k + 2) = 10 := by decide +kernel
theorem ty_3_2 {k : Nat} (h : tyOf k = 3) : tyOf (k + 2) = 11 ∧ lenOf (k + 2) = 10 := tyd_3_2 k (ty_lt (by omega)) h
theorem tyd_3_3 : ∀ k, k < 121 → tyOf k = 3 → tyOf (k + 3) = 11 ∧ lenOf (k + 3) = 10 := by decide +kernel
theorem ty_3_3 {k : Nat} (h : tyOf k = 3) : tyOf (k + 3) = 11 ∧ lenOf (k + 3) = 10 := tyd_3_3 k (ty_lt (by omega)) h
theorem tyd_3_4 : ∀ k, k < 121 → tyOf k = 3 → tyOf (k + 4) = 11 ∧ lenOf (k + 4) = 5 := by decide +kernel
theorem ty_3_4 {k : Nat} (h : tyOf k = 3) : tyOf (k + 4) = 11 ∧ lenOf (k + 4) = 5 := tyd_3_4 k (ty_lt (by omega)) h
theorem tyd_5_1 : ∀ k, k < 121 → tyOf k = 5 → tyOf (k + 1) = 11 ∧ lenOf (k + 1) = 10 := by decide +kernel
theorem ty_5_1 {k : Nat} (h : tyOf k = 5) : tyOf (k + 1) = 11 ∧ lenOf (k + 1) = 10 := tyd_5_1 k (ty_lt (by omega)) h
theorem tyd_5_2 : ∀ k, k < 121 → tyOf k = 5 → tyOf (k + 2) = 11 ∧ lenOf (k + 2) = 100 := by decide +kernel
theorem ty_5_2 {k : Nat} (h : tyOf k = 5) : tyOf (k + 2) = 11 ∧ lenOf (k + 2) = 100 := tyd_5_2 k (ty_lt (by omega)) h
theorem tyd_6_1 : ∀ k, k < 121 → tyOf k = 6 → tyOf (k + 1) = 11 ∧ lenOf (k + 1) = 10 := by decide +kernel
theorem ty_6_1 {k : Nat} (h : tyOf k = 6) : tyOf (k + 1) = 11 ∧ lenOf (k + 1) = 10 := tyd_6_1 k (ty_lt (by omega)) h
theorem tyd_6_2 : ∀ k, k < 121 → tyOf k = 6 → tyOf (k + 2) = 11 ∧ lenOf (k + 2) = 10 := by decide +kernel
theorem ty_6_2 {k : Nat} (h : tyOf k = 6) : tyOf (k + 2) = 11 ∧ lenOf (k + 2) = 10 := tyd_6_2 k (ty_lt (by omega)) h
theorem hc0 : ∃ T N, clX[0]? = some (RX0, T, N) := ⟨_, _, rfl⟩
theorem hc1 : ∃ T N, clX[1]? = some (RX1, T, N) := ⟨_, _, rfl⟩
theorem hc2 : ∃ T N, clX[2]? = some (RX2, T, N) := ⟨_, _, rfl⟩
theorem hc3 : ∃ T N, clX[3]? = some (RX3, T, N) := ⟨_, _, rfl⟩
theorem hc4 : ∃ T N, clX[4]? = some (RX5, T, N) := ⟨_, _, rfl⟩
theorem hc5 : ∃ T N, clX[5]? = some (RX6, T, N) := ⟨_, _, rfl⟩
theorem hc6 : ∃ T N, clX[6]? = some (RX7, T, N) := ⟨_, _, rfl⟩
theorem hc7 : ∃ T N, clX[7]? = some (RX8, T, N) := ⟨_, _, rfl⟩
theorem hc8 : ∃ T N, clX[8]? = some (RX9, T, N) := ⟨_, _, rfl⟩
theorem hc9 : ∃ T N, clX[9]? = some (RX10, T, N) := ⟨_, _, rfl⟩
theorem hc10 : ∃ T N, clX[10]? = some (RX11, T, N) := ⟨_, _, rfl⟩
theorem kcJ6_265 : Cond.constant RJ6 265 1431655765 ∈ TB := tb 804 (by decide +kernel) (by decide)
theorem kcJ6_266 : Cond.constant RJ6 266 858993459 ∈ TB := tb 805 (by decide +kernel) (by decide)
theorem kcJ6_267 : Cond.constant RJ6 267 252645135 ∈ TB := tb 806 (by decide +kernel) (by decide)
theorem kcX10_292 : Cond.constant RX10 292 999999 ∈ TB := tb 895 (by decide +kernel) (by decide)
theorem kcX11_216 : Cond.constant RX11 216 1000000 ∈ TB := tb 1196 (by decide +kernel) (by decide)
theorem kcX11_281 : Cond.constant RX11 281 (-100000) ∈ TB := tb 1310 (by decide +kernel) (by decide)
theorem klX0_119 : Cond.constantLong RX0 119 31 ∈ TB := tb 936 (by decide +kernel) (by decide)
theorem klX10_293 : Cond.constantLong RX10 293 1103515245 ∈ TB := tb 896 (by decide +kernel) (by decide)
theorem klX10_295 : Cond.constantLong RX10 295 12345 ∈ TB := tb 897 (by decide +kernel) (by decide)
theorem klX10_297 : Cond.constantLong RX10 297 2147483648 ∈ TB := tb 898 (by decide +kernel) (by decide)
theorem klX10_299 : Cond.constantLong RX10 299 65536 ∈ TB := tb 899 (by decide +kernel) (by decide)
theorem klX10_301 : Cond.constantLong RX10 301 10 ∈ TB := tb 900 (by decide +kernel) (by decide)
theorem klX10_306 : Cond.constantLong RX10 306 (-100000) ∈ TB := tb 905 (by decide +kernel) (by decide)
theorem klX10_311 : Cond.constantLong RX10 311 853 ∈ TB := tb 930 (by decide +kernel) (by decide)
theorem klX10_313 : Cond.constantLong RX10 313 31 ∈ TB := tb 931 (by decide +kernel) (by decide)
theorem klX11_59 : Cond.constantLong RX11 59 5 ∈ TB := tb 1012 (by decide +kernel) (by decide)
theorem klX11_65 : Cond.constantLong RX11 65 99 ∈ TB := tb 1032 (by decide +kernel) (by decide)
theorem klX11_82 : Cond.constantLong RX11 82 9 ∈ TB := tb 1069 (by decide +kernel) (by decide)
theorem klX11_84 : Cond.constantLong RX11 84 10 ∈ TB := tb 1074 (by decide +kernel) (by decide)
theorem klX11_90 : Cond.constantLong RX11 90 127 ∈ TB := tb 1091 (by decide +kernel) (by decide)
theorem klX11_99 : Cond.constantLong RX11 99 117095065 ∈ TB := tb 1117 (by decide +kernel) (by decide)
theorem klX11_101 : Cond.constantLong RX11 101 12788 ∈ TB := tb 1118 (by decide +kernel) (by decide)
theorem klX11_103 : Cond.constantLong RX11 103 254271112 ∈ TB := tb 1119 (by decide +kernel) (by decide)
theorem klX11_105 : Cond.constantLong RX11 105 3554980 ∈ TB := tb 1120 (by decide +kernel) (by decide)
theorem klX11_107 : Cond.constantLong RX11 107 605220 ∈ TB := tb 1121 (by decide +kernel) (by decide)
theorem klX11_109 : Cond.constantLong RX11 109 8029764 ∈ TB := tb 1122 (by decide +kernel) (by decide)
theorem klX11_120 : Cond.constantLong RX11 120 32 ∈ TB := tb 1112 (by decide +kernel) (by decide)
theorem klX11_122 : Cond.constantLong RX11 122 97 ∈ TB := tb 1113 (by decide +kernel) (by decide)
theorem klX11_194 : Cond.constantLong RX11 194 4 ∈ TB := tb 1178 (by decide +kernel) (by decide)
theorem klX11_214 : Cond.constantLong RX11 214 2 ∈ TB := tb 1195 (by decide +kernel) (by decide)
theorem klX11_263 : Cond.constantLong RX11 263 40 ∈ TB := tb 1285 (by decide +kernel) (by decide)
theorem klX11_265 : Cond.constantLong RX11 265 999 ∈ TB := tb 1290 (by decide +kernel) (by decide)
theorem klX11_267 : Cond.constantLong RX11 267 3 ∈ TB := tb 1295 (by decide +kernel) (by decide)
theorem klX11_269 : Cond.constantLong RX11 269 60 ∈ TB := tb 1300 (by decide +kernel) (by decide)
theorem klX11_271 : Cond.constantLong RX11 271 999999 ∈ TB := tb 1301 (by decide +kernel) (by decide)
theorem klX11_273 : Cond.constantLong RX11 273 1103515245 ∈ TB := tb 1302 (by decide +kernel) (by decide)
theorem klX11_275 : Cond.constantLong RX11 275 12345 ∈ TB := tb 1303 (by decide +kernel) (by decide)
theorem klX11_277 : Cond.constantLong RX11 277 2147483648 ∈ TB := tb 1304 (by decide +kernel) (by decide)
theorem klX11_279 : Cond.constantLong RX11 279 65536 ∈ TB := tb 1305 (by decide +kernel) (by decide)
theorem klX11_282 : Cond.constantLong RX11 282 6 ∈ TB := tb 1327 (by decide +kernel) (by decide)
theorem klX11_287 : Cond.constantLong RX11 287 31 ∈ TB := tb 1337 (by decide +kernel) (by decide)
theorem klX11_289 : Cond.constantLong RX11 289 853 ∈ TB := tb 1336 (by decide +kernel) (by decide)
theorem klX9_46 : Cond.constantLong RX9 46 10 ∈ TB := tb 741 (by decide +kernel) (by decide)
theorem ksX10_272 : Cond.fieldLink RX10 272 "DragonTithe" "FACTORIALS" "[I" ∈ TB := tb 854 (by decide +kernel) (by decide)
theorem ksX8_48 : Cond.fieldLink RX8 48 "DragonTithe$Scroll" "NUMBERS_BEHIND" "[I" ∈ TB := tb 565 (by decide +kernel) (by decide)
theorem skJ0_checkIndex_df160 : SKx yJ0_checkIndex_df160 := tb 527 (by decide +kernel) (by decide)
theorem skJ1_charAt_3b067 : SKx yJ1_charAt_3b067 := tb 524 (by decide +kernel) (by decide)
theorem skJ3_checkIndex_8e157 : SKx yJ3_checkIndex_8e157 := tb 532 (by decide +kernel) (by decide)
theorem skJ6_bitCount_0f7a4 : SKx yJ6_bitCount_0f7a4 := tb 802 (by decide +kernel) (by decide)
theorem skX10_commonDivisor : SKx yX10_commonDivisor := tb 755 (by decide +kernel) (by decide)
theorem skX10_ordersWith : SKx yX10_ordersWith := tb 852 (by decide +kernel) (by decide)
theorem skX11_bits : SKx yX11_bits := tb 1257 (by decide +kernel) (by decide)
theorem skX11_divisor : SKx yX11_divisor := tb 1226 (by decide +kernel) (by decide)
theorem skX11_in : SKx yX11_in := tb 1014 (by decide +kernel) (by decide)
theorem skX11_loss : SKx yX11_loss := tb 1268 (by decide +kernel) (by decide)
theorem skX11_numbers : SKx yX11_numbers := tb 1124 (by decide +kernel) (by decide)
theorem skX11_orders : SKx yX11_orders := tb 1279 (by decide +kernel) (by decide)
theorem skX11_seenOf : SKx yX11_seenOf := tb 1165 (by decide +kernel) (by decide)
theorem skX11_takenOf : SKx yX11_takenOf := tb 1168 (by decide +kernel) (by decide)
theorem skX11_verbOf : SKx yX11_verbOf := tb 1115 (by decide +kernel) (by decide)
theorem skX3_greatestIn : SKx yX3_greatestIn := tb 627 (by decide +kernel) (by decide)
theorem skX4_grows : SKx yX4_grows := tb 648 (by decide +kernel) (by decide)
theorem skX4_seen : SKx yX4_seen := tb 620 (by decide +kernel) (by decide)
theorem skX4_taken : SKx yX4_taken := tb 638 (by decide +kernel) (by decide)
theorem skX8_nameOf : SKx yX8_nameOf := tb 493 (by decide +kernel) (by decide)
theorem kw_copy : Cond.native arraycopyName ∈ TB ∧ Cond.static arraycopyName ∈ TB ∧ Cond.initialized "java/lang/System" ∈ TB := ⟨tb 406 (by decide +kernel) (by decide), tb 405 (by decide +kernel) (by decide), tb 12 (by decide +kernel) (by decide)⟩
theorem kfJ0_9 : Cond.fieldLink RJ0 9 "java/lang/String" "value" "[B" ∈ TB := tb 1342 (by decide +kernel) (by decide)
theorem kfJ0_15 : Cond.fieldLink RJ0 15 "java/lang/String" "coder" "B" ∈ TB := tb 1343 (by decide +kernel) (by decide)
theorem kfJ0_38 : Cond.fieldLink RJ0 38 "java/lang/String" "COMPACT_STRINGS" "Z" ∈ TB := tb 513 (by decide +kernel) (by decide)
theorem kfJ0_1053 : Cond.fieldLink RJ0 1053 "jdk/internal/util/Preconditions" "SIOOBE_FORMATTER" "Ljava/util/function/BiFunction;" ∈ TB := tb 529 (by decide +kernel) (by decide)
def rfV (g : GT) (k : Nat) : Value := .ref (gV g k)
def SCH (w j : Nat) : Int32 := (SBYT.getD w []).getD j 0
def ckN {α : Type} (y : Int32) (x : Option α) : Option α := if (y.toUInt32 % 65536).toInt32 = y then x else none
section SIMS
variable {g : GT} {G : GP} {cc : ByteArray} {own : String} {nL n : Nat} {α : Type} {Pr : Option α} {K : α → Prop} {pc : Nat} {lv : LV} {st : List Value} {μ : Mem}
theorem s_none : Sim G (none : Option α) K pc lv st μ := fun a h => by cases h
theorem s_ckN {y : Int32} (k : (y.toUInt32 % 65536).toInt32 = y → Sim G Pr K pc lv st μ) : Sim G (ckN y Pr) K pc lv st μ := by
  intro a h1 h2
  unfold ckN at h1
  by_cases hy : (y.toUInt32 % 65536).toInt32 = y
  · rw [if_pos hy] at h1; exact k hy a h1 h2
  · rw [if_neg hy] at h1; cases h1
theorem nByte {r : Int32} (h : r = 0 ∨ r = 1) : narrow .byte (.int r) = .int r := by rcases h with rfl | rfl <;> rfl
theorem nChar {r : Int32} (h : (r.toUInt32 % 65536).toInt32 = r) : narrow .char (.int r) = .int r := by
  have := pk_nc r
  rwa [h] at this
theorem s_nretr {β : Type} {inj : Int32 → β} {K : β → Prop} {r0 v : Int32} {ty : FieldType} (hv : narrow ty (.int v) = .int v) (hK : ∀ r, K (inj r) → r = r0) (hR : ∀ pc lv, decode cc pc = .ok (.ireturn, 1) → narrow ty (.int r0) = .int r0 → G pc lv [.int r0] μ) (hd : decode cc pc = .ok (.ireturn, 1)) : Sim G (some (inj v)) K pc lv [.int v] μ := fun a h1 h2 => by
  cases h1
  cases hK _ h2
  exact hR _ _ hd hv
theorem s_vretr {β : Type} {inj : Unit → β} {K : β → Prop} (hK : ∀ r, K (inj r) → r = ()) (hR : ∀ pc lv, decode cc pc = .ok (.return_, 1) → G pc lv [] μ) (hd : decode cc pc = .ok (.return_, 1)) : Sim G (some (inj ())) K pc lv [] μ := fun a h1 h2 => hR _ _ hd
def CS (g : GT) (y : MethodName) (cc : ByteArray) (maxL : Nat) (ret : Option FieldType) (n : Nat) (av : List Value) (μ : Mem) (r : Nat) (ν : Mem) : Prop := Mt g y cc maxL ret n av μ (va_Qr (fun u => u = ν ∧ r < 6) (fun u a t => a = gK g r ∧ PB g u t) (gA g))
theorem s_Sret {β : Type} {inj : Nat → β} {K : β → Prop} {r0 v : Nat} (hv : v < 6) (hK : ∀ r, K (inj r) → r = r0) (hR : ∀ pc lv, decode cc pc = .ok (.areturn, 1) → r0 < 6 → G pc lv [rfS g r0] μ) (hd : decode cc pc = .ok (.areturn, 1)) : Sim G (some (inj v)) K pc lv [rfS g v] μ := fun a h1 h2 => by
  cases h1
  cases hK _ h2
  exact hR _ _ hd hv
theorem mk_n {y : MethodName} {yc : ByteArray} {maxL N : Nat} {av : List Value} {μ0 ν : Mem} {r : Int32} {ty : FieldType} (hy : plainName y.cls = true) (hav : (lg_sl av).length ≤ maxL) (body : ∀ G, CX g G yc y.cls maxL N → (∀ pc lv, decode yc pc = .ok (.ireturn, 1) → narrow ty (.int r) = .int r → G pc lv [.int r] ν) → G 0 (lv_args 0 av) [] μ0) : CI g y yc maxL (some ty) N av μ0 r ν := by
  refine Met.ofW (cc := yc) (maxL := maxL) (ret := some ty) hy rfl ?_
  intro p e s m args below meth c s₁ B hml hv
  obtain ⟨rfl, hP0, hK, hT, hO⟩ := hv
  have hx := B.exec
  have hb := B.bytes
  have hr := B.returns
  have hts := atoms_spec (ws := Cond.code y yc maxL (some ty) :: TB) B.pre
  have hown : s.vm.findClass y.cls = some m.cls := findClass_of_methodNamed B.named
  have hlocks := B.notSynchronized
  have hl := lv_entry av (n := maxL) hav
  rw [lg_entry_eq]
  refine body _ ⟨p, e, RM N, s, m, _, below, meth, c, 0, 0, _, rfl, hx, hb, hml, hown, fun w hw => hts w (List.mem_cons_of_mem _ hw), hK, hT, hO, Nat.le_refl _, Nat.le_refl _, Nat.le_refl _, Nat.le_refl _⟩ ?_ s.heap [] _ hP0 va_S.rf hl
  intro pc lv hd hzz H locs ls hP hS _
  exact W.zret hx hb hr hzz (fun t ht hW => ⟨⟨r, ν, rfl, ⟨rfl, rfl⟩, by show PW g ν t.heap; rw [ht]; exact hP⟩, hS.F ht⟩) hS.2.2 hd
theorem mk_S {y : MethodName} {yc : ByteArray} {maxL N : Nat} {av : List Value} {μ0 ν : Mem} {r : Nat} (hy : plainName y.cls = true) (hav : (lg_sl av).length ≤ maxL) (body : ∀ G, CX g G yc y.cls maxL N → (∀ pc lv, decode yc pc = .ok (.areturn, 1) → r < 6 → G pc lv [rfS g r] ν) → G 0 (lv_args 0 av) [] μ0) : CS g y yc maxL (some (.object "java/lang/String")) N av μ0 r ν := by
  refine Met.ofW (cc := yc) (maxL := maxL) (ret := some (.object "java/lang/String")) hy rfl ?_
  intro p e s m args below meth c s₁ B hml hv
  obtain ⟨rfl, hP0, hK, hT, hO⟩ := hv
  have hx := B.exec
  have hb := B.bytes
  have hr := B.returns
  have hts := atoms_spec (ws := Cond.code y yc maxL (some (.object "java/lang/String")) :: TB) B.pre
  have hown : s.vm.findClass y.cls = some m.cls := findClass_of_methodNamed B.named
  have hlocks := B.notSynchronized
  have hl := lv_entry av (n := maxL) hav
  rw [lg_entry_eq]
  refine body _ ⟨p, e, RM N, s, m, _, below, meth, c, 0, 0, _, rfl, hx, hb, hml, hown, fun w hw => hts w (List.mem_cons_of_mem _ hw), hK, hT, hO, Nat.le_refl _, Nat.le_refl _, Nat.le_refl _, Nat.le_refl _⟩ ?_ s.heap [] _ hP0 va_S.rf hl
  intro pc lv hd hzz H locs ls hP hS _
  exact W.aret (v := rfS g r) hx hb hr (Or.inl ⟨_, rfl⟩) (Or.inr ⟨_, rfl⟩) (fun t ht hW => ⟨⟨ν, gK g r, rfl, ⟨rfl, hzz⟩, rfl, by show PW g ν t.heap; rw [ht]; exact hP⟩, hS.F ht⟩) hS.2.2 hd
theorem s_Vload_n (hX : CX g G cc own nL n) {q : Fin 4} {i : Nat} {x : Nat} (hd : decode cc pc = .ok (.aload_n q, 1)) (hi : (q : Nat) = i) (k0 : Nat) (h0 : lv[k0]? = some (i, rfV g x)) (k : Sim G Pr K (pc + 1) lv (rfV g x :: st) μ) : Sim G Pr K pc lv (st) μ := by
  obtain ⟨p, e, R, s, m, args, below, meth, c, cells, slots, Q, rfl, hx, hb, hml, hown, hts, hK, hT, hO, hn1, hn2, hn3, hn4⟩ := hX
  exact fun a h1 h2 H locs ls hP hS hl => lv_aload_n hx hb hd hi (lv_at hl k0 h0) (k a h1 h2 H locs ls hP hS hl)
theorem s_ldcS (w : Nat) (hX : CX g G cc "DragonTithe$Scroll" nL n) (hd : decode cc pc = .ok (.ldc (80 + 2 * w), 2)) (hw : w < 6) (k : Sim G Pr K (pc + 2) lv (rfS g w :: st) μ) : Sim G Pr K pc lv st μ := by
  obtain ⟨p, e, R, s, m, args, below, meth, c, cells, slots, Q, rfl, hx, hb, hml, hown, hts, hK, hT, hO, hn1, hn2, hn3, hn4⟩ := hX
  exact fun a h1 h2 H locs ls hP hS hl => va_ldcS hx hb hown (hT.2.2.2.1 w hw) hd (k a h1 h2 H locs ls hP hS hl)
theorem s_getSv (hX : CX g G cc own nL n) {w idx : Nat} (hw : w < 6) (hk : Cond.fieldLink own idx "java/lang/String" "value" "[B" ∈ TB) (hd : decode cc pc = .ok (.getfield idx, 3)) (k : Sim G Pr K (pc + 3) lv (rfV g w :: st) μ) : Sim G Pr K pc lv (rfS g w :: st) μ := by
  obtain ⟨p, e, R, s, m, args, below, meth, c, cells, slots, Q, rfl, hx, hb, hml, hown, hts, hK, hT, hO, hn1, hn2, hn3, hn4⟩ := hX
  intro a h1 h2 H locs ls hP hS hl
  obtain ⟨cf, kc, fi, f, cell, q1, q2, q3, q4, q5, q6⟩ := ((hT.2.2.1.1 w hw).2.2.1).kept hS.2.1
  exact W.getf hx hb hown (hts _ hk) q1 q2 q3 q4 (v := rfV g w) q5 rfl rfl hd (k a h1 h2 H locs ls hP hS hl)
theorem s_getSc (hX : CX g G cc own nL n) {w idx : Nat} (hw : w < 6) (hk : Cond.fieldLink own idx "java/lang/String" "coder" "B" ∈ TB) (hd : decode cc pc = .ok (.getfield idx, 3)) (k : Sim G Pr K (pc + 3) lv (.int 0 :: st) μ) : Sim G Pr K pc lv (rfS g w :: st) μ := by
  obtain ⟨p, e, R, s, m, args, below, meth, c, cells, slots, Q, rfl, hx, hb, hml, hown, hts, hK, hT, hO, hn1, hn2, hn3, hn4⟩ := hX
  intro a h1 h2 H locs ls hP hS hl
  obtain ⟨cf, kc, fi, f, cell, q1, q2, q3, q4, q5, q6⟩ := ((hT.2.2.1.1 w hw).2.1).kept hS.2.1
  exact W.getf hx hb hown (hts _ hk) q1 q2 q3 q4 (v := .int 0) q5 rfl rfl hd (k a h1 h2 H locs ls hP hS hl)
theorem s_getsC (hX : CX g G cc own nL n) {idx : Nat} (hw : Cond.fieldLink own idx "java/lang/String" "COMPACT_STRINGS" "Z" ∈ TB) (hd : decode cc pc = .ok (.getstatic idx, 3)) (kk : Sim G Pr K (pc + 3) lv (.int 1 :: st) μ) : Sim G Pr K pc lv st μ := by
  obtain ⟨p, e, R, s, m, args, below, meth, c, cells, slots, Q, rfl, hx, hb, hml, hown, hts, hK, hT, hO, hn1, hn2, hn3, hn4⟩ := hX
  exact fun a h1 h2 H locs ls hP hS hl => va_gets hx hb hT.2.2.2.2.1 hS hown (hts _ hw) (fun _ h => h) hd (kk a h1 h2 H locs ls hP hS hl)
theorem s_getsF (hX : CX g G cc own nL n) {idx : Nat} (hw : Cond.fieldLink own idx "jdk/internal/util/Preconditions" "SIOOBE_FORMATTER" "Ljava/util/function/BiFunction;" ∈ TB) (hd : decode cc pc = .ok (.getstatic idx, 3)) (kk : ∀ v : Value, (v = .null ∨ ∃ t, v = .ref t) → Sim G Pr K (pc + 3) lv (v :: st) μ) : Sim G Pr K pc lv st μ := by
  obtain ⟨p, e, R, s, m, args, below, meth, c, cells, slots, Q, rfl, hx, hb, hml, hown, hts, hK, hT, hO, hn1, hn2, hn3, hn4⟩ := hX
  intro a h1 h2 H locs ls hP hS hl
  rcases hT.2.2.2.2.2 with h | ⟨t, h⟩
  · exact va_gets hx hb h hS hown (hts _ hw) (fun _ h => h) hd (kk _ (Or.inl rfl) a h1 h2 H locs ls hP hS hl)
  · exact va_gets hx hb h hS hown (hts _ hw) (fun _ h => h) hd (kk _ (Or.inr ⟨t, rfl⟩) a h1 h2 H locs ls hP hS hl)
theorem s_vlen (hX : CX g G cc own nL n) {w : Nat} (hw : w < 6) (hd : decode cc pc = .ok (.arraylength, 1)) (kk : Sim G Pr K (pc + 1) lv (.int (Int32.ofNat (SLEN.getD w 0)) :: st) μ) : Sim G Pr K pc lv (rfV g w :: st) μ := by
  obtain ⟨p, e, R, s, m, args, below, meth, c, cells, slots, Q, rfl, hx, hb, hml, hown, hts, hK, hT, hO, hn1, hn2, hn3, hn4⟩ := hX
  exact fun a h1 h2 H locs ls hP hS hl => va_tlen hx hb (hT.2.2.1.1 w hw).2.2.2 hS rfl hd (kk a h1 h2 H locs ls hP hS hl)
theorem s_vald (hX : CX g G cc own nL n) {w : Nat} {i : Int32} (hw : w < 6) (hd : decode cc pc = .ok (.baload, 1)) (kk : Sim G Pr K (pc + 1) lv (.int (SCH w (ix i)) :: st) μ) : Sim G (chk i (SLEN.getD w 0) Pr) K pc lv (.int i :: rfV g w :: st) μ := by
  obtain ⟨p, e, R, s, m, args, below, meth, c, cells, slots, Q, rfl, hx, hb, hml, hown, hts, hK, hT, hO, hn1, hn2, hn3, hn4⟩ := hX
  intro a h1 h2
  unfold chk at h1
  by_cases hin : ¬ (i < 0 ∨ SLEN.getD w 0 ≤ ix i)
  · rw [if_pos hin] at h1
    exact fun H locs ls hP hS hl => va_tb hx hb (hT.2.2.1.1 w hw).2.2.2 hS hin rfl hd (kk a h1 h2 H locs ls hP hS hl)
  · rw [if_neg hin] at h1; cases h1
theorem s_callUir (hX : CX g G cc own nL n) {y : MethodName} {yc : ByteArray} {maxL idx n' : Nat} {ret : Option FieldType} {F : Option Int32} {f : Int32 → Option α} {st0 : List Value} (As : List Value) {w np : Nat} (hw : w < 6) (hv : VKx "java/lang/String" y) (hM : ∀ r, F = some r → CI g y yc maxL ret n' (rfS g w :: As) μ r μ) (hy : MKx y yc maxL ret np) (hc : CVx own idx y) (hn : As.length = np) (hst : st0 = As.reverse ++ rfS g w :: st) (hrm : n' + 1 ≤ n ∧ maxL ≤ 45 ∧ (st.map fun v => v.category).sum ≤ 8) (hd : decode cc pc = .ok (.invokevirtual idx, 3)) (kk : ∀ r, Sim G (f r) K (pc + 3) lv (.int r :: st) μ) : Sim G (bd F f) K pc lv st0 μ := by
  obtain ⟨p, e, R, s, m, args, below, meth, c, cells, slots, Q, rfl, hx, hb, hml, hown, hts, hK, hT, hO, hn1, hn2, hn3, hn4⟩ := hX
  obtain ⟨y1, y2, y3, y4⟩ := hy
  intro a h1 h2
  cases hF : F with
  | none => rw [hF] at h1; cases h1
  | some z =>
    rw [hF] at h1
    intro H locs ls hP hS hl
    subst hst
    have cb := callB_of (R := R) (rm := RM n') (mc := 0) (ms := 0) np hts (goodTB y1) rfl rfl rfl (hts _ y2) (hts _ hc) ⟨y3.1, y3.2, y4⟩ ⟨by show n' + 1 ≤ R.frames; omega, by show 8 + (maxL + 11) + 64 * n' ≤ R.locals; omega⟩
    have hrun := va_runV (As := As) (rest := st) (g := F0 m pc ls (As.reverse ++ rfS g w :: st)) (locs := locs) (cells := cells) (slots := slots) (below := below) (e := e) (meth := meth) ⟨hx, hb, hml, hown, hts⟩ (hM z hF) ⟨cb, hts _ hv.1, hts _ hv.2⟩ ⟨Wd.blind, va_Orecv (hT.2.2.1.1 w hw).1 hS, fun U hU hW => ⟨rfl, by show PW g μ U.heap; rw [hU]; exact hP, va_K.moved hW.alike hK, (Stt.warm hW hT).kept (fun q hq hA => by rw [hU]; exact hS.2.1 q hq hA), hO⟩⟩ rfl hn hl.1 rfl (lv_room hrm.2.2) hd ⟨by omega, by omega⟩
    refine va_calli hrun hS (fun q _ h => h) (fun q h => h) (fun r1 u t H1 locs1 ht hvm hw hB hz hk1 hS1 => ?_)
    obtain ⟨rfl, rfl⟩ := hw
    subst ht
    exact kk _ a h1 h2 _ locs1 ls hB hS1 hl
theorem s_callSvr (hX : CX g G cc own nL n) {y : MethodName} {yc : ByteArray} {maxL idx n' : Nat} {ret : Option FieldType} {F : Option Unit} {f : Unit → Option α} {st0 : List Value} (As : List Value) {np : Nat} (hv : SKx y) (hM : F = some () → CV g y yc maxL ret n' As μ μ) (hy : MKx y yc maxL ret np) (hc : CVx own idx y) (hn : As.length = np) (hst : st0 = As.reverse ++ st) (hrm : n' + 1 ≤ n ∧ maxL ≤ 45 ∧ (st.map fun v => v.category).sum ≤ 8) (hd : decode cc pc = .ok (.invokestatic idx, 3)) (kk : Sim G (f ()) K (pc + 3) lv st μ) : Sim G (bd F f) K pc lv st0 μ := by
  obtain ⟨p, e, R, s, m, args, below, meth, c, cells, slots, Q, rfl, hx, hb, hml, hown, hts, hK, hT, hO, hn1, hn2, hn3, hn4⟩ := hX
  obtain ⟨y1, y2, y3, y4⟩ := hy
  intro a h1 h2
  cases hF : F with
  | none => rw [hF] at h1; cases h1
  | some z =>
    rw [hF] at h1
    intro H locs ls hP hS hl
    subst hst
    have cb := callB_of (R := R) (rm := RM n') (mc := 0) (ms := 0) np hts (goodTB y1) rfl rfl rfl (hts _ y2) (hts _ hc) ⟨y3.1, y3.2, y4⟩ ⟨by show n' + 1 ≤ R.frames; omega, by show 8 + (maxL + 11) + 64 * n' ≤ R.locals; omega⟩
    have hrun := va_runS (As := As) (rest := st) (g := F0 m pc ls (As.reverse ++ st)) (locs := locs) (cells := cells) (slots := slots) (below := below) (e := e) (meth := meth) ⟨hx, hb, hml, hown, hts⟩ (hM hF) ⟨cb, hts _ hv⟩ ⟨Wd.blind, fun U hU hW => ⟨rfl, by show PW g μ U.heap; rw [hU]; exact hP, va_K.moved hW.alike hK, (Stt.warm hW hT).kept (fun q hq hA => by rw [hU]; exact hS.2.1 q hq hA), hO⟩⟩ rfl hn hl.1 rfl (lv_room hrm.2.2) hd ⟨by omega, by omega⟩
    refine va_callv hrun hS (fun q _ h => h) (fun q h => h) (fun u t H1 locs1 ht hvm hw hB hz hk1 hS1 => ?_)
    subst hw
    subst ht
    exact kk a h1 h2 _ locs1 ls hB hS1 hl
theorem s_callSSr (hX : CX g G cc own nL n) {y : MethodName} {yc : ByteArray} {maxL idx n' : Nat} {ret : Option FieldType} {F : Option Nat} {f : Nat → Option α} {st0 : List Value} (As : List Value) {np : Nat} (hv : SKx y) (hM : ∀ r, F = some r → CS g y yc maxL ret n' As μ r μ) (hy : MKx y yc maxL ret np) (hc : CVx own idx y) (hn : As.length = np) (hst : st0 = As.reverse ++ st) (hrm : n' + 1 ≤ n ∧ maxL ≤ 45 ∧ (st.map fun v => v.category).sum ≤ 8) (hd : decode cc pc = .ok (.invokestatic idx, 3)) (kk : ∀ r, r < 6 → Sim G (f r) K (pc + 3) lv (rfS g r :: st) μ) : Sim G (bd F f) K pc lv st0 μ := by
  obtain ⟨p, e, R, s, m, args, below, meth, c, cells, slots, Q, rfl, hx, hb, hml, hown, hts, hK, hT, hO, hn1, hn2, hn3, hn4⟩ := hX
  obtain ⟨y1, y2, y3, y4⟩ := hy
  intro a h1 h2
  cases hF : F with
  | none => rw [hF] at h1; cases h1
  | some z =>
    rw [hF] at h1
    intro H locs ls hP hS hl
    subst hst
    have cb := callB_of (R := R) (rm := RM n') (mc := 0) (ms := 0) np hts (goodTB y1) rfl rfl rfl (hts _ y2) (hts _ hc) ⟨y3.1, y3.2, y4⟩ ⟨by show n' + 1 ≤ R.frames; omega, by show 8 + (maxL + 11) + 64 * n' ≤ R.locals; omega⟩
    have hrun := va_runS (As := As) (rest := st) (g := F0 m pc ls (As.reverse ++ st)) (locs := locs) (cells := cells) (slots := slots) (below := below) (e := e) (meth := meth) ⟨hx, hb, hml, hown, hts⟩ (hM z hF) ⟨cb, hts _ hv⟩ ⟨Wd.blind, fun U hU hW => ⟨rfl, by show PW g μ U.heap; rw [hU]; exact hP, va_K.moved hW.alike hK, (Stt.warm hW hT).kept (fun q hq hA => by rw [hU]; exact hS.2.1 q hq hA), hO⟩⟩ rfl hn hl.1 rfl (lv_room hrm.2.2) hd ⟨by omega, by omega⟩
    refine va_callr hrun hS (fun q _ h => h) (fun q h => h) (fun u ra t H1 locs1 ht hvm hw hB hz hk1 hS1 => ?_)
    obtain ⟨rfl, hz6⟩ := hw
    obtain ⟨rfl, hB⟩ := hB
    subst ht
    exact kk _ hz6 a h1 h2 _ locs1 ls hB hS1 hl
theorem kw_min : Cond.static Lib.Math.min.name ∈ TB ∧ Cond.initialized "java/lang/Math" ∈ TB ∧ Cond.code Lib.Math.min.name Lib.Math.min.code 2 (some .int) ∈ TB := ⟨tb 641 (by decide +kernel) (by decide), tb 18 (by decide +kernel) (by decide), tb 642 (by decide +kernel) (by decide)⟩
theorem kw_abs : Cond.static Lib.MathLoose.abs_long.x ∈ TB ∧ Cond.initialized "java/lang/Math" ∈ TB ∧ Cond.code Lib.MathLoose.abs_long.x Lib.MathLoose.abs_long.code 2 (some .long) ∈ TB := ⟨tb 752 (by decide +kernel) (by decide), tb 18 (by decide +kernel) (by decide), tb 753 (by decide +kernel) (by decide)⟩
theorem s_min (hX : CX g G cc own nL n) {x y : Int32} {idx : Nat} (hc : CVx own idx Lib.Math.min.name) (hn : 1 ≤ n) (hs : (st.map fun v => v.category).sum ≤ 8) (hd : decode cc pc = .ok (.invokestatic idx, 3)) (k : Sim G Pr K (pc + 3) lv (.int (if y < x then y else x) :: st) μ) : Sim G Pr K pc lv (.int y :: .int x :: st) μ := by
  obtain ⟨p, e, R, s, m, args, below, meth, c, cells, slots, Q, rfl, hx, hb, hml, hown, hts, hK, hT, hO, hn1, hn2, hn3, hn4⟩ := hX
  exact fun a h1 h2 H locs ls hP hS hl => va_mmin hx hb (by rw [hml]; exact hl.1.symm) hown (hts _ hc) (hts _ kw_min.1) (hts _ kw_min.2.1) (hts _ kw_min.2.2) (by omega) (by omega) hn3 hn4 hd (k a h1 h2 H locs ls hP hS hl)
theorem s_abs (hX : CX g G cc own nL n) {x : Int64} {idx : Nat} (hc : CVx own idx Lib.MathLoose.abs_long.x) (hn : 1 ≤ n) (hs : (st.map fun v => v.category).sum ≤ 8) (hd : decode cc pc = .ok (.invokestatic idx, 3)) (k : Sim G Pr K (pc + 3) lv (.long (if 0 < x then x else -x) :: st) μ) : Sim G Pr K pc lv (.long x :: st) μ := by
  obtain ⟨p, e, R, s, m, args, below, meth, c, cells, slots, Q, rfl, hx, hb, hml, hown, hts, hK, hT, hO, hn1, hn2, hn3, hn4⟩ := hX
  exact fun a h1 h2 H locs ls hP hS hl => va_mabs_long hx hb (by rw [hml]; exact hl.1.symm) hown (hts _ hc) (hts _ kw_abs.1) (hts _ kw_abs.2.1) (hts _ kw_abs.2.2) (by omega) (by omega) hn3 hn4 hd (k a h1 h2 H locs ls hP hS hl)
end SIMS
