/-! odds of clouds: chance, mean, painting -/
noncomputable def s64 (f : Nat → Int64) : Nat → Int64
  | 0 => 0
  | i + 1 => s64 f i + f i
theorem s64_congr {f g : Nat → Int64} : ∀ {n : Nat}, (∀ i, i < n → f i = g i) → s64 f n = s64 g n
  | 0, _ => rfl
  | n + 1, h => by
    show s64 f n + f n = s64 g n + g n
    rw [s64_congr (fun i hi => h i (by omega)), h n (by omega)]
theorem s64_add {f g : Nat → Int64} : ∀ n, s64 (fun i => f i + g i) n = s64 f n + s64 g n
  | 0 => by show (0 : Int64) = 0 + 0; decide
  | n + 1 => by
    show s64 (fun i => f i + g i) n + (f n + g n) = (s64 f n + f n) + (s64 g n + g n)
    rw [s64_add n, Int64.add_assoc, Int64.add_assoc, ← Int64.add_assoc (s64 g n), Int64.add_comm (s64 g n) (f n), Int64.add_assoc (f n)]
theorem s64_0 : ∀ n, s64 (fun _ => 0) n = 0
  | 0 => rfl
  | n + 1 => by show s64 (fun _ => 0) n + 0 = 0; rw [s64_0 n]; decide
theorem s64_one {a : Int64} {v0 : Nat} : ∀ n, s64 (fun v => if v = v0 then a else 0) n = if v0 < n then a else 0
  | 0 => rfl
  | n + 1 => by
    show s64 (fun v => if v = v0 then a else 0) n + (if n = v0 then a else 0) = _
    rw [s64_one n]
    by_cases h : n = v0
    · rw [if_neg (by omega), if_pos h, if_pos (by omega), Int64.zero_add]
    · by_cases h2 : v0 < n
      · rw [if_pos h2, if_neg h, if_pos (by omega), Int64.add_zero]
      · rw [if_neg h2, if_neg h, if_neg (by omega), Int64.zero_add]
theorem s64_bI {f : Nat → Int64} {B : Nat} : ∀ {n : Nat}, (∀ i, i < n → bI (f i) B) → B * n ≤ 2 ^ 60 → bI (s64 f n) (B * n)
  | 0, _, _ => bI_0
  | n + 1, h, hB => by
    rw [Nat.mul_succ] at hB ⊢
    exact bI_add (s64_bI (fun i hi => h i (by omega)) (by omega)) (h n (by omega)) hB
/-- in how many cases just these clouds are there -/
noncomputable def wy (od : Nat → Int32) (c : Int32) : Nat → Int64
  | 0 => 1
  | v + 1 => wy od c v * (if bt c v = true then (od v).toInt64 else (10 - od v).toInt64)
def Odd (od : Nat → Int32) : Prop := ∀ v, v < 5 → ∃ o, o ≤ 10 ∧ od v = nI o
theorem wy_bI {od : Nat → Int32} {c : Int32} (ho : Odd od) : ∀ {v : Nat}, v ≤ 5 → bI (wy od c v) (10 ^ v)
  | 0, _ => by unfold wy bI; decide
  | v + 1, hv => by
    have hp : 10 ^ v ≤ 10 ^ 5 := Nat.pow_le_pow_right (by decide) (by omega)
    rw [Nat.pow_succ]
    refine bI_mul (wy_bI ho (by omega)) ?_ (by omega)
    obtain ⟨o, ho1, ho2⟩ := ho v (by omega)
    rw [ho2]
    by_cases q : bt c v = true
    · rw [if_pos q]; exact bI_n ho1 (by decide)
    · rw [if_neg q, show (10 : Int32) = nI 10 from rfl, ni_sub ho1]; exact bI_n (by omega) (by decide)
noncomputable def grp (K W H : Nat → Int32) (m : Int32) (l n : Nat) (pt more : Int32) (c : Nat) : Int32 := (gst (fun v => sg K W H m l (nI v) + if nI v = pt then more else 0) (fun v => !(bt (nI c) v)) n).1
theorem grp_in (K W H : Nat → Int32) (m : Int32) (l n : Nat) (pt more : Int32) (c : Nat) : grp K W H m l n pt more c = -1 ∨ ∃ v, v < n ∧ grp K W H m l n pt more c = nI v := gst_in _ _ _
theorem wy_X {n : Nat} {od : Nat → Int32} {ν : Mem} {k2 : Nat} (h4 : ν.1 68 4 = nI n) (hn : n ≤ 5) (ho : ∀ v, v < 5 → ν.1 k2 v = od v) (x : Int32) : f_X9_casesOf x k2 ν = some (wy od x n) := by
  unfold f_X9_casesOf
  rw [h4]
  refine (bd_for (e := wy od x n) (fun v => (wy od x v, nI v)) n rfl (fun v hv => ?_) ?_).trans rfl
  · rw [cu2_eq, if_pos ((nI_ltI (by omega) (by omega)).mpr hv), jn_eq, chk_nI (by omega) (by decide), chk_nI (by omega) (by decide), ix_nI (by omega), ho v (by omega), ← nI_succ]
    show _ = some (Sum.inl (wy od x v * (if bt x v = true then _ else _), _))
    by_cases q : bt x v = true
    · rw [if_pos ((bit_1 (by omega)).mpr q), if_pos q]
    · rw [if_neg (fun z => q ((bit_1 (by omega)).mp z)), if_neg q]
  · rw [cu2_eq, if_neg (fun q => Nat.lt_irrefl n ((nI_ltI (by omega) (by omega)).mp q))]
theorem wy_Y {n : Nat} {od : Nat → Int32} {ν : Mem} (h4 : ν.1 113 0 = nI n) (hn : n ≤ 5) (ho : ∀ v, v < 5 → ν.1 113 (36 + v) = od v) (x : Int32) : f_X11_waysOf x ν = some (wy od x n) := by
  unfold f_X11_waysOf
  rw [h4]
  refine (bd_for (e := wy od x n) (fun v => (wy od x v, nI v)) n rfl (fun v hv => ?_) ?_).trans rfl
  · rw [cu2_eq, if_pos ((nI_ltI (by omega) (by omega)).mpr hv), jn_eq, show (36 : Int32) = nI 36 from rfl, ni_add 36 v, chk_nI (by omega) (by decide), chk_nI (by omega) (by decide), ix_nI (by omega), ho v (by omega), ← nI_succ]
    show _ = some (Sum.inl (wy od x v * (if bt x v = true then _ else _), _))
    by_cases q : bt x v = true
    · rw [if_pos ((bit_1 (by omega)).mpr q), if_pos q]
    · rw [if_neg (fun z => q ((bit_1 (by omega)).mp z)), if_neg q]
  · rw [cu2_eq, if_neg (fun q => Nat.lt_irrefl n ((nI_ltI (by omega) (by omega)).mp q))]
theorem ten_s (i : Nat) : lN (10 ^ i) * 10 = lN (10 ^ (i + 1)) := by rw [show (10 : Int64) = lN 10 from rfl, lN_mul, Nat.pow_succ]
theorem whole_Y {n : Nat} {ν : Mem} (h4 : ν.1 113 0 = nI n) (hn : n ≤ 5) : f_X11_whole ν = some (lN (10 ^ n)) := by
  unfold f_X11_whole
  rw [h4]
  refine (bd_for (e := lN (10 ^ n)) (fun v => (lN (10 ^ v), nI v)) n rfl (fun v hv => ?_) ?_).trans rfl
  · rw [cu2_eq, if_pos ((nI_ltI (by omega) (by omega)).mpr hv), ten_s, ← nI_succ]
  · rw [cu2_eq, if_neg (fun q => Nat.lt_irrefl n ((nI_ltI (by omega) (by omega)).mp q))]
section WEA
variable {n l : Nat} {K W H od : Nat → Int32} {m : Int32} {μ : Mem}
noncomputable def wsum (K W H : Nat → Int32) (m : Int32) (l n : Nat) (od : Nat → Int32) (pt more : Int32) (v N : Nat) : Int64 := s64 (fun c => if grp K W H m l n pt more c = nI v then wy od (nI c) n else 0) N
theorem fore_X (hx : HX 2 μ.1 n l K W H m) (hw : HW n l K W H) (ho : ∀ v, v < 5 → μ.1 13 v = od v) (pt more : Int32) : ∃ ν, f_X9_foresee 1 pt more μ = some ν ∧ (∀ b j, ¬ (68 ≤ b ∧ b ≤ 71) → ν.1 b j = μ.1 b j) ∧ (∀ b, ¬ (68 ≤ b ∧ b ≤ 71) → ν.2 b = μ.2 b) ∧ ν.1 68 4 = nI n ∧ ν.2 68 3 = lN (10 ^ n) ∧ ∀ v, v < n → ν.1 70 v = tl K W H l (nI v) ∧ ν.2 71 v = wsum K W H m l n od pt more v (2 ^ n) := by
  have hn := hw.1.2.1
  have hl := hw.1.2.2
  have hp := pow5 hn
  unfold f_X9_foresee
  simp only [lt_eq]
  have L := lp_inv (F := cu2 fun (x4_3 : Int32) (ν4 : Mem) =>
    if x4_3 < (ν4.1 68 4) then
      bd (f_X3_sightOf (1 + 1) x4_3 ν4) fun r7 =>
      jn (fun (y8 : Int32) =>
        chk x4_3 5 (
          bd (f_X3_tollOf (1 + 1) x4_3 (setI ν4 69 (ix x4_3) (r7 + y8))) fun r11 =>
          chk x4_3 5 (
            chk x4_3 5 (
              some (.inl ((x4_3 + 1), setL (setL (setI (setI ν4 69 (ix x4_3) (r7 + y8)) 70 (ix x4_3) r11) 71 (ix x4_3) 0) 68 3 (((setL (setI (setI ν4 69 (ix x4_3) (r7 + y8)) 70 (ix x4_3) r11) 71 (ix x4_3) 0).2 68 3) * 10)))
              )
            )
          )
        ) fun j9 =>
      if x4_3 = pt then
        j9 more
      else
        j9 0
    else
      some (.inr ν4)) (fun i s => s.1 = nI i ∧ (∀ b j, ¬ (68 ≤ b ∧ b ≤ 71) → s.2.1 b j = μ.1 b j) ∧ (∀ b, ¬ (68 ≤ b ∧ b ≤ 71) → s.2.2 b = μ.2 b) ∧ s.2.1 68 4 = nI n ∧ s.2.2 68 3 = lN (10 ^ i) ∧ ∀ v, v < i → s.2.1 69 v = sg K W H m l (nI v) + (if nI v = pt then more else 0) ∧ s.2.1 70 v = tl K W H l (nI v) ∧ s.2.2 71 v = 0) (fun e : Mem => (∀ b j, ¬ (68 ≤ b ∧ b ≤ 71) → e.1 b j = μ.1 b j) ∧ (∀ b, ¬ (68 ≤ b ∧ b ≤ 71) → e.2 b = μ.2 b) ∧ e.1 68 4 = nI n ∧ e.2 68 3 = lN (10 ^ n) ∧ ∀ v, v < n → e.1 69 v = sg K W H m l (nI v) + (if nI v = pt then more else 0) ∧ e.1 70 v = tl K W H l (nI v) ∧ e.2 71 v = 0) n (fun i s hi hI => ?_) (fun s hI => ?_) (s := (0, setL (setI μ 68 4 (μ.1 (1 + 1) 0)) 68 3 1)) ⟨rfl, fun b j hb => by rw [sl_1, si_ne (by omega)], fun b hb => funext fun j => by rw [sl_2, if_neg (by omega)]; rfl, by rw [sl_1, si_eq]; exact hx.1, by rw [sl_2, if_pos ⟨rfl, rfl⟩]; rfl, fun v hv => absurd hv (by omega)⟩
  · obtain ⟨ν5, e1, a1, a2, a3, a4, a5⟩ := L
    rw [e1, bd_some]
    have L2 := lp_inv (F := cu2 fun (x4_15 : Int32) (ν16 : Mem) =>
      if x4_15 < ((1 : Int32) <<< ((ν16.1 68 4) &&& 31)) then
        bd (f_X3_greatestIn 69 (ν16.1 68 4) x4_15 ν16) fun r19 =>
        jn (fun (ν20 : Mem) =>
          some (.inl ((x4_15 + 1), ν20))
          ) fun j21 =>
        if r19 = (-1) then
          j21 ν16
        else
          chk r19 5 (
            bd (f_X9_casesOf x4_15 (1 + 12) ν16) fun r22 =>
            chk r19 5 (
              j21 (setL ν16 71 (ix r19) ((ν16.2 71 (ix r19)) + r22))
              )
            )
      else
        some (.inr ν16)) (fun c s => s.1 = nI c ∧ s.2.1 = ν5.1 ∧ (∀ b, b ≠ 71 → s.2.2 b = ν5.2 b) ∧ ∀ v, v < n → s.2.2 71 v = wsum K W H m l n od pt more v c) (fun e : Mem => e.1 = ν5.1 ∧ (∀ b, b ≠ 71 → e.2 b = ν5.2 b) ∧ ∀ v, v < n → e.2 71 v = wsum K W H m l n od pt more v (2 ^ n)) (2 ^ n) (fun c s hc hI => ?_) (fun s hI => ?_) (s := (0, ν5)) ⟨rfl, rfl, fun _ _ => rfl, fun v hv => (a5 v hv).2.2⟩
    · obtain ⟨ν, e2, b1, b2, b3⟩ := L2
      rw [e2, bd_some]
      exact ⟨ν, rfl, fun b j hb => by rw [b1]; exact a1 b j hb, fun b hb => by rw [b2 b (by omega)]; exact a2 b hb, by rw [b1]; exact a3, by rw [b2 68 (by omega)]; exact a4, fun v hv => ⟨by rw [b1]; exact (a5 v hv).2.1, b3 v hv⟩⟩
    · obtain ⟨x, ν⟩ := s
      obtain ⟨rfl, i1, i2, i3⟩ := hI
      dsimp only at i1 i2 i3
      rw [cu2_eq, i1, a3, shl1 n (by omega), if_pos ((nI_ltI (by omega) (by omega)).mpr hc), gi_X hn, bd_some, jn_eq]
      rw [show (gst (fun v => ν.1 69 v) (fun v => !(bt (nI c) v)) n).1 = grp K W H m l n pt more c from congrArg Prod.fst (gst_congr (fun v hv => by (try dsimp only); rw [i1]; exact (a5 v hv).1) (fun _ _ => rfl))]
      rcases grp_in K W H m l n pt more c with g | ⟨v0, hv0, g⟩
      · rw [if_pos g]
        refine Or.inl ⟨_, rfl, (nI_succ c).symm, i1, i2, fun v hv => ?_⟩
        show ν.2 71 v = wsum K W H m l n od pt more v c + (if _ then _ else _)
        rw [g, if_neg (fun q => nI_m1 v (by omega) q.symm), Int64.add_zero]
        exact i3 v hv
      · rw [if_neg (fun q => nI_m1 v0 (by omega) (g.symm.trans q)), g, chk_nI (by omega) (by decide), wy_X (od := od) (n := n) (by rw [i1]; exact a3) hn (fun v hv => by rw [i1, a1 _ _ (by omega)]; exact ho v hv), bd_some, chk_nI (by omega) (by decide), ix_nI (by omega)]
        refine Or.inl ⟨_, rfl, (nI_succ c).symm, i1, fun b hb => by funext j; rw [sl_2, if_neg (fun q => hb q.1), i2 b hb], fun v hv => ?_⟩
        show (setL ν 71 v0 _).2 71 v = wsum K W H m l n od pt more v c + (if _ then _ else _)
        rw [sl_2, g]
        by_cases e : v = v0
        · rw [if_pos ⟨rfl, e⟩, e, if_pos rfl, i3 v0 hv0]
        · rw [if_neg (fun q => e q.2), if_neg (fun q => e ((nI_eq (by omega) (by omega)).mp q).symm), Int64.add_zero, i3 v hv]
    · obtain ⟨x, ν⟩ := s
      obtain ⟨rfl, i1, i2, i3⟩ := hI
      dsimp only at i1 i2 i3
      rw [cu2_eq, i1, a3, shl1 n (by omega), if_neg (fun q => Nat.lt_irrefl _ ((nI_ltI (by omega) (by omega)).mp q))]
      exact ⟨ν, rfl, i1, i2, i3⟩
  · obtain ⟨x, ν⟩ := s
    obtain ⟨rfl, i1, i2, i3, i4, i5⟩ := hI
    dsimp only at i1 i2 i3 i4 i5
    have hxν : HX (1 + 1) ν.1 n l K W H m := hx.of (fun j => i1 _ _ (by omega)) (fun b j _ _ => i1 _ _ (by omega))
    rw [cu2_eq, i3, if_pos ((nI_ltI (by omega) (by omega)).mpr hi), sg_X hxν hw, bd_some]
    have Z : ∀ y8 : Int32, y8 = (if nI i = pt then more else 0) → (∃ s', (chk (nI i) 5 (
          bd (f_X3_tollOf (1 + 1) (nI i) (setI ν 69 (ix (nI i)) (sg K W H m l (nI i) + y8))) fun r11 =>
          chk (nI i) 5 (
            chk (nI i) 5 (
              (some (.inl ((nI i + 1), setL (setL (setI (setI ν 69 (ix (nI i)) (sg K W H m l (nI i) + y8)) 70 (ix (nI i)) r11) 71 (ix (nI i)) 0) 68 3 (((setL (setI (setI ν 69 (ix (nI i)) (sg K W H m l (nI i) + y8)) 70 (ix (nI i)) r11) 71 (ix (nI i)) 0).2 68 3) * 10))) : Option ((Int32 × Mem) ⊕ Mem))
              )
            )
          )) = some (.inl s') ∧ s'.1 = nI (i + 1) ∧ (∀ b j, ¬ (68 ≤ b ∧ b ≤ 71) → s'.2.1 b j = μ.1 b j) ∧ (∀ b, ¬ (68 ≤ b ∧ b ≤ 71) → s'.2.2 b = μ.2 b) ∧ s'.2.1 68 4 = nI n ∧ s'.2.2 68 3 = lN (10 ^ (i + 1)) ∧ ∀ v, v < i + 1 → s'.2.1 69 v = sg K W H m l (nI v) + (if nI v = pt then more else 0) ∧ s'.2.1 70 v = tl K W H l (nI v) ∧ s'.2.2 71 v = 0) := by
      intro y8 hy8
      rw [ix_nI (by omega), chk_nI (by omega) (by decide), tl_X (n := n) (m := m) (hxν.of (fun j => si_ne (by omega)) (fun b j _ _ => si_ne (by omega))) hw, bd_some, chk_nI (by omega) (by decide), chk_nI (by omega) (by decide)]
      refine ⟨_, rfl, (nI_succ i).symm, fun b j hb => by rw [sl_1, sl_1, si_ne (by omega), si_ne (by omega), i1 b j hb], fun b hb => by funext j; rw [sl_2, if_neg (by omega), sl_2, if_neg (by omega)]; exact congrFun (i2 b hb) j, by rw [sl_1, sl_1, si_ne (by omega), si_ne (by omega), i3], ?_, fun v hv => ⟨?_, ?_, ?_⟩⟩
      · rw [sl_2, if_pos ⟨rfl, rfl⟩, sl_2, if_neg (by omega), ← ten_s, ← i4]
        rfl
      · rw [sl_1, sl_1, si_ne (by omega)]
        by_cases e : v = i
        · rw [e, si_eq, hy8]
        · rw [si_ne (by omega)]; exact (i5 v (by omega)).1
      · rw [sl_1, sl_1]
        by_cases e : v = i
        · rw [e, si_eq]
        · rw [si_ne (by omega), si_ne (by omega)]; exact (i5 v (by omega)).2.1
      · rw [sl_2, if_neg (by omega), sl_2]
        by_cases e : v = i
        · rw [if_pos ⟨rfl, e⟩]
        · rw [if_neg (fun z => e z.2)]; exact (i5 v (by omega)).2.2
    rw [jn_eq]
    by_cases q : nI i = pt
    · rw [if_pos q]
      exact Or.inl (Z more (by rw [if_pos q]))
    · rw [if_neg q]
      exact Or.inl (Z 0 (by rw [if_neg q]))
  · obtain ⟨x, ν⟩ := s
    obtain ⟨rfl, i1, i2, i3, i4, i5⟩ := hI
    dsimp only at i1 i2 i3 i4 i5
    rw [cu2_eq, i3, if_neg (fun q => Nat.lt_irrefl _ ((nI_ltI (by omega) (by omega)).mp q))]
    exact ⟨ν, rfl, i1, i2, i3, i4, i5⟩
end WEA
