/-! fit: the reference -/
theorem p32 : ∀ r, r < 4 → 2 ^ (5 * r) = 32 ^ r := by decide
theorem p32s : ∀ r, r < 4 → 5 * r < 31 := by decide
theorem cl_Y {code r : Nat} (hc : code < 32768) (hr : r < 3) : (nI code >>> (nI (5 * r) &&& 31)) &&& 31 = nI (code / 32 ^ r % 32) := by
  rw [pk_shrN (by omega) _ (5 * r) (s_l (5 * r) (by omega)), p32 r (by omega)]
  have : code / 32 ^ r ≤ code := Nat.div_le_self _ _
  exact pk_andN (by omega) 5 (by decide)
theorem md_1 {code : Nat} : ∀ r, r < 3 → code % 32 ^ (r + 1) / 32 ^ r = code / 32 ^ r % 32 ∧ code % 32 ^ (r + 1) % 32 ^ r = code % 32 ^ r
  | 0, _ => by simp only [Nat.pow_zero, Nat.pow_succ, Nat.one_mul]; omega
  | 1, _ => by simp only [Nat.pow_zero, Nat.pow_succ, Nat.one_mul]; omega
  | 2, _ => by simp only [Nat.pow_zero, Nat.pow_succ, Nat.one_mul]; omega
  | r + 3, h => absurd h (by omega)
section FITY
variable {K W H : Nat → Int32} {m : Int32} {l n gg : Nat} {td : Nat → Int32} {μ : Mem}
/-- one row of clouds, gone through -/
theorem one_Y {ν : Mem} {M code : Nat} (hM : M ≤ 3) (hc : code < 32 ^ M) (hw : HW n l K W H) (hy : HY ν.1 n l K W H) (hg : gg ≤ 9) (e3 : ν.1 113 3 = m) (e5 : ν.1 113 5 = nI gg) (ht : ∀ k, k < 3 → ν.1 113 (71 + k) = td k) : ∃ f ν', lp (ε := Int32 × Mem) (cu3 fun (x6_15 : Int32) (x7_16 : Int32) (ν17 : Mem) =>
            if x7_16 < nI M then
              if x6_15 = 0 then
                some (.inr (x6_15, ν17))
              else
                lt ((nI code >>> ((5 * ((nI M - 1) - x7_16)) &&& 31)) &&& 31) fun x8_21 =>
                bd (f_X11_isSet x8_21 ν17) fun r22 =>
                jn (fun (y23 : Int32) (ν24 : Mem) =>
                  some (.inl (y23, (x7_16 + 1), ν24))
                  ) fun j25 =>
                jn (fun (ν26 : Mem) =>
                  j25 0 ν26
                  ) fun j27 =>
                if r22 = 0 then
                  j27 ν17
                else
                  bd2 (f_X11_goes x8_21 0 ((ν17.1 113 3) + x7_16) (ν17.1 113 5) ν17) fun r28 ν29 =>
                  chk (71 + x7_16) 184 (
                    if r28 = (ν29.1 113 (ix (71 + x7_16))) then
                      j25 1 ν29
                    else
                      j27 ν29
                    )
            else
              some (.inr (x6_15, ν17))
            ) (1, 0, ν) = some (f, ν') ∧ ((f = 1 ∧ fitP K W m l n gg td M 0 H code) ∨ (f = 0 ∧ ¬ fitP K W m l n gg td M 0 H code)) ∧ ν'.2 = ν.2 ∧ ∀ b j, b ≠ 120 → ν'.1 b j = ν.1 b j := by
  have hn := hw.1.2.1
  have hl := hw.1.2.2
  have hc2 : code < 32768 := by
    have : 32 ^ M ≤ 32 ^ 3 := Nat.pow_le_pow_right (by decide) hM
    omega
  have L := lp_inv (F := cu3 fun (x6_15 : Int32) (x7_16 : Int32) (ν17 : Mem) =>
            if x7_16 < nI M then
              if x6_15 = 0 then
                some (.inr (x6_15, ν17))
              else
                lt ((nI code >>> ((5 * ((nI M - 1) - x7_16)) &&& 31)) &&& 31) fun x8_21 =>
                bd (f_X11_isSet x8_21 ν17) fun r22 =>
                jn (fun (y23 : Int32) (ν24 : Mem) =>
                  some (.inl (y23, (x7_16 + 1), ν24))
                  ) fun j25 =>
                jn (fun (ν26 : Mem) =>
                  j25 0 ν26
                  ) fun j27 =>
                if r22 = 0 then
                  j27 ν17
                else
                  bd2 (f_X11_goes x8_21 0 ((ν17.1 113 3) + x7_16) (ν17.1 113 5) ν17) fun r28 ν29 =>
                  chk (71 + x7_16) 184 (
                    if r28 = (ν29.1 113 (ix (71 + x7_16))) then
                      j25 1 ν29
                    else
                      j27 ν29
                    )
            else
              some (.inr (x6_15, ν17))) (fun k s => s.2.1 = nI k ∧ s.2.2.2 = ν.2 ∧ (∀ b j, b ≠ 120 → s.2.2.1 b j = ν.1 b j) ∧ ((s.1 = 0 ∧ ¬ fitP K W m l n gg td M 0 H code) ∨ (s.1 = 1 ∧ ∃ Hk, HW n l K W Hk ∧ HY s.2.2.1 n l K W Hk ∧ (fitP K W m l n gg td M 0 H code ↔ fitP K W m l n gg td (M - k) k Hk (code % 32 ^ (M - k)))))) (fun e : Int32 × Mem => ((e.1 = 1 ∧ fitP K W m l n gg td M 0 H code) ∨ (e.1 = 0 ∧ ¬ fitP K W m l n gg td M 0 H code)) ∧ e.2.2 = ν.2 ∧ ∀ b j, b ≠ 120 → e.2.1 b j = ν.1 b j) M (fun k s hk hI => ?_) (fun s hI => ?_) (s := (1, 0, ν)) ⟨rfl, rfl, fun _ _ _ => rfl, Or.inr ⟨rfl, H, hw, hy, by rw [Nat.sub_zero, Nat.mod_eq_of_lt hc]⟩⟩
  · obtain ⟨⟨f, ν'⟩, he, j1, j2, j3⟩ := L
    exact ⟨f, ν', he, j1, j2, j3⟩
  · obtain ⟨f, x, ν2⟩ := s
    obtain ⟨rfl, i1, i2, i3⟩ := hI
    dsimp only at i1 i2 i3
    rw [cu3_eq, if_pos ((nI_ltI (by omega) (by omega)).mpr hk)]
    rcases i3 with ⟨rfl, i3⟩ | ⟨rfl, Hk, i4, i5, i6⟩
    · rw [if_pos rfl]
      exact Or.inr ⟨_, rfl, Or.inr ⟨rfl, i3⟩, i1, i2⟩
    · left
      obtain ⟨r, hr⟩ : ∃ r, M - k = r + 1 := ⟨M - k - 1, by omega⟩
      have e5r : 5 * ((nI M - 1) - nI k) = nI (5 * r) := by
        rw [show (1 : Int32) = nI 1 from rfl, ni_sub (by omega), ni_sub (by omega), show (5 : Int32) = nI 5 from rfl, ni_mul]
        exact congrArg nI (by omega)
      have hr3 : r < 3 := by omega
      rw [if_neg (by decide), lt_eq, e5r, cl_Y hc2 hr3]
      simp only [jn_eq]
      rw [hr] at i6
      have i7 : fitP K W m l n gg td M 0 H code ↔ (code / 32 ^ r % 32 < 2 ^ n ∧ okC K W l td Hk k (fGr K W m l n Hk k (code / 32 ^ r % 32)) ∧ fitP K W m l n gg td r (k + 1) (fNx K W gg Hk (fGr K W m l n Hk k (code / 32 ^ r % 32))) (code % 32 ^ r)) := by
        rw [i6]
        show (_ ∧ _ ∧ _) ↔ _
        rw [(md_1 r hr3).1, (md_1 r hr3).2]
      have hp := pow5 hn
      by_cases q1 : code / 32 ^ r % 32 < 2 ^ n
      · rw [isS_ok i5.1 hn q1, bd_some, if_neg (by decide), show ν2.1 113 3 = m from (i2 _ _ (by omega)).trans e3, show ν2.1 113 5 = nI gg from (i2 _ _ (by omega)).trans e5, gs_Y i5 i4 _ 0 _ hg, bd2_some, show (71 : Int32) = nI 71 from rfl, ni_add, chk_nI (by omega) (by decide), ix_nI (by omega), mp_ne (by omega), show ν2.1 113 (71 + k) = td k from (i2 _ _ (by omega)).trans (ht k (by omega)), ← nI_succ]
        have es : seO K W Hk (m + nI k) l n (nI (code / 32 ^ r % 32)) 0 = -1 := if_pos (Or.inr rfl)
        rw [es]
        by_cases q2 : okC K W l td Hk k (fGr K W m l n Hk k (code / 32 ^ r % 32))
        · have q2' : sgt (tt K W Hk (fiO K W Hk (m + nI k) l n (nI (code / 32 ^ r % 32))) (-1)) l = td k := q2
          rw [if_pos q2']
          refine ⟨_, rfl, rfl, i1, fun b j hb => by rw [mp_ne (by omega)]; exact i2 b j hb, Or.inr ⟨rfl, fNx K W gg Hk (fGr K W m l n Hk k (code / 32 ^ r % 32)), i4.nx _ _ hg, mp_HY i5, ?_⟩⟩
          rw [show M - (k + 1) = r by omega, i7]
          exact ⟨fun z => z.2.2, fun z => ⟨q1, q2, z⟩⟩
        · have q2' : ¬ sgt (tt K W Hk (fiO K W Hk (m + nI k) l n (nI (code / 32 ^ r % 32))) (-1)) l = td k := q2
          rw [if_neg q2']
          exact ⟨_, rfl, rfl, i1, fun b j hb => by rw [mp_ne (by omega)]; exact i2 b j hb, Or.inl ⟨rfl, fun z => q2 (i7.mp z).2.1⟩⟩
      · rw [isS_bad i5.1 hn (Or.inr (nI_le (by omega) (by omega))), bd_some, if_pos (by trivial), ← nI_succ]
        exact ⟨_, rfl, rfl, i1, i2, Or.inl ⟨rfl, fun z => q1 (i7.mp z).1⟩⟩
  · obtain ⟨f, x, ν2⟩ := s
    obtain ⟨rfl, i1, i2, i3⟩ := hI
    dsimp only at i1 i2 i3
    rw [cu3_eq, if_neg (fun q => Nat.lt_irrefl _ ((nI_ltI (by omega) (by omega)).mp q))]
    refine ⟨_, rfl, ?_, i1, i2⟩
    rcases i3 with ⟨rfl, i3⟩ | ⟨rfl, Hk, i4, i5, i6⟩
    · exact Or.inr ⟨rfl, i3⟩
    · refine Or.inl ⟨rfl, i6.mpr ?_⟩
      rw [Nat.sub_self]
      exact trivial
end FITY
/-- the first row, or none -/
def fstI (P : Nat → Prop) (N : Nat) (x : Int32) : Prop := (cN P N = 0 ∧ x = -1) ∨ (0 < cN P N ∧ ∃ y, x = nI y ∧ LstP P N y)
theorem m1_big {y : Nat} (h : y < 2 ^ 31) : ¬ nI y = -1 := fun q => by
  have := nI_pos h
  rw [q] at this
  exact this (by decide)
theorem fit_Y {n l r p gg M w : Nat} {μ ν0 : Mem} (hh : HeadP 1 μ.1 (fun j => μ.1 113 j) n l r p) (hw : HW n l (fun i => μ.1 113 (6 + i)) (fun i => μ.1 113 (16 + i)) (fun i => μ.1 113 (26 + i))) (h0 : ∀ j, ν0.1 113 j = μ.1 113 j) (hg : gg ≤ 9) (eg : μ.1 113 5 = nI gg) (hM1 : 1 ≤ M) (hM : M ≤ 3) (hww : w < 2) : ∃ x ν, f_X11_fit (nI M) (nI w) ν0 = some (if w = 0 then nI (cN (fitP (fun i => μ.1 113 (6 + i)) (fun i => μ.1 113 (16 + i)) (μ.1 113 3) l n gg (fun k => μ.1 113 (71 + k)) M 0 (fun i => μ.1 113 (26 + i))) (32 ^ M)) else x, ν) ∧ fstI (fitP (fun i => μ.1 113 (6 + i)) (fun i => μ.1 113 (16 + i)) (μ.1 113 3) l n gg (fun k => μ.1 113 (71 + k)) M 0 (fun i => μ.1 113 (26 + i))) (32 ^ M) x ∧ ν.2 = ν0.2 ∧ ∀ b j, b ≠ 120 → ν.1 b j = ν0.1 b j := by
  have hMM : 32 ^ M ≤ 32768 := by
    have : 32 ^ M ≤ 32 ^ 3 := Nat.pow_le_pow_right (by decide) hM
    omega
  unfold f_X11_fit
  rw [show (1 : Int64) = (nI 1).toInt64 by decide, show (3 : Int64) = (nI 3).toInt64 by decide, in32_ok (by omega) hM1 hM (by decide), bd_some]
  rw [jn_eq, if_neg (by decide), show ((nI 1).toInt64 : Int64) = 1 by decide, inL_ok (hi := 1) (by decide) (by omega), bd_some, if_neg (by decide)]
  have e5 : (1 : Int32) <<< ((5 * nI M) &&& 31) = nI (32 ^ M) := by
    rw [show (5 : Int32) = nI 5 from rfl, ni_mul, shl1 (5 * M) (by omega), p32 M (by omega)]
  rw [e5]
  generalize hP : fitP (fun i => μ.1 113 (6 + i)) (fun i => μ.1 113 (16 + i)) (μ.1 113 3) l n gg (fun k => μ.1 113 (71 + k)) M 0 (fun i => μ.1 113 (26 + i)) = P
  have L := lp_inv (F := cu4 fun (x3_6 : Int32) (x4_7 : Int32) (x5_8 : Int32) (ν9 : Mem) =>
        if x5_8 < nI (32 ^ M) then
          bd (f_X11_asNow  ν9) fun ν14 =>
          bd (lp (ε := Int32 × Mem) (cu3 fun (x6_15 : Int32) (x7_16 : Int32) (ν17 : Mem) =>
            if x7_16 < nI M then
              if x6_15 = 0 then
                some (.inr (x6_15, ν17))
              else
                lt ((x5_8 >>> ((5 * ((nI M - 1) - x7_16)) &&& 31)) &&& 31) fun x8_21 =>
                bd (f_X11_isSet x8_21 ν17) fun r22 =>
                jn (fun (y23 : Int32) (ν24 : Mem) =>
                  some (.inl (y23, (x7_16 + 1), ν24))
                  ) fun j25 =>
                jn (fun (ν26 : Mem) =>
                  j25 0 ν26
                  ) fun j27 =>
                if r22 = 0 then
                  j27 ν17
                else
                  bd2 (f_X11_goes x8_21 0 ((ν17.1 113 3) + x7_16) (ν17.1 113 5) ν17) fun r28 ν29 =>
                  chk (71 + x7_16) 184 (
                    if r28 = (ν29.1 113 (ix (71 + x7_16))) then
                      j25 1 ν29
                    else
                      j27 ν29
                    )
            else
              some (.inr (x6_15, ν17))
            ) (1, 0, ν14)) (cu2 fun (x6_18 : Int32) (ν19 : Mem) =>
            jn (fun (y30 : Int32) =>
              jn (fun (y32 : Int32) =>
                some (.inl ((x3_6 + y30), y32, (x5_8 + 1), ν19))
                ) fun j33 =>
              jn (
                j33 x4_7
                ) fun j34 =>
              if x6_18 = 0 then
                j34
              else
                if x4_7 = (-1) then
                  j33 x5_8
                else
                  j34
              ) fun j31 =>
            if x6_18 = 0 then
              j31 0
            else
              j31 1
            )
        else
          some (.inr (x3_6, x4_7, ν9))) (fun i s => s.1 = nI (cN P i) ∧ s.2.2.1 = nI i ∧ s.2.2.2.2 = ν0.2 ∧ (∀ b j, b ≠ 120 → s.2.2.2.1 b j = ν0.1 b j) ∧ fstI P i s.2.1) (fun e : Int32 × Int32 × Mem => e.1 = nI (cN P (32 ^ M)) ∧ e.2.2.2 = ν0.2 ∧ (∀ b j, b ≠ 120 → e.2.2.1 b j = ν0.1 b j) ∧ fstI P (32 ^ M) e.2.1) (32 ^ M) (fun i s hi hI => ?_) (fun s hI => ?_) (s := (0, -1, 0, ν0)) ⟨rfl, rfl, rfl, fun _ _ _ => rfl, Or.inl ⟨rfl, rfl⟩⟩
  · obtain ⟨⟨c, x, ν⟩, he, j1, j2, j3, j4⟩ := L
    dsimp only at j1 j2 j3 j4
    refine ⟨x, ν, ?_, j4, j2, j3⟩
    rw [he, bd_some, j1]
    match w, hww with
    | 0, _ => rfl
    | 1, _ => rfl
    | w + 2, h => exact absurd h (by omega)
  · obtain ⟨a, b, c, ν⟩ := s
    obtain ⟨rfl, rfl, i3, i4, i5⟩ := hI
    dsimp only at i3 i4 i5
    have hB : ∀ j, ν.1 113 j = μ.1 113 j := fun j => (i4 _ _ (by omega)).trans (h0 j)
    rw [cu4_eq, if_pos ((nI_ltI (by omega) (by omega)).mpr hi), asNow_eq, bd_some]
    obtain ⟨f, ν', o1, o2, o3, o4⟩ := one_Y (m := μ.1 113 3) (td := fun k => μ.1 113 (71 + k)) hM hi hw (hy_of hh hB) hg (by rw [cp_ne (by omega)]; exact hB 3) (by rw [cp_ne (by omega), hB]; exact eg) (fun k _ => by rw [cp_ne (by omega)]; exact hB _)
    rw [hP] at o2
    rw [o1, bd_some, cu2_eq]
    simp only [jn_eq]
    left
    have F : ∀ b j, b ≠ 120 → ν'.1 b j = ν0.1 b j := fun b j hb => by rw [o4 b j hb, cp_ne (by omega)]; exact i4 b j hb
    rcases o2 with ⟨rfl, q⟩ | ⟨rfl, q⟩
    · rw [if_neg (by decide), if_neg (by decide), ← nI_succ, ← nI_succ]
      rcases i5 with ⟨z, rfl⟩ | ⟨z, y, rfl, hy⟩
      · rw [if_pos rfl]
        refine ⟨_, rfl, by rw [cN_t q], rfl, o3.trans i3, F, Or.inr ⟨by rw [cN_t q]; omega, i, rfl, by omega, q, fun j hj p => ?_⟩⟩
        have := cN_pos hj p
        omega
      · rw [if_neg (m1_big (by have := hy.1; omega))]
        exact ⟨_, rfl, by rw [cN_t q], rfl, o3.trans i3, F, Or.inr ⟨by rw [cN_t q]; omega, y, rfl, by have := hy.1; omega, hy.2.1, hy.2.2⟩⟩
    · rw [if_pos (by trivial), if_pos (by trivial), Int32.add_zero, ← nI_succ]
      refine ⟨_, rfl, by rw [cN_f q], rfl, o3.trans i3, F, ?_⟩
      rcases i5 with ⟨z, rfl⟩ | ⟨z, y, rfl, hy⟩
      · exact Or.inl ⟨by rw [cN_f q]; exact z, rfl⟩
      · exact Or.inr ⟨by rw [cN_f q]; exact z, y, rfl, by have := hy.1; omega, hy.2.1, hy.2.2⟩
  · obtain ⟨a, b, c, ν⟩ := s
    obtain ⟨rfl, rfl, i3, i4, i5⟩ := hI
    dsimp only at i3 i4 i5
    rw [cu4_eq, if_neg (fun q => Nat.lt_irrefl _ ((nI_ltI (by omega) (by omega)).mp q))]
    exact ⟨_, rfl, rfl, i3, i4, i5⟩
