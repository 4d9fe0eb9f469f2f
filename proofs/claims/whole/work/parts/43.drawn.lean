/-! drawn -/
noncomputable def dnx (x : Int64) : Int64 := ((x * 1103515245) + 12345) - ((x * 1103515245) + 12345) / 2147483648 * 2147483648
noncomputable def dcl (x : Int64) (od : Nat → Int32) : Nat → Int64 × Int32
  | 0 => (x, 0)
  | v + 1 => (dnx (dcl x od v).1, if ((dnx (dcl x od v).1 / 65536) - (dnx (dcl x od v).1 / 65536) / 10 * 10) < (od v).toInt64 then (dcl x od v).2 ||| ((1 : Int32) <<< (nI v &&& 31)) else (dcl x od v).2)
noncomputable def drS (K W H : Nat → Int32) (m : Int32) (l n g : Nat) (od : Nat → Int32) (x : Int64) : Nat → Int64 × Int32 × (Nat → Int32)
  | 0 => (x, 0, H)
  | k + 1 => ((dcl (drS K W H m l n g od x k).1 od n).1, (drS K W H m l n g od x k).2.1 + sgt (tt K W (drS K W H m l n g od x k).2.2 (fiO K W (drS K W H m l n g od x k).2.2 (m + nI k) l n (dcl (drS K W H m l n g od x k).1 od n).2) (seO K W (drS K W H m l n g od x k).2.2 (m + nI k) l n (dcl (drS K W H m l n g od x k).1 od n).2 0)) l, nx K W (drS K W H m l n g od x k).2.2 (nI g) (fiO K W (drS K W H m l n g od x k).2.2 (m + nI k) l n (dcl (drS K W H m l n g od x k).1 od n).2) (seO K W (drS K W H m l n g od x k).2.2 (m + nI k) l n (dcl (drS K W H m l n g od x k).1 od n).2 0))
theorem HW.dr {K W H : Nat → Int32} {m : Int32} {l n g : Nat} {od : Nat → Int32} {x : Int64} (hw : HW n l K W H) (hg : g ≤ 9) : ∀ k, HW n l K W (drS K W H m l n g od x k).2.2
  | 0 => hw
  | k + 1 => (HW.dr hw hg k).nx _ _ hg
theorem or_z (x : Int32) : x ||| 0 = x := b_ext (fun i hi => by rw [b_or, b_0, Bool.or_false])
theorem drawn_X {n l g M : Nat} {K W H od : Nat → Int32} {m s : Int32} {μ : Mem} (hx : HX 2 μ.1 n l K W H m) (hw : HW n l K W H) (hg : g ≤ 9) (eg : μ.1 2 3 = nI g) (ho : ∀ v, v < 5 → μ.1 13 v = od v) (hM : M ≤ 60) (hs0 : ¬ s < 0) (hs1 : ¬ 999999 < s) : ∃ ν, f_X10_drawn (nI M) s μ = some ((drS K W H m l n g od s.toInt64 M).2.1, ν) ∧ ν.2 = μ.2 ∧ ∀ b j, ¬ (63 ≤ b ∧ b ≤ 67) → ν.1 b j = μ.1 b j := by
  have hl := hw.1.2.2
  have hn := hw.1.2.1
  unfold f_X10_drawn
  simp only [jn_eq]
  rw [if_neg (nI_pos (by omega)), if_neg (by exact ngt (n := 60) (by omega) (by decide)), if_neg hs0, if_neg hs1]
  obtain ⟨ν1, b1, b2, b3, b4, b5⟩ := bc_H (k0 := 63) (k1 := 2) (μ := μ) (by omega) hx hl
  rw [b1, bd_some]
  have L := lp_inv (F := cu4 fun (x3_5 : Int64) (x5_6 : Int32) (x6_7 : Int32) (ν8 : Mem) =>
            if x6_7 < nI M then
              bd (lp (ε := Int64 × Int32) (cu3 fun (x3_12 : Int64) (x7_13 : Int32) (x8_14 : Int32) =>
                if x8_14 < (ν8.1 63 0) then
                  lt (((x3_12 * 1103515245) + 12345) - ((x3_12 * 1103515245) + 12345) / 2147483648 * 2147483648) fun x3_18 =>
                  chk x8_14 5 (
                    if ((x3_18 / 65536) - (x3_18 / 65536) / 10 * 10) < ((ν8.1 13 (ix x8_14)) : Int32).toInt64 then
                      lt (x7_13 ||| ((1 : Int32) <<< (x8_14 &&& 31))) fun x7_21 =>
                      some (.inl (x3_18, x7_21, (x8_14 + 1)))
                    else
                      some (.inl (x3_18, x7_13, (x8_14 + 1)))
                    )
                else
                  some (.inr (x3_12, x7_13))
                ) (x3_5, 0, 0)) (cu2 fun (x3_15 : Int64) (x7_16 : Int32) =>
                bd2 (f_X3_fullMoon 63 x7_16 0 ν8) fun r22 ν23 =>
                some (.inl (x3_15, (x5_6 + r22), (x6_7 + 1), ν23))
                )
            else
              some (.inr (x5_6, ν8))) (fun k t => t.1 = (drS K W H m l n g od s.toInt64 k).1 ∧ t.2.1 = (drS K W H m l n g od s.toInt64 k).2.1 ∧ t.2.2.1 = nI k ∧ t.2.2.2.2 = μ.2 ∧ (∀ b j, ¬ (63 ≤ b ∧ b ≤ 67) → t.2.2.2.1 b j = μ.1 b j) ∧ HX 63 t.2.2.2.1 n l K W (drS K W H m l n g od s.toInt64 k).2.2 (m + nI k) ∧ t.2.2.2.1 63 3 = nI g) (fun e : Int32 × Mem => e.1 = (drS K W H m l n g od s.toInt64 M).2.1 ∧ e.2.2 = μ.2 ∧ ∀ b j, ¬ (63 ≤ b ∧ b ≤ 67) → e.2.1 b j = μ.1 b j) M (fun k t hk hI => ?_) (fun t hI => ?_) (s := (s.toInt64, 0, 0, ν1)) ⟨rfl, rfl, rfl, b2, fun b j hb => b3 _ _ (by omega), by rw [ma_0]; exact b4, b5.trans eg⟩
  · obtain ⟨⟨e, ν⟩, he, j1, j2, j3⟩ := L
    refine ⟨ν, ?_, j2, j3⟩
    rw [he, ← j1]
    rfl
  · obtain ⟨x, sm, a, ν⟩ := t
    obtain ⟨rfl, rfl, rfl, i2, i3, i4, i5⟩ := hI
    dsimp only at i2 i3 i4 i5
    rw [cu4_eq, if_pos ((nI_ltI (by omega) (by omega)).mpr hk), i4.1]
    have L2 : lp (ε := Int64 × Int32) (cu3 fun (x3_12 : Int64) (x7_13 : Int32) (x8_14 : Int32) =>
                if x8_14 < nI n then
                  lt (((x3_12 * 1103515245) + 12345) - ((x3_12 * 1103515245) + 12345) / 2147483648 * 2147483648) fun x3_18 =>
                  chk x8_14 5 (
                    if ((x3_18 / 65536) - (x3_18 / 65536) / 10 * 10) < ((ν.1 13 (ix x8_14)) : Int32).toInt64 then
                      lt (x7_13 ||| ((1 : Int32) <<< (x8_14 &&& 31))) fun x7_21 =>
                      some (.inl (x3_18, x7_21, (x8_14 + 1)))
                    else
                      some (.inl (x3_18, x7_13, (x8_14 + 1)))
                    )
                else
                  some (.inr (x3_12, x7_13))
                ) ((drS K W H m l n g od s.toInt64 k).1, 0, 0) = some ((dcl (drS K W H m l n g od s.toInt64 k).1 od n).1, (dcl (drS K W H m l n g od s.toInt64 k).1 od n).2) := by
      refine lp_for (fun v => ((dcl (drS K W H m l n g od s.toInt64 k).1 od v).1, (dcl (drS K W H m l n g od s.toInt64 k).1 od v).2, nI v)) n (fun v hv => ?_) ?_
      · rw [cu3_eq, if_pos ((nI_ltI (by omega) (by omega)).mpr hv), lt_eq, chk_nI (by omega) (by decide), ix_nI (by omega), i3 _ _ (by omega), ho v (by omega)]
        show (if ((dnx (dcl (drS K W H m l n g od s.toInt64 k).1 od v).1 / 65536) - (dnx (dcl (drS K W H m l n g od s.toInt64 k).1 od v).1 / 65536) / 10 * 10) < (od v).toInt64 then _ else _) = some (Sum.inl (dnx _, (if ((dnx (dcl (drS K W H m l n g od s.toInt64 k).1 od v).1 / 65536) - (dnx (dcl (drS K W H m l n g od s.toInt64 k).1 od v).1 / 65536) / 10 * 10) < (od v).toInt64 then _ else _), _))
        by_cases q : ((dnx (dcl (drS K W H m l n g od s.toInt64 k).1 od v).1 / 65536) - (dnx (dcl (drS K W H m l n g od s.toInt64 k).1 od v).1 / 65536) / 10 * 10) < (od v).toInt64
        · rw [if_pos q, if_pos q, lt_eq, nI_succ]
          rfl
        · rw [if_neg q, if_neg q, nI_succ]
          rfl
      · rw [cu3_eq, if_neg (fun q => Nat.lt_irrefl n ((nI_ltI (by omega) (by omega)).mp q))]
    rw [L2, bd_some, cu2_eq]
    obtain ⟨νm, f1, f2, f3, f4, f5⟩ := fm_X i4 (hw.dr hg k) (dcl (drS K W H m l n g od s.toInt64 k).1 od n).2 0 i5
    rw [f1, bd2_some]
    refine Or.inl ⟨_, rfl, rfl, rfl, (nI_succ k).symm, f2.trans i2, fun b j hb => by rw [f3 _ _ (by omega) (by omega) (by omega)]; exact i3 b j hb, ⟨?_, ?_, ?_, fun i hi => ?_⟩, ?_⟩
    · rw [f3 _ _ (by omega) (by omega) (by omega)]; exact i4.1
    · rw [f3 _ _ (by omega) (by omega) (by omega)]; exact i4.2.1
    · rw [f4, i32_s]
    · rw [f3 _ _ (by omega) (by omega) (by omega), f3 _ _ (by omega) (by omega) (by omega), f5 i hi]
      exact ⟨(i4.2.2.2 i hi).1, (i4.2.2.2 i hi).2.1, rfl⟩
    · rw [f3 _ _ (by omega) (by omega) (by omega)]; exact i5
  · obtain ⟨x, sm, a, ν⟩ := t
    obtain ⟨rfl, rfl, rfl, i2, i3, i4, i5⟩ := hI
    rw [cu4_eq, if_neg (fun q => Nat.lt_irrefl M ((nI_ltI (by omega) (by omega)).mp q))]
    exact ⟨_, rfl, rfl, i2, i3⟩
theorem drawn_Y {n l g M S : Nat} {K W H od : Nat → Int32} {m : Int32} {μ : Mem} (hx : HY (cpyI μ 113 26 120 0 10).1 n l K W H) (hw : HW n l K W H) (hg : g ≤ 9) (eg : μ.1 113 5 = nI g) (em : μ.1 113 3 = m) (ho : ∀ v, v < 5 → μ.1 113 (36 + v) = od v) (hM : M ≤ 60) (hS : S ≤ 999999) : ∃ ν, f_X11_drawn (nI M) (nI S) μ = some ((drS K W H m l n g od (nI S).toInt64 M).2.1, ν) ∧ ν.2 = μ.2 ∧ ∀ b j, b ≠ 120 → ν.1 b j = μ.1 b j := by
  have hl := hw.1.2.2
  have hn := hw.1.2.1
  unfold f_X11_drawn
  rw [inL_ok (hi := 60) (by decide) hM, bd_some]
  simp only [jn_eq]
  rw [if_neg (by decide), inL_ok (hi := 999999) (by decide) hS, bd_some, if_neg (by decide), asNow_eq, bd_some]
  have L := lp_inv (F := cu4 fun (x3_7 : Int64) (x5_8 : Int32) (x6_9 : Int32) (ν10 : Mem) =>
        if x6_9 < nI M then
          bd (lp (ε := Int64 × Int32) (cu3 fun (x3_14 : Int64) (x7_15 : Int32) (x8_16 : Int32) =>
            if x8_16 < (ν10.1 113 0) then
              lt (((x3_14 * 1103515245) + 12345) - ((x3_14 * 1103515245) + 12345) / 2147483648 * 2147483648) fun x3_20 =>
              chk (36 + x8_16) 184 (
                if ((x3_20 / 65536) - (x3_20 / 65536) / 10 * 10) < ((ν10.1 113 (ix (36 + x8_16))) : Int32).toInt64 then
                  some (.inl (x3_20, (x7_15 ||| ((1 : Int32) <<< (x8_16 &&& 31))), (x8_16 + 1)))
                else
                  some (.inl (x3_20, (x7_15 ||| 0), (x8_16 + 1)))
                )
            else
              some (.inr (x3_14, x7_15))
            ) (x3_7, 0, 0)) (cu2 fun (x3_17 : Int64) (x7_18 : Int32) =>
            bd2 (f_X11_goes x7_18 0 ((ν10.1 113 3) + x6_9) (ν10.1 113 5) ν10) fun r23 ν24 =>
            some (.inl (x3_17, (x5_8 + r23), (x6_9 + 1), ν24))
            )
        else
          some (.inr (x5_8, ν10))) (fun k t => t.1 = (drS K W H m l n g od (nI S).toInt64 k).1 ∧ t.2.1 = (drS K W H m l n g od (nI S).toInt64 k).2.1 ∧ t.2.2.1 = nI k ∧ t.2.2.2.2 = μ.2 ∧ (∀ b j, b ≠ 120 → t.2.2.2.1 b j = μ.1 b j) ∧ HY t.2.2.2.1 n l K W (drS K W H m l n g od (nI S).toInt64 k).2.2) (fun e : Int32 × Mem => e.1 = (drS K W H m l n g od (nI S).toInt64 M).2.1 ∧ e.2.2 = μ.2 ∧ ∀ b j, b ≠ 120 → e.2.1 b j = μ.1 b j) M (fun k t hk hI => ?_) (fun t hI => ?_) (s := ((nI S).toInt64, 0, 0, cpyI μ 113 26 120 0 10)) ⟨rfl, rfl, rfl, rfl, fun b j hb => cp_ne (by omega), hx⟩
  · obtain ⟨⟨e, ν⟩, he, j1, j2, j3⟩ := L
    refine ⟨ν, ?_, j2, j3⟩
    rw [he, ← j1]
    rfl
  · obtain ⟨x, sm, a, ν⟩ := t
    obtain ⟨rfl, rfl, rfl, i2, i3, i4⟩ := hI
    dsimp only at i2 i3 i4
    rw [cu4_eq, if_pos ((nI_ltI (by omega) (by omega)).mpr hk), i4.1]
    have L2 : lp (ε := Int64 × Int32) (cu3 fun (x3_14 : Int64) (x7_15 : Int32) (x8_16 : Int32) =>
            if x8_16 < nI n then
              lt (((x3_14 * 1103515245) + 12345) - ((x3_14 * 1103515245) + 12345) / 2147483648 * 2147483648) fun x3_20 =>
              chk (36 + x8_16) 184 (
                if ((x3_20 / 65536) - (x3_20 / 65536) / 10 * 10) < ((ν.1 113 (ix (36 + x8_16))) : Int32).toInt64 then
                  some (.inl (x3_20, (x7_15 ||| ((1 : Int32) <<< (x8_16 &&& 31))), (x8_16 + 1)))
                else
                  some (.inl (x3_20, (x7_15 ||| 0), (x8_16 + 1)))
                )
            else
              some (.inr (x3_14, x7_15))
                ) ((drS K W H m l n g od (nI S).toInt64 k).1, 0, 0) = some ((dcl (drS K W H m l n g od (nI S).toInt64 k).1 od n).1, (dcl (drS K W H m l n g od (nI S).toInt64 k).1 od n).2) := by
      refine lp_for (fun v => ((dcl (drS K W H m l n g od (nI S).toInt64 k).1 od v).1, (dcl (drS K W H m l n g od (nI S).toInt64 k).1 od v).2, nI v)) n (fun v hv => ?_) ?_
      · rw [cu3_eq, if_pos ((nI_ltI (by omega) (by omega)).mpr hv), lt_eq, show (36 : Int32) = nI 36 from rfl, ni_add, chk_nI (by omega) (by decide), ix_nI (by omega), i3 _ _ (by omega), ho v (by omega), or_z]
        show (if ((dnx (dcl (drS K W H m l n g od (nI S).toInt64 k).1 od v).1 / 65536) - (dnx (dcl (drS K W H m l n g od (nI S).toInt64 k).1 od v).1 / 65536) / 10 * 10) < (od v).toInt64 then _ else _) = some (Sum.inl (dnx _, (if ((dnx (dcl (drS K W H m l n g od (nI S).toInt64 k).1 od v).1 / 65536) - (dnx (dcl (drS K W H m l n g od (nI S).toInt64 k).1 od v).1 / 65536) / 10 * 10) < (od v).toInt64 then _ else _), _))
        by_cases q : ((dnx (dcl (drS K W H m l n g od (nI S).toInt64 k).1 od v).1 / 65536) - (dnx (dcl (drS K W H m l n g od (nI S).toInt64 k).1 od v).1 / 65536) / 10 * 10) < (od v).toInt64
        · rw [if_pos q, if_pos q, nI_succ]
          rfl
        · rw [if_neg q, if_neg q, nI_succ]
          rfl
      · rw [cu3_eq, if_neg (fun q => Nat.lt_irrefl n ((nI_ltI (by omega) (by omega)).mp q))]
    rw [L2, bd_some, cu2_eq, show ν.1 113 3 = m from (i3 _ _ (by omega)).trans em, show ν.1 113 5 = nI g from (i3 _ _ (by omega)).trans eg, gs_Y i4 (hw.dr hg k) _ 0 _ hg, bd2_some]
    exact Or.inl ⟨_, rfl, rfl, rfl, (nI_succ k).symm, i2, fun b j hb => by rw [mp_ne (by omega)]; exact i3 b j hb, mp_HY i4⟩
  · obtain ⟨x, sm, a, ν⟩ := t
    obtain ⟨rfl, rfl, rfl, i2, i3, i4⟩ := hI
    rw [cu4_eq, if_neg (fun q => Nat.lt_irrefl M ((nI_ltI (by omega) (by omega)).mp q))]
    exact ⟨_, rfl, rfl, i2, i3⟩
theorem ok_drawn (x y : Int32) : Ok (f_X10_drawn x y) (f_X11_drawn x y) := by
  intro μ h
  obtain ⟨⟨n, l, r, p, hh, h1, h2, h3, h4, h5⟩, hi, ht, hll, hrf, hq⟩ := id h
  obtain ⟨⟨hn1, hn5, hl, hr, hp⟩, ⟨s0, s1, s2, s4, gr, hgr, s5⟩, c1, c2, c3, c4, c5, c6⟩ := id hh
  obtain ⟨hX, hW⟩ := hx_of hh h1
  have ho : ∀ v, v < 5 → μ.1 13 v = μ.1 113 (36 + v) := fun v hv => by
    obtain ⟨c, _, a, b⟩ := h2 v hv
    exact b.trans a.symm
  rcases isN_or x (n := 60 + 1) (by decide) with ⟨M, hM, rfl⟩ | hx
  · rcases isN_or y (n := 999999 + 1) (by decide) with ⟨S, hS, rfl⟩ | hx
    · obtain ⟨ν, e1, e2, e3⟩ := drawn_X (od := fun v => μ.1 113 (36 + v)) (s := nI S) hX hW hgr (c4.trans s5) ho (by omega : M ≤ 60) (nI_pos (by omega)) (by exact ngt (n := 999999) (by omega) (by decide))
      obtain ⟨ν', d1, d2, d3⟩ := drawn_Y (od := fun v => μ.1 113 (36 + v)) (μ := ν) (hy_of hh (fun j => e3 _ _ (by omega))) hW hgr ((e3 _ _ (by omega)).trans s5) (e3 _ _ (by omega)) (fun v hv => e3 _ _ (by omega)) (by omega : M ≤ 60) (by omega : S ≤ 999999)
      exact ok_ask _ ν ν' e1 d1 (h.scr e2 (fun b j hb => e3 _ _ (by omega)) d2 d3)
    · refine ok_bad h ?_ (fun ν h5 hB _ => ?_)
      · unfold f_X10_drawn
        simp only [jn_eq]
        rw [if_neg (nI_pos (by omega)), if_neg (by exact ngt (n := 60) (by omega) (by decide))]
        by_cases h0 : y < 0
        · rw [if_pos h0, tally_bad, bd2_some]
        · rw [if_neg h0, if_pos (by exact gt_of (n := 999999) (by decide) (hx.resolve_left h0)), tally_bad, bd2_some]
      · unfold f_X11_drawn
        rw [inL_ok (hi := 60) (by decide) (by omega), bd_some]
        simp only [jn_eq]
        rw [if_neg (by decide), inL_bad (hi := 999999) (by decide) (or_of (by decide) hx), bd_some, if_pos (by trivial), badM h5, bd2_some]
  · refine ok_bad h ?_ (fun ν h5 hB _ => ?_)
    · unfold f_X10_drawn
      simp only [jn_eq]
      by_cases h0 : x < 0
      · rw [if_pos h0, tally_bad, bd2_some]
      · rw [if_neg h0, if_pos (by exact gt_of (n := 60) (by decide) (hx.resolve_left h0)), tally_bad, bd2_some]
    · unfold f_X11_drawn
      rw [inL_bad (hi := 60) (by decide) (or_of (by decide) hx), bd_some]
      simp only [jn_eq]
      rw [if_pos (by trivial), badM h5, bd2_some]
