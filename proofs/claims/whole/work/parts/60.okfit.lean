/-! fit -/
theorem fstI_one {P : Nat → Prop} {N : Nat} {x y : Int32} (h : fstI P N x) (h' : fstI P N y) : x = y := by
  rcases h with ⟨a, rfl⟩ | ⟨a, z, rfl, b⟩
  · rcases h' with ⟨a', rfl⟩ | ⟨a', z', rfl, b'⟩
    · rfl
    · omega
  · rcases h' with ⟨a', rfl⟩ | ⟨a', z', rfl, b'⟩
    · omega
    · rw [b.one b']
theorem fit_X {K W H : Nat → Int32} {m : Int32} {l n gg M w : Nat} {td : Nat → Int32} {μ : Mem} (hx : HX 2 μ.1 n l K W H m) (hw : HW n l K W H) (hg : gg ≤ 9) (eg : μ.1 2 3 = nI gg) (ht : ∀ j, j < 3 → μ.1 14 j = td j) (hM1 : 1 ≤ M) (hM : M ≤ 3) (hww : w < 2) : ∃ x ν, f_X10_fit (nI M) (nI w) μ = some (if w = 0 then nI (cN (fitP K W m l n gg td M 0 H) (32 ^ M)) else x, ν) ∧ fstI (fitP K W m l n gg td M 0 H) (32 ^ M) x ∧ ν.2 = μ.2 ∧ ∀ b j, ¬ (83 ≤ b ∧ b ≤ 111) → ν.1 b j = μ.1 b j := by
  have hl := hw.1.2.2
  obtain ⟨ν2, b1, b2, b3, b4, b5⟩ := bc_H (k0 := 83) (k1 := 2) (μ := μ) (by omega) hx hl
  have hMM : 32 ^ M ≤ 32768 := by
    have : 32 ^ M ≤ 32 ^ 3 := Nat.pow_le_pow_right (by decide) hM
    omega
  have cle := cN_le (fitP K W m l n gg td M 0 H) (32 ^ M)
  obtain ⟨ν', c1, c2, c3, c4⟩ := rows_X (K := K) (W := W) (m := m) (l := l) (n := n) (td := td) hg hM M 0 5 H ν2 rfl (by omega) hw (by rw [ma_0]; exact b4) (b5.trans eg) (fun j hj => by rw [b3 _ _ (by omega)]; exact ht j hj)
  have S : f_X1_search 1 (nI M) μ = some (nI (cN (fitP K W m l n gg td M 0 H) (32 ^ M)), ν') := by
    unfold f_X1_search
    rw [show (0 : Int32) = nI 0 from rfl, chk_nI (by decide) (by decide), lt_eq, ix_nI (by decide), show f_X3_become (82 + 1 + 5 * 0) (1 + 1) μ = some ν2 from b1, bd_some, show f_X1_rowsFrom 5 (nI 0) (nI M) (1 + 13) ν2 = some (nI (cN (fitP K W m l n gg td M 0 H) (32 ^ M)), ν') from c1, bd2_some]
  refine ⟨if cN (fitP K W m l n gg td M 0 H) (32 ^ M) = 0 then -1 else ν'.1 111 0, ν', ?_, ?_, c2.trans b2, fun b j hb => ?_⟩
  · unfold f_X10_fit
    rw [jn_eq, if_neg (by exact fun q => absurd ((nI_ltI (b := 1) (by omega) (by decide)).mp q) (by omega)), if_neg (by exact ngt (n := 3) (by omega) (by decide)), if_neg (nI_pos (by omega)), if_neg (by exact ngt (n := 1) (by omega) (by decide)), S, bd2_some]
    match w, hww with
    | 0, _ => rfl
    | 1, _ =>
      rw [if_neg (by decide), jn_eq]
      show (if nI (cN (fitP K W m l n gg td M 0 H) (32 ^ M)) = 0 then some (-1, ν') else some (ν'.1 111 0, ν')) = some (if cN (fitP K W m l n gg td M 0 H) (32 ^ M) = 0 then -1 else ν'.1 111 0, ν')
      by_cases q : cN (fitP K W m l n gg td M 0 H) (32 ^ M) = 0
      · rw [if_pos q, if_pos (by rw [q]; rfl)]
      · rw [if_neg q, if_neg (by exact fun z => q ((nI_eq (b := 0) (by omega) (by decide)).mp z))]
    | w + 2, h => exact absurd h (by omega)
  · by_cases q : cN (fitP K W m l n gg td M 0 H) (32 ^ M) = 0
    · rw [if_pos q]; exact Or.inl ⟨q, rfl⟩
    · rw [if_neg q]
      obtain ⟨x, x1, x2⟩ := c4 (by omega)
      exact Or.inr ⟨by omega, x, x1, x2⟩
  · rw [c3 b j (by unfold frF; omega), b3 _ _ (by omega)]
theorem ok_fit (x y : Int32) : Ok (f_X10_fit x y) (f_X11_fit x y) := by
  intro μ h
  obtain ⟨⟨n, l, r, p, hh, h1, h2, h3, h4, h5⟩, hi, ht, hll, hrf, hq⟩ := id h
  obtain ⟨⟨hn1, hn5, hl, hr, hp⟩, ⟨s0, s1, s2, s4, gr, hgr, s5⟩, c1, c2, c3, c4, c5, c6⟩ := id hh
  obtain ⟨hX, hW⟩ := hx_of hh h1
  rcases isN_or x (n := 3 + 1) (by decide) with ⟨M, hM, rfl⟩ | hx
  · by_cases hM1 : 1 ≤ M
    · rcases isN_or y (n := 1 + 1) (by decide) with ⟨w, hw, rfl⟩ | hy
      · obtain ⟨a, ν, e1, e2, e3, e4⟩ := fit_X (w := w) (td := fun k => μ.1 113 (71 + k)) hX hW hgr (c4.trans s5) (fun j hj => by obtain ⟨t, _, a, b⟩ := h3 j hj; exact b.trans a.symm) hM1 (by omega) hw
        obtain ⟨a', ν', d1, d2, d3, d4⟩ := fit_Y (w := w) (ν0 := ν) hh hW (fun j => e4 _ _ (by omega)) hgr s5 hM1 (by omega : M ≤ 3) hw
        have := fstI_one e2 d2
        subst this
        exact ok_ask _ ν ν' e1 d1 (h.scr e3 (fun b j hb => e4 _ _ (by omega)) d3 d4)
      · refine ok_badr h (r := -10) ?_ (fun ν h5 hB => ?_)
        · unfold f_X10_fit
          rw [jn_eq, if_neg (by exact fun q => absurd ((nI_ltI (b := 1) (by omega) (by decide)).mp q) (by omega)), if_neg (by exact ngt (n := 3) (by omega) (by decide))]
          by_cases h0 : y < 0
          · rw [if_pos h0, refB, bd2_some]
          · rw [if_neg h0, if_pos (by exact gt_of (n := 1) (by decide) (hy.resolve_left h0)), refB, bd2_some]
        · unfold f_X11_fit
          rw [show (1 : Int64) = (nI 1).toInt64 by decide, show (3 : Int64) = (nI 3).toInt64 by decide, in32_ok (by omega) hM1 (by omega) (by decide), bd_some, jn_eq, if_neg (by decide), show ((nI 1).toInt64 : Int64) = 1 by decide, inL_bad (hi := 1) (by decide) (or_of (by decide) hy), bd_some, if_pos rfl, refM0 h5, bd2_some]
    · have hM0 : M = 0 := by omega
      subst hM0
      refine ok_badr h (r := -10) ?_ (fun ν h5 hB => ?_)
      · unfold f_X10_fit
        rw [jn_eq, if_pos (by decide), refB, bd2_some]
      · unfold f_X11_fit
        rw [show (1 : Int64) = (nI 1).toInt64 by decide, show (3 : Int64) = (nI 3).toInt64 by decide, in32_bad (by decide) (by decide) (Or.inl (by decide)), bd_some, jn_eq, if_pos rfl, refM0 h5, bd2_some]
  · refine ok_badr h (r := -10) ?_ (fun ν h5 hB => ?_)
    · unfold f_X10_fit
      rw [jn_eq]
      by_cases h0 : x < 1
      · rw [if_pos h0, refB, bd2_some]
      · have h00 : ¬ x < 0 := fun q => h0 (Int32.lt_trans q (by decide))
        rw [if_neg h0, if_pos (by exact gt_of (n := 3) (by decide) (hx.resolve_left h00)), refB, bd2_some]
    · unfold f_X11_fit
      rw [show (1 : Int64) = (nI 1).toInt64 by decide, show (3 : Int64) = (nI 3).toInt64 by decide, in32_bad (by decide) (by decide) (by
        rcases hx with hx | hx
        · exact Or.inl (Int32.lt_trans hx (by decide))
        · exact Or.inr (gt_of (n := 3) (by decide) hx)), bd_some, jn_eq, if_pos rfl, refM0 h5, bd2_some]
