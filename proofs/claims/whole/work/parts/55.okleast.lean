/-! least: the reference's side -/
def RI (K H : Nat → Int32) (m : Int32) (l n : Nat) (μ : Mem) (W' : Nat → Int32) (s : Int32 × Int32 × Int32) (ν : Mem) : Prop := HY ν.1 n l K W' H ∧ ν.1 113 3 = m ∧ (∀ i, i < 10 → ν.1 113 (16 + i) = W' i) ∧ (ν.1 112 17 = s.1 ∧ ν.1 112 18 = s.2.1 ∧ ν.1 112 19 = s.2.2) ∧ ν.2 = μ.2 ∧ ∀ b j, b ≠ 120 → ¬ (b = 112 ∧ 17 ≤ j) → ¬ (b = 113 ∧ 16 ≤ j ∧ j < 26) → ν.1 b j = μ.1 b j
section RLEAST
variable {K W H : Nat → Int32} {m : Int32} {l n c : Nat} {μ : Mem}
theorem tries_Y {W' : Nat → Int32} {s : Int32 × Int32 × Int32} {ν : Mem} (h : RI K H m l n μ W' s ν) (hw : HW n l K W' H) (p q : Int32) : ∃ ν', f_X11_tries (nI c) p q ν = some ν' ∧ RI K H m l n μ W' (wg (tkw K W' H m l n (nI c)) p q s) ν' := by
  obtain ⟨hy, h1, h2, h3, h4, h5⟩ := id h
  have hn := hw.1.2.1
  have e : (if grt K W' H m l n (fun v => bt (nI (2 ^ n - 1) &&& (nI c ^^^ (-1))) v) = -1 then 0 else tl K W' H l (grt K W' H m l n (fun v => bt (nI (2 ^ n - 1) &&& (nI c ^^^ (-1))) v))) = tkw K W' H m l n (nI c) := by
    rw [grt_congr (b' := fun v => !(bt (nI c) v)) (fun v hv => bt_all hn hv)]
    rfl
  unfold f_X11_tries wg
  rw [all_eq hy.1 hn, bd_some, tn_Y hy hw h1, bd_some, e, h3.1]
  simp only [jn_eq, lt_eq]
  by_cases z : tkw K W' H m l n (nI c) < s.1
  · rw [if_pos z, if_pos z]
    refine ⟨_, rfl, hy.of (fun j => ?_) (fun j => ?_), ?_, fun i hi => ?_, ⟨?_, ?_, ?_⟩, h4, fun b j b1 b2 b3 => ?_⟩
    · rw [si_ne (by omega), si_ne (by omega), si_ne (by omega)]
    · rw [si_ne (by omega), si_ne (by omega), si_ne (by omega)]
    · rw [si_ne (by omega), si_ne (by omega), si_ne (by omega)]; exact h1
    · rw [si_ne (by omega), si_ne (by omega), si_ne (by omega)]; exact h2 i hi
    · rw [si_ne (by omega), si_ne (by omega), si_eq]
    · rw [si_ne (by omega), si_eq]
    · rw [si_eq]
    · rw [si_ne (by omega), si_ne (by omega), si_ne (by omega)]; exact h5 b j b1 b2 b3
  · rw [if_neg z, if_neg z]
    exact ⟨ν, rfl, h⟩
theorem RI.put {W' : Nat → Int32} {s : Int32 × Int32 × Int32} {ν : Mem} (h : RI K H m l n μ W' s ν) {k : Nat} (hl : l ≤ 10) (hk : k < 10) (x : Int32) : RI K H m l n μ (uW W' k x) s (setI ν 113 (16 + k) x) := by
  obtain ⟨hy, h1, h2, h3, h4, h5⟩ := h
  have P : ∀ i, i < 10 → (setI ν 113 (16 + k) x).1 113 (16 + i) = uW W' k x i := fun i hi => by
    by_cases e : i = k
    · rw [e, si_eq, uW_eq]
    · rw [si_ne (by omega), uW_ne e]; exact h2 i hi
  refine ⟨⟨?_, ?_, fun i hi => ⟨?_, P i (by omega), ?_⟩⟩, ?_, P, ⟨?_, ?_, ?_⟩, h4, fun b j b1 b2 b3 => ?_⟩
  · rw [si_ne (by omega)]; exact hy.1
  · rw [si_ne (by omega)]; exact hy.2.1
  · rw [si_ne (by omega)]; exact (hy.2.2 i hi).1
  · rw [si_ne (by omega)]; exact (hy.2.2 i hi).2.2
  · rw [si_ne (by omega)]; exact h1
  · rw [si_ne (by omega)]; exact h3.1
  · rw [si_ne (by omega)]; exact h3.2.1
  · rw [si_ne (by omega)]; exact h3.2.2
  · rw [si_ne (by omega)]; exact h5 b j b1 b2 b3
theorem HW.up2 {W' : Nat → Int32} (hw : HW n l K W' H) {i v : Nat} (hv : v < n) : HW n l K (uW W' i (nI v)) H := hw.up hv
/-- one candidate move, then back -/
theorem body_Y {W' : Nat → Int32} {s : Int32 × Int32 × Int32} {ν : Mem} {a : Nat} (h : RI K H m l n μ W' s ν) (hw : HW n l K W' H) (ha : a < 100) (act : Mem → Option Mem) (st : Nat → Int32 × Int32 × Int32 → Int32 × Int32 × Int32) (hact : a / 10 < l → a % 10 < n → ¬ nI (a % 10) = W' (a / 10) → ∀ ν17, RI K H m l n μ (uW W' (a / 10) (nI (a % 10))) s ν17 → ∃ ν18, act ν17 = some ν18 ∧ RI K H m l n μ (uW W' (a / 10) (nI (a % 10))) (st a s) ν18) (hst : ¬ (a / 10 < l ∧ a % 10 < n ∧ ¬ nI (a % 10) = W' (a / 10)) → st a s = s) :
    ∃ s', (if (nI a / 10) < (ν.1 113 1) then
                if (nI a - nI a / 10 * 10) < (ν.1 113 0) then
                  chk (16 + (nI a / 10)) 184 (
                    if (nI a - nI a / 10 * 10) = (ν.1 113 (ix (16 + (nI a / 10)))) then
                      (some (.inl ((nI a + 1), ν)) : Option ((Int32 × Mem) ⊕ Mem))
                    else
                      bd2 (f_X11_puts (16 + (nI a / 10)) (nI a - nI a / 10 * 10) ν) fun r16 ν17 =>
                      bd (act ν17) fun ν18 =>
                      chk (16 + (nI a / 10)) 184 (lt (setI ν18 113 (ix (16 + (nI a / 10))) r16) fun ν19 =>
                        some (.inl ((nI a + 1), ν19))
                        )
                    )
                else
                  some (.inl ((nI a + 1), ν))
              else
                some (.inl ((nI a + 1), ν))) = some (.inl s') ∧ s'.1 = nI (a + 1) ∧ RI K H m l n μ W' (st a s) s'.2 := by
  have hl := hw.1.2.2
  have hn := hw.1.2.1
  have e1 : nI a - nI a / 10 * 10 = nI (a % 10) := pk_rem (d := 10) (by omega) (by decide) (by decide)
  have e2 : nI a / 10 = nI (a / 10) := pk_div (d := 10) (by omega) (by decide) (by decide)
  rw [e1, e2, show (16 : Int32) = nI 16 from rfl, ni_add, h.1.1, h.1.2.1, ix_nI (by omega), ← nI_succ]
  by_cases q1 : a / 10 < l
  · rw [if_pos ((nI_ltI (by omega) (by omega)).mpr q1)]
    by_cases q2 : a % 10 < n
    · rw [if_pos ((nI_ltI (by omega) (by omega)).mpr q2), chk_nI (by omega) (by decide), h.2.2.1 _ (by omega)]
      by_cases q3 : nI (a % 10) = W' (a / 10)
      · rw [if_pos q3]
        refine ⟨_, rfl, rfl, ?_⟩
        rw [hst (fun q => q.2.2 q3)]
        exact h
      · rw [if_neg q3, puts_eq (by omega), bd2_some, h.2.2.1 _ (by omega)]
        obtain ⟨ν18, s1, s2⟩ := hact q1 q2 q3 _ (h.put hl (by omega : a / 10 < 10) (nI (a % 10)))
        rw [s1, bd_some, chk_nI (by omega) (by decide), lt_eq]
        refine ⟨_, rfl, rfl, ?_⟩
        have := s2.put hl (by omega : a / 10 < 10) (W' (a / 10))
        rw [uW_back rfl] at this
        exact this
    · rw [if_neg (fun z => q2 ((nI_ltI (by omega) (by omega)).mp z))]
      refine ⟨_, rfl, rfl, ?_⟩
      rw [hst (fun q => q2 q.2.1)]
      exact h
  · rw [if_neg (fun z => q1 ((nI_ltI (by omega) (by omega)).mp z))]
    refine ⟨_, rfl, rfl, ?_⟩
    rw [hst (fun q => q1 q.1)]
    exact h
/-- all last moves behind a first one -/
theorem last_Y {W' : Nat → Int32} {s0 : Int32 × Int32 × Int32} {ν : Mem} {a k : Nat} (h : RI K H m l n μ W' s0 ν) (hw : HW n l K W' H) (ha : a < 100) (hk : k < 10) : ∃ ν', lp (ε := Mem) (cu2 fun (x8_28 : Int32) (ν29 : Mem) =>
                          if x8_28 < 100 then
                            if (x8_28 / 10) < (ν29.1 113 1) then
                              if (x8_28 - x8_28 / 10 * 10) < (ν29.1 113 0) then
                                chk (16 + (x8_28 / 10)) 184 (
                                  if (x8_28 - x8_28 / 10 * 10) = (ν29.1 113 (ix (16 + (x8_28 / 10)))) then
                                    some (.inl ((x8_28 + 1), ν29))
                                  else
                                    bd2 (f_X11_puts (16 + (x8_28 / 10)) (x8_28 - x8_28 / 10 * 10) ν29) fun r34 ν35 =>
                                    bd (f_X11_tries (nI c) (nI a) x8_28 ν35) fun ν36 =>
                                    chk (16 + (x8_28 / 10)) 184 (lt (setI ν36 113 (ix (16 + (x8_28 / 10))) r34) fun ν37 =>
                                      some (.inl ((x8_28 + 1), ν37))
                                      )
                                  )
                              else
                                some (.inl ((x8_28 + 1), ν29))
                            else
                              some (.inl ((x8_28 + 1), ν29))
                          else
                            some (.inr ν29)
                          ) (nI (10 * (k + 1)), ν) = some ν' ∧ RI K H m l n μ W' (itf (lmS K H m l n (nI c) W' (mkA (nI a))) (10 * (k + 1)) (100 - 10 * (k + 1)) s0) ν' := by
  refine lp_inv (fun d (s : Int32 × Mem) => s.1 = nI (10 * (k + 1) + d) ∧ RI K H m l n μ W' (itf (lmS K H m l n (nI c) W' (mkA (nI a))) (10 * (k + 1)) d s0) s.2) _ (100 - 10 * (k + 1)) (fun d s hd hI => ?_) (fun s hI => ?_) ⟨rfl, h⟩
  · obtain ⟨x, ν2⟩ := s
    obtain ⟨rfl, hI2⟩ := hI
    dsimp only at hI2
    rw [cu2_eq, if_pos (by exact (nI_ltI (b := 100) (by omega) (by decide)).mpr (by omega))]
    left
    refine body_Y (a := 10 * (k + 1) + d) hI2 hw (by omega) (fun ν35 => f_X11_tries (nI c) (nI a) (nI (10 * (k + 1) + d)) ν35) (lmS K H m l n (nI c) W' (mkA (nI a))) (fun q1 q2 q3 ν17 h17 => ?_) (fun q => lmS_f q)
    obtain ⟨ν18, t1, t2⟩ := tries_Y (c := c) h17 (hw.up q2) (nI a) (nI (10 * (k + 1) + d))
    refine ⟨ν18, t1, ?_⟩
    unfold lmS mkA
    rw [if_pos ⟨q1, q2, q3⟩, if_neg (m1_100 a ha), if_neg (m1_100 a ha)]
    exact t2
  · obtain ⟨x, ν2⟩ := s
    obtain ⟨rfl, hI2⟩ := hI
    dsimp only at hI2
    rw [cu2_eq, if_neg (by exact fun q => absurd ((nI_ltI (b := 100) (by omega) (by decide)).mp q) (by omega))]
    exact ⟨_, rfl, hI2⟩
theorem tkw_in (hw : HW n l K W H) (x : Int32) : ∃ T, T ≤ 100 ∧ tkw K W H m l n x = nI T := by
  unfold tkw
  by_cases q : fiO K W H m l n x = -1
  · rw [if_pos q]; exact ⟨0, by omega, rfl⟩
  · rw [if_neg q]; exact tl_in hw _
theorem least_Y {M w : Nat} (s0 : μ.1 113 0 = nI n) (hc : c < 2 ^ n) (hM : M ≤ 2) (hww : w ≤ 2) (hy : HY (cpyI μ 113 26 120 0 10).1 n l K W H) (hw : HW n l K W H) (em : μ.1 113 3 = m) (hW : ∀ i, i < 10 → μ.1 113 (16 + i) = W i) : ∃ ν, f_X11_least (nI c) (nI M) (nI w) μ = some (if w = 0 then (lsR K W H m l n (nI c) M).1 else if w = 1 then (lsR K W H m l n (nI c) M).2.1 else (lsR K W H m l n (nI c) M).2.2, ν) ∧ RI K H m l n μ W (lsR K W H m l n (nI c) M) ν := by
  have hn := hw.1.2.1
  have hl := hw.1.2.2
  unfold f_X11_least
  rw [isS_ok s0 hn hc, bd_some]
  simp only [jn_eq, lt_eq]
  rw [if_neg (by decide), inL_ok (hi := 2) (by decide) hM, bd_some, if_neg (by decide), inL_ok (hi := 2) (by decide) hww, bd_some, if_neg (by decide), asNow_eq, bd_some]
  have R0 : RI K H m l n μ W (1000000, (cpyI μ 113 26 120 0 10).1 112 18, (cpyI μ 113 26 120 0 10).1 112 19) (setI (cpyI μ 113 26 120 0 10) 112 17 1000000) := by
    refine ⟨hy.of (fun j => si_ne (by omega)) (fun j => si_ne (by omega)), ?_, fun i hi => ?_, ⟨si_eq, si_ne (by omega), si_ne (by omega)⟩, rfl, fun b j b1 b2 b3 => ?_⟩
    · rw [si_ne (by omega), cp_ne (by omega)]; exact em
    · rw [si_ne (by omega), cp_ne (by omega)]; exact hW i hi
    · rw [si_ne (by omega), cp_ne (by omega)]
  obtain ⟨ν9, t1, t2⟩ := tries_Y (c := c) R0 hw (-1) (-1)
  obtain ⟨T, hT, eT⟩ := tkw_in (m := m) hw (nI c)
  have t3 : wg (tkw K W H m l n (nI c)) (-1) (-1) (1000000, (cpyI μ 113 26 120 0 10).1 112 18, (cpyI μ 113 26 120 0 10).1 112 19) = (tkw K W H m l n (nI c), -1, -1) := if_pos (by
    show tkw K W H m l n (nI c) < 1000000
    rw [eT]
    exact (nI_ltI (b := 1000000) (by omega) (by decide)).mpr (by omega))
  rw [t3] at t2
  rw [t1, bd_some]
  have L1 : ∃ ν12, lp (ε := Mem) (cu2 fun (x5_10 : Int32) (ν11 : Mem) =>
          if x5_10 < 100 then
            if 0 < nI M then
              if (x5_10 / 10) < (ν11.1 113 1) then
                if (x5_10 - x5_10 / 10 * 10) < (ν11.1 113 0) then
                  chk (16 + (x5_10 / 10)) 184 (
                    if (x5_10 - x5_10 / 10 * 10) = (ν11.1 113 (ix (16 + (x5_10 / 10)))) then
                      some (.inl ((x5_10 + 1), ν11))
                    else
                      bd2 (f_X11_puts (16 + (x5_10 / 10)) (x5_10 - x5_10 / 10 * 10) ν11) fun r16 ν17 =>
                      bd (f_X11_tries (nI c) x5_10 (-1) ν17) fun ν18 =>
                      chk (16 + (x5_10 / 10)) 184 (
                        some (.inl ((x5_10 + 1), setI ν18 113 (ix (16 + (x5_10 / 10))) r16))
                        )
                    )
                else
                  some (.inl ((x5_10 + 1), ν11))
              else
                some (.inl ((x5_10 + 1), ν11))
            else
              some (.inr ν11)
          else
            some (.inr ν11)
          ) (0, ν9) = some ν12 ∧ RI K H m l n μ W (if M < 1 then (tkw K W H m l n (nI c), -1, -1) else itf (lmS K H m l n (nI c) W (mkA (-1))) 0 100 (tkw K W H m l n (nI c), -1, -1)) ν12 := by
    by_cases q : M < 1
    · rw [if_pos q]
      refine ⟨ν9, lp_inr (e := ν9) ?_, t2⟩
      rw [cu2_eq, if_pos (by decide), if_neg (by exact fun z => absurd ((nI_ltI (a := 0) (by decide) (by omega)).mp z) (by omega))]
    · rw [if_neg q]
      refine lp_inv (fun d (s : Int32 × Mem) => s.1 = nI d ∧ RI K H m l n μ W (itf (lmS K H m l n (nI c) W (mkA (-1))) 0 d (tkw K W H m l n (nI c), -1, -1)) s.2) _ 100 (fun d s hd hI => ?_) (fun s hI => ?_) ⟨rfl, t2⟩
      · obtain ⟨x, ν2⟩ := s
        obtain ⟨rfl, hI2⟩ := hI
        dsimp only at hI2
        rw [cu2_eq, if_pos (by exact (nI_ltI (b := 100) (by omega) (by decide)).mpr (by omega)), if_pos (by exact (nI_ltI (a := 0) (by decide) (by omega)).mpr (by omega))]
        left
        have B := body_Y (a := d) hI2 hw (by omega) (fun ν35 => f_X11_tries (nI c) (nI d) (-1) ν35) (lmS K H m l n (nI c) W (mkA (-1))) (fun q1 q2 q3 ν17 h17 => ?_) (fun q => lmS_f q)
        · obtain ⟨s', e1, e2, e3⟩ := B
          refine ⟨s', e1, e2, ?_⟩
          show RI K H m l n μ W (lmS K H m l n (nI c) W (mkA (-1)) (0 + d) _) s'.2
          rw [Nat.zero_add]
          exact e3
        · obtain ⟨ν18, t1, t2⟩ := tries_Y (c := c) h17 (hw.up q2) (nI d) (-1)
          refine ⟨ν18, t1, ?_⟩
          unfold lmS mkA
          rw [if_pos ⟨q1, q2, q3⟩, if_pos rfl, if_pos rfl]
          exact t2
      · obtain ⟨x, ν2⟩ := s
        obtain ⟨rfl, hI2⟩ := hI
        dsimp only at hI2
        rw [cu2_eq, if_neg (by decide)]
        exact ⟨_, rfl, hI2⟩
  obtain ⟨ν12, l1, l2⟩ := L1
  rw [l1, bd_some]
  have L2 : ∃ ν22, lp (ε := Mem) (cu2 fun (x5_20 : Int32) (ν21 : Mem) =>
            if x5_20 < 100 then
              if 1 < nI M then
                if (x5_20 / 10) < (ν21.1 113 1) then
                  if (x5_20 - x5_20 / 10 * 10) < (ν21.1 113 0) then
                    chk (16 + (x5_20 / 10)) 184 (
                      if (x5_20 - x5_20 / 10 * 10) = (ν21.1 113 (ix (16 + (x5_20 / 10)))) then
                        some (.inl ((x5_20 + 1), ν21))
                      else
                        bd2 (f_X11_puts (16 + (x5_20 / 10)) (x5_20 - x5_20 / 10 * 10) ν21) fun r26 ν27 =>
                        bd (lp (ε := Mem) (cu2 fun (x8_28 : Int32) (ν29 : Mem) =>
                          if x8_28 < 100 then
                            if (x8_28 / 10) < (ν29.1 113 1) then
                              if (x8_28 - x8_28 / 10 * 10) < (ν29.1 113 0) then
                                chk (16 + (x8_28 / 10)) 184 (
                                  if (x8_28 - x8_28 / 10 * 10) = (ν29.1 113 (ix (16 + (x8_28 / 10)))) then
                                    some (.inl ((x8_28 + 1), ν29))
                                  else
                                    bd2 (f_X11_puts (16 + (x8_28 / 10)) (x8_28 - x8_28 / 10 * 10) ν29) fun r34 ν35 =>
                                    bd (f_X11_tries (nI c) x5_20 x8_28 ν35) fun ν36 =>
                                    chk (16 + (x8_28 / 10)) 184 (
                                      some (.inl ((x8_28 + 1), setI ν36 113 (ix (16 + (x8_28 / 10))) r34))
                                      )
                                  )
                              else
                                some (.inl ((x8_28 + 1), ν29))
                            else
                              some (.inl ((x8_28 + 1), ν29))
                          else
                            some (.inr ν29)
                          ) (((10 * (x5_20 / 10)) + 10), ν27)) (fun (ν30 : Mem) =>
                          chk (16 + (x5_20 / 10)) 184 (
                            some (.inl ((x5_20 + 1), setI ν30 113 (ix (16 + (x5_20 / 10))) r26))
                            )
                          )
                      )
                  else
                    some (.inl ((x5_20 + 1), ν21))
                else
                  some (.inl ((x5_20 + 1), ν21))
              else
                some (.inr ν21)
            else
              some (.inr ν21)
            ) (0, ν12) = some ν22 ∧ RI K H m l n μ W (lsR K W H m l n (nI c) M) ν22 := by
    unfold lsR
    by_cases q : M < 2
    · rw [if_pos q]
      refine ⟨ν12, lp_inr (e := ν12) ?_, l2⟩
      rw [cu2_eq, if_pos (by decide), if_neg (by exact fun z => absurd ((nI_ltI (a := 1) (by decide) (by omega)).mp z) (by omega))]
    · rw [if_neg q]
      generalize (if M < 1 then (tkw K W H m l n (nI c), -1, -1) else itf (lmS K H m l n (nI c) W (mkA (-1))) 0 100 (tkw K W H m l n (nI c), -1, -1)) = S1 at l2 ⊢
      refine lp_inv (fun d (s : Int32 × Mem) => s.1 = nI d ∧ RI K H m l n μ W (itf (lm2 K H m l n (nI c) W) 0 d S1) s.2) _ 100 (fun d s hd hI => ?_) (fun s hI => ?_) ⟨rfl, l2⟩
      · obtain ⟨x, ν2⟩ := s
        obtain ⟨rfl, hI2⟩ := hI
        dsimp only at hI2
        rw [cu2_eq, if_pos (by exact (nI_ltI (b := 100) (by omega) (by decide)).mpr (by omega)), if_pos (by exact (nI_ltI (a := 1) (by decide) (by omega)).mpr (by omega))]
        left
        have e9 : (10 * (nI d / 10)) + 10 = nI (10 * (d / 10 + 1)) := by
          rw [show nI d / 10 = nI (d / 10) from pk_div (d := 10) (by omega) (by decide) (by decide), show (10 : Int32) = nI 10 from rfl, ni_mul, ni_add]
          exact congrArg nI (by omega)
        rw [e9]
        have B := body_Y (a := d) hI2 hw (by omega) (fun ν27 => lp (ε := Mem) (cu2 fun (x8_28 : Int32) (ν29 : Mem) =>
                          if x8_28 < 100 then
                            if (x8_28 / 10) < (ν29.1 113 1) then
                              if (x8_28 - x8_28 / 10 * 10) < (ν29.1 113 0) then
                                chk (16 + (x8_28 / 10)) 184 (
                                  if (x8_28 - x8_28 / 10 * 10) = (ν29.1 113 (ix (16 + (x8_28 / 10)))) then
                                    some (.inl ((x8_28 + 1), ν29))
                                  else
                                    bd2 (f_X11_puts (16 + (x8_28 / 10)) (x8_28 - x8_28 / 10 * 10) ν29) fun r34 ν35 =>
                                    bd (f_X11_tries (nI c) (nI d) x8_28 ν35) fun ν36 =>
                                    chk (16 + (x8_28 / 10)) 184 (
                                      some (.inl ((x8_28 + 1), setI ν36 113 (ix (16 + (x8_28 / 10))) r34))
                                      )
                                  )
                              else
                                some (.inl ((x8_28 + 1), ν29))
                            else
                              some (.inl ((x8_28 + 1), ν29))
                          else
                            some (.inr ν29)
                          ) (nI (10 * (d / 10 + 1)), ν27)) (lm2 K H m l n (nI c) W) (fun q1 q2 q3 ν17 h17 => ?_) (fun q => if_neg q)
        · obtain ⟨s', e1, e2, e3⟩ := B
          refine ⟨s', e1, e2, ?_⟩
          show RI K H m l n μ W (lm2 K H m l n (nI c) W (0 + d) _) s'.2
          rw [Nat.zero_add]
          exact e3
        · obtain ⟨ν18, u1, u2⟩ := last_Y (a := d) (c := c) h17 (hw.up q2) (by omega) (by omega : d / 10 < 10)
          refine ⟨ν18, u1, ?_⟩
          unfold lm2
          rw [if_pos ⟨q1, q2, q3⟩]
          exact u2
      · obtain ⟨x, ν2⟩ := s
        obtain ⟨rfl, hI2⟩ := hI
        dsimp only at hI2
        rw [cu2_eq, if_neg (by decide)]
        exact ⟨_, rfl, hI2⟩
  obtain ⟨ν22, k1, k2⟩ := L2
  rw [k1, bd_some]
  refine ⟨ν22, ?_, k2⟩
  obtain ⟨a1, a2, a3⟩ := k2.2.2.2.1
  rw [a1, a2, a3]
  match w, hww with
  | 0, _ => rfl
  | 1, _ => rfl
  | 2, _ => rfl
  | w + 3, h => exact absurd h (by omega)
end RLEAST
theorem ok_least (x y z : Int32) : Ok (f_X10_least x y z) (f_X11_least x y z) := by
  intro μ h
  obtain ⟨⟨n, l, r, p, hh, h1, h2, h3, h4, h5⟩, hi, ht, hll, hrf, hq⟩ := id h
  obtain ⟨⟨hn1, hn5, hl, hr, hp⟩, ⟨s0, s1, s2, s4, gr, hgr, s5⟩, c1, c2, c3, c4, c5, c6⟩ := id hh
  obtain ⟨hX, hW⟩ := hx_of hh h1
  have bad : (x < 0 ∨ nI (2 ^ n) ≤ x) ∨ (∃ c, c < 2 ^ n ∧ x = nI c) ∧ ((y < 0 ∨ nI (2 + 1) ≤ y) ∨ (∃ M, M < 2 + 1 ∧ y = nI M) ∧ (z < 0 ∨ nI (2 + 1) ≤ z)) → ∃ r ν1 ν2, f_X10_least x y z μ = some (r, ν1) ∧ f_X11_least x y z ν1 = some (r, ν2) ∧ Rel ν2 := by
    intro hb
    refine ok_badr h (r := -10) ?_ (fun ν h5 hB => ?_)
    · unfold f_X10_least
      rcases hb with hx | ⟨⟨c, hc, rfl⟩, hy | ⟨⟨M, hM, rfl⟩, hz⟩⟩
      · rw [hasC_bad hX.1 hn5 hx, bd_some, jn_eq, if_pos rfl, refB, bd2_some]
      · rw [hasC_ok hX.1 hn5 hc, bd_some, jn_eq, if_neg (by decide)]
        by_cases h0 : y < 0
        · rw [if_pos h0, refB, bd2_some]
        · rw [if_neg h0, if_pos (by exact gt_of (n := 2) (by decide) (hy.resolve_left h0)), refB, bd2_some]
      · rw [hasC_ok hX.1 hn5 hc, bd_some, jn_eq, if_neg (by decide), if_neg (nI_pos (by omega)), if_neg (by exact ngt (n := 2) (by omega) (by decide))]
        by_cases h0 : z < 0
        · rw [if_pos h0, refB, bd2_some]
        · rw [if_neg h0, if_pos (by exact gt_of (n := 2) (by decide) (hz.resolve_left h0)), refB, bd2_some]
    · unfold f_X11_least
      rcases hb with hx | ⟨⟨c, hc, rfl⟩, hy | ⟨⟨M, hM, rfl⟩, hz⟩⟩
      · rw [isS_bad ((hB 0).trans s0) hn5 hx, bd_some, jn_eq, if_pos rfl, refM0 h5, bd2_some]
      · rw [isS_ok ((hB 0).trans s0) hn5 hc, bd_some, jn_eq, if_neg (by decide), inL_bad (hi := 2) (by decide) (or_of (by decide) hy), bd_some, if_pos rfl, refM0 h5, bd2_some]
      · rw [isS_ok ((hB 0).trans s0) hn5 hc, bd_some, jn_eq, if_neg (by decide), inL_ok (hi := 2) (by decide) (by omega), bd_some, if_neg (by decide), inL_bad (hi := 2) (by decide) (or_of (by decide) hz), bd_some, if_pos rfl, refM0 h5, bd2_some]
  rcases isN_or x (n := 2 ^ n) (by have := pow5 hn5; omega) with ⟨c, hc, rfl⟩ | hx
  · rcases isN_or y (n := 2 + 1) (by decide) with ⟨M, hM, rfl⟩ | hy
    · rcases isN_or z (n := 2 + 1) (by decide) with ⟨w, hw, rfl⟩ | hz
      · obtain ⟨ν, e1, e2⟩ := msearch_X (c := c) hX hW (by omega : M ≤ 2)
        obtain ⟨i1, i2, i3, i4, i5, i6⟩ := e2
        have hB : ∀ j, ν.1 113 j = μ.1 113 j := fun j => i6 _ _ (by omega)
        obtain ⟨ν', d1, d2⟩ := least_Y (μ := ν) (w := w) ((hB 0).trans s0) hc (by omega : M ≤ 2) (by omega) (hy_of hh hB) hW (hB 3) (fun i _ => hB _)
        obtain ⟨k1, k2, k3, k4, k5, k6⟩ := d2
        refine ok_ask _ ν ν' ?_ d1 (h.frame (fun p j hp => ?_) ?_)
        · unfold f_X10_least
          rw [hasC_ok hX.1 hn5 hc, bd_some, jn_eq, if_neg (by decide), if_neg (nI_pos (by omega)), if_neg (by exact ngt (n := 2) (by omega) (by decide)), if_neg (nI_pos (by omega)), if_neg (by exact ngt (n := 2) (by omega) (by decide)), e1, bd_some, i4.1, i4.2.1, i4.2.2]
          match w, hw with
          | 0, _ => rfl
          | 1, _ => rfl
          | 2, _ => rfl
          | w + 3, h => exact absurd h (by omega)
        · have hp' := relv_ne hp
          by_cases q : p = 113 ∧ 16 ≤ j ∧ j < 26
          · obtain ⟨rfl, q1, q2⟩ := q
            have := k3 (j - 16) (by omega)
            rw [show 16 + (j - 16) = j by omega] at this
            rw [this]
            show μ.1 113 (16 + (j - 16)) = μ.1 113 j
            rw [show 16 + (j - 16) = j by omega]
          · rw [k6 p j (by omega) (by omega) q, i6 _ _ (by omega)]
        · rw [k5, i5]
          exact ⟨rfl, rfl⟩
      · exact bad (Or.inr ⟨⟨c, hc, rfl⟩, Or.inr ⟨⟨M, hM, rfl⟩, hz⟩⟩)
    · exact bad (Or.inr ⟨⟨c, hc, rfl⟩, Or.inl hy⟩)
  · exact bad (Or.inl hx)
