/-! image, from -/
def dom (c j : Nat) : Prop := (c = 1 ∧ j < 4) ∨ ((c = 2 ∨ c = 3 ∨ c = 4 ∨ c = 7 ∨ c = 8 ∨ c = 10) ∧ j < 10) ∨ (c = 6 ∧ (j = 0 ∨ j = 3)) ∨ (c = 9 ∧ j = 0) ∨ (c = 11 ∧ j < 100) ∨ (c = 12 ∧ j < 5) ∨ (c = 13 ∧ j < 3)
theorem CR.copy {k k' : Nat} {M M' : Nat → Nat → Int32} {B B' : Nat → Int32} (h : CR k M B) (hM : ∀ c j, dom c j → M' (k' + c) j = M (k + c) j) (hB : ∀ j, j < 184 → B' j = B j) : CR k' M' B' := by
  obtain ⟨n, l, r, p, hh, h1, h2, h3, h4, h5⟩ := h
  have hl := hh.1.2.2.1
  have hr := hh.1.2.2.2.1
  have hp := hh.1.2.2.2.2
  refine ⟨n, l, r, p, hh.of (fun j hj => hM 1 j (by unfold dom; omega)) (hM 6 0 (by unfold dom; omega)) (hM 9 0 (by unfold dom; omega)) (fun j hj => hB j (by omega)), h1.of hl (fun c _ _ i _ => hM c i (by unfold dom; omega)) (fun j _ _ => hB j (by omega)), h2.of (fun i _ => hM 12 i (by unfold dom; omega)) (fun j _ _ => hB j (by omega)), h3.of (fun i _ => hM 13 i (by unfold dom; omega)) (fun j _ _ => hB j (by omega)), h4.of hr (hM 6 3 (by unfold dom; omega)) (fun c _ _ i _ => hM c i (by unfold dom; omega)) (fun j _ _ => hB j (by omega)), fun i hi => ?_⟩
  rw [hB _ (by omega), hM 10 i (by unfold dom; omega)]
  refine ⟨(h5 i hi).1, fun j hj => ?_⟩
  rw [hB _ (by omega), hM 11 _ (by unfold dom; omega)]
  exact (h5 i hi).2 j hj
theorem bc7 {k0 k1 : Nat} {μ : Mem} (hd : k0 + 3 ≤ k1 ∨ k1 + 3 ≤ k0) : ∃ ν, f_X7_become k0 k1 μ = some ν ∧ ν.2 = μ.2 ∧ (∀ b j, ¬ (k0 ≤ b ∧ b ≤ k0 + 2) → ν.1 b j = μ.1 b j) ∧ (ν.1 k0 0 = μ.1 k1 0 ∧ ν.1 k0 3 = μ.1 k1 3) ∧ ∀ c j, 1 ≤ c → c ≤ 2 → j < 10 → ν.1 (k0 + c) j = μ.1 (k1 + c) j := by
  have i0 : ix 0 = 0 := by decide
  have i10 : ix 10 = 10 := by decide
  unfold f_X7_become
  simp only [lt_eq]
  rw [ckC_d (by decide), ckC_d (by decide), i0, i10]
  refine ⟨_, rfl, rfl, fun b j hb => by ((try dsimp only); (repeat (first | rw [si_eq] | rw [si_ne (by omega)] | rw [cp_in (by omega)] | rw [cp_ne (by omega)]))), ⟨by ((try dsimp only); (repeat (first | rw [si_eq] | rw [si_ne (by omega)] | rw [cp_in (by omega)] | rw [cp_ne (by omega)]))), by ((try dsimp only); (repeat (first | rw [si_eq] | rw [si_ne (by omega)] | rw [cp_in (by omega)] | rw [cp_ne (by omega)])))⟩, fun c j hc1 hc3 hj => ?_⟩
  have e : 0 + (j - 0) = j := by omega
  match c, hc1, hc3 with
  | 1, _, _ => rw [cp_ne (by omega), cp_in (by omega), e]; ((try dsimp only); (repeat (first | rw [si_eq] | rw [si_ne (by omega)] | rw [cp_in (by omega)] | rw [cp_ne (by omega)])))
  | 2, _, _ => rw [cp_in (by omega), e]; ((try dsimp only); (repeat (first | rw [si_eq] | rw [si_ne (by omega)] | rw [cp_in (by omega)] | rw [cp_ne (by omega)])))
  | c + 3, _, h => exact absurd h (by omega)
theorem bc6 {k0 k1 : Nat} {μ : Mem} (hd : k0 + 3 ≤ k1 ∨ k1 + 3 ≤ k0) : ∃ ν, f_X6_become k0 k1 μ = some ν ∧ ν.2 = μ.2 ∧ (∀ b j, ¬ (k0 ≤ b ∧ b ≤ k0 + 2) → ν.1 b j = μ.1 b j) ∧ ν.1 k0 0 = μ.1 k1 0 ∧ (∀ j, j < 10 → ν.1 (k0 + 1) j = μ.1 (k1 + 1) j) ∧ ∀ j, j < 100 → ν.1 (k0 + 2) j = μ.1 (k1 + 2) j := by
  have i0 : ix 0 = 0 := by decide
  have i10 : ix 10 = 10 := by decide
  have i100 : ix 100 = 100 := by decide
  unfold f_X6_become
  simp only [lt_eq]
  rw [ckC_d (by decide), ckC_d (by decide), i0, i10, i100]
  refine ⟨_, rfl, rfl, fun b j hb => by ((try dsimp only); (repeat (first | rw [si_eq] | rw [si_ne (by omega)] | rw [cp_in (by omega)] | rw [cp_ne (by omega)]))), by ((try dsimp only); (repeat (first | rw [si_eq] | rw [si_ne (by omega)] | rw [cp_in (by omega)] | rw [cp_ne (by omega)]))), fun j hj => ?_, fun j hj => ?_⟩
  · have e : 0 + (j - 0) = j := by omega
    rw [cp_ne (by omega), cp_in (by omega), e]; ((try dsimp only); (repeat (first | rw [si_eq] | rw [si_ne (by omega)] | rw [cp_in (by omega)] | rw [cp_ne (by omega)])))
  · have e : 0 + (j - 0) = j := by omega
    rw [cp_in (by omega), e]; ((try dsimp only); (repeat (first | rw [si_eq] | rw [si_ne (by omega)] | rw [cp_in (by omega)] | rw [cp_ne (by omega)])))
theorem bc0 {k0 k1 : Nat} {μ : Mem} (hd : k0 + 14 ≤ k1 ∨ k1 + 14 ≤ k0) : ∃ ν, f_X0_become k0 k1 μ = some ν ∧ ν.2 = μ.2 ∧ (∀ b j, ¬ (k0 ≤ b ∧ b ≤ k0 + 13) → ν.1 b j = μ.1 b j) ∧ ∀ c j, dom c j → ν.1 (k0 + c) j = μ.1 (k1 + c) j := by
  have i0 : ix 0 = 0 := by decide
  have i5 : ix 5 = 5 := by decide
  have i3 : ix 3 = 3 := by decide
  obtain ⟨ν1, a1, a2, a3, a4, a5⟩ := bc_X (k0 := k0 + 1) (k1 := k1 + 1) (μ := μ) (by omega)
  obtain ⟨ν2, b1, b2, b3, b4, b5⟩ := bc7 (k0 := k0 + 6) (k1 := k1 + 6) (μ := ν1) (by omega)
  obtain ⟨ν3, d1, d2, d3, d4, d5, d6⟩ := bc6 (k0 := k0 + 9) (k1 := k1 + 9) (μ := ν2) (by omega)
  unfold f_X0_become
  rw [a1, bd_some, b1, bd_some, d1, bd_some]
  simp only [lt_eq]
  rw [ckC_d (by decide), ckC_d (by decide), i0, i5, i3]
  refine ⟨_, rfl, d2.trans (b2.trans a2), fun b j hb => by rw [cp_ne (by omega), cp_ne (by omega), d3 _ _ (by omega), b3 _ _ (by omega), a3 _ _ (by omega)], fun c j hc => ?_⟩
  have e : 0 + (j - 0) = j := by omega
  rcases hc with ⟨rfl, h⟩ | ⟨hc, h⟩ | ⟨rfl, h⟩ | ⟨rfl, h⟩ | ⟨rfl, h⟩ | ⟨rfl, h⟩ | ⟨rfl, h⟩
  · rw [cp_ne (by omega), cp_ne (by omega), d3 _ _ (by omega), b3 _ _ (by omega), a4 j h]
  · rcases hc with rfl | rfl | rfl | rfl | rfl | rfl
    · rw [cp_ne (by omega), cp_ne (by omega), d3 _ _ (by omega), b3 _ _ (by omega)]; exact a5 1 j (by omega) (by omega) h
    · rw [cp_ne (by omega), cp_ne (by omega), d3 _ _ (by omega), b3 _ _ (by omega)]; exact a5 2 j (by omega) (by omega) h
    · rw [cp_ne (by omega), cp_ne (by omega), d3 _ _ (by omega), b3 _ _ (by omega)]; exact a5 3 j (by omega) (by omega) h
    · rw [cp_ne (by omega), cp_ne (by omega), d3 _ _ (by omega)]; exact (b5 1 j (by omega) (by omega) h).trans (a3 _ _ (by omega))
    · rw [cp_ne (by omega), cp_ne (by omega), d3 _ _ (by omega)]; exact (b5 2 j (by omega) (by omega) h).trans (a3 _ _ (by omega))
    · rw [cp_ne (by omega), cp_ne (by omega)]; exact (d5 j h).trans ((b3 _ _ (by omega)).trans (a3 _ _ (by omega)))
  · rw [cp_ne (by omega), cp_ne (by omega), d3 _ _ (by omega)]
    rcases h with rfl | rfl
    · exact b4.1.trans (a3 _ _ (by omega))
    · exact b4.2.trans (a3 _ _ (by omega))
  · subst h
    rw [cp_ne (by omega), cp_ne (by omega), d4, b3 _ _ (by omega), a3 _ _ (by omega)]
  · rw [cp_ne (by omega), cp_ne (by omega)]; exact (d6 j h).trans ((b3 _ _ (by omega)).trans (a3 _ _ (by omega)))
  · rw [cp_ne (by omega), cp_in (by omega), e, d3 _ _ (by omega), b3 _ _ (by omega), a3 _ _ (by omega)]
  · rw [cp_in (by omega), e, cp_ne (by omega), d3 _ _ (by omega), b3 _ _ (by omega), a3 _ _ (by omega)]
theorem ok_image (x : Int32) : Ok (f_X10_image x) (f_X11_image x) := by
  intro μ h
  rcases isN_or x (n := 1 + 1) (by decide) with ⟨i, hi2, rfl⟩ | hx
  · obtain ⟨ν5, e1, e2, e3, e4⟩ := bc0 (k0 := 15 + 1 + 14 * i) (k1 := 1) (μ := μ) (by omega)
    refine ok_ask 1 (setI ν5 44 i 1) (setI (cpyI (setI ν5 44 i 1) 113 0 114 (184 * i) 184) 115 i 1) ?_ ?_ ?_
    · unfold f_X10_image
      simp only [jn_eq]
      rw [if_neg (nI_pos (by omega)), if_pos (by exact (nI_ltI (b := 2) (by omega) (by decide)).mpr hi2), chk_nI hi2 (by decide), lt_eq, ix_nI (by omega), e1, bd_some, chk_nI hi2 (by decide), lt_eq]
    · unfold f_X11_image
      rw [inL_ok (hi := 1) (by decide) (by omega), bd_some, if_neg (by decide), cpL (N := 184) (NI := 184) (s := 0) (d := 184 * i) (fs := fun x => x) rfl (by decide) (fun j hj => by rw [Nat.zero_add]) (fun j hj => by rw [show (184 : Int32) = nI 184 from rfl, ni_mul, ni_add]) (by decide) (by omega) (by decide) (by decide) (by omega), bd_some, chk_nI hi2 (by decide), lt_eq, ix_nI (by omega)]
    · obtain ⟨hc, hi, ⟨t, ht, t1, t2, t3⟩, hll, hrf, hq⟩ := h
      refine ⟨hc.of (fun c hc1 hc5 j => by rw [si_ne (by omega), cp_ne (by omega), si_ne (by omega), e3 _ _ (by omega)]) (fun j hj => by (try dsimp only); rw [si_ne (by omega), cp_ne (by omega), si_ne (by omega), e3 _ _ (by omega)]), fun i' hi' => ?_, ⟨t, ht, ?_, ?_, fun j hj => ?_⟩, ?_, ?_, ?_⟩
      · obtain ⟨q1, q2, q3⟩ := hi i' hi'
        by_cases e : i' = i
        · subst e
          refine ⟨?_, ?_, fun _ => ?_⟩
          · rw [si_ne (by omega), cp_ne (by omega), si_eq, si_eq]
          · right
            rw [si_ne (by omega), cp_ne (by omega), si_eq]
          · refine hc.copy (fun c j hd => ?_) (fun j hj => ?_)
            · have hd' := hd
              unfold dom at hd'
              rw [si_ne (by omega), cp_ne (by omega), si_ne (by omega)]
              exact e4 c j hd
            · (try dsimp only)
              rw [si_ne (by omega), cp_in (by omega), si_ne (by omega), e3 _ _ (by omega)]
              exact congrArg _ (by omega)
        · refine ⟨?_, ?_, fun z => (q3 ?_).of (fun c hc1 hc5 j => ?_) (fun j hj => ?_)⟩
          · rw [si_ne (by omega), cp_ne (by omega), si_ne (by omega), si_ne (by omega), cp_ne (by omega), si_ne (by omega), e3 _ _ (by omega), e3 _ _ (by omega)]
            exact q1
          · rw [si_ne (by omega), cp_ne (by omega), si_ne (by omega), e3 _ _ (by omega)]
            exact q2
          · rw [si_ne (by omega), cp_ne (by omega), si_ne (by omega), e3 _ _ (by omega)] at z
            exact z
          · rw [si_ne (by omega), cp_ne (by omega), si_ne (by omega), e3 _ _ (by omega)]
          · (try dsimp only)
            rw [si_ne (by omega), cp_ne (by omega), si_ne (by omega), e3 _ _ (by omega)]
      · rw [si_ne (by omega), cp_ne (by omega), si_ne (by omega), e3 _ _ (by omega)]; exact t1
      · rw [si_ne (by omega), cp_ne (by omega), si_ne (by omega), e3 _ _ (by omega)]; exact t2
      · rw [si_ne (by omega), cp_ne (by omega), si_ne (by omega), e3 _ _ (by omega), si_ne (by omega), cp_ne (by omega), si_ne (by omega), e3 _ _ (by omega)]; exact t3 j hj
      · show ν5.2 0 10 = ν5.2 112 6 ∧ ν5.2 0 11 = ν5.2 112 7
        rw [e2]; exact hll
      · rw [si_ne (by omega), cp_ne (by omega), si_ne (by omega), e3 _ _ (by omega), si_ne (by omega), cp_ne (by omega), si_ne (by omega), e3 _ _ (by omega), si_ne (by omega), cp_ne (by omega), si_ne (by omega), e3 _ _ (by omega), si_ne (by omega), cp_ne (by omega), si_ne (by omega), e3 _ _ (by omega), si_ne (by omega), cp_ne (by omega), si_ne (by omega), e3 _ _ (by omega), si_ne (by omega), cp_ne (by omega), si_ne (by omega), e3 _ _ (by omega), si_ne (by omega), cp_ne (by omega), si_ne (by omega), e3 _ _ (by omega)]
        exact hrf
      · rw [si_ne (by omega), cp_ne (by omega), si_ne (by omega), e3 _ _ (by omega)]; exact hq
  · refine ok_bad h ?_ (fun ν h5 hB _ => ?_)
    · unfold f_X10_image
      simp only [jn_eq]
      by_cases h0 : x < 0
      · rw [if_pos h0, tally_bad, bd2_some]
      · rw [if_neg h0, if_neg (by exact Int32.not_lt.mpr (hx.resolve_left h0)), tally_bad, bd2_some]
    · unfold f_X11_image
      rw [inL_bad (hi := 1) (by decide) (or_of (by decide) hx), bd_some, if_pos rfl, badM h5, bd2_some]
theorem ok_from (x : Int32) : Ok (f_X10_from x) (f_X11_from x) := by
  intro μ h
  rcases isN_or x (n := 1 + 1) (by decide) with ⟨i, hi2, rfl⟩ | hx
  · obtain ⟨q1, q2, q3⟩ := h.2.1 i hi2
    by_cases hk : μ.1 44 i = 0
    · refine ok_no h ?_ (fun ν h5 hB => ?_)
      · unfold f_X10_from
        simp only [jn_eq]
        rw [if_neg (nI_pos (by omega)), if_pos (by exact (nI_ltI (b := 2) (by omega) (by decide)).mpr hi2), chk_nI hi2 (by decide), ix_nI (by omega), if_pos hk, tally_no, bd2_some]
      · unfold f_X11_from
        rw [inL_ok (hi := 1) (by decide) (by omega), bd_some, if_neg (by decide), chk_nI hi2 (by decide), ix_nI (by omega), if_pos (by rw [hB _ _ (by decide), ← q1]; exact hk), noM h5, bd2_some]
    · obtain ⟨ν5, e1, e2, e3, e4⟩ := bc0 (k0 := 1) (k1 := 15 + 1 + 14 * i) (μ := μ) (by omega)
      refine ok_ask 1 ν5 (cpyI ν5 114 (184 * i) 113 0 184) ?_ ?_ ?_
      · unfold f_X10_from
        simp only [jn_eq]
        rw [if_neg (nI_pos (by omega)), if_pos (by exact (nI_ltI (b := 2) (by omega) (by decide)).mpr hi2), chk_nI hi2 (by decide), ix_nI (by omega), if_neg hk, chk_nI hi2 (by decide), lt_eq, e1, bd_some]
      · unfold f_X11_from
        rw [inL_ok (hi := 1) (by decide) (by omega), bd_some, if_neg (by decide), chk_nI hi2 (by decide), ix_nI (by omega), if_neg (by rw [e3 _ _ (by omega), ← q1]; exact hk), cpL (N := 184) (NI := 184) (s := 184 * i) (d := 0) (fd := fun x => x) rfl (by decide) (fun j hj => by rw [show (184 : Int32) = nI 184 from rfl, ni_mul, ni_add]) (fun j hj => by rw [Nat.zero_add]) (by omega) (by decide) (by decide) (by decide) (by omega), bd_some]
      · refine h.now (fun q j hq9 => by have k9 := relo_ne hq9; rw [cp_ne (by omega), e3 _ _ (by omega)]) ⟨by show ν5.2 0 = _; rw [e2], by show ν5.2 112 = _; rw [e2]⟩ ((q3 (q2.resolve_left hk)).copy (fun c j hd => ?_) (fun j hj => ?_))
        · have hd' := hd
          unfold dom at hd'
          rw [cp_ne (by omega)]
          exact e4 c j hd
        · (try dsimp only)
          rw [cp_in (by omega), e3 _ _ (by omega), Nat.sub_zero]
  · refine ok_bad h ?_ (fun ν h5 hB _ => ?_)
    · unfold f_X10_from
      simp only [jn_eq]
      by_cases h0 : x < 0
      · rw [if_pos h0, tally_bad, bd2_some]
      · rw [if_neg h0, if_neg (by exact Int32.not_lt.mpr (hx.resolve_left h0)), tally_bad, bd2_some]
    · unfold f_X11_from
      rw [inL_bad (hi := 1) (by decide) (or_of (by decide) hx), bd_some, if_pos rfl, badM h5, bd2_some]
