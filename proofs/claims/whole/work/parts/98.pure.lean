/-! The law's loop: its halves stay alike -/
theorem begin_I : f_X11_begins 3 μI = some (setI (fill 113 184 0 μI) 113 0 3) := by
  unfold f_X11_begins
  rw [fillL (p := 113) (N := 184) (N' := 184) (c := 0) (NI := 184) rfl (by decide) (by decide)]
  rfl
set_option maxHeartbeats 4000000 in
theorem rel_I : Rel (setI (fill 113 184 0 μI) 113 0 3) := by
  refine ⟨⟨3, 0, 0, 0, ⟨by decide, ⟨rfl, rfl, rfl, rfl, 0, by decide, rfl⟩, rfl, rfl, rfl, rfl, rfl, rfl⟩, fun i hi => absurd hi (Nat.not_lt_zero i), fun i hi => ⟨0, by decide, ?_, ?_⟩, fun i hi => ⟨0, by decide, ?_, ?_⟩, ⟨0, by decide, rfl, fun i hi => absurd hi (Nat.not_lt_zero i), fun i j hi => absurd hi (Nat.not_lt_zero i)⟩, fun i hi => absurd hi (Nat.not_lt_zero i)⟩, fun i hi => ?_, ⟨0, by decide, rfl, rfl, fun j hj => absurd hj (Nat.not_lt_zero j)⟩, ⟨rfl, rfl⟩, ⟨rfl, rfl, rfl, show ¬ (3 : Int32) < 0 by decide⟩, rfl⟩
  · match i, hi with
    | 0, _ => rfl
    | 1, _ => rfl
    | 2, _ => rfl
    | 3, _ => rfl
    | 4, _ => rfl
    | i + 5, h => exact absurd h (by omega)
  · match i, hi with
    | 0, _ => rfl
    | 1, _ => rfl
    | 2, _ => rfl
    | 3, _ => rfl
    | 4, _ => rfl
    | i + 5, h => exact absurd h (by omega)
  · match i, hi with
    | 0, _ => rfl
    | 1, _ => rfl
    | 2, _ => rfl
    | i + 3, h => exact absurd h (by omega)
  · match i, hi with
    | 0, _ => rfl
    | 1, _ => rfl
    | 2, _ => rfl
    | i + 3, h => exact absurd h (by omega)
  · match i, hi with
    | 0, _ => exact ⟨rfl, Or.inl rfl, fun h => absurd (show (0 : Int32) = 1 from h) (by decide)⟩
    | 1, _ => exact ⟨rfl, Or.inl rfl, fun h => absurd (show (0 : Int32) = 1 from h) (by decide)⟩
    | i + 2, h => exact absurd h (by omega)
theorem stepO {α : Type} {X Y : Mem → Option (Int32 × Mem)} (h : Ok X Y) {ν : Mem} (hr : Rel ν) {f g : Mem → Option α} {ν9 : α → Prop} : (∀ ν2, Rel ν2 → ∃ a, f ν2 = some a ∧ ν9 a) → ∃ a, (bd2 (X ν) fun r1 m1 => bd2 (Y m1) fun r2 m2 => if r1 = r2 then f m2 else g m2) = some a ∧ ν9 a := by
  intro hf
  obtain ⟨r, m1, m2, e1, e2, e3⟩ := h ν hr
  rw [e1, bd2_some, e2, bd2_some, if_pos rfl]
  exact hf m2 e3
theorem stepLg {α : Type} {X Y : Mem → Option (Int64 × Mem)} (h : ∀ μ, Rel μ → ∃ r ν1 ν2, X μ = some (r, ν1) ∧ Y ν1 = some (r, ν2) ∧ Rel ν2) {ν : Mem} (hr : Rel ν) {f g : Mem → Option α} {ν9 : α → Prop} : (∀ ν2, Rel ν2 → ∃ a, f ν2 = some a ∧ ν9 a) → ∃ a, (bd2 (X ν) fun r1 m1 => bd2 (Y m1) fun r2 m2 => if r1 = r2 then f m2 else g m2) = some a ∧ ν9 a := by
  intro hf
  obtain ⟨r, m1, m2, e1, e2, e3⟩ := h ν hr
  rw [e1, bd2_some, e2, bd2_some, if_pos rfl]
  exact hf m2 e3
theorem inl_of {x : Option ((Int32 × Mem) ⊕ (Mem ⊕ (Int32 × Mem)))} {k : Int32} (h : ∃ a, x = some a ∧ ∃ ν', a = Sum.inl (k, ν') ∧ Rel ν') : ∃ s', x = some (Sum.inl s') ∧ ∃ ν, s' = (k, ν) ∧ Rel ν := by
  obtain ⟨a, h1, ν', h2, h3⟩ := h
  exact ⟨_, by rw [h1, h2], ν', rfl, h3⟩
set_option maxHeartbeats 8000000 in
set_option maxRecDepth 100000 in
theorem loop_law (xs : Nat → Int32) (L : Nat) (hL : L ≤ 256) (μ : Mem) (hμ : Rel μ) : ∃ μ1, f_law xs L μ = some (1, μ1) := by
  unfold f_law
  simp only [jn_eq]
  generalize hF : (cu2 fun (x3_1 : Int32) (ν2 : Mem) => _ : Int32 × Mem → Option ((Int32 × Mem) ⊕ (Mem ⊕ (Int32 × Mem)))) = F
  have key : ∃ e, lp F (0, μ) = some e ∧ ∃ μ1, e = .inl μ1 := by
    refine lp_inv (F := F) (s := ((0 : Int32), μ)) (fun i st => ∃ ν, st = (nI (4 * i), ν) ∧ Rel ν) (fun e : Mem ⊕ (Int32 × Mem) => ∃ μ1, e = Sum.inl μ1) (L / 4) ?_ ?_ ⟨μ, rfl, hμ⟩
    · rintro i st hi ⟨ν, rfl, hr⟩
      left
      rw [← hF, cu2_eq]
      have c0 : ¬ (Int32.ofNat L - 4 < nI (4 * i)) := by
        show ¬ (nI L - nI 4 < nI (4 * i))
        rw [Int32.lt_iff_toInt_lt, pk_sub_toInt (by omega) (by decide), nI_toInt (by omega)]
        omega
      rw [if_neg c0, chk_nI (by omega) (by omega)]
      rw [show nI (4 * i) + 1 = nI (4 * i + 1) from nI_add _ 1, show nI (4 * i) + 2 = nI (4 * i + 2) from nI_add _ 2, show nI (4 * i) + 3 = nI (4 * i + 3) from nI_add _ 3, show nI (4 * i) + 4 = nI (4 * (i + 1)) from nI_add _ 4]
      have k1 : ∀ {α : Type} (x : Option α), chk (nI (4 * i + 1)) L x = x := fun x => chk_nI (by omega) (by omega)
      have k2 : ∀ {α : Type} (x : Option α), chk (nI (4 * i + 2)) L x = x := fun x => chk_nI (by omega) (by omega)
      have k3 : ∀ {α : Type} (x : Option α), chk (nI (4 * i + 3)) L x = x := fun x => chk_nI (by omega) (by omega)
      simp only [k1, k2, k3, ix_nI (show 4 * i < 2 ^ 31 by omega), ix_nI (show 4 * i + 1 < 2 ^ 31 by omega), ix_nI (show 4 * i + 2 < 2 ^ 31 by omega), ix_nI (show 4 * i + 3 < 2 ^ 31 by omega)]
      refine inl_of ?_
      have fin : ∀ ν2, Rel ν2 → ∃ a, (some (.inl (nI (4 * (i + 1)), ν2)) : Option ((Int32 × Mem) ⊕ (Mem ⊕ (Int32 × Mem)))) = some a ∧ ∃ ν', a = Sum.inl (nI (4 * (i + 1)), ν') ∧ Rel ν' := fun ν2 h2 => ⟨_, rfl, ν2, rfl, h2⟩
      generalize hop : xs (4 * i) &&& 63 = op
      by_cases h0 : op = 0
      · rw [if_pos h0]
        exact stepO (ok_county _) hr fin
      rw [if_neg h0]
      by_cases h1 : op = 1
      · rw [if_pos h1]
        exact stepO (ok_lot _ _ _) hr fin
      rw [if_neg h1]
      by_cases h2 : op = 2
      · rw [if_pos h2]
        exact stepO (ok_move _ _) hr fin
      rw [if_neg h2]
      by_cases h3 : op = 3
      · rw [if_pos h3]
        exact stepO (ok_drive _ _ _) hr fin
      rw [if_neg h3]
      by_cases h4 : op = 4
      · rw [if_pos h4]
        exact stepO (ok_drop) hr fin
      rw [if_neg h4]
      by_cases h5 : op = 5
      · rw [if_pos h5]
        exact stepO (ok_growth _) hr fin
      rw [if_neg h5]
      by_cases h6 : op = 6
      · rw [if_pos h6]
        exact stepO (ok_cloud _ _) hr fin
      rw [if_neg h6]
      by_cases h7 : op = 7
      · rw [if_pos h7]
        exact stepO (ok_road _ _) hr fin
      rw [if_neg h7]
      by_cases h8 : op = 8
      · rw [if_pos h8]
        by_cases hz : xs (4 * i + 2) = 0
        · simp only [if_pos hz]; exact stepO (ok_guard _ 0 (Or.inl rfl)) hr fin
        · simp only [if_neg hz]; exact stepO (ok_guard _ 1 (Or.inr rfl)) hr fin
      rw [if_neg h8]
      by_cases h9 : op = 9
      · rw [if_pos h9]
        exact stepO (ok_type _) hr fin
      rw [if_neg h9]
      by_cases h10 : op = 10
      · rw [if_pos h10]
        exact stepO (ok_clear) hr fin
      rw [if_neg h10]
      by_cases h11 : op = 11
      · rw [if_pos h11]
        exact stepO (ok_read) hr fin
      rw [if_neg h11]
      by_cases h12 : op = 12
      · rw [if_pos h12]
        by_cases hz : xs (4 * i + 2) = 0
        · simp only [if_pos hz]; exact stepO (ok_moon _ 0 (Or.inl rfl)) hr fin
        · simp only [if_neg hz]; exact stepO (ok_moon _ 1 (Or.inr rfl)) hr fin
      rw [if_neg h12]
      by_cases h13 : op = 13
      · rw [if_pos h13]
        exact stepO (ok_undo) hr fin
      rw [if_neg h13]
      by_cases h14 : op = 14
      · rw [if_pos h14]
        exact stepO (ok_of _ _) hr fin
      rw [if_neg h14]
      by_cases h15 : op = 15
      · rw [if_pos h15]
        exact stepO (ok_village _ _) hr fin
      rw [if_neg h15]
      by_cases h16 : op = 16
      · rw [if_pos h16]
        exact stepO (ok_greatest _) hr fin
      rw [if_neg h16]
      by_cases h17 : op = 17
      · rw [if_pos h17]
        exact stepO (ok_least _ _ _) hr fin
      rw [if_neg h17]
      by_cases h18 : op = 18
      · rw [if_pos h18]
        exact stepO (ok_chance _) hr fin
      rw [if_neg h18]
      by_cases h19 : op = 19
      · rw [if_pos h19]
        exact stepO (ok_mean _) hr fin
      rw [if_neg h19]
      by_cases h20 : op = 20
      · rw [if_pos h20]
        exact stepO (ok_painting _ _) hr fin
      rw [if_neg h20]
      by_cases h21 : op = 21
      · rw [if_pos h21]
        exact stepO (ok_unseen _ _) hr fin
      rw [if_neg h21]
      by_cases h22 : op = 22
      · rw [if_pos h22]
        exact stepO (ok_cut _ _ _) hr fin
      rw [if_neg h22]
      by_cases h23 : op = 23
      · rw [if_pos h23]
        exact stepO (ok_game _ _ _) hr fin
      rw [if_neg h23]
      by_cases h24 : op = 24
      · rw [if_pos h24]
        exact stepO (ok_league _) hr fin
      rw [if_neg h24]
      by_cases h25 : op = 25
      · rw [if_pos h25]
        exact stepO (ok_share _) hr fin
      rw [if_neg h25]
      by_cases h26 : op = 26
      · rw [if_pos h26]
        exact stepO (ok_pays _ _) hr fin
      rw [if_neg h26]
      by_cases h27 : op = 27
      · rw [if_pos h27]
        exact stepO (ok_told _ _) hr fin
      rw [if_neg h27]
      by_cases h28 : op = 28
      · rw [if_pos h28]
        exact stepO (ok_fit _ _) hr fin
      rw [if_neg h28]
      by_cases h29 : op = 29
      · rw [if_pos h29]
        exact stepO (ok_drawn _ _) hr fin
      rw [if_neg h29]
      by_cases h30 : op = 30
      · rw [if_pos h30]
        exact stepLg (ok_part _) hr fin
      rw [if_neg h30]
      by_cases h31 : op = 31
      · rw [if_pos h31]
        exact stepO (ok_image _) hr fin
      rw [if_neg h31]
      by_cases h32 : op = 32
      · rw [if_pos h32]
        exact stepO (ok_from _) hr fin
      rw [if_neg h32]
      by_cases h33 : op = 33
      · rw [if_pos h33]
        exact stepO (ok_status _) hr fin
      rw [if_neg h33]
      by_cases h34 : op = 34
      · rw [if_pos h34]
        exact stepO (ok_count _) hr fin
      rw [if_neg h34]
      by_cases h35 : op = 35
      · rw [if_pos h35]
        obtain ⟨r, e1, e2⟩ := ok_digest ν hr
        rw [e1, bd_some, e2, bd_some, if_pos rfl]
        exact fin ν hr
      rw [if_neg h35]
      exact fin ν hr
    · rintro st ⟨ν, rfl, hr⟩
      rw [← hF, cu2_eq]
      have c0 : Int32.ofNat L - 4 < nI (4 * (L / 4)) := by
        show nI L - nI 4 < nI (4 * (L / 4))
        rw [Int32.lt_iff_toInt_lt, pk_sub_toInt (by omega) (by decide), nI_toInt (by omega)]
        omega
      rw [if_pos c0]
      exact ⟨_, rfl, ν, rfl⟩
  obtain ⟨e, h1, μ1, rfl⟩ := key
  rw [h1]
  exact ⟨μ1, rfl⟩
theorem pure_law (xs : Nat → Int32) (L : Nat) (hL : L ≤ 256) : ∃ μ0 μ1, f_X11_begins 3 μI = some μ0 ∧ f_law xs L μ0 = some (1, μ1) := by
  obtain ⟨μ1, h⟩ := loop_law xs L hL _ rel_I
  exact ⟨_, μ1, begin_I, h⟩
