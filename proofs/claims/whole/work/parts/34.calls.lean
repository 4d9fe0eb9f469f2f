theorem ok_no {X Y : Mem → Option (Int32 × Mem)} {μ : Mem} (h : Rel μ) (hX : X μ = some (-3, noX μ)) (hY : ∀ ν : Mem, ν.1 112 5 = 0 → (∀ p j, p ≠ 0 → ν.1 p j = μ.1 p j) → Y ν = some (-3, refM ν 1)) : ∃ r ν1 ν2, X μ = some (r, ν1) ∧ Y ν1 = some (r, ν2) ∧ Rel ν2 :=
  ⟨-3, noX μ, refM (noX μ) 1, hX, hY _ (quiet_no h) (fun p j hp => by rw [noX, si_ne (by omega)]), h.no⟩
theorem ok_full {X Y : Mem → Option (Int32 × Mem)} {μ : Mem} (h : Rel μ) (hX : X μ = some (-4, fullX μ)) (hY : ∀ ν : Mem, ν.1 112 5 = 0 → (∀ p j, p ≠ 0 → ν.1 p j = μ.1 p j) → Y ν = some (-4, refM ν 2)) : ∃ r ν1 ν2, X μ = some (r, ν1) ∧ Y ν1 = some (r, ν2) ∧ Rel ν2 :=
  ⟨-4, fullX μ, refM (fullX μ) 2, hX, hY _ (quiet_full h) (fun p j hp => by rw [fullX, si_ne (by omega)]), h.full⟩
set_option maxRecDepth 8000 in
theorem ch16 {c : Nat} (h : c < 128) : (((nI c).toUInt32 % 65536).toInt32) = nI c := by
  have a : ∀ c : Fin 128, (((nI c.1).toUInt32 % 65536).toInt32) = nI c.1 := by decide
  exact a ⟨c, h⟩
theorem ok_type (x : Int32) : Ok (f_X10_type x) (f_X11_type x) := by
  intro μ h
  obtain ⟨hc, hi, ⟨t, ht, t1, t2, t3⟩, hl, hrf, hq⟩ := id h
  rcases isN_or x (n := 127 + 1) (by decide) with ⟨c, hc9, rfl⟩ | hx
  · by_cases h0 : t < 150
    · have a1 : (setI μ 46 t (nI c)).1 45 1 = nI t := by rw [si_ne (by omega)]; exact t1
      have b1 : (setI (setI μ 46 t (nI c)) 45 1 (nI (t + 1))).1 112 9 = nI t := by rw [si_ne (by omega), si_ne (by omega)]; exact t2
      have b2 : (setI (setI (setI μ 46 t (nI c)) 45 1 (nI (t + 1))) 118 t (nI c)).1 112 9 = nI t := by rw [si_ne (by omega)]; exact b1
      refine ⟨nI (t + 1), setI (setI μ 46 t (nI c)) 45 1 (nI (t + 1)), setI (setI (setI (setI μ 46 t (nI c)) 45 1 (nI (t + 1))) 118 t (nI c)) 112 9 (nI (t + 1)), ?_, ?_, ?_⟩
      · unfold f_X10_type f_X8_append
        simp only [jn_eq, lt_eq]
        rw [if_neg (nI_pos (by omega)), show (127 : Int32) = nI 127 from rfl, if_neg (ngt hc9 (by decide)), t1, show (150 : Int32) = nI 150 from rfl, if_pos ((nI_ltI (by omega) (by omega)).mpr h0), chk_nI h0 (by decide), ix_nI (by omega), ch16 hc9, a1, ← nI_succ, si_eq, bd2_some, tally_ok (nI_pos (by omega)), bd2_some]
      · unfold f_X11_type
        rw [inL_ok (hi := 127) (by decide) (by omega), bd_some]
        simp only [lt_eq]
        rw [if_neg (by decide), b1, show (150 : Int32) = nI 150 from rfl, if_neg (fun q => absurd ((nI_eq (by omega) (by omega)).mp q) (by omega)), chk_nI h0 (by decide), ix_nI (by omega), b2, ← nI_succ, si_eq]
      · refine ⟨hc.of (fun c hc1 _ j => by (try dsimp only); (repeat (first | rw [si_eq] | rw [si_ne (by omega)]))) (fun j _ => by (try dsimp only); (repeat (first | rw [si_eq] | rw [si_ne (by omega)]))), fun i hi2 => ?_, ⟨t + 1, by omega, by (try dsimp only); (repeat (first | rw [si_eq] | rw [si_ne (by omega)])), by (try dsimp only); (repeat (first | rw [si_eq] | rw [si_ne (by omega)])), fun j hj => if e : j = t then ⟨c, by omega, by (rw [e]; (try dsimp only); (repeat (first | rw [si_eq] | rw [si_ne (by omega)]))), by (rw [e]; (try dsimp only); (repeat (first | rw [si_eq] | rw [si_ne (by omega)])))⟩ else by (((try dsimp only); (repeat (first | rw [si_eq] | rw [si_ne (by omega)]))) <;> exact t3 j (by omega))⟩, hl, ?_, by (((try dsimp only); (repeat (first | rw [si_eq] | rw [si_ne (by omega)]))) <;> exact hq)⟩
        · obtain ⟨i1, i2, i3⟩ := hi i hi2
          refine ⟨by (((try dsimp only); (repeat (first | rw [si_eq] | rw [si_ne (by omega)]))) <;> exact i1), by (((try dsimp only); (repeat (first | rw [si_eq] | rw [si_ne (by omega)]))) <;> exact i2), fun h => (i3 (by rw [← h]; (try dsimp only); (repeat (first | rw [si_eq] | rw [si_ne (by omega)])))).of (fun c hc1 _ j => by (try dsimp only); (repeat (first | rw [si_eq] | rw [si_ne (by omega)]))) (fun j _ => by (try dsimp only); (repeat (first | rw [si_eq] | rw [si_ne (by omega)])))⟩
        · (try dsimp only); (repeat (first | rw [si_eq] | rw [si_ne (by omega)]))
          exact hrf
    · refine ok_full h ?_ (fun ν h5 hB => ?_)
      · unfold f_X10_type f_X8_append
        simp only [jn_eq, lt_eq]
        rw [if_neg (nI_pos (by omega)), show (127 : Int32) = nI 127 from rfl, if_neg (ngt hc9 (by decide)), t1, show (150 : Int32) = nI 150 from rfl, if_neg (fun q => h0 ((nI_ltI (by omega) (by omega)).mp q)), bd2_some, tally_full, bd2_some]
      · unfold f_X11_type
        rw [inL_ok (hi := 127) (by decide) (by omega), bd_some, if_neg (by decide), hB _ _ (by decide), t2, show t = 150 by omega, if_pos (by rfl), fullM h5, bd2_some]
  · refine ok_bad h ?_ (fun ν h5 _ _ => ?_)
    · unfold f_X10_type f_X8_append
      simp only [jn_eq, lt_eq]
      rcases or_of (by decide) hx with h0 | h0
      · rw [if_pos h0, bd2_some, tally_bad]; rfl
      · by_cases h1 : x < 0
        · rw [if_pos h1, bd2_some, tally_bad]; rfl
        · rw [if_neg h1, if_pos (by exact h0), bd2_some, tally_bad]; rfl
    · unfold f_X11_type
      rw [inL_bad (hi := 127) (by decide) (or_of (by decide) hx), bd_some, if_pos (by rfl), badM h5]
      rfl
theorem lot_X {μ : Mem} {n l c v g : Nat} (m0 : μ.1 (1 + 1) 0 = nI n) (m1 : μ.1 (1 + 1) 1 = nI l) (hn : n ≤ 5) (hc : c < 5 + 1) (hv : v < n) (hg : g < 99 + 1) (hl : l < 10) : f_X10_lot (nI c) (nI v) (nI g) μ = some (nI l, setI (setI (setI (setI (setI μ 3 l (nI c)) 4 l (nI v)) 5 l (nI g)) 2 1 (nI (l + 1))) 10 0 0) := by
  unfold f_X10_lot f_X0_addLot
  simp only [jn_eq, lt_eq]
  rw [if_neg (nI_pos (by omega)), show (5 : Int32) = nI 5 from rfl, if_neg (ngt hc (by decide)), hasV_ok m0 (by omega) hv, bd_some, if_neg (by decide), if_neg (nI_pos (by omega)), show (99 : Int32) = nI 99 from rfl, if_neg (ngt hg (by decide)), m1, show (10 : Int32) = nI 10 from rfl, if_pos ((nI_ltI (by omega) (by omega)).mpr hl), chk_nI hl (by decide), chk_nI hl (by decide), chk_nI hl (by decide), ix_nI (by omega), bd2_some, tally_ok (nI_pos (by omega)), bd2_some, ← nI_succ]
theorem lot_Y {ν : Mem} {n l c v g : Nat} (s0 : ν.1 113 0 = nI n) (s1 : ν.1 113 1 = nI l) (hn : n ≤ 5) (hc : c < 5 + 1) (hv : v < n) (hg : g < 99 + 1) (hl : l < 10) : f_X11_lot (nI c) (nI v) (nI g) ν = some (nI l, setI (setI (setI (setI (setI ν 113 (6 + l) (nI c)) 113 (16 + l) (nI v)) 113 (26 + l) (nI g)) 113 1 (nI (l + 1))) 113 4 0) := by
  unfold f_X11_lot
  simp only [jn_eq, lt_eq]
  have e : (setI (setI (setI ν 113 (6 + l) (nI c)) 113 (16 + l) (nI v)) 113 (26 + l) (nI g)).1 113 1 = nI l := by (((try dsimp only); (repeat (first | rw [si_eq] | rw [si_ne (by omega)]))) <;> exact s1)
  rw [inL_ok (hi := 5) (by decide) (by omega), bd_some, if_neg (by decide), isV_ok s0 (by omega) hv, bd_some, if_neg (by decide), inL_ok (hi := 99) (by decide) (by omega), bd_some, if_neg (by decide), s1, show (10 : Int32) = nI 10 from rfl, if_neg (fun q => absurd ((nI_eq (by omega) (by omega)).mp q) (by omega)), show (6 : Int32) = nI 6 from rfl, show (16 : Int32) = nI 16 from rfl, show (26 : Int32) = nI 26 from rfl, ni_add, ni_add, ni_add, chk_nI (by omega) (by decide), chk_nI (by omega) (by decide), chk_nI (by omega) (by decide), ix_nI (by omega), ix_nI (by omega), ix_nI (by omega), e, ← nI_succ]
theorem ok_lot (x y z : Int32) : Ok (f_X10_lot x y z) (f_X11_lot x y z) := by
  intro μ h
  obtain ⟨⟨n, l, r, p, hh, h1, h2, h3, h4, h5⟩, hi, ht, hll, hrf, hq⟩ := id h
  obtain ⟨⟨hn1, hn5, hl, hr, hp⟩, ⟨s0, s1, s2, s4, gr, hgr, s5⟩, c1, c2, c3, c4, c5, c6⟩ := id hh
  have m0 : μ.1 (1 + 1) 0 = nI n := c1.trans s0
  have m1 : μ.1 (1 + 1) 1 = nI l := c2.trans s1
  rcases isN_or x (n := 5 + 1) (by decide) with ⟨c, hc, rfl⟩ | hx
  · rcases isN_or y (n := n) (by omega) with ⟨v, hv, rfl⟩ | hx
    · rcases isN_or z (n := 99 + 1) (by decide) with ⟨g, hg, rfl⟩ | hx
      · by_cases hl0 : l < 10
        · refine ⟨_, _, _, lot_X m0 m1 hn5 hc hv hg hl0, lot_Y (by (((try dsimp only); (repeat (first | rw [si_eq] | rw [si_ne (by omega)]))) <;> exact s0)) (by (((try dsimp only); (repeat (first | rw [si_eq] | rw [si_ne (by omega)]))) <;> exact s1)) hn5 hc hv hg hl0, ?_⟩
          exact h.now (fun q j hq9 => by have k9 := relo_ne hq9; (try dsimp only); (repeat (first | rw [si_eq] | rw [si_ne (by omega)]))) ⟨rfl, rfl⟩ ⟨n, l + 1, r, 0, ⟨⟨hn1, hn5, by omega, hr, by decide⟩, ⟨by (((try dsimp only); (repeat (first | rw [si_eq] | rw [si_ne (by omega)]))) <;> exact s0), by (try dsimp only); (repeat (first | rw [si_eq] | rw [si_ne (by omega)])), by (((try dsimp only); (repeat (first | rw [si_eq] | rw [si_ne (by omega)]))) <;> exact s2), by (((try dsimp only); (repeat (first | rw [si_eq] | rw [si_ne (by omega)]))) <;> rfl), gr, hgr, by (((try dsimp only); (repeat (first | rw [si_eq] | rw [si_ne (by omega)]))) <;> exact s5)⟩, by (((try dsimp only); (repeat (first | rw [si_eq] | rw [si_ne (by omega)]))) <;> exact c1), by (try dsimp only); (repeat (first | rw [si_eq] | rw [si_ne (by omega)])), by (((try dsimp only); (repeat (first | rw [si_eq] | rw [si_ne (by omega)]))) <;> exact c3), by (((try dsimp only); (repeat (first | rw [si_eq] | rw [si_ne (by omega)]))) <;> exact c4), by (((try dsimp only); (repeat (first | rw [si_eq] | rw [si_ne (by omega)]))) <;> exact c5), by (try dsimp only); (repeat (first | rw [si_eq] | rw [si_ne (by omega)]))⟩, fun i hi => if e : i = l then ⟨⟨c, by omega, by (subst e; (try dsimp only); (repeat (first | rw [si_eq] | rw [si_ne (by omega)]))), by (subst e; (try dsimp only); (repeat (first | rw [si_eq] | rw [si_ne (by omega)])))⟩, ⟨v, hv, by (subst e; (try dsimp only); (repeat (first | rw [si_eq] | rw [si_ne (by omega)]))), by (subst e; (try dsimp only); (repeat (first | rw [si_eq] | rw [si_ne (by omega)])))⟩, ⟨g, by omega, by (subst e; (try dsimp only); (repeat (first | rw [si_eq] | rw [si_ne (by omega)]))), by (subst e; (try dsimp only); (repeat (first | rw [si_eq] | rw [si_ne (by omega)])))⟩⟩ else by (((try dsimp only); (repeat (first | rw [si_eq] | rw [si_ne (by omega)]))) <;> exact h1 i (by omega)), h2.of (fun i _ => by ((try dsimp only); (repeat (first | rw [si_eq] | rw [si_ne (by omega)])))) (fun j _ _ => by ((try dsimp only); (repeat (first | rw [si_eq] | rw [si_ne (by omega)])))), h3.of (fun i _ => by ((try dsimp only); (repeat (first | rw [si_eq] | rw [si_ne (by omega)])))) (fun j _ _ => by ((try dsimp only); (repeat (first | rw [si_eq] | rw [si_ne (by omega)])))), h4.of hr (by ((try dsimp only); (repeat (first | rw [si_eq] | rw [si_ne (by omega)])))) (fun c _ _ i _ => by ((try dsimp only); (repeat (first | rw [si_eq] | rw [si_ne (by omega)])))) (fun j _ _ => by ((try dsimp only); (repeat (first | rw [si_eq] | rw [si_ne (by omega)])))), fun i hi => absurd hi (Nat.not_lt_zero i)⟩
        · refine ok_full h ?_ (fun ν h5 hB => ?_)
          · unfold f_X10_lot f_X0_addLot
            simp only [jn_eq, lt_eq]
            rw [if_neg (nI_pos (by omega)), show (5 : Int32) = nI 5 from rfl, if_neg (ngt hc (by decide)), hasV_ok m0 (by omega) hv, bd_some, if_neg (by decide), if_neg (nI_pos (by omega)), show (99 : Int32) = nI 99 from rfl, if_neg (ngt hg (by decide)), m1, show (10 : Int32) = nI 10 from rfl, if_neg (fun q => hl0 ((nI_ltI (by omega) (by omega)).mp q)), bd2_some, tally_full, bd2_some]
          · unfold f_X11_lot
            simp only [jn_eq, lt_eq]
            rw [inL_ok (hi := 5) (by decide) (by omega), bd_some, if_neg (by decide), isV_ok ((hB _ _ (by decide)).trans s0) (by omega) hv, bd_some, if_neg (by decide), inL_ok (hi := 99) (by decide) (by omega), bd_some, if_neg (by decide), if_pos ((hB _ _ (by decide)).trans (s1.trans (by rw [show l = 10 by omega]; rfl))), fullM h5, bd2_some]
      · refine ok_bad h ?_ (fun ν h5 hB _ => ?_)
        · unfold f_X10_lot f_X0_addLot
          simp only [jn_eq, lt_eq]
          rw [if_neg (nI_pos (by omega)), show (5 : Int32) = nI 5 from rfl, if_neg (ngt hc (by decide)), hasV_ok m0 (by omega) hv, bd_some, if_neg (by decide)]
          rcases or_of (by decide) hx with h0 | h0
          · rw [if_pos h0, bd2_some, tally_bad]; rfl
          · by_cases h1 : z < 0
            · rw [if_pos h1, bd2_some, tally_bad]; rfl
            · rw [if_neg h1, if_pos (by exact h0), bd2_some, tally_bad]; rfl
        · unfold f_X11_lot
          simp only [jn_eq, lt_eq]
          rw [inL_ok (hi := 5) (by decide) (by omega), bd_some, if_neg (by decide), isV_ok ((hB 0).trans s0) (by omega) hv, bd_some, if_neg (by decide), inL_bad (hi := 99) (by decide) (or_of (by decide) hx), bd_some, if_pos (by trivial), badM h5, bd2_some]
    · refine ok_bad h ?_ (fun ν h5 hB _ => ?_)
      · unfold f_X10_lot f_X0_addLot
        simp only [jn_eq, lt_eq]
        rw [if_neg (nI_pos (by omega)), show (5 : Int32) = nI 5 from rfl, if_neg (ngt hc (by decide)), hasV_bad m0 hx, bd_some, if_pos (by trivial), bd2_some, tally_bad, bd2_some]
      · unfold f_X11_lot
        simp only [jn_eq, lt_eq]
        rw [inL_ok (hi := 5) (by decide) (by omega), bd_some, if_neg (by decide), isV_bad ((hB 0).trans s0) (by omega) hx, bd_some, if_pos (by trivial), badM h5, bd2_some]
  · refine ok_bad h ?_ (fun ν h5 hB _ => ?_)
    · unfold f_X10_lot f_X0_addLot
      simp only [jn_eq, lt_eq]
      rcases or_of (by decide) hx with h0 | h0
      · rw [if_pos h0, bd2_some, tally_bad]; rfl
      · by_cases h1 : x < 0
        · rw [if_pos h1, bd2_some, tally_bad]; rfl
        · rw [if_neg h1, if_pos (by exact h0), bd2_some, tally_bad]; rfl
    · unfold f_X11_lot
      simp only [jn_eq, lt_eq]
      rw [inL_bad (hi := 5) (by decide) (or_of (by decide) hx), bd_some, if_pos (by trivial), badM h5, bd2_some]
theorem ok_drop : Ok (f_X10_drop) (f_X11_drop) := by
  intro μ h
  obtain ⟨⟨n, l, r, p, hh, h1, h2, h3, h4, h5⟩, hi, ht, hll, hrf, hq⟩ := id h
  obtain ⟨⟨hn1, hn5, hl, hr, hp⟩, ⟨s0, s1, s2, s4, gr, hgr, s5⟩, c1, c2, c3, c4, c5, c6⟩ := id hh
  have m1 : μ.1 (1 + 1) 1 = nI l := c2.trans s1
  have s1' : μ.1 113 1 = nI l := s1
  by_cases h0 : l = 0
  · refine ok_no h ?_ (fun ν h5 hB => ?_)
    · unfold f_X10_drop f_X0_dropLot
      rw [m1, h0, if_neg (by decide), bd2_some, tally_no, bd2_some]
    · unfold f_X11_drop
      rw [hB _ _ (by decide), s1', h0, if_pos (by rfl), noM h5, bd2_some]
  · have e1 : nI l - 1 = nI (l - 1) := ni_sub (b := 1) (by omega)
    refine ⟨nI (l - 1), setI (setI μ 2 1 (nI (l - 1))) 10 0 0, setI (setI (setI (setI μ 2 1 (nI (l - 1))) 10 0 0) 113 1 (nI (l - 1))) 113 4 0, ?_, ?_, ?_⟩
    · unfold f_X10_drop f_X0_dropLot
      simp only [lt_eq]
      rw [m1, if_pos (by exact (nI_ltI (a := 0) (by decide) (by omega)).mpr (by omega)), e1, si_ne (by omega), si_eq, bd2_some, tally_ok (nI_pos (by omega)), bd2_some]
    · unfold f_X11_drop
      simp only [lt_eq]
      have b : (setI (setI μ 2 1 (nI (l - 1))) 10 0 0).1 113 1 = nI l := by (((try dsimp only); (repeat (first | rw [si_eq] | rw [si_ne (by omega)]))) <;> exact s1)
      rw [b, if_neg (by exact fun q => h0 ((nI_eq (b := 0) (by omega) (by decide)).mp q)), e1, si_ne (by omega), si_eq]
    · exact h.now (fun q j hq9 => by have k9 := relo_ne hq9; (try dsimp only); (repeat (first | rw [si_eq] | rw [si_ne (by omega)]))) ⟨rfl, rfl⟩ ⟨n, l - 1, r, 0, ⟨⟨hn1, hn5, by omega, hr, by decide⟩, ⟨by (((try dsimp only); (repeat (first | rw [si_eq] | rw [si_ne (by omega)]))) <;> exact s0), by (try dsimp only); (repeat (first | rw [si_eq] | rw [si_ne (by omega)])), by (((try dsimp only); (repeat (first | rw [si_eq] | rw [si_ne (by omega)]))) <;> exact s2), by (((try dsimp only); (repeat (first | rw [si_eq] | rw [si_ne (by omega)]))) <;> rfl), gr, hgr, by (((try dsimp only); (repeat (first | rw [si_eq] | rw [si_ne (by omega)]))) <;> exact s5)⟩, by (((try dsimp only); (repeat (first | rw [si_eq] | rw [si_ne (by omega)]))) <;> exact c1), by (try dsimp only); (repeat (first | rw [si_eq] | rw [si_ne (by omega)])), by (((try dsimp only); (repeat (first | rw [si_eq] | rw [si_ne (by omega)]))) <;> exact c3), by (((try dsimp only); (repeat (first | rw [si_eq] | rw [si_ne (by omega)]))) <;> exact c4), by (((try dsimp only); (repeat (first | rw [si_eq] | rw [si_ne (by omega)]))) <;> exact c5), by (try dsimp only); (repeat (first | rw [si_eq] | rw [si_ne (by omega)]))⟩, fun i hi => by (((try dsimp only); (repeat (first | rw [si_eq] | rw [si_ne (by omega)]))) <;> exact h1 i (by omega)), h2.of (fun i _ => by ((try dsimp only); (repeat (first | rw [si_eq] | rw [si_ne (by omega)])))) (fun j _ _ => by ((try dsimp only); (repeat (first | rw [si_eq] | rw [si_ne (by omega)])))), h3.of (fun i _ => by ((try dsimp only); (repeat (first | rw [si_eq] | rw [si_ne (by omega)])))) (fun j _ _ => by ((try dsimp only); (repeat (first | rw [si_eq] | rw [si_ne (by omega)])))), h4.of hr (by ((try dsimp only); (repeat (first | rw [si_eq] | rw [si_ne (by omega)])))) (fun c _ _ i _ => by ((try dsimp only); (repeat (first | rw [si_eq] | rw [si_ne (by omega)])))) (fun j _ _ => by ((try dsimp only); (repeat (first | rw [si_eq] | rw [si_ne (by omega)])))), fun i hi => absurd hi (Nat.not_lt_zero i)⟩
theorem fillL2 {p N N' : Nat} {c NI : Int32} {μ : Mem} (hN : NI = nI N) (h : N ≤ N') (hb : N' < 2 ^ 31) :
    lp (ε := Mem) (cu2 fun (x : Int32) (ν : Mem) => if x < NI then chk x N' (some (.inl ((x + 1), setI ν p (ix x) c))) else some (.inr ν)) (0, μ) = some (fill p N c μ) := fillL hN h hb
theorem county_X {μ : Mem} {n v : Nat} (m0 : μ.1 (1 + 1) 0 = nI n) (hn : n ≤ 5) (h1 : 1 ≤ v) (h2 : v ≤ 5) : f_X10_county (nI v) μ = some (nI n, fill 14 3 0 (fill 13 5 0 (setI (setI (setI (setI (setI (setI (setI μ 2 0 (nI v)) 2 1 0) 2 2 0) 2 3 0) 7 0 0) 7 3 0) 10 0 0))) := by
  unfold f_X10_county f_X0_startAnew f_X3_startAnew f_X7_startAnew
  simp only [jn_eq, lt_eq, bd_some]
  rw [if_neg (by exact fun q => absurd ((nI_ltI (b := 1) (by omega) (by decide)).mp q) (by omega)), if_neg (by exact fun q => absurd ((nI_ltI (a := 5) (by decide) (by omega)).mp q) (by omega)), fillL2 (N := 5) (NI := 5) rfl (by decide) (by decide), bd_some, fillL2 (N := 3) (NI := 3) rfl (by decide) (by decide), bd_some, m0, bd2_some, tally_ok (nI_pos (by omega)), bd2_some]
theorem county_Y {ν : Mem} {v : Nat} (h1 : 1 ≤ v) (h2 : v ≤ 5) : f_X11_county (nI v) ν = some (ν.1 113 0, setI (fill 113 184 0 ν) 113 0 (nI v)) := by
  unfold f_X11_county f_X11_begins
  simp only [lt_eq]
  rw [show (1 : Int64) = (nI 1).toInt64 by decide, show (5 : Int64) = (nI 5).toInt64 by decide, in32_ok (by omega) h1 h2 (by decide), bd_some, if_neg (by decide), fillL2 (N := 184) (NI := 184) rfl (by decide) (by decide), bd_some, bd_some]
theorem fl_ne {p N : Nat} {c : Int32} {μ : Mem} {q j : Nat} (h : ¬ (q = p ∧ j < N)) : (fill p N c μ).1 q j = μ.1 q j := by rw [fill_1, if_neg h]
theorem fl_in {p N : Nat} {c : Int32} {μ : Mem} {q j : Nat} (h : q = p ∧ j < N) : (fill p N c μ).1 q j = c := by rw [fill_1, if_pos h]
theorem rng_or (x : Int32) {lo hi : Nat} (hl : lo ≤ hi) (hh : hi + 1 < 2 ^ 31) : (∃ v, lo ≤ v ∧ v ≤ hi ∧ x = nI v) ∨ (x < nI lo ∨ nI hi < x) := by
  rcases isN_or x (n := hi + 1) hh with ⟨v, hv, rfl⟩ | hx | hx
  · by_cases h : lo ≤ v
    · exact Or.inl ⟨v, h, by omega, rfl⟩
    · exact Or.inr (Or.inl ((nI_ltI (by omega) (by omega)).mpr (by omega)))
  · refine Or.inr (Or.inl ?_)
    rw [Int32.lt_iff_toInt_lt] at hx ⊢
    rw [nI_toInt (by omega)]
    have : (0 : Int32).toInt = 0 := rfl
    omega
  · exact Or.inr (Or.inr (gt_of hh hx))
theorem ok_county (x : Int32) : Ok (f_X10_county x) (f_X11_county x) := by
  intro μ h
  obtain ⟨⟨n, l, r, p, hh, h1, h2, h3, h4, h5⟩, hi, ht, hll, hrf, hq⟩ := id h
  obtain ⟨⟨hn1, hn5, hl, hr, hp⟩, ⟨s0, s1, s2, s4, gr, hgr, s5⟩, c1, c2, c3, c4, c5, c6⟩ := id hh
  have m0 : μ.1 (1 + 1) 0 = nI n := c1.trans s0
  rcases rng_or x (lo := 1) (hi := 5) (by decide) (by decide) with ⟨v, v1, v5, rfl⟩ | hx
  · refine ⟨_, _, _, county_X m0 hn5 v1 v5, (county_Y v1 v5).trans (congrArg some (Prod.ext ?_ rfl)), ?_⟩
    · show (fill 14 3 0 (fill 13 5 0 (setI (setI (setI (setI (setI (setI (setI μ 2 0 (nI v)) 2 1 0) 2 2 0) 2 3 0) 7 0 0) 7 3 0) 10 0 0))).1 113 0 = nI n
      (((try dsimp only); (repeat (first | rw [si_eq] | rw [si_ne (by omega)] | rw [fl_in (by omega)] | rw [fl_ne (by omega)]))) <;> exact s0)
    · exact h.now (fun q j hq9 => by have k9 := relo_ne hq9; (try dsimp only); (repeat (first | rw [si_eq] | rw [si_ne (by omega)] | rw [fl_in (by omega)] | rw [fl_ne (by omega)]))) ⟨rfl, rfl⟩ ⟨v, 0, 0, 0, ⟨⟨v1, v5, by decide, by decide, by decide⟩, ⟨by (try dsimp only); (repeat (first | rw [si_eq] | rw [si_ne (by omega)] | rw [fl_in (by omega)] | rw [fl_ne (by omega)])), by (((try dsimp only); (repeat (first | rw [si_eq] | rw [si_ne (by omega)] | rw [fl_in (by omega)] | rw [fl_ne (by omega)]))) <;> rfl), by (((try dsimp only); (repeat (first | rw [si_eq] | rw [si_ne (by omega)] | rw [fl_in (by omega)] | rw [fl_ne (by omega)]))) <;> rfl), by (((try dsimp only); (repeat (first | rw [si_eq] | rw [si_ne (by omega)] | rw [fl_in (by omega)] | rw [fl_ne (by omega)]))) <;> rfl), 0, by decide, by (((try dsimp only); (repeat (first | rw [si_eq] | rw [si_ne (by omega)] | rw [fl_in (by omega)] | rw [fl_ne (by omega)]))) <;> rfl)⟩, by (((try dsimp only); (repeat (first | rw [si_eq] | rw [si_ne (by omega)] | rw [fl_in (by omega)] | rw [fl_ne (by omega)]))) <;> rfl), by (((try dsimp only); (repeat (first | rw [si_eq] | rw [si_ne (by omega)] | rw [fl_in (by omega)] | rw [fl_ne (by omega)]))) <;> rfl), by (((try dsimp only); (repeat (first | rw [si_eq] | rw [si_ne (by omega)] | rw [fl_in (by omega)] | rw [fl_ne (by omega)]))) <;> rfl), by (((try dsimp only); (repeat (first | rw [si_eq] | rw [si_ne (by omega)] | rw [fl_in (by omega)] | rw [fl_ne (by omega)]))) <;> rfl), by (((try dsimp only); (repeat (first | rw [si_eq] | rw [si_ne (by omega)] | rw [fl_in (by omega)] | rw [fl_ne (by omega)]))) <;> rfl), by (((try dsimp only); (repeat (first | rw [si_eq] | rw [si_ne (by omega)] | rw [fl_in (by omega)] | rw [fl_ne (by omega)]))) <;> rfl)⟩, fun i hi => absurd hi (Nat.not_lt_zero i), fun i hi => ⟨0, by decide, by (((try dsimp only); (repeat (first | rw [si_eq] | rw [si_ne (by omega)] | rw [fl_in (by omega)] | rw [fl_ne (by omega)]))) <;> rfl), by (((try dsimp only); (repeat (first | rw [si_eq] | rw [si_ne (by omega)] | rw [fl_in (by omega)] | rw [fl_ne (by omega)]))) <;> rfl)⟩, fun i hi => ⟨0, by decide, by (((try dsimp only); (repeat (first | rw [si_eq] | rw [si_ne (by omega)] | rw [fl_in (by omega)] | rw [fl_ne (by omega)]))) <;> rfl), by (((try dsimp only); (repeat (first | rw [si_eq] | rw [si_ne (by omega)] | rw [fl_in (by omega)] | rw [fl_ne (by omega)]))) <;> rfl)⟩, ⟨0, by decide, by (((try dsimp only); (repeat (first | rw [si_eq] | rw [si_ne (by omega)] | rw [fl_in (by omega)] | rw [fl_ne (by omega)]))) <;> rfl), fun i hi => absurd hi (Nat.not_lt_zero i), fun i j hi => absurd hi (Nat.not_lt_zero i)⟩, fun i hi => absurd hi (Nat.not_lt_zero i)⟩
  · refine ok_bad h ?_ (fun ν h5 hB _ => ?_)
    · unfold f_X10_county f_X0_startAnew
      simp only [jn_eq]
      by_cases h1 : x < 1
      · rw [if_pos h1, bd2_some, tally_bad]; rfl
      · rw [if_neg h1, if_pos (by exact hx.resolve_left h1), bd2_some, tally_bad]; rfl
    · unfold f_X11_county
      rw [show (1 : Int64) = (nI 1).toInt64 by decide, show (5 : Int64) = (nI 5).toInt64 by decide, in32_bad (by decide) (by decide) hx, bd_some, if_pos (by rfl), badM h5, bd2_some]
