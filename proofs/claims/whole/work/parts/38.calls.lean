theorem bit_tab : ∀ i : Fin 10, ∀ a : Fin 32, ∀ b : Fin 32, (decide ((((nI (32 * a.1 + b.1)) >>> (nI i.1 &&& 31)) &&& 1) = 1) = (32 * a.1 + b.1).testBit i.1) ∧ nI (32 * a.1 + b.1) ^^^ ((1 : Int32) <<< (nI i.1 &&& 31)) = nI ((32 * a.1 + b.1) ^^^ 2 ^ i.1) := by decide +kernel
theorem bit_of {gd i : Nat} (hg : gd < 1024) (hi : i < 10) : (decide ((((nI gd) >>> (nI i &&& 31)) &&& 1) = 1) = gd.testBit i) ∧ nI gd ^^^ ((1 : Int32) <<< (nI i &&& 31)) = nI (gd ^^^ 2 ^ i) := by
  have := bit_tab ⟨i, hi⟩ ⟨gd / 32, by omega⟩ ⟨gd % 32, by omega⟩
  simp only [Nat.div_add_mod] at this
  exact this
theorem isG_eq {k gd i : Nat} {μ : Mem} (m : μ.1 k 3 = nI gd) (hg : gd < 1024) (hi : i < 10) : f_X7_isGuarded k (nI i) μ = some (if gd.testBit i then 1 else 0) := by
  unfold f_X7_isGuarded
  have := (bit_of hg hi).1
  rw [jn_eq, m]
  cases ht : gd.testBit i
  · rw [ht] at this
    rw [if_neg (of_decide_eq_false this)]; rfl
  · rw [ht] at this
    rw [if_pos (of_decide_eq_true this)]; rfl
theorem pow_le10 {r : Nat} (h : r ≤ 10) : 2 ^ r ≤ 1024 := Nat.pow_le_pow_right (n := 2) (by decide) h
theorem guard_X {μ : Mem} {r gd i : Nat} {b : Int32} (m0 : μ.1 (1 + 6) 0 = nI r) (m3 : μ.1 (1 + 6) 3 = nI gd) (hr : r ≤ 10) (hg : gd < 1024) (hi : i < r) (hb : ¬ (if gd.testBit i then (1 : Int32) else 0) = b) : f_X10_guard (nI i) b μ = some (1, setI μ 7 3 (nI (gd ^^^ 2 ^ i))) := by
  unfold f_X10_guard f_X0_setGuard
  simp only [jn_eq, lt_eq]
  rw [if_neg (nI_pos (by omega)), m0, if_pos ((nI_ltI (by omega) (by omega)).mpr hi), isG_eq m3 hg (by omega), bd_some, if_neg hb, m3, (bit_of hg (by omega)).2, bd2_some, tally_ok (by decide), bd2_some]
theorem guard_Y {ν : Mem} {r i : Nat} {b c : Int32} (s2 : ν.1 113 2 = nI r) (hr : r ≤ 10) (hi : i < r) (hb : b = 0 ∨ b = 1) (e : ν.1 113 (41 + 3 * i + 2) = c) (hc : ¬ c = b) : f_X11_guard (nI i) b ν = some (1, setI ν 113 (41 + 3 * i + 2) b) := by
  unfold f_X11_guard
  rw [s2, in1_ok (by omega) hi, bd_some, if_neg (by decide), jn_eq, show (41 : Int32) = nI 41 from rfl, show (3 : Int32) = nI 3 from rfl, show (2 : Int32) = nI 2 from rfl, ni_mul, ni_add, ni_add, ix_nI (by omega), e]
  simp only [chk_nI (show 41 + 3 * i + 2 < 184 by omega) (show 184 < 2 ^ 31 by decide), lt_eq]
  rcases hb with rfl | rfl
  · rw [if_pos rfl, if_neg hc]
  · rw [if_neg (by decide), if_neg hc]
theorem ok_guard (x b : Int32) (hb : b = 0 ∨ b = 1) : Ok (f_X10_guard x b) (f_X11_guard x b) := by
  intro μ h
  obtain ⟨⟨n, l, r, p, hh, h1, h2, h3, h4, h5⟩, hi, ht, hll, hrf, hq⟩ := id h
  obtain ⟨⟨hn1, hn5, hl, hr, hp⟩, ⟨s0, s1, s2, s4, gr, hgr, s5⟩, c1, c2, c3, c4, c5, c6⟩ := id hh
  obtain ⟨gd, g1, g2, g3, g4⟩ := id h4
  have hg : gd < 1024 := Nat.lt_of_lt_of_le g1 (pow_le10 hr)
  have m6 : μ.1 (1 + 6) 0 = nI r := c5.trans s2
  have s2' : μ.1 113 2 = nI r := s2
  rcases isN_or x (n := r) (by omega) with ⟨i, hi9, rfl⟩ | hx
  · obtain ⟨a1, a2, b1, b2, b3, b4, b5, b6, b7, b8⟩ := g3 i hi9
    have b8' : μ.1 113 (41 + 3 * i + 2) = if gd.testBit i then 1 else 0 := b8
    by_cases hc : (if gd.testBit i then (1 : Int32) else 0) = b
    · refine ok_no h ?_ (fun ν h5 hB => ?_)
      · unfold f_X10_guard f_X0_setGuard
        simp only [jn_eq, lt_eq]
        rw [if_neg (nI_pos (by omega)), m6, if_pos ((nI_ltI (by omega) (by omega)).mpr hi9), isG_eq g2 hg (by omega), bd_some, if_pos hc, bd2_some, tally_no, bd2_some]
      · unfold f_X11_guard
        rw [hB 113 2 (by decide), s2', in1_ok (by omega) hi9, bd_some, if_neg (by decide), jn_eq, show (41 : Int32) = nI 41 from rfl, show (3 : Int32) = nI 3 from rfl, show (2 : Int32) = nI 2 from rfl, ni_mul, ni_add, ni_add, ix_nI (by omega), hB _ _ (by decide), b8']
        simp only [chk_nI (show 41 + 3 * i + 2 < 184 by omega) (show 184 < 2 ^ 31 by decide), lt_eq]
        rcases hb with rfl | rfl
        · rw [if_pos rfl, if_pos hc, noM h5, bd2_some]; rfl
        · rw [if_neg (by decide), if_pos hc, noM h5, bd2_some]; rfl
    · refine ⟨_, _, _, guard_X m6 g2 hr hg hi9 hc, guard_Y (r := r) (by rw [si_ne (by omega)]; exact s2) hr hi9 hb (by rw [si_ne (by omega)]; exact b8') hc, ?_⟩
      refine h.now (fun q j hq9 => by have k9 := relo_ne hq9; (try dsimp only); (repeat (first | rw [si_eq] | rw [si_ne (by omega)] | rw [cp_in (by omega)] | rw [cp_ne (by omega)]))) ⟨rfl, rfl⟩ ⟨n, l, r, p, hh.of (fun j hj => by ((try dsimp only); (repeat (first | rw [si_eq] | rw [si_ne (by omega)] | rw [cp_in (by omega)] | rw [cp_ne (by omega)])))) (by ((try dsimp only); (repeat (first | rw [si_eq] | rw [si_ne (by omega)] | rw [cp_in (by omega)] | rw [cp_ne (by omega)])))) (by ((try dsimp only); (repeat (first | rw [si_eq] | rw [si_ne (by omega)] | rw [cp_in (by omega)] | rw [cp_ne (by omega)])))) (fun j hj => by ((try dsimp only); (repeat (first | rw [si_eq] | rw [si_ne (by omega)] | rw [cp_in (by omega)] | rw [cp_ne (by omega)])))), h1.of hl (fun c _ _ i _ => by ((try dsimp only); (repeat (first | rw [si_eq] | rw [si_ne (by omega)] | rw [cp_in (by omega)] | rw [cp_ne (by omega)])))) (fun j _ _ => by ((try dsimp only); (repeat (first | rw [si_eq] | rw [si_ne (by omega)] | rw [cp_in (by omega)] | rw [cp_ne (by omega)])))), h2.of (fun i _ => by ((try dsimp only); (repeat (first | rw [si_eq] | rw [si_ne (by omega)] | rw [cp_in (by omega)] | rw [cp_ne (by omega)])))) (fun j _ _ => by ((try dsimp only); (repeat (first | rw [si_eq] | rw [si_ne (by omega)] | rw [cp_in (by omega)] | rw [cp_ne (by omega)])))), h3.of (fun i _ => by ((try dsimp only); (repeat (first | rw [si_eq] | rw [si_ne (by omega)] | rw [cp_in (by omega)] | rw [cp_ne (by omega)])))) (fun j _ _ => by ((try dsimp only); (repeat (first | rw [si_eq] | rw [si_ne (by omega)] | rw [cp_in (by omega)] | rw [cp_ne (by omega)])))), ⟨gd ^^^ 2 ^ i, Nat.xor_lt_two_pow g1 (Nat.pow_lt_pow_right (by decide) hi9), by (try dsimp only); (repeat (first | rw [si_eq] | rw [si_ne (by omega)] | rw [cp_in (by omega)] | rw [cp_ne (by omega)])), fun j hj => ?_, fun j k hj hk hjk => ?_⟩, h5.of hl hp (fun c _ _ i => by ((try dsimp only); (repeat (first | rw [si_eq] | rw [si_ne (by omega)] | rw [cp_in (by omega)] | rw [cp_ne (by omega)])))) (fun j _ _ => by ((try dsimp only); (repeat (first | rw [si_eq] | rw [si_ne (by omega)] | rw [cp_in (by omega)] | rw [cp_ne (by omega)]))))⟩
      · obtain ⟨a1, a2, b1, b2, b3, b4, b5, b6, b7, b8⟩ := g3 j hj
        refine ⟨a1, a2, b1, b2, b3, by (((try dsimp only); (repeat (first | rw [si_eq] | rw [si_ne (by omega)] | rw [cp_in (by omega)] | rw [cp_ne (by omega)]))) <;> exact b4), by (((try dsimp only); (repeat (first | rw [si_eq] | rw [si_ne (by omega)] | rw [cp_in (by omega)] | rw [cp_ne (by omega)]))) <;> exact b5), by (((try dsimp only); (repeat (first | rw [si_eq] | rw [si_ne (by omega)] | rw [cp_in (by omega)] | rw [cp_ne (by omega)]))) <;> exact b6), by (((try dsimp only); (repeat (first | rw [si_eq] | rw [si_ne (by omega)] | rw [cp_in (by omega)] | rw [cp_ne (by omega)]))) <;> exact b7), ?_⟩
        rw [Nat.testBit_xor, Nat.testBit_two_pow]
        by_cases e : j = i
        · subst e
          (try dsimp only); (repeat (first | rw [si_eq] | rw [si_ne (by omega)] | rw [cp_in (by omega)] | rw [cp_ne (by omega)]))
          rw [decide_eq_true rfl]
          cases ht : gd.testBit j
          · rw [ht] at hc
            rcases hb with rfl | rfl
            · exact absurd rfl hc
            · rfl
          · rw [ht] at hc
            rcases hb with rfl | rfl
            · rfl
            · exact absurd rfl hc
        · rw [decide_eq_false (fun q => e q.symm), Bool.xor_false]
          (((try dsimp only); (repeat (first | rw [si_eq] | rw [si_ne (by omega)] | rw [cp_in (by omega)] | rw [cp_ne (by omega)]))) <;> exact b8)
      · have := g4 j k hj hk hjk
        (((try dsimp only); (repeat (first | rw [si_eq] | rw [si_ne (by omega)] | rw [cp_in (by omega)] | rw [cp_ne (by omega)]))) <;> exact this)
  · refine ok_bad h ?_ (fun ν h5 hB _ => ?_)
    · unfold f_X10_guard f_X0_setGuard
      simp only [jn_eq]
      by_cases h0 : x < 0
      · rw [if_pos h0, bd2_some, tally_bad, bd2_some]
      · rw [if_neg h0, m6, if_neg (Int32.not_lt.mpr (hx.resolve_left h0)), bd2_some, tally_bad, bd2_some]
    · unfold f_X11_guard
      rw [hB 2, s2', in1_bad (by omega) hx, bd_some, if_pos (by rfl), badM h5, bd2_some]
