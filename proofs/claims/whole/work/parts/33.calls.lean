theorem si_ne {μ : Mem} {a j : Nat} {x : Int32} {b i : Nat} (h : ¬ (b = a ∧ i = j)) : (setI μ a j x).1 b i = μ.1 b i := by rw [si_1, if_neg h]
theorem si_eq {μ : Mem} {a j : Nat} {x : Int32} : (setI μ a j x).1 a j = x := by rw [si_1, if_pos ⟨rfl, rfl⟩]
theorem ok_growth (x : Int32) : Ok (f_X10_growth x) (f_X11_growth x) := by
  intro μ h
  obtain ⟨⟨n, l, r, p, hh, h1, h2, h3, h4, h5⟩, hi, ht, hll, hrf, hq⟩ := id h
  obtain ⟨⟨hn1, hn5, hl, hr, hp⟩, ⟨s0, s1, s2, s4, gr, hgr, s5⟩, c1, c2, c3, c4, c5, c6⟩ := id hh
  rcases isN_or x (n := 9 + 1) (by decide) with ⟨g, hg, rfl⟩ | hx
  · refine ⟨nI gr, setI μ 2 3 (nI g), setI (setI μ 2 3 (nI g)) 113 5 (nI g), ?_, ?_, ?_⟩
    · unfold f_X10_growth f_X0_setGrowth
      simp only [jn_eq, lt_eq]
      rw [if_neg (nI_pos (by omega)), show (9 : Int32) = nI 9 from rfl, if_neg (ngt hg (by decide)), bd2_some, show (μ.1 (1 + 1) 3 : Int32) = nI gr from c4.trans s5, tally_ok (nI_pos (by omega))]
      rfl
    · unfold f_X11_growth
      rw [inL_ok (hi := 9) (by decide) (by omega), bd_some]
      simp only [jn_eq]
      rw [if_neg (by decide), show (5 : Int32) = nI 5 from rfl, puts_eq (by decide), bd2_some, si_ne (by decide), show μ.1 113 5 = nI gr from s5]
    · exact h.now (fun q j hq9 => by have k9 := relo_ne hq9; (try dsimp only); rw [si_ne (by omega), si_ne (by omega)]) ⟨rfl, rfl⟩ ⟨n, l, r, p, ⟨⟨hn1, hn5, hl, hr, hp⟩, ⟨by (try dsimp only); rw [si_ne (by omega), si_ne (by omega)]; exact s0, by (try dsimp only); rw [si_ne (by omega), si_ne (by omega)]; exact s1, by (try dsimp only); rw [si_ne (by omega), si_ne (by omega)]; exact s2, by (try dsimp only); rw [si_ne (by omega), si_ne (by omega)]; exact s4, g, by omega, si_eq⟩, by (try dsimp only); rw [si_ne (by omega), si_ne (by omega), si_ne (by omega), si_ne (by omega)]; exact c1, by (try dsimp only); rw [si_ne (by omega), si_ne (by omega), si_ne (by omega), si_ne (by omega)]; exact c2, by (try dsimp only); rw [si_ne (by omega), si_ne (by omega), si_ne (by omega), si_ne (by omega)]; exact c3, by (try dsimp only); rw [si_ne (by omega), si_eq, si_eq], by (try dsimp only); rw [si_ne (by omega), si_ne (by omega), si_ne (by omega), si_ne (by omega)]; exact c5, by (try dsimp only); rw [si_ne (by omega), si_ne (by omega), si_ne (by omega), si_ne (by omega)]; exact c6⟩, h1.of hl (fun c _ _ i _ => by (try dsimp only); rw [si_ne (by omega), si_ne (by omega)]) (fun j _ _ => by (try dsimp only); rw [si_ne (by omega), si_ne (by omega)]), h2.of (fun i _ => by (try dsimp only); rw [si_ne (by omega), si_ne (by omega)]) (fun j _ _ => by (try dsimp only); rw [si_ne (by omega), si_ne (by omega)]), h3.of (fun i _ => by (try dsimp only); rw [si_ne (by omega), si_ne (by omega)]) (fun j _ _ => by (try dsimp only); rw [si_ne (by omega), si_ne (by omega)]), h4.of hr (by (try dsimp only); rw [si_ne (by omega), si_ne (by omega)]) (fun c _ _ i _ => by (try dsimp only); rw [si_ne (by omega), si_ne (by omega)]) (fun j _ _ => by (try dsimp only); rw [si_ne (by omega), si_ne (by omega)]), h5.of hl hp (fun c _ _ i => by (try dsimp only); rw [si_ne (by omega), si_ne (by omega)]) (fun j _ _ => by (try dsimp only); rw [si_ne (by omega), si_ne (by omega)])⟩
  · refine ok_bad h ?_ (fun ν h5 _ _ => ?_)
    · unfold f_X10_growth f_X0_setGrowth
      simp only [jn_eq, lt_eq]
      rcases or_of (by decide) hx with h0 | h0
      · rw [if_pos h0, bd2_some, tally_bad]; rfl
      · by_cases h1 : x < 0
        · rw [if_pos h1, bd2_some, tally_bad]; rfl
        · rw [if_neg h1, if_pos (by exact h0), bd2_some, tally_bad]; rfl
    · unfold f_X11_growth
      rw [inL_bad (hi := 9) (by decide) (or_of (by decide) hx), bd_some]
      simp only [jn_eq]
      rw [if_pos (by trivial), badM h5]
      rfl
theorem ok_cloud (x y : Int32) : Ok (f_X10_cloud x y) (f_X11_cloud x y) := by
  intro μ h
  obtain ⟨⟨n, l, r, p, hh, h1, h2, h3, h4, h5⟩, hi, ht, hll, hrf, hq⟩ := id h
  obtain ⟨⟨hn1, hn5, hl, hr, hp⟩, ⟨s0, s1, s2, s4, gr, hgr, s5⟩, c1, c2, c3, c4, c5, c6⟩ := id hh
  have m0 : μ.1 (1 + 1) 0 = nI n := c1.trans s0
  rcases isN_or x (n := n) (by omega) with ⟨v, hv, rfl⟩ | hx
  · rcases isN_or y (n := 10 + 1) (by decide) with ⟨c, hc, rfl⟩ | hx
    · obtain ⟨c0, hc0, e0, e1⟩ := h2 v (by omega)
      refine ⟨nI c0, setI μ 13 v (nI c), setI (setI μ 13 v (nI c)) 113 (36 + v) (nI c), ?_, ?_, ?_⟩
      · unfold f_X10_cloud f_X0_setOdds
        rw [hasV_ok m0 (by omega) hv, bd_some]
        simp only [jn_eq, lt_eq]
        rw [if_neg (by decide), if_neg (nI_pos (by omega)), show (10 : Int32) = nI 10 from rfl, if_neg (ngt hc (by decide)), chk_nI (by omega) (by decide), chk_nI (by omega) (by decide), ix_nI (by omega), bd2_some, show μ.1 (1 + 12) v = nI c0 from e1, tally_ok (nI_pos (by omega))]
        rfl
      · unfold f_X11_cloud
        rw [isV_ok (n := n) (by (try dsimp only); rw [si_ne (by omega)]; exact s0) (by omega) hv, bd_some]
        simp only [jn_eq]
        rw [if_neg (by decide), inL_ok (hi := 10) (by decide) (by omega), bd_some, if_neg (by decide), show (36 : Int32) = nI 36 from rfl, ni_add, puts_eq (by omega), bd2_some, si_ne (by omega), show μ.1 113 (36 + v) = nI c0 from e0]
      · exact h.now (fun q j hq9 => by have k9 := relo_ne hq9; (try dsimp only); rw [si_ne (by omega), si_ne (by omega)]) ⟨rfl, rfl⟩ ⟨n, l, r, p, hh.of (fun j hj => by (try dsimp only); rw [si_ne (by omega), si_ne (by omega)]) (by (try dsimp only); rw [si_ne (by omega), si_ne (by omega)]) (by (try dsimp only); rw [si_ne (by omega), si_ne (by omega)]) (fun j hj => by (try dsimp only); rw [si_ne (by omega), si_ne (by omega)]), h1.of hl (fun c _ _ i _ => by (try dsimp only); rw [si_ne (by omega), si_ne (by omega)]) (fun j _ _ => by (try dsimp only); rw [si_ne (by omega), si_ne (by omega)]), fun i hi => if e : i = v then ⟨c, by omega, by (try dsimp only); rw [e, si_eq], by (try dsimp only); rw [e, si_ne (by omega), si_eq]⟩ else by (try dsimp only); rw [si_ne (by omega), si_ne (by omega), si_ne (by omega), si_ne (by omega)]; exact h2 i hi, h3.of (fun i _ => by (try dsimp only); rw [si_ne (by omega), si_ne (by omega)]) (fun j _ _ => by (try dsimp only); rw [si_ne (by omega), si_ne (by omega)]), h4.of hr (by (try dsimp only); rw [si_ne (by omega), si_ne (by omega)]) (fun c _ _ i _ => by (try dsimp only); rw [si_ne (by omega), si_ne (by omega)]) (fun j _ _ => by (try dsimp only); rw [si_ne (by omega), si_ne (by omega)]), h5.of hl hp (fun c _ _ i => by (try dsimp only); rw [si_ne (by omega), si_ne (by omega)]) (fun j _ _ => by (try dsimp only); rw [si_ne (by omega), si_ne (by omega)])⟩
    · refine ok_bad h ?_ (fun ν h5 hB _ => ?_)
      · unfold f_X10_cloud f_X0_setOdds
        rw [hasV_ok m0 (by omega) hv, bd_some]
        simp only [jn_eq, lt_eq]
        rw [if_neg (by decide)]
        rcases or_of (by decide) hx with h0 | h0
        · rw [if_pos h0, bd2_some, tally_bad]; rfl
        · by_cases h1 : y < 0
          · rw [if_pos h1, bd2_some, tally_bad]; rfl
          · rw [if_neg h1, if_pos (by exact h0), bd2_some, tally_bad]; rfl
      · unfold f_X11_cloud
        rw [isV_ok (n := n) ((hB 0).trans s0) (by omega) hv, bd_some]
        simp only [jn_eq]
        rw [if_neg (by decide), inL_bad (hi := 10) (by decide) (or_of (by decide) hx), bd_some, if_pos (by trivial), badM h5]
        rfl
  · refine ok_bad h ?_ (fun ν h5 hB _ => ?_)
    · unfold f_X10_cloud f_X0_setOdds
      rw [hasV_bad m0 hx, bd_some]
      simp only [jn_eq, lt_eq]
      rw [if_pos (by trivial), bd2_some, tally_bad]; rfl
    · unfold f_X11_cloud
      rw [isV_bad (n := n) ((hB 0).trans s0) (by omega) hx, bd_some]
      simp only [jn_eq]
      rw [if_pos (by trivial), badM h5]; rfl
theorem ok_told (x y : Int32) : Ok (f_X10_told x y) (f_X11_told x y) := by
  intro μ h
  obtain ⟨⟨n, l, r, p, hh, h1, h2, h3, h4, h5⟩, hi, ht, hll, hrf, hq⟩ := id h
  obtain ⟨⟨hn1, hn5, hl, hr, hp⟩, ⟨s0, s1, s2, s4, gr, hgr, s5⟩, c1, c2, c3, c4, c5, c6⟩ := id hh
  rcases isN_or x (n := 2 + 1) (by decide) with ⟨v, hv, rfl⟩ | hx
  · rcases isN_or y (n := 999 + 1) (by decide) with ⟨c, hc, rfl⟩ | hx
    · obtain ⟨c0, hc0, e0, e1⟩ := h3 v (by omega)
      refine ⟨nI c0, setI μ 14 v (nI c), setI (setI μ 14 v (nI c)) 113 (71 + v) (nI c), ?_, ?_, ?_⟩
      · unfold f_X10_told f_X0_setTold
        simp only [jn_eq, lt_eq]
        rw [if_neg (nI_pos (by omega)), show (3 : Int32) = nI 3 from rfl, if_pos ((nI_ltI (by omega) (by decide)).mpr hv), if_neg (nI_pos (by omega)), show (999 : Int32) = nI 999 from rfl, if_neg (ngt hc (by decide)), chk_nI (by omega) (by decide), chk_nI (by omega) (by decide), ix_nI (by omega), bd2_some, show μ.1 (1 + 13) v = nI c0 from e1, tally_ok (nI_pos (by omega))]
        rfl
      · unfold f_X11_told
        rw [inL_ok (hi := 2) (by decide) (by omega), bd_some]
        simp only [jn_eq]
        rw [if_neg (by decide), inL_ok (hi := 999) (by decide) (by omega), bd_some, if_neg (by decide), show (71 : Int32) = nI 71 from rfl, ni_add, puts_eq (by omega), bd2_some, si_ne (by omega), show μ.1 113 (71 + v) = nI c0 from e0]
      · exact h.now (fun q j hq9 => by have k9 := relo_ne hq9; (try dsimp only); rw [si_ne (by omega), si_ne (by omega)]) ⟨rfl, rfl⟩ ⟨n, l, r, p, hh.of (fun j hj => by (try dsimp only); rw [si_ne (by omega), si_ne (by omega)]) (by (try dsimp only); rw [si_ne (by omega), si_ne (by omega)]) (by (try dsimp only); rw [si_ne (by omega), si_ne (by omega)]) (fun j hj => by (try dsimp only); rw [si_ne (by omega), si_ne (by omega)]), h1.of hl (fun c _ _ i _ => by (try dsimp only); rw [si_ne (by omega), si_ne (by omega)]) (fun j _ _ => by (try dsimp only); rw [si_ne (by omega), si_ne (by omega)]), h2.of (fun i _ => by (try dsimp only); rw [si_ne (by omega), si_ne (by omega)]) (fun j _ _ => by (try dsimp only); rw [si_ne (by omega), si_ne (by omega)]), fun i hi => if e : i = v then ⟨c, by omega, by (try dsimp only); rw [e, si_eq], by (try dsimp only); rw [e, si_ne (by omega), si_eq]⟩ else by (try dsimp only); rw [si_ne (by omega), si_ne (by omega), si_ne (by omega), si_ne (by omega)]; exact h3 i hi, h4.of hr (by (try dsimp only); rw [si_ne (by omega), si_ne (by omega)]) (fun c _ _ i _ => by (try dsimp only); rw [si_ne (by omega), si_ne (by omega)]) (fun j _ _ => by (try dsimp only); rw [si_ne (by omega), si_ne (by omega)]), h5.of hl hp (fun c _ _ i => by (try dsimp only); rw [si_ne (by omega), si_ne (by omega)]) (fun j _ _ => by (try dsimp only); rw [si_ne (by omega), si_ne (by omega)])⟩
    · refine ok_bad h ?_ (fun ν h5 hB _ => ?_)
      · unfold f_X10_told f_X0_setTold
        simp only [jn_eq, lt_eq]
        rw [if_neg (nI_pos (by omega)), show (3 : Int32) = nI 3 from rfl, if_pos ((nI_ltI (by omega) (by decide)).mpr hv)]
        rcases or_of (by decide) hx with h0 | h0
        · rw [if_pos h0, bd2_some, tally_bad]; rfl
        · by_cases h1 : y < 0
          · rw [if_pos h1, bd2_some, tally_bad]; rfl
          · rw [if_neg h1, if_pos (by exact h0), bd2_some, tally_bad]; rfl
      · unfold f_X11_told
        rw [inL_ok (hi := 2) (by decide) (by omega), bd_some]
        simp only [jn_eq]
        rw [if_neg (by decide), inL_bad (hi := 999) (by decide) (or_of (by decide) hx), bd_some, if_pos (by trivial), badM h5]
        rfl
  · refine ok_bad h ?_ (fun ν h5 hB _ => ?_)
    · unfold f_X10_told f_X0_setTold
      simp only [jn_eq, lt_eq]
      by_cases h0 : x < 0
      · rw [if_pos h0, bd2_some, tally_bad]; rfl
      · rw [if_neg h0, if_neg (by exact Int32.not_lt.mpr (hx.resolve_left h0)), bd2_some, tally_bad]; rfl
    · unfold f_X11_told
      rw [inL_bad (hi := 2) (by decide) (or_of (by decide) hx), bd_some]
      simp only [jn_eq]
      rw [if_pos (by trivial), badM h5]; rfl
theorem ok_move (x y : Int32) : Ok (f_X10_move x y) (f_X11_move x y) := by
  intro μ h
  obtain ⟨⟨n, l, r, p, hh, h1, h2, h3, h4, h5⟩, hi, ht, hll, hrf, hq⟩ := id h
  obtain ⟨⟨hn1, hn5, hl, hr, hp⟩, ⟨s0, s1, s2, s4, gr, hgr, s5⟩, c1, c2, c3, c4, c5, c6⟩ := id hh
  have m0 : μ.1 (1 + 1) 0 = nI n := c1.trans s0
  have m1 : μ.1 (1 + 1) 1 = nI l := c2.trans s1
  rcases isN_or x (n := l) (by omega) with ⟨v, hv, rfl⟩ | hx
  · rcases isN_or y (n := n) (by omega) with ⟨c, hc, rfl⟩ | hx
    · obtain ⟨e1, ⟨c0, hc0, e2, e3⟩, e4⟩ := h1 v hv
      refine ⟨nI c0, setI μ 4 v (nI c), setI (setI μ 4 v (nI c)) 113 (16 + v) (nI c), ?_, ?_, ?_⟩
      · unfold f_X10_move f_X0_moveLot
        rw [hasL_ok m1 (by omega) hv, bd_some]
        simp only [jn_eq, lt_eq]
        rw [if_neg (by decide), hasV_ok m0 (by omega) hc, bd_some, if_neg (by decide), chk_nI (by omega) (by decide), chk_nI (by omega) (by decide), ix_nI (by omega), bd2_some, show μ.1 (1 + 3) v = nI c0 from e3, tally_ok (nI_pos (by omega))]
        rfl
      · unfold f_X11_move
        rw [isL_ok (n := l) (by (try dsimp only); rw [si_ne (by omega)]; exact s1) (by omega) hv, bd_some]
        simp only [jn_eq]
        rw [if_neg (by decide), isV_ok (n := n) (by (try dsimp only); rw [si_ne (by omega)]; exact s0) (by omega) hc, bd_some, if_neg (by decide), show (16 : Int32) = nI 16 from rfl, ni_add, puts_eq (by omega), bd2_some, si_ne (by omega), show μ.1 113 (16 + v) = nI c0 from e2]
      · exact h.now (fun q j hq9 => by have k9 := relo_ne hq9; (try dsimp only); rw [si_ne (by omega), si_ne (by omega)]) ⟨rfl, rfl⟩ ⟨n, l, r, p, hh.of (fun j hj => by (try dsimp only); rw [si_ne (by omega), si_ne (by omega)]) (by (try dsimp only); rw [si_ne (by omega), si_ne (by omega)]) (by (try dsimp only); rw [si_ne (by omega), si_ne (by omega)]) (fun j hj => by (try dsimp only); rw [si_ne (by omega), si_ne (by omega)]), fun i hi => if e : i = v then ⟨by (try dsimp only); rw [e, si_ne (by omega), si_ne (by omega), si_ne (by omega), si_ne (by omega)]; exact e1, ⟨c, hc, by (try dsimp only); rw [e, si_eq], by (try dsimp only); rw [e, si_ne (by omega), si_eq]⟩, by (try dsimp only); rw [e, si_ne (by omega), si_ne (by omega), si_ne (by omega), si_ne (by omega)]; exact e4⟩ else by (try dsimp only); rw [si_ne (by omega), si_ne (by omega), si_ne (by omega), si_ne (by omega), si_ne (by omega), si_ne (by omega), si_ne (by omega), si_ne (by omega), si_ne (by omega), si_ne (by omega), si_ne (by omega), si_ne (by omega)]; exact h1 i hi, h2.of (fun i _ => by (try dsimp only); rw [si_ne (by omega), si_ne (by omega)]) (fun j _ _ => by (try dsimp only); rw [si_ne (by omega), si_ne (by omega)]), h3.of (fun i _ => by (try dsimp only); rw [si_ne (by omega), si_ne (by omega)]) (fun j _ _ => by (try dsimp only); rw [si_ne (by omega), si_ne (by omega)]), h4.of hr (by (try dsimp only); rw [si_ne (by omega), si_ne (by omega)]) (fun c _ _ i _ => by (try dsimp only); rw [si_ne (by omega), si_ne (by omega)]) (fun j _ _ => by (try dsimp only); rw [si_ne (by omega), si_ne (by omega)]), h5.of hl hp (fun c _ _ i => by (try dsimp only); rw [si_ne (by omega), si_ne (by omega)]) (fun j _ _ => by (try dsimp only); rw [si_ne (by omega), si_ne (by omega)])⟩
    · refine ok_bad h ?_ (fun ν h5 hB _ => ?_)
      · unfold f_X10_move f_X0_moveLot
        rw [hasL_ok m1 (by omega) hv, bd_some]
        simp only [jn_eq, lt_eq]
        rw [if_neg (by decide), hasV_bad m0 hx, bd_some, if_pos (by trivial), bd2_some, tally_bad]; rfl
      · unfold f_X11_move
        rw [isL_ok (n := l) ((hB 1).trans s1) (by omega) hv, bd_some]
        simp only [jn_eq]
        rw [if_neg (by decide), isV_bad (n := n) ((hB 0).trans s0) (by omega) hx, bd_some, if_pos (by trivial), badM h5]; rfl
  · refine ok_bad h ?_ (fun ν h5 hB _ => ?_)
    · unfold f_X10_move f_X0_moveLot
      rw [hasL_bad m1 hx, bd_some]
      simp only [jn_eq, lt_eq]
      rw [if_pos (by trivial), bd2_some, tally_bad]; rfl
    · unfold f_X11_move
      rw [isL_bad (n := l) ((hB 1).trans s1) (by omega) hx, bd_some]
      simp only [jn_eq]
      rw [if_pos (by trivial), badM h5]; rfl
theorem ok_clear : Ok (f_X10_clear) (f_X11_clear) := by
  intro μ h
  obtain ⟨hc, hi, ⟨t, ht, t1, t2, t3⟩, hl, hrf, hq⟩ := id h
  refine ⟨nI t, setI μ 45 1 0, setI (setI μ 45 1 0) 112 9 0, ?_, ?_, ?_⟩
  · unfold f_X10_clear
    rw [lt_eq, t1]
  · unfold f_X11_clear
    rw [lt_eq, si_ne (by omega), t2]
  · refine ⟨hc.of (fun c hc1 _ j => by (try dsimp only); rw [si_ne (by omega), si_ne (by omega)]) (fun j _ => by (try dsimp only); rw [si_ne (by omega), si_ne (by omega)]), fun i hi2 => ?_, ⟨0, by decide, by (try dsimp only); rw [si_ne (by omega), si_eq]; rfl, by (try dsimp only); rw [si_eq]; rfl, fun j hj => absurd hj (Nat.not_lt_zero j)⟩, hl, ?_, by (try dsimp only); rw [si_ne (by omega), si_ne (by omega)]; exact hq⟩
    · obtain ⟨i1, i2, i3⟩ := hi i hi2
      rw [si_ne (by omega), si_ne (by omega), si_ne (by omega), si_ne (by omega)]
      exact ⟨i1, i2, fun h => (i3 h).of (fun c hc1 _ j => by (try dsimp only); rw [si_ne (by omega), si_ne (by omega)]) (fun j _ => by (try dsimp only); rw [si_ne (by omega), si_ne (by omega)])⟩
    · rw [si_ne (by omega), si_ne (by omega), si_ne (by omega), si_ne (by omega), si_ne (by omega), si_ne (by omega), si_ne (by omega), si_ne (by omega), si_ne (by omega), si_ne (by omega), si_ne (by omega), si_ne (by omega), si_ne (by omega), si_ne (by omega)]
      exact hrf
theorem ok_status (x : Int32) : Ok (f_X10_status x) (f_X11_status x) := by
  intro μ h
  obtain ⟨r0, r1, r2, _⟩ := h.2.2.2.2.1
  rcases isN_or x (n := 2 + 1) (by decide) with ⟨v, hv, rfl⟩ | hx
  · have e : f_X11_status (nI v) μ = some (μ.1 117 v, μ) := by
      unfold f_X11_status
      rw [inL_ok (hi := 2) (by decide) (by omega), bd_some]
      simp only [jn_eq]
      rw [if_neg (by decide), chk_nI hv (by decide), ix_nI (by omega)]
    match v, hv with
    | 0, _ => exact ⟨μ.1 117 0, μ, μ, by rw [← r0]; rfl, e, h⟩
    | 1, _ => exact ⟨μ.1 117 1, μ, μ, by rw [← r1]; rfl, e, h⟩
    | 2, _ => exact ⟨μ.1 117 2, μ, μ, by rw [← r2]; rfl, e, h⟩
    | v + 3, hv => exact absurd hv (by omega)
  · refine ⟨-1, badX μ, refM (badX μ) 0, ?_, ?_, h.bad⟩
    · unfold f_X10_status
      rw [if_neg (fun q => ?_), if_neg (fun q => ?_), if_neg (fun q => ?_), refB]
      · rfl
      all_goals (subst q; rcases hx with hx | hx <;> exact absurd hx (by decide))
    · unfold f_X11_status
      rw [inL_bad (hi := 2) (by decide) (or_of (by decide) hx), bd_some]
      simp only [jn_eq]
      rw [if_pos (by trivial), show (0 : Int32) = nI 0 from rfl, ref_eq (by decide) (quiet_bad h)]
      rfl
theorem ok_part (x : Int32) : ∀ μ, Rel μ → ∃ r ν1 ν2, f_X10_part x μ = some (r, ν1) ∧ f_X11_part x ν1 = some (r, ν2) ∧ Rel ν2 := by
  intro μ h
  obtain ⟨l0, l1⟩ := h.2.2.2.1
  rcases isN_or x (n := 1 + 1) (by decide) with ⟨v, hv, rfl⟩ | hx
  · match v, hv with
    | 0, _ => exact ⟨μ.2 112 6, μ, μ, by rw [← l0]; rfl, rfl, h⟩
    | 1, _ => exact ⟨μ.2 112 7, μ, μ, by rw [← l1]; rfl, rfl, h⟩
    | v + 2, hv => exact absurd hv (by omega)
  · refine ⟨-100000, badX μ, refM (badX μ) 0, ?_, ?_, h.bad⟩
    · unfold f_X10_part
      simp only [jn_eq, refB, bd2_some]
      by_cases h0 : x < 0
      · rw [if_pos h0]
      · rw [if_neg h0, show (1 : Int32) = nI 1 from rfl, if_pos (gt_of (by decide) (hx.resolve_left h0))]
    · unfold f_X11_part
      simp only [jn_eq]
      rw [if_neg (fun q => ?_), if_neg (fun q => ?_), show (0 : Int32) = nI 0 from rfl, ref_eq (by decide) (quiet_bad h)]
      · rfl
      all_goals (subst q; rcases hx with hx | hx <;> exact absurd hx (by decide))
theorem ok_count (x : Int32) : Ok (f_X10_count x) (f_X11_count x) := by
  intro μ h
  obtain ⟨⟨n, l, r, p, hh, h1, h2, h3, h4, h5⟩, hi, ht, hll, hrf, hq⟩ := id h
  obtain ⟨⟨hn1, hn5, hl, hr, hp⟩, ⟨s0, s1, s2, s4, gr, hgr, s5⟩, c1, c2, c3, c4, c5, c6⟩ := id hh
  obtain ⟨t, ht5, t1, t2, t3⟩ := ht
  rcases isN_or x (n := 6 + 1) (by decide) with ⟨v, hv, rfl⟩ | hx
  · have e : ∀ z, f_X11_countOf (nI v) μ = some z → f_X11_count (nI v) μ = some (z, μ) := by
      intro z hz
      unfold f_X11_count
      rw [inL_ok (hi := 6) (by decide) (by omega), bd_some]
      simp only [jn_eq]
      rw [if_neg (by decide), hz, bd_some]
    have e2 : ∀ z, f_X10_howMany (nI v) μ = some z → f_X10_count (nI v) μ = some (z, μ) := by
      intro z hz
      unfold f_X10_count
      simp only [jn_eq]
      rw [if_neg (nI_pos (by omega)), show (7 : Int32) = nI 7 from rfl, if_pos ((nI_ltI (by omega) (by decide)).mpr hv), hz, bd_some]
    match v, hv with
    | 0, _ => exact ⟨μ.1 113 0, μ, μ, e2 _ (congrArg some c1), e _ rfl, h⟩
    | 1, _ => exact ⟨μ.1 113 1, μ, μ, e2 _ (congrArg some c2), e _ rfl, h⟩
    | 2, _ => exact ⟨μ.1 113 2, μ, μ, e2 _ (congrArg some c5), e _ rfl, h⟩
    | 3, _ => exact ⟨μ.1 113 3, μ, μ, e2 _ (congrArg some c3), e _ rfl, h⟩
    | 4, _ => exact ⟨μ.1 113 4, μ, μ, e2 _ (congrArg some c6), e _ rfl, h⟩
    | 5, _ => exact ⟨nI t, μ, μ, e2 _ (congrArg some t1), e _ (congrArg some t2), h⟩
    | 6, _ => exact ⟨μ.1 113 5, μ, μ, e2 _ (congrArg some c4), e _ rfl, h⟩
    | v + 7, hv => exact absurd hv (by omega)
  · refine ok_bad h ?_ (fun ν h5 _ _ => ?_)
    · unfold f_X10_count
      simp only [jn_eq]
      by_cases h0 : x < 0
      · rw [if_pos h0, tally_bad]; rfl
      · rw [if_neg h0, if_neg (by exact Int32.not_lt.mpr (hx.resolve_left h0)), tally_bad]; rfl
    · unfold f_X11_count
      rw [inL_bad (hi := 6) (by decide) (or_of (by decide) hx), bd_some]
      simp only [jn_eq]
      rw [if_pos (by trivial), badM h5]; rfl
