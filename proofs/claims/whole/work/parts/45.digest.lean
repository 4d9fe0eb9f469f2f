/-! digest, guard -/
noncomputable def mx (f : Nat → Int32) (h : Int64) : Nat → Int64
  | 0 => h
  | k + 1 => 31 * mx f h k + (f k).toInt64
noncomputable def lx (f g e : Nat → Int32) (h : Int64) : Nat → Int64
  | 0 => h
  | k + 1 => 31 * (31 * (31 * lx f g e h k + (f k).toInt64) + (g k).toInt64) + (e k).toInt64
theorem mixed_Y {a N : Nat} {h : Int64} {μ : Mem} (hN : a + N ≤ 184) : f_X11_mixed h (nI a) (nI N) μ = some (mx (fun k => μ.1 113 (a + k)) h N) := by
  unfold f_X11_mixed
  refine (bd_for (e := mx (fun k => μ.1 113 (a + k)) h N) (fun i => (mx (fun k => μ.1 113 (a + k)) h i, nI i)) N rfl (fun i hi => ?_) ?_).trans rfl
  · rw [cu2_eq, if_pos ((nI_ltI (by omega) (by omega)).mpr hi), ni_add, chk_nI (by omega) (by decide), lt_eq, ix_nI (by omega), ← nI_succ]
    rfl
  · rw [cu2_eq, if_neg (fun q => Nat.lt_irrefl N ((nI_ltI (by omega) (by omega)).mp q))]
theorem gd_bt {gd i : Nat} (hi : i < 10) : (((nI gd) >>> (nI i &&& 31)) &&& 1 = 1) ↔ gd.testBit i = true := by
  rw [bit_1 (by omega), bt_nI (by omega)]
theorem isG_eq {k gd i : Nat} {μ : Mem} (m : μ.1 k 3 = nI gd) (hi : i < 10) : f_X7_isGuarded k (nI i) μ = some (if gd.testBit i then 1 else 0) := by
  unfold f_X7_isGuarded
  rw [jn_eq, m]
  cases ht : gd.testBit i
  · rw [if_neg (fun q => by rw [(gd_bt hi).mp q] at ht; cases ht)]; rfl
  · rw [if_pos ((gd_bt hi).mpr ht)]; rfl
theorem dgOn_X {k n l r gd : Nat} {h : Int64} {M : Nat → Int32} {μ : Mem} (m0 : μ.1 (k + 1) 0 = nI n) (m1 : μ.1 (k + 1) 1 = nI l) (m2 : μ.1 (k + 6) 0 = nI r) (m3 : μ.1 (k + 6) 3 = nI gd) (hn : n ≤ 5) (hl : l ≤ 10) (hr : r ≤ 10) (hO : ∀ i, i < n → μ.1 (k + 12) i = M (36 + i)) (hL : ∀ i, i < l → μ.1 (k + 2) i = M (6 + i) ∧ μ.1 (k + 3) i = M (16 + i) ∧ μ.1 (k + 4) i = M (26 + i)) (hR : ∀ i, i < r → μ.1 (k + 7) i = M (41 + 3 * i) ∧ μ.1 (k + 8) i = M (41 + (3 * i + 1)) ∧ (if gd.testBit i then (1 : Int32) else 0) = M (41 + (3 * i + 2))) (hT : ∀ i, i < 3 → μ.1 (k + 13) i = M (71 + i)) : f_X0_digestOn k h μ = some (mx (fun j => M (71 + j)) (mx (fun j => M (41 + j)) (lx (fun j => M (6 + j)) (fun j => M (16 + j)) (fun j => M (26 + j)) (mx (fun j => M (36 + j)) h n) l) (3 * r)) 3) := by
  unfold f_X0_digestOn
  rw [m0, m1, m2]
  refine (bd_for (e := mx (fun j => M (36 + j)) h n) (fun i => (mx (fun j => M (36 + j)) h i, nI i)) n rfl (fun i hi => ?_) ?_).trans ?_
  · rw [cu2_eq, if_pos ((nI_ltI (by omega) (by omega)).mpr hi), chk_nI (by omega) (by decide), lt_eq, ix_nI (by omega), hO i hi, ← nI_succ]
    rfl
  · rw [cu2_eq, if_neg (fun q => Nat.lt_irrefl n ((nI_ltI (by omega) (by omega)).mp q))]
  refine (bd_for (e := lx (fun j => M (6 + j)) (fun j => M (16 + j)) (fun j => M (26 + j)) (mx (fun j => M (36 + j)) h n) l) (fun i => (lx (fun j => M (6 + j)) (fun j => M (16 + j)) (fun j => M (26 + j)) (mx (fun j => M (36 + j)) h n) i, nI i)) l rfl (fun i hi => ?_) ?_).trans ?_
  · obtain ⟨a, b, c⟩ := hL i hi
    rw [cu2_eq, if_pos ((nI_ltI (by omega) (by omega)).mpr hi), chk_nI (by omega) (by decide), lt_eq, chk_nI (by omega) (by decide), lt_eq, chk_nI (by omega) (by decide), lt_eq, ix_nI (by omega), a, b, c, ← nI_succ]
    rfl
  · rw [cu2_eq, if_neg (fun q => Nat.lt_irrefl l ((nI_ltI (by omega) (by omega)).mp q))]
  refine (bd_for (e := mx (fun j => M (41 + j)) (lx (fun j => M (6 + j)) (fun j => M (16 + j)) (fun j => M (26 + j)) (mx (fun j => M (36 + j)) h n) l) (3 * r)) (fun i => (mx (fun j => M (41 + j)) (lx (fun j => M (6 + j)) (fun j => M (16 + j)) (fun j => M (26 + j)) (mx (fun j => M (36 + j)) h n) l) (3 * i), nI i)) r rfl (fun i hi => ?_) ?_).trans ?_
  · obtain ⟨a, b, c⟩ := hR i hi
    rw [cu2_eq, if_pos ((nI_ltI (by omega) (by omega)).mpr hi), chk_nI (by omega) (by decide), lt_eq, chk_nI (by omega) (by decide), lt_eq, isG_eq m3 (by omega), bd_some, jn_eq, ix_nI (by omega), a, b, ← nI_succ]
    have Z : (if (if gd.testBit i = true then (1 : Int32) else 0) = 0 then lt (31 * (31 * (31 * mx (fun j => M (41 + j)) (lx (fun j => M (6 + j)) (fun j => M (16 + j)) (fun j => M (26 + j)) (mx (fun j => M (36 + j)) h n) l) (3 * i) + (M (41 + 3 * i)).toInt64) + (M (41 + (3 * i + 1))).toInt64) + (0 : Int32).toInt64) (fun x3_22 => (some (Sum.inl (x3_22, nI (i + 1))) : Option ((Int64 × Int32) ⊕ Int64))) else lt (31 * (31 * (31 * mx (fun j => M (41 + j)) (lx (fun j => M (6 + j)) (fun j => M (16 + j)) (fun j => M (26 + j)) (mx (fun j => M (36 + j)) h n) l) (3 * i) + (M (41 + 3 * i)).toInt64) + (M (41 + (3 * i + 1))).toInt64) + (1 : Int32).toInt64) (fun x3_22 => some (Sum.inl (x3_22, nI (i + 1))))) = some (Sum.inl (31 * (31 * (31 * mx (fun j => M (41 + j)) (lx (fun j => M (6 + j)) (fun j => M (16 + j)) (fun j => M (26 + j)) (mx (fun j => M (36 + j)) h n) l) (3 * i) + (M (41 + 3 * i)).toInt64) + (M (41 + (3 * i + 1))).toInt64) + (M (41 + (3 * i + 2))).toInt64, nI (i + 1))) := by
      rw [← c]
      cases gd.testBit i
      · rfl
      · rfl
    exact Z
  · rw [cu2_eq, if_neg (fun q => Nat.lt_irrefl r ((nI_ltI (by omega) (by omega)).mp q))]
  refine (bd_for (fun i => (mx (fun j => M (71 + j)) (mx (fun j => M (41 + j)) (lx (fun j => M (6 + j)) (fun j => M (16 + j)) (fun j => M (26 + j)) (mx (fun j => M (36 + j)) h n) l) (3 * r)) i, nI i)) 3 rfl (fun i hi => ?_) ?_).trans rfl
  · rw [cu2_eq, if_pos (by exact (nI_ltI (b := 3) (by omega) (by omega)).mpr hi), chk_nI (by omega) (by decide), lt_eq, ix_nI (by omega), hT i hi, ← nI_succ]
    rfl
  · rw [cu2_eq, if_neg (by decide)]
theorem hm_X {μ : Mem} {cf : Nat → Int32} (h0 : μ.1 2 0 = cf 0) (h1 : μ.1 2 1 = cf 1) (h2 : μ.1 7 0 = cf 2) (h3 : μ.1 2 2 = cf 3) (h4 : μ.1 10 0 = cf 4) (h5 : μ.1 45 1 = cf 5) (h6 : μ.1 2 3 = cf 6) : ∀ i, i < 7 → f_X10_howMany (nI i) μ = some (cf i) := by
  intro i hi
  unfold f_X10_howMany
  match i, hi with
  | 0, _ => rw [if_pos (by rfl), h0]
  | 1, _ => rw [if_neg (by decide), if_pos (by rfl), h1]
  | 2, _ => rw [if_neg (by decide), if_neg (by decide), if_pos (by rfl), h2]
  | 3, _ => rw [if_neg (by decide), if_neg (by decide), if_neg (by decide), if_pos (by rfl), h3]
  | 4, _ => rw [if_neg (by decide), if_neg (by decide), if_neg (by decide), if_neg (by decide), if_pos (by rfl), h4]
  | 5, _ => rw [if_neg (by decide), if_neg (by decide), if_neg (by decide), if_neg (by decide), if_neg (by decide), if_pos (by rfl), h5]
  | 6, _ => rw [if_neg (by decide), if_neg (by decide), if_neg (by decide), if_neg (by decide), if_neg (by decide), if_neg (by decide), h6]
  | i + 7, h => exact absurd h (by omega)
theorem co_Y {μ : Mem} {cf : Nat → Int32} (h0 : ∀ i, i < 5 → μ.1 113 i = cf i) (h5 : μ.1 112 9 = cf 5) (h6 : μ.1 113 5 = cf 6) : ∀ i, i < 7 → f_X11_countOf (nI i) μ = some (cf i) := by
  intro i hi
  unfold f_X11_countOf
  rw [jn_eq]
  by_cases a : i < 5
  · rw [if_pos (by exact (nI_ltI (b := 5) (by omega) (by decide)).mpr a), chk_nI (by omega) (by decide), ix_nI (by omega), h0 i a]
  · rw [if_neg (by exact fun q => a ((nI_ltI (b := 5) (by omega) (by decide)).mp q))]
    match i, hi, a with
    | 5, _, _ => rw [if_pos (by rfl), h5]
    | 6, _, _ => rw [if_neg (by decide), h6]
    | i + 7, h, _ => exact absurd h (by omega)
    | 0, _, h => exact absurd (by decide) h
    | 1, _, h => exact absurd (by decide) h
    | 2, _, h => exact absurd (by decide) h
    | 3, _, h => exact absurd (by decide) h
    | 4, _, h => exact absurd (by decide) h
theorem ok_digest : ∀ μ, Rel μ → ∃ r, f_X10_digest μ = some r ∧ f_X11_digest μ = some r := by
  intro μ h
  obtain ⟨⟨n, l, r, p, hh, h1, h2, h3, h4, h5⟩, hi, ht, hll, hrf, hq⟩ := id h
  obtain ⟨⟨hn1, hn5, hl, hr, hp⟩, ⟨s0, s1, s2, s4, gr, hgr, s5⟩, c1, c2, c3, c4, c5, c6⟩ := id hh
  obtain ⟨gd, g1, g2, g3, g4⟩ := id h4
  obtain ⟨t, ht1, t1, t2, t3⟩ := ht
  have s2' : μ.1 113 2 = nI r := s2
  refine ⟨(31 * ((31 * mx (fun j => μ.1 113 (71 + j)) (mx (fun j => μ.1 113 (41 + j)) (lx (fun j => μ.1 113 (6 + j)) (fun j => μ.1 113 (16 + j)) (fun j => μ.1 113 (26 + j)) (mx (fun j => μ.1 113 (36 + j)) (mx (fun i => if i = 5 then μ.1 112 9 else if i = 6 then μ.1 113 5 else μ.1 113 i) 853 7) n) l) (3 * r)) 3) + (μ.2 112 6))) + (μ.2 112 7), ?_, ?_⟩
  · unfold f_X10_digest
    refine (bd_for (e := mx (fun i => if i = 5 then μ.1 112 9 else if i = 6 then μ.1 113 5 else μ.1 113 i) 853 7) (fun i => (mx (fun i => if i = 5 then μ.1 112 9 else if i = 6 then μ.1 113 5 else μ.1 113 i) 853 i, nI i)) 7 rfl (fun i hi => ?_) ?_).trans ?_
    · rw [cu2_eq, if_pos (by exact (nI_ltI (b := 7) (by omega) (by omega)).mpr hi), hm_X (cf := fun i => if i = 5 then μ.1 112 9 else if i = 6 then μ.1 113 5 else μ.1 113 i) c1 c2 c5 c3 c6 (t1.trans t2.symm) c4 i hi, bd_some, lt_eq, ← nI_succ]
      rfl
    · rw [cu2_eq, if_neg (by decide)]
    · rw [dgOn_X (k := 1) (n := n) (l := l) (r := r) (gd := gd) (M := fun j => μ.1 113 j) (c1.trans s0) (c2.trans s1) (c5.trans s2) g2 hn5 hl hr (fun i hi => by obtain ⟨c, _, a, b⟩ := h2 i (by omega); exact b.trans a.symm) (fun i hi => by
        obtain ⟨⟨c, hc, u1, u2⟩, ⟨v, hv, u3, u4⟩, g, hg, u5, u6⟩ := h1 i hi
        exact ⟨u2.trans u1.symm, u4.trans u3.symm, u6.trans u5.symm⟩) (fun i hi => by
        obtain ⟨a1, a2, b1, b2, b3, b4, b5, b6, b7, b8⟩ := g3 i hi
        exact ⟨b6.trans b4.symm, b7.trans b5.symm, b8.symm⟩) (fun i hi => by obtain ⟨c, _, a, b⟩ := h3 i hi; exact b.trans a.symm), bd_some, hll.1, hll.2]
  · unfold f_X11_digest
    refine (bd_for (e := mx (fun i => if i = 5 then μ.1 112 9 else if i = 6 then μ.1 113 5 else μ.1 113 i) 853 7) (fun i => (mx (fun i => if i = 5 then μ.1 112 9 else if i = 6 then μ.1 113 5 else μ.1 113 i) 853 i, nI i)) 7 rfl (fun i hi => ?_) ?_).trans ?_
    · rw [cu2_eq, if_pos (by exact (nI_ltI (b := 7) (by omega) (by omega)).mpr hi), co_Y (cf := fun i => if i = 5 then μ.1 112 9 else if i = 6 then μ.1 113 5 else μ.1 113 i) (fun i hi => by (try dsimp only); rw [if_neg (by omega), if_neg (by omega)]) rfl rfl i hi, bd_some, lt_eq, ← nI_succ]
      rfl
    · rw [cu2_eq, if_neg (by decide)]
    · have s0' : μ.1 113 0 = nI n := s0
      have s1' : μ.1 113 1 = nI l := s1
      rw [s0', s1', s2', show (36 : Int32) = nI 36 from rfl, mixed_Y (by omega), bd_some]
      refine (bd_for (e := lx (fun j => μ.1 113 (6 + j)) (fun j => μ.1 113 (16 + j)) (fun j => μ.1 113 (26 + j)) (mx (fun j => μ.1 113 (36 + j)) (mx (fun i => if i = 5 then μ.1 112 9 else if i = 6 then μ.1 113 5 else μ.1 113 i) 853 7) n) l) (fun i => (lx (fun j => μ.1 113 (6 + j)) (fun j => μ.1 113 (16 + j)) (fun j => μ.1 113 (26 + j)) (mx (fun j => μ.1 113 (36 + j)) (mx (fun i => if i = 5 then μ.1 112 9 else if i = 6 then μ.1 113 5 else μ.1 113 i) 853 7) n) i, nI i)) l rfl (fun i hi => ?_) ?_).trans ?_
      · rw [cu2_eq, if_pos ((nI_ltI (by omega) (by omega)).mpr hi), show (6 : Int32) = nI 6 from rfl, show (16 : Int32) = nI 16 from rfl, show (26 : Int32) = nI 26 from rfl, ni_add 6 i, ni_add 16 i, ni_add 26 i, chk_nI (by omega) (by decide), chk_nI (by omega) (by decide), chk_nI (by omega) (by decide), lt_eq, ix_nI (i := 6 + i) (by omega), ix_nI (i := 16 + i) (by omega), ix_nI (i := 26 + i) (by omega), ← nI_succ]
        rfl
      · rw [cu2_eq, if_neg (fun q => Nat.lt_irrefl l ((nI_ltI (by omega) (by omega)).mp q))]
      · rw [show (41 : Int32) = nI 41 from rfl, show (3 : Int32) = nI 3 from rfl, ni_mul 3 r, mixed_Y (by omega), bd_some, show (71 : Int32) = nI 71 from rfl, mixed_Y (by omega), bd_some]
theorem nx_xor (a b : Nat) : nI a ^^^ nI b = nI (a ^^^ b) := by
  apply Int32.toBitVec_inj.1
  show BitVec.ofNat 32 a ^^^ BitVec.ofNat 32 b = BitVec.ofNat 32 (a ^^^ b)
  apply BitVec.eq_of_getLsbD_eq
  intro i hi
  simp [hi]
theorem guard_X {k : Nat} {μ : Mem} {r gd i : Nat} {b : Int32} (m0 : μ.1 (k + 6) 0 = nI r) (m3 : μ.1 (k + 6) 3 = nI gd) (hr : r ≤ 10) (hi : i < r) : f_X0_setGuard k (nI i) b μ = if (if gd.testBit i then (1 : Int32) else 0) = b then some (-3, μ) else some (1, setI μ (k + 6) 3 (nI (gd ^^^ 2 ^ i))) := by
  unfold f_X0_setGuard
  simp only [jn_eq, lt_eq]
  rw [if_neg (nI_pos (by omega)), m0, if_pos ((nI_ltI (by omega) (by omega)).mpr hi), isG_eq m3 (by omega), bd_some, m3, shl1 i (by omega), nx_xor]
theorem guard_X0 {k : Nat} {μ : Mem} {r : Nat} {x b : Int32} (m0 : μ.1 (k + 6) 0 = nI r) (hx : x < 0 ∨ nI r ≤ x) : f_X0_setGuard k x b μ = some (-2, μ) := by
  unfold f_X0_setGuard
  simp only [jn_eq]
  by_cases h0 : x < 0
  · rw [if_pos h0]
  · rw [if_neg h0, m0, if_neg (Int32.not_lt.mpr (hx.resolve_left h0))]
theorem guard_Y {ν : Mem} {r i : Nat} {b : Int32} (s2 : ν.1 113 2 = nI r) (hr : r ≤ 10) (hi : i < r) (hb : b = 0 ∨ b = 1) : f_X11_guard (nI i) b ν = if ν.1 113 (41 + 3 * i + 2) = b then f_X11_no ν else some (1, setI ν 113 (41 + 3 * i + 2) b) := by
  unfold f_X11_guard
  rw [s2, in1_ok (by omega) hi, bd_some, if_neg (by decide), jn_eq]
  have e1 : (41 : Int32) + 3 * nI i + 2 = nI (41 + 3 * i + 2) := by
    rw [show (41 : Int32) = nI 41 from rfl, show (3 : Int32) = nI 3 from rfl, show (2 : Int32) = nI 2 from rfl, ni_mul, ni_add, ni_add]
  have e2 : ∀ y : Int32, (bd2 (f_X11_no ν) fun r5 ν6 => some (r5, ν6)) = f_X11_no ν := fun _ => by
    cases f_X11_no ν <;> rfl
  rw [e1, ix_nI (by omega), e2 0]
  simp only [chk_nI (show 41 + 3 * i + 2 < 184 by omega) (show 184 < 2 ^ 31 by decide), lt_eq]
  rcases hb with rfl | rfl
  · rw [if_pos rfl]
  · rw [if_neg (by decide)]
theorem ok_guard (x b : Int32) (hb : b = 0 ∨ b = 1) : Ok (f_X10_guard x b) (f_X11_guard x b) := by
  intro μ h
  obtain ⟨⟨n, l, r, p, hh, h1, h2, h3, h4, h5⟩, hi, ht, hll, hrf, hq⟩ := id h
  obtain ⟨⟨hn1, hn5, hl, hr, hp⟩, ⟨s0, s1, s2, s4, gr, hgr, s5⟩, c1, c2, c3, c4, c5, c6⟩ := id hh
  obtain ⟨gd, g1, g2, g3, g4⟩ := id h4
  have m6 : μ.1 (1 + 6) 0 = nI r := c5.trans s2
  have s2' : μ.1 113 2 = nI r := s2
  rcases isN_or x (n := r) (by omega) with ⟨i, hi9, rfl⟩ | hx
  · obtain ⟨a1, a2, b1, b2, b3, b4, b5, b6, b7, b8⟩ := g3 i hi9
    have b8' : μ.1 113 (41 + 3 * i + 2) = if gd.testBit i then 1 else 0 := b8
    by_cases hc : (if gd.testBit i then (1 : Int32) else 0) = b
    · refine ok_no h ?_ (fun ν h5 hB => ?_)
      · unfold f_X10_guard
        rw [guard_X m6 g2 hr hi9, if_pos hc, bd2_some, tally_no, bd2_some]
      · rw [guard_Y ((hB _ _ (by decide)).trans s2') hr hi9 hb, if_pos (by rw [hB _ _ (by decide), b8']; exact hc), noM h5]
    · refine ok_ask 1 (setI μ 7 3 (nI (gd ^^^ 2 ^ i))) (setI (setI μ 7 3 (nI (gd ^^^ 2 ^ i))) 113 (41 + 3 * i + 2) b) ?_ ?_ ?_
      · unfold f_X10_guard
        rw [guard_X m6 g2 hr hi9, if_neg hc, bd2_some, tally_ok (by decide), bd2_some]
      · rw [guard_Y (r := r) (by rw [si_ne (by omega)]; exact s2') hr hi9 hb, if_neg (by rw [si_ne (by omega), b8']; exact hc)]
      · refine h.now (fun q j hq9 => by have k9 := relo_ne hq9; ((try dsimp only); (repeat (first | rw [si_eq] | rw [si_ne (by omega)] | rw [cp_in (by omega)] | rw [cp_ne (by omega)])))) ⟨rfl, rfl⟩ ⟨n, l, r, p, hh.of (fun j hj => by ((try dsimp only); (repeat (first | rw [si_eq] | rw [si_ne (by omega)] | rw [cp_in (by omega)] | rw [cp_ne (by omega)])))) (by ((try dsimp only); (repeat (first | rw [si_eq] | rw [si_ne (by omega)] | rw [cp_in (by omega)] | rw [cp_ne (by omega)])))) (by ((try dsimp only); (repeat (first | rw [si_eq] | rw [si_ne (by omega)] | rw [cp_in (by omega)] | rw [cp_ne (by omega)])))) (fun j hj => by ((try dsimp only); (repeat (first | rw [si_eq] | rw [si_ne (by omega)] | rw [cp_in (by omega)] | rw [cp_ne (by omega)])))), h1.of hl (fun c _ _ i _ => by ((try dsimp only); (repeat (first | rw [si_eq] | rw [si_ne (by omega)] | rw [cp_in (by omega)] | rw [cp_ne (by omega)])))) (fun j _ _ => by ((try dsimp only); (repeat (first | rw [si_eq] | rw [si_ne (by omega)] | rw [cp_in (by omega)] | rw [cp_ne (by omega)])))), h2.of (fun i _ => by ((try dsimp only); (repeat (first | rw [si_eq] | rw [si_ne (by omega)] | rw [cp_in (by omega)] | rw [cp_ne (by omega)])))) (fun j _ _ => by ((try dsimp only); (repeat (first | rw [si_eq] | rw [si_ne (by omega)] | rw [cp_in (by omega)] | rw [cp_ne (by omega)])))), h3.of (fun i _ => by ((try dsimp only); (repeat (first | rw [si_eq] | rw [si_ne (by omega)] | rw [cp_in (by omega)] | rw [cp_ne (by omega)])))) (fun j _ _ => by ((try dsimp only); (repeat (first | rw [si_eq] | rw [si_ne (by omega)] | rw [cp_in (by omega)] | rw [cp_ne (by omega)])))), ⟨gd ^^^ 2 ^ i, Nat.xor_lt_two_pow g1 (Nat.pow_lt_pow_right (by decide) hi9), by ((try dsimp only); (repeat (first | rw [si_eq] | rw [si_ne (by omega)] | rw [cp_in (by omega)] | rw [cp_ne (by omega)]))), fun j hj => ?_, fun j k hj hk hjk => ?_⟩, h5.of hl hp (fun c _ _ i => by ((try dsimp only); (repeat (first | rw [si_eq] | rw [si_ne (by omega)] | rw [cp_in (by omega)] | rw [cp_ne (by omega)])))) (fun j _ _ => by ((try dsimp only); (repeat (first | rw [si_eq] | rw [si_ne (by omega)] | rw [cp_in (by omega)] | rw [cp_ne (by omega)]))))⟩
        · obtain ⟨a1, a2, b1, b2, b3, b4, b5, b6, b7, b8⟩ := g3 j hj
          refine ⟨a1, a2, b1, b2, b3, by (((try dsimp only); (repeat (first | rw [si_eq] | rw [si_ne (by omega)] | rw [cp_in (by omega)] | rw [cp_ne (by omega)]))) <;> exact b4), by (((try dsimp only); (repeat (first | rw [si_eq] | rw [si_ne (by omega)] | rw [cp_in (by omega)] | rw [cp_ne (by omega)]))) <;> exact b5), by (((try dsimp only); (repeat (first | rw [si_eq] | rw [si_ne (by omega)] | rw [cp_in (by omega)] | rw [cp_ne (by omega)]))) <;> exact b6), by (((try dsimp only); (repeat (first | rw [si_eq] | rw [si_ne (by omega)] | rw [cp_in (by omega)] | rw [cp_ne (by omega)]))) <;> exact b7), ?_⟩
          rw [Nat.testBit_xor, Nat.testBit_two_pow]
          by_cases e : j = i
          · subst e
            ((try dsimp only); (repeat (first | rw [si_eq] | rw [si_ne (by omega)] | rw [cp_in (by omega)] | rw [cp_ne (by omega)])))
            rw [decide_eq_true rfl]
            cases ht : gd.testBit j
            · rw [ht] at hc
              rcases hb with rfl | rfl
              · exact absurd rfl hc
              · rfl
            · rw [ht] at hc
              rcases hb with rfl | rfl
              · rfl
              · exact absurd rfl hc
          · rw [decide_eq_false (fun q => e q.symm), Bool.xor_false]
            (((try dsimp only); (repeat (first | rw [si_eq] | rw [si_ne (by omega)] | rw [cp_in (by omega)] | rw [cp_ne (by omega)]))) <;> exact b8)
        · have := g4 j k hj hk hjk
          (((try dsimp only); (repeat (first | rw [si_eq] | rw [si_ne (by omega)] | rw [cp_in (by omega)] | rw [cp_ne (by omega)]))) <;> exact this)
  · refine ok_bad h ?_ (fun ν h5 hB _ => ?_)
    · unfold f_X10_guard
      rw [guard_X0 m6 hx, bd2_some, tally_bad, bd2_some]
    · unfold f_X11_guard
      rw [hB 2, s2', in1_bad (by omega) hx, bd_some, if_pos (by rfl), badM h5, bd2_some]
