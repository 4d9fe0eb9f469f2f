/-! read: an item told to a county and to the reference's book -/
theorem si_id {μ : Mem} {a j : Nat} : setI μ a j (μ.1 a j) = μ := by
  refine Prod.ext (funext fun b => funext fun i => ?_) rfl
  show (if b = a ∧ i = j then μ.1 a j else μ.1 b i) = μ.1 b i
  by_cases h : b = a ∧ i = j
  · rw [if_pos h, h.1, h.2]
  · rw [if_neg h]
theorem refQ {s : Nat} (hs : s < 3) {v : Int32} {μ : Mem} (hq : μ.1 112 5 = 1) : f_X11_refuses (nI s) v μ = some (v, μ) := by
  unfold f_X11_refuses
  simp only [jn_eq, lt_eq]
  rw [chk_nI hs (by decide), if_neg (by rw [hq]; decide), chk_nI hs (by decide), ix_nI (by omega), show μ.1 117 s + 0 = μ.1 117 s from Int32.add_zero _, si_id]
theorem badQ {μ : Mem} (hq : μ.1 112 5 = 1) : f_X11_bad μ = some (-2, μ) := by
  unfold f_X11_bad
  rw [show (0 : Int32) = nI 0 from rfl, refQ (by decide) hq]
  rfl
theorem noQ {μ : Mem} (hq : μ.1 112 5 = 1) : f_X11_no μ = some (-3, μ) := by
  unfold f_X11_no
  rw [show (1 : Int32) = nI 1 from rfl, refQ (by decide) hq]
  rfl
theorem fullQ {μ : Mem} (hq : μ.1 112 5 = 1) : f_X11_full μ = some (-4, μ) := by
  unfold f_X11_full
  rw [show (2 : Int32) = nI 2 from rfl, refQ (by decide) hq]
  rfl
def FT (μ ν : Mem) : Prop := ν.2 = μ.2 ∧ ∀ b j, ¬ (49 ≤ b ∧ b ≤ 62) → ν.1 b j = μ.1 b j
def FB (μ ν : Mem) : Prop := ν.2 = μ.2 ∧ ∀ b j, b ≠ 113 → ν.1 b j = μ.1 b j
theorem FT.rfl {μ : Mem} : FT μ μ := ⟨Eq.refl _, fun _ _ _ => Eq.refl _⟩
theorem FB.rfl {μ : Mem} : FB μ μ := ⟨Eq.refl _, fun _ _ _ => Eq.refl _⟩
theorem FT.trans {μ ν ξ : Mem} (h : FT μ ν) (h' : FT ν ξ) : FT μ ξ := ⟨h'.1.trans h.1, fun b j q => (h'.2 b j q).trans (h.2 b j q)⟩
theorem FB.trans {μ ν ξ : Mem} (h : FB μ ν) (h' : FB ν ξ) : FB μ ξ := ⟨h'.1.trans h.1, fun b j q => (h'.2 b j q).trans (h.2 b j q)⟩
/-- one item: the same on both sides -/
def TI (μ : Mem) (B : Nat → Int32) (X : Option (Int32 × Mem)) (Y : Mem → Option (Int32 × Mem)) : Prop :=
  (∃ r μ' B', X = some (r, μ') ∧ ¬ r < 0 ∧ FT μ μ' ∧ CR 49 μ'.1 B' ∧ ∀ ν : Mem, (∀ j, ν.1 113 j = B j) → ν.1 112 5 = 1 → ∃ r' ν', Y ν = some (r', ν') ∧ ¬ r' < 0 ∧ FB ν ν' ∧ ∀ j, ν'.1 113 j = B' j) ∨
  (∃ r, X = some (r, μ) ∧ r < 0 ∧ ∀ ν : Mem, (∀ j, ν.1 113 j = B j) → ν.1 112 5 = 1 → ∃ r', Y ν = some (r', ν) ∧ r' < 0)
theorem ti_bad {μ : Mem} {B : Nat → Int32} {X : Option (Int32 × Mem)} {Y : Mem → Option (Int32 × Mem)} (r r' : Int32) (hX : X = some (r, μ)) (hr : r < 0) (hr' : r' < 0) (hY : ∀ ν : Mem, (∀ j, ν.1 113 j = B j) → ν.1 112 5 = 1 → Y ν = some (r', ν)) : TI μ B X Y :=
  Or.inr ⟨r, hX, hr, fun ν h1 h2 => ⟨r', hY ν h1 h2, hr'⟩⟩
section CRS
variable {k n l r p : Nat} {M M' : Nat → Nat → Int32} {B B' : Nat → Int32}
theorem CR_growth {g : Nat} (h : CRn k M B n l r p) (hg : g ≤ 9) (hM : ∀ c j, c < 14 → c ≠ 5 → ¬ (c = 1 ∧ j = 3) → M' (k + c) j = M (k + c) j) (h13 : M' (k + 1) 3 = nI g) (hB : ∀ j, j < 184 → j ≠ 5 → B' j = B j) (hB5 : B' 5 = nI g) : CRn k M' B' n l r p := by
  obtain ⟨⟨⟨hn1, hn5, hl, hr, hp⟩, ⟨s0, s1, s2, s4, gr, hgr, s5⟩, c1, c2, c3, c4, c5, c6⟩, h1, h2, h3, h4, h5⟩ := h
  exact ⟨⟨⟨hn1, hn5, hl, hr, hp⟩, ⟨(hB _ (by omega) (by omega)).trans s0, (hB _ (by omega) (by omega)).trans s1, (hB _ (by omega) (by omega)).trans s2, (hB _ (by omega) (by omega)).trans s4, g, hg, hB5⟩, by rw [hM _ _ (by omega) (by omega) (by omega), hB _ (by omega) (by omega)]; exact c1, by rw [hM _ _ (by omega) (by omega) (by omega), hB _ (by omega) (by omega)]; exact c2, by rw [hM _ _ (by omega) (by omega) (by omega), hB _ (by omega) (by omega)]; exact c3, h13.trans hB5.symm, by rw [hM _ _ (by omega) (by omega) (by omega), hB _ (by omega) (by omega)]; exact c5, by rw [hM _ _ (by omega) (by omega) (by omega), hB _ (by omega) (by omega)]; exact c6⟩, h1.of hl (fun c _ _ i _ => hM _ _ (by omega) (by omega) (by omega)) (fun j _ _ => hB _ (by omega) (by omega)), h2.of (fun i _ => hM _ _ (by omega) (by omega) (by omega)) (fun j _ _ => hB _ (by omega) (by omega)), h3.of (fun i _ => hM _ _ (by omega) (by omega) (by omega)) (fun j _ _ => hB _ (by omega) (by omega)), h4.of hr (hM _ _ (by omega) (by omega) (by omega)) (fun c _ _ i _ => hM _ _ (by omega) (by omega) (by omega)) (fun j _ _ => hB _ (by omega) (by omega)), h5.of hl hp (fun c _ _ i => hM _ _ (by omega) (by omega) (by omega)) (fun j _ _ => hB _ (by omega) (by omega))⟩
theorem CR_cloud {v c0 : Nat} (h : CRn k M B n l r p) (hv : v < 5) (hc : c0 ≤ 10) (hM : ∀ c j, c < 14 → c ≠ 5 → ¬ (c = 12 ∧ j = v) → M' (k + c) j = M (k + c) j) (h13 : M' (k + 12) v = nI c0) (hB : ∀ j, j < 184 → j ≠ 36 + v → B' j = B j) (hB5 : B' (36 + v) = nI c0) : CRn k M' B' n l r p := by
  obtain ⟨hh, h1, h2, h3, h4, h5⟩ := h
  obtain ⟨hn1, hn5, hl, hr, hp⟩ := hh.1
  refine ⟨hh.of (fun j hj => hM _ _ (by omega) (by omega) (by omega)) (hM _ _ (by omega) (by omega) (by omega)) (hM _ _ (by omega) (by omega) (by omega)) (fun j hj => hB _ (by omega) (by omega)), h1.of hl (fun c _ _ i _ => hM _ _ (by omega) (by omega) (by omega)) (fun j _ _ => hB _ (by omega) (by omega)), fun i hi => ?_, h3.of (fun i _ => hM _ _ (by omega) (by omega) (by omega)) (fun j _ _ => hB _ (by omega) (by omega)), h4.of hr (hM _ _ (by omega) (by omega) (by omega)) (fun c _ _ i _ => hM _ _ (by omega) (by omega) (by omega)) (fun j _ _ => hB _ (by omega) (by omega)), h5.of hl hp (fun c _ _ i => hM _ _ (by omega) (by omega) (by omega)) (fun j _ _ => hB _ (by omega) (by omega))⟩
  by_cases e : i = v
  · subst e
    exact ⟨c0, hc, hB5, h13⟩
  · rw [hB _ (by omega) (by omega), hM 12 i (by omega) (by omega) (by omega)]
    exact h2 i hi
theorem CR_lot {a b g : Nat} (h : CRn k M B n l r p) (hl0 : l < 10) (ha : a ≤ 5) (hb : b < n) (hg : g ≤ 99) (hM : ∀ c j, c < 14 → c ≠ 5 → ¬ (c = 1 ∧ j = 1) → ¬ (c = 9 ∧ j = 0) → ¬ (2 ≤ c ∧ c ≤ 4 ∧ j = l) → M' (k + c) j = M (k + c) j) (m2 : M' (k + 2) l = nI a) (m3 : M' (k + 3) l = nI b) (m4 : M' (k + 4) l = nI g) (m1 : M' (k + 1) 1 = nI (l + 1)) (m9 : M' (k + 9) 0 = nI 0) (hB : ∀ j, j < 184 → j ≠ 1 → j ≠ 4 → j ≠ 6 + l → j ≠ 16 + l → j ≠ 26 + l → B' j = B j) (b6 : B' (6 + l) = nI a) (b16 : B' (16 + l) = nI b) (b26 : B' (26 + l) = nI g) (b1 : B' 1 = nI (l + 1)) (b4 : B' 4 = nI 0) : CRn k M' B' n (l + 1) r 0 := by
  obtain ⟨⟨⟨hn1, hn5, hl, hr, hp⟩, ⟨s0, s1, s2, s4, gr, hgr, s5⟩, c1, c2, c3, c4, c5, c6⟩, h1, h2, h3, h4, h5⟩ := h
  refine ⟨⟨⟨hn1, hn5, by omega, hr, by omega⟩, ⟨(hB _ (by omega) (by omega) (by omega) (by omega) (by omega) (by omega)).trans s0, b1, (hB _ (by omega) (by omega) (by omega) (by omega) (by omega) (by omega)).trans s2, b4, gr, hgr, (hB _ (by omega) (by omega) (by omega) (by omega) (by omega) (by omega)).trans s5⟩, by rw [hM _ _ (by omega) (by omega) (by omega) (by omega) (by omega), hB _ (by omega) (by omega) (by omega) (by omega) (by omega) (by omega)]; exact c1, m1.trans b1.symm, by rw [hM _ _ (by omega) (by omega) (by omega) (by omega) (by omega), hB _ (by omega) (by omega) (by omega) (by omega) (by omega) (by omega)]; exact c3, by rw [hM _ _ (by omega) (by omega) (by omega) (by omega) (by omega), hB _ (by omega) (by omega) (by omega) (by omega) (by omega) (by omega)]; exact c4, by rw [hM _ _ (by omega) (by omega) (by omega) (by omega) (by omega), hB _ (by omega) (by omega) (by omega) (by omega) (by omega) (by omega)]; exact c5, m9.trans b4.symm⟩, fun i hi => ?_, h2.of (fun i _ => hM _ _ (by omega) (by omega) (by omega) (by omega) (by omega)) (fun j _ _ => hB _ (by omega) (by omega) (by omega) (by omega) (by omega) (by omega)), h3.of (fun i _ => hM _ _ (by omega) (by omega) (by omega) (by omega) (by omega)) (fun j _ _ => hB _ (by omega) (by omega) (by omega) (by omega) (by omega) (by omega)), h4.of hr (hM _ _ (by omega) (by omega) (by omega) (by omega) (by omega)) (fun c _ _ i _ => hM _ _ (by omega) (by omega) (by omega) (by omega) (by omega)) (fun j _ _ => hB _ (by omega) (by omega) (by omega) (by omega) (by omega) (by omega)), fun i hi => absurd hi (Nat.not_lt_zero i)⟩
  by_cases e : i = l
  · subst e
    exact ⟨⟨a, ha, b6, m2⟩, ⟨b, hb, b16, m3⟩, g, hg, b26, m4⟩
  · rw [hB _ (by omega) (by omega) (by omega) (by omega) (by omega) (by omega), hB _ (by omega) (by omega) (by omega) (by omega) (by omega) (by omega), hB _ (by omega) (by omega) (by omega) (by omega) (by omega) (by omega), hM 2 i (by omega) (by omega) (by omega) (by omega) (by omega), hM 3 i (by omega) (by omega) (by omega) (by omega) (by omega), hM 4 i (by omega) (by omega) (by omega) (by omega) (by omega)]
    exact h1 i (by omega)
theorem CR_county {v : Nat} (v1 : 1 ≤ v) (v5 : v ≤ 5) (m0 : M' (k + 1) 0 = nI v) (m1 : ∀ j, 1 ≤ j → j < 4 → M' (k + 1) j = nI 0) (m6 : M' (k + 6) 0 = nI 0) (m63 : M' (k + 6) 3 = nI 0) (m9 : M' (k + 9) 0 = nI 0) (m12 : ∀ j, j < 5 → M' (k + 12) j = nI 0) (m13 : ∀ j, j < 3 → M' (k + 13) j = nI 0) (b0 : B' 0 = nI v) (hB : ∀ j, 1 ≤ j → j < 184 → B' j = nI 0) : CRn k M' B' v 0 0 0 := by
  refine ⟨⟨⟨v1, v5, by omega, by omega, by omega⟩, ⟨b0, hB _ (by omega) (by omega), hB _ (by omega) (by omega), hB _ (by omega) (by omega), 0, by omega, hB _ (by omega) (by omega)⟩, m0.trans b0.symm, (m1 _ (by omega) (by omega)).trans (hB _ (by omega) (by omega)).symm, (m1 _ (by omega) (by omega)).trans (hB _ (by omega) (by omega)).symm, (m1 _ (by omega) (by omega)).trans (hB _ (by omega) (by omega)).symm, m6.trans (hB _ (by omega) (by omega)).symm, m9.trans (hB _ (by omega) (by omega)).symm⟩, fun i hi => absurd hi (Nat.not_lt_zero i), fun i hi => ⟨0, by omega, hB _ (by omega) (by omega), m12 i hi⟩, fun i hi => ⟨0, by omega, hB _ (by omega) (by omega), m13 i hi⟩, ⟨0, by decide, m63, fun i hi => absurd hi (Nat.not_lt_zero i), fun i j hi => absurd hi (Nat.not_lt_zero i)⟩, fun i hi => absurd hi (Nat.not_lt_zero i)⟩
theorem CR_guard {i gd : Nat} (h : CRn k M B n l r p) (hi : i < r) (hgd : M (k + 6) 3 = nI gd) (g1 : gd < 2 ^ r) (ht : gd.testBit i = false) (hM : ∀ c j, c < 14 → c ≠ 5 → ¬ (c = 6 ∧ j = 3) → M' (k + c) j = M (k + c) j) (m6 : M' (k + 6) 3 = nI (gd ^^^ 2 ^ i)) (hB : ∀ j, j < 184 → j ≠ 41 + 3 * i + 2 → B' j = B j) (b6 : B' (41 + 3 * i + 2) = 1) : CRn k M' B' n l r p := by
  obtain ⟨hh, h1, h2, h3, h4, h5⟩ := h
  obtain ⟨hn1, hn5, hl, hr, hp⟩ := hh.1
  refine ⟨hh.of (fun j hj => hM _ _ (by omega) (by omega) (by omega)) (hM _ _ (by omega) (by omega) (by omega)) (hM _ _ (by omega) (by omega) (by omega)) (fun j hj => hB _ (by omega) (by omega)), h1.of hl (fun c _ _ i _ => hM _ _ (by omega) (by omega) (by omega)) (fun j _ _ => hB _ (by omega) (by omega)), h2.of (fun i _ => hM _ _ (by omega) (by omega) (by omega)) (fun j _ _ => hB _ (by omega) (by omega)), h3.of (fun i _ => hM _ _ (by omega) (by omega) (by omega)) (fun j _ _ => hB _ (by omega) (by omega)), ?_, h5.of hl hp (fun c _ _ i => hM _ _ (by omega) (by omega) (by omega)) (fun j _ _ => hB _ (by omega) (by omega))⟩
  obtain ⟨gd', g1', g2, g3, g4⟩ := h4
  have p1 := pow10 hr
  have e9 : gd' = gd := by
    have e8 := g2.symm.trans hgd
    have := Nat.pow_le_pow_right (n := 2) (by decide) hr
    exact (nI_eq (by omega) (by omega)).mp e8
  subst e9
  refine ⟨gd' ^^^ 2 ^ i, Nat.xor_lt_two_pow g1 (Nat.pow_lt_pow_right (by decide) hi), m6, fun j hj => ?_, fun i' j hi' hj hij => ?_⟩
  · obtain ⟨a1, a2, b1, b2, b3, b4, b5, b6', b7, b8⟩ := g3 j hj
    rw [hB (41 + 3 * j) (by omega) (by omega), hB (41 + 3 * j + 1) (by omega) (by omega), hM 7 j (by omega) (by omega) (by omega), hM 8 j (by omega) (by omega) (by omega)]
    refine ⟨a1, a2, b1, b2, b3, b4, b5, b6', b7, ?_⟩
    rw [Nat.testBit_xor, Nat.testBit_two_pow]
    by_cases e : j = i
    · subst e
      rw [b6, ht, decide_eq_true rfl]
      rfl
    · rw [decide_eq_false (fun q => e q.symm), Bool.xor_false, hB _ (by omega) (by omega)]
      exact b8
  · rw [hB (41 + 3 * i') (by omega) (by omega), hB (41 + 3 * i' + 1) (by omega) (by omega), hB (41 + 3 * j) (by omega) (by omega), hB (41 + 3 * j + 1) (by omega) (by omega)]
    exact g4 i' j hi' hj hij
end CRS
theorem CRn.n0 {k n l r p : Nat} {M : Nat → Nat → Int32} {B : Nat → Int32} (h : CRn k M B n l r p) : B 0 = nI n ∧ M (k + 1) 0 = nI n ∧ n ≤ 5 := ⟨h.1.2.1.1, h.1.2.2.1.trans h.1.2.1.1, h.1.1.2.1⟩
theorem county_k {k v : Nat} {μ : Mem} (h1 : 1 ≤ v) (h2 : v ≤ 5) : f_X0_startAnew k (nI v) μ = some (μ.1 (k + 1) 0, fill (k + 13) 3 0 (fill (k + 12) 5 0 (setI (setI (setI (setI (setI (setI (setI μ (k + 1) 0 (nI v)) (k + 1) 1 0) (k + 1) 2 0) (k + 1) 3 0) (k + 6) 0 0) (k + 6) 3 0) (k + 9) 0 0))) := by
  unfold f_X0_startAnew f_X3_startAnew f_X7_startAnew
  simp only [jn_eq, lt_eq, bd_some]
  rw [if_neg (by exact fun q => absurd ((nI_ltI (b := 1) (by omega) (by decide)).mp q) (by omega)), if_neg (by exact fun q => absurd ((nI_ltI (a := 5) (by decide) (by omega)).mp q) (by omega)), fillL2 (N := 5) (NI := 5) rfl (by decide) (by decide), bd_some, fillL2 (N := 3) (NI := 3) rfl (by decide) (by decide), bd_some]
theorem ti_county {a : Nat} {μ : Mem} {B : Nat → Int32} (ha : a ≤ 99) (h50 : ¬ μ.1 50 0 < 0) (hB0 : ¬ B 0 < 0) : TI μ B (f_X0_startAnew 49 (nI a) μ) (f_X11_county (nI a)) := by
  by_cases h : 1 ≤ a ∧ a ≤ 5
  · refine Or.inl ⟨μ.1 50 0, _, fun j => if j = 0 then nI a else if j < 184 then 0 else B j, county_k h.1 h.2, h50, ⟨rfl, fun b j hb => ?_⟩, ⟨a, 0, 0, 0, CR_county h.1 h.2 ?_ ?_ ?_ ?_ ?_ ?_ ?_ ?_ ?_⟩, fun ν hν hq => ⟨ν.1 113 0, _, county_Y h.1 h.2, by rw [hν 0]; exact hB0, ⟨rfl, fun b j hb => ?_⟩, fun j => ?_⟩⟩
    · rw [fl_ne (by omega), fl_ne (by omega), si_ne (by omega), si_ne (by omega), si_ne (by omega), si_ne (by omega), si_ne (by omega), si_ne (by omega), si_ne (by omega)]
    · rw [fl_ne (by omega), fl_ne (by omega), si_ne (by omega), si_ne (by omega), si_ne (by omega), si_ne (by omega), si_ne (by omega), si_ne (by omega), si_eq]
    · intro j j1 j2
      rw [fl_ne (by omega), fl_ne (by omega), si_ne (by omega), si_ne (by omega), si_ne (by omega)]
      match j, j1, j2 with
      | 1, _, _ => rw [si_ne (by omega), si_ne (by omega), si_eq]; rfl
      | 2, _, _ => rw [si_ne (by omega), si_eq]; rfl
      | 3, _, _ => rw [si_eq]; rfl
    · rw [fl_ne (by omega), fl_ne (by omega), si_ne (by omega), si_ne (by omega), si_eq]; rfl
    · rw [fl_ne (by omega), fl_ne (by omega), si_ne (by omega), si_eq]; rfl
    · rw [fl_ne (by omega), fl_ne (by omega), si_eq]; rfl
    · intro j hj
      rw [fl_ne (by omega), fl_in (by omega)]; rfl
    · intro j hj
      rw [fl_in (by omega)]; rfl
    · exact if_pos rfl
    · intro j j1 j2
      (try dsimp only)
      rw [if_neg (by omega), if_pos j2]; rfl
    · rw [si_ne (by omega), fl_ne (by omega)]
    · (try dsimp only)
      by_cases e : j = 0
      · subst e
        rw [si_eq, if_pos rfl]
      · rw [si_ne (by omega), if_neg e]
        by_cases e2 : j < 184
        · rw [fl_in (by omega), if_pos e2]
        · rw [fl_ne (by omega), if_neg e2]
          exact hν j
  · have hx : nI a < nI 1 ∨ nI 5 < nI a := by
      rcases Nat.lt_or_ge a 1 with q | q
      · exact Or.inl ((nI_ltI (by omega) (by decide)).mpr q)
      · exact Or.inr ((nI_ltI (by decide) (by omega)).mpr (by omega))
    refine ti_bad (-2) (-2) ?_ (by decide) (by decide) (fun ν hν hq => ?_)
    · unfold f_X0_startAnew
      simp only [jn_eq]
      by_cases h1 : nI a < 1
      · rw [if_pos h1]
      · rw [if_neg h1, if_pos (by exact hx.resolve_left h1)]
    · unfold f_X11_county
      rw [show (1 : Int64) = (nI 1).toInt64 by decide, show (5 : Int64) = (nI 5).toInt64 by decide, in32_bad (by decide) (by decide) hx, bd_some, if_pos (by rfl), badQ hq, bd2_some]
theorem hi_or {a n : Nat} (ha : a < 2 ^ 30) (hn : n < 2 ^ 30) (h : ¬ a < n) : nI a < 0 ∨ nI n ≤ nI a := by
  right
  rw [Int32.le_iff_toInt_le, nI_toInt (by omega), nI_toInt (by omega)]
  omega
theorem ti_growth {a : Nat} {μ : Mem} {B : Nat → Int32} (h : CR 49 μ.1 B) (ha : a ≤ 99) : TI μ B (f_X0_setGrowth 49 (nI a) μ) (f_X11_growth (nI a)) := by
  obtain ⟨n, l, r, p, hc⟩ := h
  obtain ⟨gr, hgr, s5⟩ := hc.1.2.1.2.2.2.2
  have c4 := hc.1.2.2.2.2.2.1
  by_cases q : a ≤ 9
  · refine Or.inl ⟨nI gr, setI μ 50 3 (nI a), fun j => if j = 5 then nI a else B j, ?_, nI_pos (by omega), ⟨rfl, fun b j hb => by rw [si_ne (by omega)]⟩, ⟨n, l, r, p, CR_growth hc q (fun c j _ _ z => by rw [si_ne (by omega)]) si_eq (fun j _ z => by (try dsimp only); rw [if_neg z]) (if_pos rfl)⟩, fun ν hν hq => ⟨nI gr, setI ν 113 5 (nI a), ?_, nI_pos (by omega), ⟨rfl, fun b j hb => by rw [si_ne (by omega)]⟩, fun j => ?_⟩⟩
    · unfold f_X0_setGrowth
      simp only [jn_eq, lt_eq]
      rw [if_neg (nI_pos (by omega)), show (9 : Int32) = nI 9 from rfl, if_neg (ngt (by omega) (by decide)), show (μ.1 (49 + 1) 3 : Int32) = nI gr from c4.trans s5]
    · unfold f_X11_growth
      rw [inL_ok (hi := 9) (by decide) (by omega), bd_some]
      simp only [jn_eq]
      rw [if_neg (by decide), show (5 : Int32) = nI 5 from rfl, puts_eq (by decide), bd2_some, hν, s5]
    · (try dsimp only)
      by_cases e : j = 5
      · subst e; rw [si_eq, if_pos rfl]
      · rw [si_ne (by omega), if_neg e]; exact hν j
  · refine ti_bad (-2) (-2) ?_ (by decide) (by decide) (fun ν hν hq => ?_)
    · unfold f_X0_setGrowth
      simp only [jn_eq]
      rw [if_neg (nI_pos (by omega)), if_pos (by exact (nI_ltI (a := 9) (by decide) (by omega)).mpr (by omega))]
    · unfold f_X11_growth
      rw [inL_bad (hi := 9) (by decide) (Or.inr ((nI_ltI (by decide) (by omega)).mpr (by omega))), bd_some]
      simp only [jn_eq]
      rw [if_pos (by trivial), badQ hq, bd2_some]
theorem ti_cloud {a b : Nat} {μ : Mem} {B : Nat → Int32} (h : CR 49 μ.1 B) (ha : a ≤ 99) (hb : b ≤ 99) : TI μ B (f_X0_setOdds 49 (nI a) (nI b) μ) (f_X11_cloud (nI a) (nI b)) := by
  obtain ⟨n, l, r, p, hc⟩ := h
  obtain ⟨b0, m0, hn5⟩ := hc.n0
  by_cases q : a < n
  · by_cases q2 : b ≤ 10
    · obtain ⟨c0, hc0, e0, e1⟩ := hc.2.2.1 a (by omega)
      refine Or.inl ⟨nI c0, setI μ (49 + 12) a (nI b), fun j => if j = 36 + a then nI b else B j, ?_, nI_pos (by omega), ⟨rfl, fun b j hb => by rw [si_ne (by omega)]⟩, ⟨n, l, r, p, CR_cloud hc (v := a) (by omega) q2 (fun c j _ _ z => by rw [si_ne (by omega)]) si_eq (fun j _ z => by (try dsimp only); rw [if_neg z]) (if_pos rfl)⟩, fun ν hν hq => ⟨nI c0, setI ν 113 (36 + a) (nI b), ?_, nI_pos (by omega), ⟨rfl, fun b j hb => by rw [si_ne (by omega)]⟩, fun j => ?_⟩⟩
      · unfold f_X0_setOdds
        rw [hasV_ok m0 (by omega) q, bd_some]
        simp only [jn_eq, lt_eq]
        rw [if_neg (by decide), if_neg (nI_pos (by omega)), show (10 : Int32) = nI 10 from rfl, if_neg (ngt (by omega) (by decide)), chk_nI (by omega) (by decide), chk_nI (by omega) (by decide), ix_nI (by omega), e1]
      · unfold f_X11_cloud
        rw [isV_ok (n := n) ((hν 0).trans b0) (by omega) q, bd_some]
        simp only [jn_eq]
        rw [if_neg (by decide), inL_ok (hi := 10) (by decide) (by omega), bd_some, if_neg (by decide), show (36 : Int32) = nI 36 from rfl, ni_add, puts_eq (by omega), bd2_some, hν, e0]
      · (try dsimp only)
        by_cases e : j = 36 + a
        · subst e; rw [si_eq, if_pos rfl]
        · rw [si_ne (by omega), if_neg e]; exact hν j
    · refine ti_bad (-2) (-2) ?_ (by decide) (by decide) (fun ν hν hq => ?_)
      · unfold f_X0_setOdds
        rw [hasV_ok m0 (by omega) q, bd_some]
        simp only [jn_eq]
        rw [if_neg (by decide), if_neg (nI_pos (by omega)), if_pos (by exact (nI_ltI (a := 10) (by decide) (by omega)).mpr (by omega))]
      · unfold f_X11_cloud
        rw [isV_ok (n := n) ((hν 0).trans b0) (by omega) q, bd_some]
        simp only [jn_eq]
        rw [if_neg (by decide), inL_bad (hi := 10) (by decide) (Or.inr ((nI_ltI (by decide) (by omega)).mpr (by omega))), bd_some, if_pos (by trivial), badQ hq, bd2_some]
  · refine ti_bad (-2) (-2) ?_ (by decide) (by decide) (fun ν hν hq => ?_)
    · unfold f_X0_setOdds
      rw [hasV_bad m0 (hi_or (by omega) (by omega) q), bd_some]
      simp only [jn_eq]
      rw [if_pos (by trivial)]
    · unfold f_X11_cloud
      rw [isV_bad (n := n) ((hν 0).trans b0) (by omega) (hi_or (by omega) (by omega) q), bd_some]
      simp only [jn_eq]
      rw [if_pos (by trivial), badQ hq, bd2_some]
theorem ti_lot {a b g : Nat} {μ : Mem} {B : Nat → Int32} (h : CR 49 μ.1 B) (ha : a ≤ 99) (hb : b ≤ 99) (hg : g ≤ 99) : TI μ B (f_X0_addLot 49 (nI a) (nI b) (nI g) μ) (f_X11_lot (nI a) (nI b) (nI g)) := by
  obtain ⟨n, l, r, p, hc⟩ := h
  obtain ⟨b0, m0, hn5⟩ := hc.n0
  have b1 : B 1 = nI l := hc.1.2.1.2.1
  have m1 : μ.1 (49 + 1) 1 = nI l := hc.1.2.2.2.1.trans b1
  have hl10 : l ≤ 10 := hc.1.1.2.2.1
  by_cases q1 : a ≤ 5
  · by_cases q2 : b < n
    · by_cases q3 : l < 10
      · refine Or.inl ⟨nI l, setI (setI (setI (setI (setI μ (49 + 2) l (nI a)) (49 + 3) l (nI b)) (49 + 4) l (nI g)) (49 + 1) 1 (nI (l + 1))) (49 + 9) 0 0, fun j => if j = 4 then 0 else if j = 1 then nI (l + 1) else if j = 26 + l then nI g else if j = 16 + l then nI b else if j = 6 + l then nI a else B j, ?_, nI_pos (by omega), ⟨rfl, fun b j hb => by rw [si_ne (by omega), si_ne (by omega), si_ne (by omega), si_ne (by omega), si_ne (by omega)]⟩, ⟨n, l + 1, r, 0, CR_lot hc q3 q1 q2 hg (fun c j _ _ z1 z2 z3 => ?_) ?_ ?_ ?_ ?_ ?_ (fun j _ z1 z2 z3 z4 z5 => ?_) ?_ ?_ ?_ ?_ ?_⟩, fun ν hν hq => ⟨nI l, _, lot_Y ((hν 0).trans b0) ((hν 1).trans b1) hn5 (by omega) q2 (by omega) q3, nI_pos (by omega), ⟨rfl, fun b j hb => ?_⟩, fun j => ?_⟩⟩
        · unfold f_X0_addLot
          simp only [jn_eq, lt_eq]
          rw [if_neg (nI_pos (by omega)), show (5 : Int32) = nI 5 from rfl, if_neg (ngt (by omega) (by decide)), hasV_ok m0 (by omega) q2, bd_some, if_neg (by decide), if_neg (nI_pos (by omega)), show (99 : Int32) = nI 99 from rfl, if_neg (ngt (by omega) (by decide)), m1, show (10 : Int32) = nI 10 from rfl, if_pos ((nI_ltI (by omega) (by omega)).mpr q3), chk_nI q3 (by decide), chk_nI q3 (by decide), chk_nI q3 (by decide), ix_nI (by omega), ← nI_succ]
        · rw [si_ne (by omega), si_ne (by omega), si_ne (by omega), si_ne (by omega), si_ne (by omega)]
        · rw [si_ne (by omega), si_ne (by omega), si_ne (by omega), si_ne (by omega), si_eq]
        · rw [si_ne (by omega), si_ne (by omega), si_ne (by omega), si_eq]
        · rw [si_ne (by omega), si_ne (by omega), si_eq]
        · rw [si_ne (by omega), si_eq]
        · rw [si_eq]; rfl
        · (try dsimp only); rw [if_neg (by omega), if_neg (by omega), if_neg (by omega), if_neg (by omega), if_neg (by omega)]
        · (try dsimp only); rw [if_neg (by omega), if_neg (by omega), if_neg (by omega), if_neg (by omega), if_pos rfl]
        · (try dsimp only); rw [if_neg (by omega), if_neg (by omega), if_neg (by omega), if_pos rfl]
        · (try dsimp only); rw [if_neg (by omega), if_neg (by omega), if_pos rfl]
        · rfl
        · rfl
        · rw [si_ne (by omega), si_ne (by omega), si_ne (by omega), si_ne (by omega), si_ne (by omega)]
        · simp only [si_1, true_and, hν]
      · have e10 : l = 10 := by omega
        refine ti_bad (-4) (-4) ?_ (by decide) (by decide) (fun ν hν hq => ?_)
        · unfold f_X0_addLot
          simp only [jn_eq, lt_eq]
          rw [if_neg (nI_pos (by omega)), show (5 : Int32) = nI 5 from rfl, if_neg (ngt (by omega) (by decide)), hasV_ok m0 (by omega) q2, bd_some, if_neg (by decide), if_neg (nI_pos (by omega)), show (99 : Int32) = nI 99 from rfl, if_neg (ngt (by omega) (by decide)), m1, show (10 : Int32) = nI 10 from rfl, if_neg (fun z => q3 ((nI_ltI (by omega) (by omega)).mp z))]
        · unfold f_X11_lot
          simp only [jn_eq, lt_eq]
          rw [inL_ok (hi := 5) (by decide) (by omega), bd_some, if_neg (by decide), isV_ok ((hν 0).trans b0) (by omega) q2, bd_some, if_neg (by decide), inL_ok (hi := 99) (by decide) (by omega), bd_some, if_neg (by decide), if_pos ((hν 1).trans (b1.trans (by rw [e10]; rfl))), fullQ hq, bd2_some]
    · refine ti_bad (-2) (-2) ?_ (by decide) (by decide) (fun ν hν hq => ?_)
      · unfold f_X0_addLot
        simp only [jn_eq, lt_eq]
        rw [if_neg (nI_pos (by omega)), show (5 : Int32) = nI 5 from rfl, if_neg (ngt (by omega) (by decide)), hasV_bad m0 (hi_or (by omega) (by omega) q2), bd_some, if_pos (by trivial)]
      · unfold f_X11_lot
        simp only [jn_eq, lt_eq]
        rw [inL_ok (hi := 5) (by decide) (by omega), bd_some, if_neg (by decide), isV_bad ((hν 0).trans b0) (by omega) (hi_or (by omega) (by omega) q2), bd_some, if_pos (by trivial), badQ hq, bd2_some]
  · refine ti_bad (-2) (-2) ?_ (by decide) (by decide) (fun ν hν hq => ?_)
    · unfold f_X0_addLot
      simp only [jn_eq, lt_eq]
      rw [if_neg (nI_pos (by omega)), if_pos (by exact (nI_ltI (a := 5) (by decide) (by omega)).mpr (by omega))]
    · unfold f_X11_lot
      simp only [jn_eq, lt_eq]
      rw [inL_bad (hi := 5) (by decide) (Or.inr ((nI_ltI (by decide) (by omega)).mpr (by omega))), bd_some, if_pos (by trivial), badQ hq, bd2_some]
theorem ti_guard {a : Nat} {μ : Mem} {B : Nat → Int32} (h : CR 49 μ.1 B) (ha : a ≤ 99) : TI μ B (f_X0_setGuard 49 (nI a) 1 μ) (f_X11_guard (nI a) 1) := by
  obtain ⟨n, l, r, p, hc⟩ := h
  have b2 : B 2 = nI r := hc.1.2.1.2.2.1
  have m6 : μ.1 (49 + 6) 0 = nI r := hc.1.2.2.2.2.2.2.1.trans b2
  have hr : r ≤ 10 := hc.1.1.2.2.2.1
  obtain ⟨gd, g1, g2, g3, g4⟩ := id hc.2.2.2.2.1
  by_cases q : a < r
  · obtain ⟨a1, a2, x1, x2, x3, x4, x5, x6, x7, x8⟩ := g3 a q
    cases ht : gd.testBit a with
    | true =>
      rw [ht] at x8
      refine ti_bad (-3) (-3) ?_ (by decide) (by decide) (fun ν hν hq => ?_)
      · rw [guard_X m6 g2 hr q, ht]; rfl
      · rw [guard_Y ((hν 2).trans b2) hr q (Or.inr rfl), if_pos (by exact (hν _).trans x8), noQ hq]
    | false =>
      rw [ht] at x8
      refine Or.inl ⟨1, setI μ (49 + 6) 3 (nI (gd ^^^ 2 ^ a)), fun j => if j = 41 + 3 * a + 2 then 1 else B j, ?_, by decide, ⟨rfl, fun b j hb => by rw [si_ne (by omega)]⟩, ⟨n, l, r, p, CR_guard hc q g2 g1 ht (fun c j _ _ z => by rw [si_ne (by omega)]) si_eq (fun j _ z => by (try dsimp only); rw [if_neg z]) (if_pos rfl)⟩, fun ν hν hq => ⟨1, setI ν 113 (41 + 3 * a + 2) 1, ?_, by decide, ⟨rfl, fun b j hb => by rw [si_ne (by omega)]⟩, fun j => ?_⟩⟩
      · rw [guard_X m6 g2 hr q, ht, if_neg (by decide)]
      · rw [guard_Y ((hν 2).trans b2) hr q (Or.inr rfl), if_neg (fun z => by
          have := (hν _).symm.trans z
          rw [x8] at this
          exact absurd this (by decide))]
      · (try dsimp only)
        by_cases e : j = 41 + 3 * a + 2
        · subst e; rw [si_eq, if_pos rfl]
        · rw [si_ne (by omega), if_neg e]; exact hν j
  · refine ti_bad (-2) (-2) (guard_X0 m6 (hi_or (by omega) (by omega) q)) (by decide) (by decide) (fun ν hν hq => ?_)
    unfold f_X11_guard
    rw [hν 2, b2, in1_bad (by omega) (hi_or (by omega) (by omega) q), bd_some, if_pos (by rfl), badQ hq, bd2_some]
theorem ti_road {a b : Nat} {μ : Mem} {B : Nat → Int32} (h : CR 49 μ.1 B) (ha : a ≤ 99) (hb : b ≤ 99) : TI μ B (f_X0_addRoad 49 (nI a) (nI b) μ) (f_X11_road (nI a) (nI b)) := by
  obtain ⟨n, l, r, p, hc⟩ := h
  obtain ⟨b0, m0, hn5⟩ := hc.n0
  have b2 : B 2 = nI r := hc.1.2.1.2.2.1
  have m6 : μ.1 (49 + 6) 0 = nI r := hc.1.2.2.2.2.2.2.1.trans b2
  have hr : r ≤ 10 := hc.1.1.2.2.2.1
  rcases twoV (nI a) (nI b) hn5 with ⟨a', b', ha', hb', hab, ea, eb⟩ | hx
  · rw [ea, eb]
    by_cases hex : ∃ i, i < r ∧ rdQ B (nI a') (nI b') i
    · refine ti_bad (-3) (-3) ((road_X m0 m6 hc.2.2.2.2.1 hn5 hr ha' hb' hab).1 hex) (by decide) (by decide) (fun ν hν hq => ?_)
      refine (road_Y ((hν 0).trans b0) ((hν 2).trans b2) hn5 hr ha' hb' hab (noQ hq)).1 ?_
      obtain ⟨i, hi, q⟩ := hex
      exact ⟨i, hi, q.of hν⟩
    · have hno : ∀ i, i < r → ¬ rdQ B (nI a') (nI b') i := fun i hi q => hex ⟨i, hi, q⟩
      have hr10 := road_full hc.2.2.2.2.1 hn5 hr ha' hb' hab hno
      refine Or.inl ⟨nI r, _, fun j => if j = 2 then nI (r + 1) else if j = 41 + 3 * r + 2 then 0 else if j = 41 + 3 * r + 1 then nI b' else if j = 41 + 3 * r then nI a' else B j, (road_X m0 m6 hc.2.2.2.2.1 hn5 hr ha' hb' hab).2 hno, nI_pos (by omega), ⟨rfl, fun b j hb => by rw [si_ne (by omega), si_ne (by omega), si_ne (by omega)]⟩, ⟨n, l, r + 1, p, CR_road hc hr10 ha' hb' hab hno (fun c j _ _ z1 z2 z3 => ?_) ?_ ?_ ?_ (fun j _ z1 z2 => ?_) ?_ ?_ ?_ ?_⟩, fun ν hν hq => ⟨nI r, _, (road_Y ((hν 0).trans b0) ((hν 2).trans b2) hn5 hr ha' hb' hab (noQ hq)).2 (fun i hi q => hno i hi (q.of (fun j => (hν j).symm))) hr10, nI_pos (by omega), ⟨rfl, fun b j hb => ?_⟩, fun j => ?_⟩⟩
      · rw [si_ne (by omega), si_ne (by omega), si_ne (by omega)]
      · rw [si_ne (by omega), si_ne (by omega), si_eq]
      · rw [si_ne (by omega), si_eq]
      · exact si_eq
      · (try dsimp only); rw [if_neg (by omega), if_neg (by omega), if_neg (by omega), if_neg (by omega)]
      · exact if_pos rfl
      · (try dsimp only); rw [if_neg (by omega), if_neg (by omega), if_neg (by omega), if_pos rfl]
      · (try dsimp only); rw [if_neg (by omega), if_neg (by omega), if_pos rfl]
      · (try dsimp only); rw [if_neg (by omega), if_pos rfl]
      · rw [si_ne (by omega), si_ne (by omega), si_ne (by omega), si_ne (by omega)]
      · simp only [si_1, true_and, hν]
  · refine ti_bad (-2) (-2) (road_X0 m0 hn5 hx) (by decide) (by decide) (fun ν hν hq => ?_)
    unfold f_X11_road
    rw [areT_bad ((hν 0).trans b0) hn5 hx, bd_some, if_pos rfl, badQ hq, bd2_some]
noncomputable def opX (w : Nat) (A : Nat → Nat) (μ : Mem) : Option (Int32 × Mem) := if w = 0 then f_X0_startAnew 49 (nI (A 0)) μ else if w = 1 then f_X0_addLot 49 (nI (A 0)) (nI (A 1)) (nI (A 2)) μ else if w = 2 then f_X0_setGrowth 49 (nI (A 0)) μ else if w = 3 then f_X0_setOdds 49 (nI (A 0)) (nI (A 1)) μ else if w = 4 then f_X0_addRoad 49 (nI (A 0)) (nI (A 1)) μ else f_X0_setGuard 49 (nI (A 0)) 1 μ
noncomputable def opY (w : Nat) (A : Nat → Nat) (μ : Mem) : Option (Int32 × Mem) := if w = 0 then f_X11_county (nI (A 0)) μ else if w = 1 then f_X11_lot (nI (A 0)) (nI (A 1)) (nI (A 2)) μ else if w = 2 then f_X11_growth (nI (A 0)) μ else if w = 3 then f_X11_cloud (nI (A 0)) (nI (A 1)) μ else if w = 4 then f_X11_road (nI (A 0)) (nI (A 1)) μ else f_X11_guard (nI (A 0)) 1 μ
theorem ti_item {w : Nat} {A : Nat → Nat} {μ : Mem} {B : Nat → Int32} (hw : w < 6) (hA : ∀ k, k < due w → A k ≤ 99) (h50 : ¬ μ.1 50 0 < 0) (hB0 : ¬ B 0 < 0) (h : w ≠ 0 → CR 49 μ.1 B) : TI μ B (opX w A μ) (opY w A) := by
  match w, hw with
  | 0, _ => exact ti_county (hA 0 (by decide)) h50 hB0
  | 1, _ => exact ti_lot (h (by decide)) (hA 0 (by decide)) (hA 1 (by decide)) (hA 2 (by decide))
  | 2, _ => exact ti_growth (h (by decide)) (hA 0 (by decide))
  | 3, _ => exact ti_cloud (h (by decide)) (hA 0 (by decide)) (hA 1 (by decide))
  | 4, _ => exact ti_road (h (by decide)) (hA 0 (by decide)) (hA 1 (by decide))
  | 5, _ => exact ti_guard (h (by decide)) (hA 0 (by decide))
theorem bd2_id {α β : Type} (x : Option (α × β)) : (bd2 x fun r n => some (r, n)) = x := by
  cases x <;> rfl
theorem bd2_congr {α γ β : Type} {x : Option (α × γ)} {f g : α → γ → Option β} (h : ∀ a b, f a b = g a b) : bd2 x f = bd2 x g := by
  rw [show f = g from funext fun a => funext fun b => h a b]
theorem tell_X {i w : Nat} {A : Nat → Nat} {μ : Mem} (hi : i < 30) (hw : w < 6) (h47 : μ.1 47 i = nI w) (h48 : ∀ k, k < due w → μ.1 48 (3 * i + k) = nI (A k)) : f_X10_tellItem (nI i) μ = opX w A μ := by
  have e0 : nI i * 3 + 0 = nI (3 * i + 0) := by rw [show (3 : Int32) = nI 3 from rfl, show (0 : Int32) = nI 0 from rfl, ni_mul, ni_add, Nat.mul_comm]
  have e1 : nI i * 3 + 1 = nI (3 * i + 1) := by rw [show (3 : Int32) = nI 3 from rfl, show (1 : Int32) = nI 1 from rfl, ni_mul, ni_add, Nat.mul_comm]
  have e2 : nI i * 3 + 2 = nI (3 * i + 2) := by rw [show (3 : Int32) = nI 3 from rfl, show (2 : Int32) = nI 2 from rfl, ni_mul, ni_add, Nat.mul_comm]
  have n0 : f_X8_numberOf (nI i) 0 μ = some (μ.1 48 (3 * i + 0)) := by unfold f_X8_numberOf; rw [e0, chk_nI (by omega) (by decide), ix_nI (by omega)]
  have n1 : f_X8_numberOf (nI i) 1 μ = some (μ.1 48 (3 * i + 1)) := by unfold f_X8_numberOf; rw [e1, chk_nI (by omega) (by decide), ix_nI (by omega)]
  have n2 : f_X8_numberOf (nI i) 2 μ = some (μ.1 48 (3 * i + 2)) := by unfold f_X8_numberOf; rw [e2, chk_nI (by omega) (by decide), ix_nI (by omega)]
  unfold f_X10_tellItem
  rw [n0, n1, n2, bd_some, bd_some, chk_nI hi (by decide), ix_nI (by omega), h47]
  match w, hw with
  | 0, _ => rw [if_pos (by rfl), bd2_id, h48 0 (by decide)]; rfl
  | 1, _ => rw [if_neg (by decide), if_pos (by rfl), bd_some, bd2_id, h48 0 (by decide), h48 1 (by decide), h48 2 (by decide)]; rfl
  | 2, _ => rw [if_neg (by decide), if_neg (by decide), if_pos (by rfl), bd2_id, h48 0 (by decide)]; rfl
  | 3, _ => rw [if_neg (by decide), if_neg (by decide), if_neg (by decide), if_pos (by rfl), bd2_id, h48 0 (by decide), h48 1 (by decide)]; rfl
  | 4, _ => rw [if_neg (by decide), if_neg (by decide), if_neg (by decide), if_neg (by decide), if_pos (by rfl), bd2_id, h48 0 (by decide), h48 1 (by decide)]; rfl
  | 5, _ => rw [if_neg (by decide), if_neg (by decide), if_neg (by decide), if_neg (by decide), if_neg (by decide), bd2_id, h48 0 (by decide)]; rfl
theorem tell_Y {i w : Nat} {A : Nat → Nat} {μ : Mem} (hi : i < 30) (hw : w < 6) (h0 : μ.1 119 (4 * i) = nI w) (hA : ∀ k, k < due w → μ.1 119 (4 * i + 1 + k) = nI (A k)) : f_X11_tellsItem (nI i) μ = bd2 (opY w A μ) fun r ν => some (if r < 0 then 0 else 1, ν) := by
  have e0 : 4 * nI i = nI (4 * i) := by rw [show (4 : Int32) = nI 4 from rfl, ni_mul]
  have e1 : nI (4 * i) + 1 = nI (4 * i + 1 + 0) := by rw [show (1 : Int32) = nI 1 from rfl, ni_add]
  have e2 : nI (4 * i) + 2 = nI (4 * i + 1 + 1) := by rw [show (2 : Int32) = nI 2 from rfl, ni_add]
  have e3 : nI (4 * i) + 3 = nI (4 * i + 1 + 2) := by rw [show (3 : Int32) = nI 3 from rfl, ni_add]
  unfold f_X11_tellsItem
  simp only [jn_eq, ckB_0, ckB_1]
  rw [e0, e1, e2, e3, chk_nI (by omega) (by decide), chk_nI (by omega) (by decide), chk_nI (by omega) (by decide), chk_nI (by omega) (by decide), ix_nI (i := 4 * i) (by omega), ix_nI (i := 4 * i + 1 + 0) (by omega), ix_nI (i := 4 * i + 1 + 1) (by omega), ix_nI (i := 4 * i + 1 + 2) (by omega), h0]
  have E : ∀ (r : Int32) (ν : Mem), (if r < 0 then some ((0 : Int32), ν) else some (1, ν)) = some (if r < 0 then 0 else 1, ν) := fun r ν => by
    by_cases q : r < 0
    · rw [if_pos q, if_pos q]
    · rw [if_neg q, if_neg q]
  have N0 : ¬ (0 : Int32) < 0 := by decide
  match w, hw with
  | 0, _ =>
    rw [if_pos (by rfl), hA 0 (by decide)]
    refine bd2_congr (fun r ν => ?_)
    rw [if_neg (by decide), if_neg (by decide), if_neg (by decide), if_neg (by decide), if_neg (c := (0 : Int32) < 0) N0]
    exact E r ν
  | 1, _ =>
    rw [if_neg (by decide), if_pos (by rfl), hA 0 (by decide), hA 1 (by decide), hA 2 (by decide)]
    refine bd2_congr (fun r ν => ?_)
    rw [if_neg (by decide), if_neg (by decide), if_neg (by decide), if_neg (by decide), if_neg (c := (0 : Int32) < 0) N0]
    exact E r ν
  | 2, _ =>
    rw [if_neg (by decide), if_neg (by decide), if_pos (by rfl), hA 0 (by decide)]
    refine bd2_congr (fun r ν => ?_)
    rw [if_neg (c := (0 : Int32) < 0) N0]
    exact E r ν
  | 3, _ =>
    rw [if_neg (by decide), if_neg (by decide), if_neg (by decide), if_pos (by rfl), hA 0 (by decide), hA 1 (by decide)]
    refine bd2_congr (fun r ν => ?_)
    rw [if_neg (c := (0 : Int32) < 0) N0]
    exact E r ν
  | 4, _ =>
    rw [if_neg (by decide), if_neg (by decide), if_neg (by decide), if_neg (by decide), if_pos (by rfl), hA 0 (by decide), hA 1 (by decide)]
    refine bd2_congr (fun r ν => ?_)
    rw [if_neg (c := (0 : Int32) < 0) N0]
    exact E r ν
  | 5, _ =>
    rw [if_neg (by decide), if_neg (by decide), if_neg (by decide), if_neg (by decide), if_neg (by decide), if_pos (by rfl), hA 0 (by decide)]
    refine bd2_congr (fun r ν => ?_)
    rw [if_neg (c := (0 : Int32) < 0) N0]
    exact E r ν
