noncomputable def sn (x0 x1 x2 : Int32) : Int32 := (f_X4_seen x0 x1 x2).getD 0
noncomputable def tk (x0 x1 : Int32) : Int32 := (f_X4_taken x0 x1).getD 0
theorem getD_of {α : Type} {o : Option α} {d : α} (h : ∃ y, o = some y) : o = some (o.getD d) := by
  obtain ⟨y, rfl⟩ := h
  rfl
theorem sn_X (x0 x1 x2 : Int32) : f_X4_seen x0 x1 x2 = some (sn x0 x1 x2) := getD_of (by
  unfold f_X4_seen
  simp only [jn_eq]
  repeat (first | exact ⟨_, rfl⟩ | split))
theorem tk_X (x0 x1 : Int32) : f_X4_taken x0 x1 = some (tk x0 x1) := getD_of (by
  unfold f_X4_taken
  repeat (first | exact ⟨_, rfl⟩ | split))
theorem sn_Y {c : Nat} (hc : c ≤ 5) (x m : Int32) : f_X11_seenOf (nI c) x m = some (sn (nI c) x m) := by
  rw [← sn_X]
  unfold f_X11_seenOf f_X4_seen
  simp only [jn_eq]
  match c, hc with
  | 0, _ => rfl
  | 1, _ => rfl
  | 2, _ => rfl
  | 3, _ =>
    by_cases h : m - m / 2 * 2 = 0
    · simp only [h, ↓reduceIte]; rfl
    · simp only [h, ↓reduceIte]; rfl
  | 4, _ => rfl
  | 5, _ => rfl
  | c + 6, h => exact absurd h (by omega)
theorem tk_Y {c h : Nat} (hc : c ≤ 5) (hh : h ≤ 99) : f_X11_takenOf (nI c) (nI h) = some (tk (nI c) (nI h)) := by
  rw [← tk_X]
  unfold f_X11_takenOf f_X4_taken
  simp only [jn_eq]
  match c, hc with
  | 0, _ => rfl
  | 1, _ => rfl
  | 2, _ => rfl
  | 3, _ => rfl
  | 4, _ => rfl
  | 5, _ =>
    by_cases h0 : h = 0
    · subst h0
      rfl
    · have a : 0 < nI h := (nI_ltI (a := 0) (by decide) (by omega)).mpr (by omega)
      have b : ¬ nI h < 1 := fun q => absurd ((nI_ltI (b := 1) (by omega) (by decide)).mp q) (by omega)
      simp only [a, b, ↓reduceIte]
      rfl
  | c + 6, h => exact absurd h (by omega)
/-- sums -/
noncomputable def sgt (f : Nat → Int32) : Nat → Int32
  | 0 => 0
  | i + 1 => sgt f i + f i
theorem sgt_congr {f g : Nat → Int32} : ∀ {l : Nat}, (∀ i, i < l → f i = g i) → sgt f l = sgt g l
  | 0, _ => rfl
  | l + 1, h => by
    show sgt f l + f l = sgt g l + g l
    rw [sgt_congr (fun i hi => h i (by omega)), h l (by omega)]
theorem bd_lp {σ ε β : Type} {F : σ → Option (σ ⊕ ε)} {s : σ} {e : ε} {G : ε → Option β} (h : lp F s = some e) : bd (lp F s) G = G e := by rw [h]; rfl
theorem sight_X {k l : Nat} {v : Int32} {μ : Mem} (m1 : μ.1 k 1 = nI l) (hl : l ≤ 10) : f_X3_sightOf k v μ = some (sgt (fun i => if μ.1 (k + 2) i = v then sn (μ.1 (k + 1) i) (μ.1 (k + 3) i) (μ.1 k 2) else 0) l) := by
  unfold f_X3_sightOf
  rw [m1]
  refine (bd_lp (e := sgt (fun i => if μ.1 (k + 2) i = v then sn (μ.1 (k + 1) i) (μ.1 (k + 3) i) (μ.1 k 2) else 0) l) (lp_for (fun i => (sgt (fun i => if μ.1 (k + 2) i = v then sn (μ.1 (k + 1) i) (μ.1 (k + 3) i) (μ.1 k 2) else 0) i, nI i)) l (fun i hi => ?_) ?_)).trans rfl
  · rw [cu2_eq, if_pos ((nI_ltI (by omega) (by omega)).mpr hi), chk_nI (by omega) (by decide), jn_eq, ix_nI (by omega)]
    show _ = some (Sum.inl (sgt _ i + (if μ.1 (k + 2) i = v then _ else _), _))
    by_cases h : μ.1 (k + 2) i = v
    · unfold f_X3_seenOf
      rw [if_pos h, if_pos h, chk_nI (by omega) (by decide), chk_nI (by omega) (by decide), ix_nI (by omega), sn_X, bd_some, bd_some, ← nI_succ]
    · rw [if_neg h, if_neg h, Int32.add_zero, ← nI_succ]
  · rw [cu2_eq, if_neg (fun q => Nat.lt_irrefl l ((nI_ltI (by omega) (by omega)).mp q))]
theorem heads_X {k l : Nat} {v : Int32} {μ : Mem} (m1 : μ.1 k 1 = nI l) (hl : l ≤ 10) : f_X3_headsIn k v μ = some (sgt (fun i => if μ.1 (k + 2) i = v then μ.1 (k + 3) i else 0) l) := by
  unfold f_X3_headsIn
  rw [m1]
  refine (bd_lp (e := sgt (fun i => if μ.1 (k + 2) i = v then μ.1 (k + 3) i else 0) l) (lp_for (fun i => (sgt (fun i => if μ.1 (k + 2) i = v then μ.1 (k + 3) i else 0) i, nI i)) l (fun i hi => ?_) ?_)).trans rfl
  · rw [cu2_eq, if_pos ((nI_ltI (by omega) (by omega)).mpr hi), chk_nI (by omega) (by decide), jn_eq, ix_nI (by omega)]
    show _ = some (Sum.inl (sgt _ i + (if μ.1 (k + 2) i = v then _ else _), _))
    by_cases h : μ.1 (k + 2) i = v
    · rw [if_pos h, if_pos h, chk_nI (by omega) (by decide), lt_eq, ← nI_succ]
    · rw [if_neg h, if_neg h, Int32.add_zero, ← nI_succ]
  · rw [cu2_eq, if_neg (fun q => Nat.lt_irrefl l ((nI_ltI (by omega) (by omega)).mp q))]
theorem sight_Y {l : Nat} {v m : Int32} {ν : Mem} (s1 : ν.1 113 1 = nI l) (hl : l ≤ 10) (hc : ∀ i, i < l → ∃ c, c ≤ 5 ∧ ν.1 113 (6 + i) = nI c) : f_X11_sightOf v m ν = some (sgt (fun i => if ν.1 113 (16 + i) = v then sn (ν.1 113 (6 + i)) (ν.1 120 i) m else 0) l) := by
  unfold f_X11_sightOf
  rw [s1]
  refine (bd_lp (e := sgt (fun i => if ν.1 113 (16 + i) = v then sn (ν.1 113 (6 + i)) (ν.1 120 i) m else 0) l) (lp_for (fun i => (sgt (fun i => if ν.1 113 (16 + i) = v then sn (ν.1 113 (6 + i)) (ν.1 120 i) m else 0) i, nI i)) l (fun i hi => ?_) ?_)).trans rfl
  · rw [cu2_eq, if_pos ((nI_ltI (by omega) (by omega)).mpr hi), show (16 : Int32) = nI 16 from rfl, show (6 : Int32) = nI 6 from rfl, ni_add 16 i, ni_add 6 i, chk_nI (by omega) (by decide), jn_eq, ix_nI (i := 16 + i) (by omega), ix_nI (i := 6 + i) (by omega), ix_nI (i := i) (by omega)]
    show _ = some (Sum.inl (sgt _ i + (if ν.1 113 (16 + i) = v then _ else _), _))
    by_cases h : ν.1 113 (16 + i) = v
    · obtain ⟨c, hc5, hc6⟩ := hc i hi
      rw [if_pos h, if_pos h, chk_nI (by omega) (by decide), chk_nI (by omega) (by decide), hc6, sn_Y hc5, bd_some, ← nI_succ]
    · rw [if_neg h, if_neg h, ← nI_succ]
  · rw [cu2_eq, if_neg (fun q => Nat.lt_irrefl l ((nI_ltI (by omega) (by omega)).mp q))]
theorem heads_Y {l : Nat} {v : Int32} {ν : Mem} (s1 : ν.1 113 1 = nI l) (hl : l ≤ 10) : f_X11_headsOf v ν = some (sgt (fun i => if ν.1 113 (16 + i) = v then ν.1 120 i else 0) l) := by
  unfold f_X11_headsOf
  rw [s1]
  refine (bd_lp (e := sgt (fun i => if ν.1 113 (16 + i) = v then ν.1 120 i else 0) l) (lp_for (fun i => (sgt (fun i => if ν.1 113 (16 + i) = v then ν.1 120 i else 0) i, nI i)) l (fun i hi => ?_) ?_)).trans rfl
  · rw [cu2_eq, if_pos ((nI_ltI (by omega) (by omega)).mpr hi), show (16 : Int32) = nI 16 from rfl, ni_add 16 i, chk_nI (by omega) (by decide), jn_eq, ix_nI (i := 16 + i) (by omega), ix_nI (i := i) (by omega)]
    show _ = some (Sum.inl (sgt _ i + (if ν.1 113 (16 + i) = v then _ else _), _))
    by_cases h : ν.1 113 (16 + i) = v
    · rw [if_pos h, if_pos h, chk_nI (by omega) (by decide), ← nI_succ]
    · rw [if_neg h, if_neg h, ← nI_succ]
  · rw [cu2_eq, if_neg (fun q => Nat.lt_irrefl l ((nI_ltI (by omega) (by omega)).mp q))]
theorem asNow_eq (μ : Mem) : f_X11_asNow μ = some (cpyI μ 113 26 120 0 10) := by
  unfold f_X11_asNow
  rw [cpL (N := 10) (NI := 10) (s := 26) (d := 0) (fd := fun x => x) rfl (by decide) (fun i hi => by rw [show (26 : Int32) = nI 26 from rfl, ni_add]) (fun i hi => by rw [Nat.zero_add]) (by decide) (by decide) (by decide) (by decide) (by omega), bd_some]
theorem relv_ne {p j : Nat} (h : relv p j = true) : (p = 50 ∧ j = 0) ∨ (p ≤ 46 ∧ p ≠ 6 ∧ (p = 0 → 12 ≤ j) ∧ (p = 45 → j = 1)) ∨ (112 ≤ p ∧ p ≤ 118 ∧ p ≠ 116 ∧ (p = 112 → j = 5 ∨ j = 9)) := by
  simp [relv] at h
  omega
theorem ok_of (x y : Int32) : Ok (f_X10_of x y) (f_X11_of x y) := by
  intro μ h
  obtain ⟨⟨n, l, r, p, hh, h1, h2, h3, h4, h5⟩, hi, ht, hll, hrf, hq⟩ := id h
  obtain ⟨⟨hn1, hn5, hl, hr, hp⟩, ⟨s0, s1, s2, s4, gr, hgr, s5⟩, c1, c2, c3, c4, c5, c6⟩ := id hh
  have m1 : μ.1 2 1 = nI l := c2.trans s1
  have c3' : μ.1 2 2 = μ.1 113 3 := c3
  rcases isN_or x (n := l) (by omega) with ⟨a, ha, rfl⟩ | hx
  · obtain ⟨⟨c, hc, u1, u2⟩, ⟨v, hv, u3, u4⟩, g, hg, u5, u6⟩ := h1 a ha
    have u1' : μ.1 113 (6 + a) = nI c := u1
    have u3' : μ.1 113 (16 + a) = nI v := u3
    have u5' : μ.1 113 (26 + a) = nI g := u5
    have u2' : μ.1 3 a = nI c := u2
    have u4' : μ.1 4 a = nI v := u4
    have u6' : μ.1 5 a = nI g := u6
    have v2 : μ.1 (2 + 1) a = nI c := u2
    have v6 : μ.1 (2 + 3) a = nI g := u6
    rcases isN_or y (n := 4 + 1) (by decide) with ⟨t, ht5, rfl⟩ | hx
    · have Y : ∀ z, f_X11_of (nI a) (nI t) μ = some (z, μ) → f_X10_of (nI a) (nI t) μ = some (z, μ) → ∃ r ν1 ν2, f_X10_of (nI a) (nI t) μ = some (r, ν1) ∧ f_X11_of (nI a) (nI t) ν1 = some (r, ν2) ∧ Rel ν2 := fun z a1 a2 => ⟨z, μ, μ, a2, a1, h⟩
      have X0 : f_X3_hasLot 2 (nI a) μ = some 1 := hasL_ok m1 (by omega) ha
      match t, ht5 with
      | 0, _ =>
        refine Y (nI c) ?_ ?_
        · unfold f_X11_of
          rw [isL_ok s1 (by omega) ha, bd_some]
          simp only [jn_eq]
          rw [if_neg (by decide), inL_ok (hi := 4) (by decide) (by decide), bd_some, if_neg (by decide), show (6 : Int32) = nI 6 from rfl, show (26 : Int32) = nI 26 from rfl, ni_add 6 a, ni_add 26 a, chk_nI (by omega) (by decide), chk_nI (by omega) (by decide), if_neg (by decide), ix_nI (i := 6 + a) (by omega), ix_nI (i := 26 + a) (by omega), u1', u5', tk_Y hc hg, bd_some, if_pos (by rfl)]
        · unfold f_X10_of
          rw [X0, bd_some, if_neg (by decide), if_pos (by rfl), chk_nI (by omega) (by decide), ix_nI (by omega), u2']
      | 1, _ =>
        refine Y (nI v) ?_ ?_
        · unfold f_X11_of
          rw [isL_ok s1 (by omega) ha, bd_some]
          simp only [jn_eq]
          rw [if_neg (by decide), inL_ok (hi := 4) (by decide) (by decide), bd_some, if_neg (by decide), show (6 : Int32) = nI 6 from rfl, show (26 : Int32) = nI 26 from rfl, show (16 : Int32) = nI 16 from rfl, ni_add 6 a, ni_add 26 a, ni_add 16 a, chk_nI (by omega) (by decide), chk_nI (by omega) (by decide), if_neg (by decide), ix_nI (i := 6 + a) (by omega), ix_nI (i := 26 + a) (by omega), ix_nI (i := 16 + a) (by omega), u1', u5', u3', tk_Y hc hg, bd_some, if_neg (by decide), if_pos (by rfl), chk_nI (by omega) (by decide)]
        · unfold f_X10_of
          rw [X0, bd_some, if_neg (by decide), if_neg (by decide), if_pos (by rfl), chk_nI (by omega) (by decide), ix_nI (by omega), u4']
      | 2, _ =>
        refine Y (nI g) ?_ ?_
        · unfold f_X11_of
          rw [isL_ok s1 (by omega) ha, bd_some]
          simp only [jn_eq]
          rw [if_neg (by decide), inL_ok (hi := 4) (by decide) (by decide), bd_some, if_neg (by decide), show (6 : Int32) = nI 6 from rfl, show (26 : Int32) = nI 26 from rfl, ni_add 6 a, ni_add 26 a, chk_nI (by omega) (by decide), chk_nI (by omega) (by decide), if_neg (by decide), ix_nI (i := 6 + a) (by omega), ix_nI (i := 26 + a) (by omega), u1', u5', tk_Y hc hg, bd_some, if_neg (by decide), if_neg (by decide), if_pos (by rfl)]
        · unfold f_X10_of
          rw [X0, bd_some, if_neg (by decide), if_neg (by decide), if_neg (by decide), if_pos (by rfl), chk_nI (by omega) (by decide), ix_nI (by omega), u6']
      | 3, _ =>
        refine Y (sn (nI c) (nI g) (μ.1 113 3)) ?_ ?_
        · unfold f_X11_of
          rw [isL_ok s1 (by omega) ha, bd_some]
          simp only [jn_eq]
          rw [if_neg (by decide), inL_ok (hi := 4) (by decide) (by decide), bd_some, if_neg (by decide), show (6 : Int32) = nI 6 from rfl, show (26 : Int32) = nI 26 from rfl, ni_add 6 a, ni_add 26 a, chk_nI (by omega) (by decide), chk_nI (by omega) (by decide), if_pos (by rfl), ix_nI (i := 6 + a) (by omega), ix_nI (i := 26 + a) (by omega), u1', u5', sn_Y hc, bd_some, if_neg (by decide), if_neg (by decide), if_neg (by decide)]
        · unfold f_X10_of f_X3_seenOf
          rw [X0, bd_some, if_neg (by decide), if_neg (by decide), if_neg (by decide), if_neg (by decide), if_pos (by rfl), chk_nI (by omega) (by decide), chk_nI (by omega) (by decide), ix_nI (by omega), v2, v6, c3', sn_X, bd_some, bd_some]
      | 4, _ =>
        refine Y (tk (nI c) (nI g)) ?_ ?_
        · unfold f_X11_of
          rw [isL_ok s1 (by omega) ha, bd_some]
          simp only [jn_eq]
          rw [if_neg (by decide), inL_ok (hi := 4) (by decide) (by decide), bd_some, if_neg (by decide), show (6 : Int32) = nI 6 from rfl, show (26 : Int32) = nI 26 from rfl, ni_add 6 a, ni_add 26 a, chk_nI (by omega) (by decide), chk_nI (by omega) (by decide), if_neg (by decide), ix_nI (i := 6 + a) (by omega), ix_nI (i := 26 + a) (by omega), u1', u5', tk_Y hc hg, bd_some, if_neg (by decide), if_neg (by decide), if_neg (by decide)]
        · unfold f_X10_of f_X3_takenOf
          rw [X0, bd_some, if_neg (by decide), if_neg (by decide), if_neg (by decide), if_neg (by decide), if_neg (by decide), if_pos (by rfl), chk_nI (by omega) (by decide), chk_nI (by omega) (by decide), ix_nI (by omega), v2, v6, tk_X, bd_some, bd_some]
      | t + 5, q => exact absurd q (by omega)
    · refine ok_bad h ?_ (fun ν h5 hB _ => ?_)
      · unfold f_X10_of
        rw [hasL_ok m1 (by omega) ha, bd_some, if_neg (by decide), if_neg (fun q => ?_), if_neg (fun q => ?_), if_neg (fun q => ?_), if_neg (fun q => ?_), if_neg (fun q => ?_), tally_bad, bd2_some]
        all_goals (subst q; rcases hx with hx | hx <;> exact absurd hx (by decide))
      · unfold f_X11_of
        rw [isL_ok ((hB 1).trans s1) (by omega) ha, bd_some]
        simp only [jn_eq]
        rw [if_neg (by decide), inL_bad (hi := 4) (by decide) (or_of (by decide) hx), bd_some, if_pos (by trivial), badM h5, bd2_some]
  · refine ok_bad h ?_ (fun ν h5 hB _ => ?_)
    · unfold f_X10_of
      rw [hasL_bad m1 hx, bd_some, if_pos (by rfl), tally_bad, bd2_some]
    · unfold f_X11_of
      rw [isL_bad ((hB 1).trans s1) (by omega) hx, bd_some]
      simp only [jn_eq]
      rw [if_pos (by trivial), badM h5, bd2_some]
theorem Rel.asNow {μ : Mem} (h : Rel μ) : Rel (cpyI μ 113 26 120 0 10) := h.frame (fun p j hp => by have := relv_ne hp; rw [cp_ne (by omega)]) ⟨rfl, rfl⟩
theorem ok_village (x y : Int32) : Ok (f_X10_village x y) (f_X11_village x y) := by
  intro μ h
  obtain ⟨⟨n, l, r, p, hh, h1, h2, h3, h4, h5⟩, hi, ht, hll, hrf, hq⟩ := id h
  obtain ⟨⟨hn1, hn5, hl, hr, hp⟩, ⟨s0, s1, s2, s4, gr, hgr, s5⟩, c1, c2, c3, c4, c5, c6⟩ := id hh
  have m0 : μ.1 2 0 = nI n := c1.trans s0
  have m1 : μ.1 2 1 = nI l := c2.trans s1
  have c3' : μ.1 2 2 = μ.1 113 3 := c3
  have s1' : (cpyI μ 113 26 120 0 10).1 113 1 = nI l := by rw [cp_ne (by omega)]; exact s1
  have s3' : (cpyI μ 113 26 120 0 10).1 113 3 = μ.1 113 3 := by rw [cp_ne (by omega)]
  rcases isN_or x (n := n) (by omega) with ⟨v, hv, rfl⟩ | hx
  · rcases isN_or y (n := 1 + 1) (by decide) with ⟨t, ht5, rfl⟩ | hx
    · match t, ht5 with
      | 0, _ =>
        refine ⟨sgt (fun i => if μ.1 113 (16 + i) = nI v then sn (μ.1 113 (6 + i)) (μ.1 113 (26 + i)) (μ.1 113 3) else 0) l, μ, cpyI μ 113 26 120 0 10, ?_, ?_, h.asNow⟩
        · unfold f_X10_village
          rw [hasV_ok m0 (by omega) hv, bd_some]
          simp only [jn_eq]
          rw [if_neg (by decide), if_neg (by decide), if_neg (by decide), if_pos (by rfl), sight_X m1 hl, bd_some]
          refine congrArg (fun z => some (z, μ)) (sgt_congr (fun i hi => ?_))
          obtain ⟨⟨c, hc, u1, u2⟩, ⟨v, hv, u3, u4⟩, g, hg, u5, u6⟩ := h1 i hi
          rw [show μ.1 (2 + 2) i = nI v from u4, show μ.1 (2 + 1) i = nI c from u2, show μ.1 (2 + 3) i = nI g from u6, c3', show μ.1 113 (16 + i) = nI v from u3, show μ.1 113 (6 + i) = nI c from u1, show μ.1 113 (26 + i) = nI g from u5]
        · unfold f_X11_village
          rw [isV_ok s0 (by omega) hv, bd_some]
          simp only [jn_eq]
          rw [if_neg (by decide), inL_ok (hi := 1) (by decide) (by decide), bd_some, if_neg (by decide), asNow_eq, bd_some, if_pos (by rfl), s3', sight_Y s1' hl (fun i hi => by rw [cp_ne (by omega)]; obtain ⟨⟨c, hc, u1, u2⟩, _⟩ := h1 i hi; exact ⟨c, hc, u1⟩), bd_some]
          refine congrArg (fun z => some (z, cpyI μ 113 26 120 0 10)) (sgt_congr (fun i hi => ?_))
          rw [cp_ne (by omega), cp_ne (by omega), cp_in (by omega), Nat.sub_zero]
      | 1, _ =>
        refine ⟨sgt (fun i => if μ.1 113 (16 + i) = nI v then μ.1 113 (26 + i) else 0) l, μ, cpyI μ 113 26 120 0 10, ?_, ?_, h.asNow⟩
        · unfold f_X10_village
          rw [hasV_ok m0 (by omega) hv, bd_some]
          simp only [jn_eq]
          rw [if_neg (by decide), if_neg (by decide), if_neg (by decide), if_neg (by decide), heads_X m1 hl, bd_some]
          refine congrArg (fun z => some (z, μ)) (sgt_congr (fun i hi => ?_))
          obtain ⟨⟨c, hc, u1, u2⟩, ⟨v, hv, u3, u4⟩, g, hg, u5, u6⟩ := h1 i hi
          rw [show μ.1 (2 + 2) i = nI v from u4, show μ.1 (2 + 3) i = nI g from u6, show μ.1 113 (16 + i) = nI v from u3, show μ.1 113 (26 + i) = nI g from u5]
        · unfold f_X11_village
          rw [isV_ok s0 (by omega) hv, bd_some]
          simp only [jn_eq]
          rw [if_neg (by decide), inL_ok (hi := 1) (by decide) (by decide), bd_some, if_neg (by decide), asNow_eq, bd_some, if_neg (by decide), heads_Y s1' hl, bd_some]
          refine congrArg (fun z => some (z, cpyI μ 113 26 120 0 10)) (sgt_congr (fun i hi => ?_))
          rw [cp_ne (by omega), cp_in (by omega), Nat.sub_zero]
      | t + 2, q => exact absurd q (by omega)
    · refine ok_bad h ?_ (fun ν h5 hB _ => ?_)
      · unfold f_X10_village
        rw [hasV_ok m0 (by omega) hv, bd_some]
        simp only [jn_eq]
        rw [if_neg (by decide)]
        by_cases h0 : y < 0
        · rw [if_pos h0, tally_bad, bd2_some]
        · rw [if_neg h0, if_pos (by exact gt_of (n := 1) (by decide) (hx.resolve_left h0)), tally_bad, bd2_some]
      · unfold f_X11_village
        rw [isV_ok ((hB 0).trans s0) (by omega) hv, bd_some]
        simp only [jn_eq]
        rw [if_neg (by decide), inL_bad (hi := 1) (by decide) (or_of (by decide) hx), bd_some, if_pos (by trivial), badM h5, bd2_some]
  · refine ok_bad h ?_ (fun ν h5 hB _ => ?_)
    · unfold f_X10_village
      rw [hasV_bad m0 hx, bd_some]
      simp only [jn_eq]
      rw [if_pos (by trivial), tally_bad, bd2_some]
    · unfold f_X11_village
      rw [isV_bad ((hB 0).trans s0) (by omega) hx, bd_some]
      simp only [jn_eq]
      rw [if_pos (by trivial), badM h5, bd2_some]
