/-! road -/
/-- pigeons -/
theorem pigeon : ∀ (k m : Nat) (f : Nat → Nat), (∀ i, i < m → f i < k) → (∀ i j, i < m → j < m → f i = f j → i = j) → m ≤ k
  | 0, m, f, h, _ => by
    cases m with
    | zero => exact Nat.le_refl 0
    | succ m => exact absurd (h 0 (by omega)) (by omega)
  | k + 1, m, f, h, hj => by
    by_cases he : ∃ i0, i0 < m ∧ f i0 = k
    · obtain ⟨i0, h0, e0⟩ := he
      have := pigeon k (m - 1) (fun i => if i < i0 then f i else f (i + 1)) (fun i hi => by
        show (if i < i0 then f i else f (i + 1)) < k
        by_cases hlt : i < i0
        · rw [if_pos hlt]
          have a := h i (by omega)
          have b : f i ≠ k := fun q => by have := hj i i0 (by omega) h0 (by omega); omega
          omega
        · rw [if_neg hlt]
          have a := h (i + 1) (by omega)
          have b : f (i + 1) ≠ k := fun q => by have := hj (i + 1) i0 (by omega) h0 (by omega); omega
          omega) (fun i j hi hj2 e => by
        have e : (if i < i0 then f i else f (i + 1)) = (if j < i0 then f j else f (j + 1)) := e
        by_cases h1 : i < i0
        · by_cases h2 : j < i0
          · rw [if_pos h1, if_pos h2] at e; exact hj i j (by omega) (by omega) e
          · rw [if_pos h1, if_neg h2] at e; have := hj i (j + 1) (by omega) (by omega) e; omega
        · by_cases h2 : j < i0
          · rw [if_neg h1, if_pos h2] at e; have := hj (i + 1) j (by omega) (by omega) e; omega
          · rw [if_neg h1, if_neg h2] at e; have := hj (i + 1) (j + 1) (by omega) (by omega) e; omega)
      omega
    · have := pigeon k m f (fun i hi => by
        have a := h i hi
        have b : f i ≠ k := fun q => he ⟨i, hi, q⟩
        omega) hj
      omega
def pcode (a b : Nat) : Nat := if a < b then b * (b - 1) / 2 + a else a * (a - 1) / 2 + b
theorem pcode_lt {a b : Nat} (ha : a < 5) (hb : b < 5) (h : a ≠ b) : pcode a b < 10 :=
  (by decide +kernel : ∀ a : Fin 5, ∀ b : Fin 5, a.1 ≠ b.1 → pcode a.1 b.1 < 10) ⟨a, ha⟩ ⟨b, hb⟩ h
def pcl (e : Nat) : Nat × Nat := if e = 0 then (0, 1) else if e < 3 then (e - 1, 2) else if e < 6 then (e - 3, 3) else (e - 6, 4)
theorem pcode_back {a b : Nat} (ha : a < 5) (hb : b < 5) (h : a ≠ b) : (pcl (pcode a b) = (a, b) ∧ a < b) ∨ (pcl (pcode a b) = (b, a) ∧ b < a) :=
  (by decide +kernel : ∀ a : Fin 5, ∀ b : Fin 5, a.1 ≠ b.1 → (pcl (pcode a.1 b.1) = (a.1, b.1) ∧ a.1 < b.1) ∨ (pcl (pcode a.1 b.1) = (b.1, a.1) ∧ b.1 < a.1)) ⟨a, ha⟩ ⟨b, hb⟩ h
theorem pcode_inj {a b c d : Nat} (ha : a < 5) (hb : b < 5) (hc : c < 5) (hd : d < 5) (h : a ≠ b) (h' : c ≠ d) (e : pcode a b = pcode c d) : (a = c ∧ b = d) ∨ (a = d ∧ b = c) := by
  rcases pcode_back ha hb h with ⟨q, _⟩ | ⟨q, _⟩ <;> rcases pcode_back hc hd h' with ⟨q', _⟩ | ⟨q', _⟩ <;> rw [e, q'] at q <;> simp only [Prod.mk.injEq] at q <;> omega
theorem pair_if {α : Type} {A B C D : Prop} [Decidable A] [Decidable B] [Decidable C] [Decidable D] {J N : α} : (if A then (if B then J else (if C then (if D then J else N) else N)) else (if C then (if D then J else N) else N)) = if (A ∧ B) ∨ (C ∧ D) then J else N := by
  by_cases hA : A <;> by_cases hB : B <;> by_cases hC : C <;> by_cases hD : D <;> simp [hA, hB, hC, hD]
theorem lp_hit {ε : Type} {F : Int32 → Option (Int32 ⊕ ε)} {A : ε} {Q : Nat → Prop} [DecidablePred Q] {N : Nat} (hex : ∃ i, i < N ∧ Q i) (hs : ∀ i, i < N → F (nI i) = if Q i then some (.inr A) else some (.inl (nI (i + 1)))) : lp F 0 = some A := by
  obtain ⟨i0, h0, q0⟩ := hex
  obtain ⟨e, h1, h2⟩ := lp_inv (F := F) (fun i s => s = nI i ∧ ∀ j, j < i → ¬ Q j) (fun e => e = A) N (fun i s hi hI => by
    obtain ⟨rfl, hI⟩ := hI
    by_cases hq : Q i
    · exact Or.inr ⟨A, by rw [hs i hi, if_pos hq], rfl⟩
    · refine Or.inl ⟨nI (i + 1), by rw [hs i hi, if_neg hq], rfl, fun j hj => ?_⟩
      by_cases e : j = i
      · subst e; exact hq
      · exact hI j (by omega)) (fun s hI => absurd q0 (hI.2 i0 h0)) (s := 0) ⟨rfl, fun j hj => absurd hj (Nat.not_lt_zero j)⟩
  rw [h1, h2]
theorem lp_miss {ε : Type} {F : Int32 → Option (Int32 ⊕ ε)} {A Bv : ε} {Q : Nat → Prop} [DecidablePred Q] {N : Nat} (hno : ∀ i, i < N → ¬ Q i) (hs : ∀ i, i < N → F (nI i) = if Q i then some (.inr A) else some (.inl (nI (i + 1)))) (he : F (nI N) = some (.inr Bv)) : lp F 0 = some Bv :=
  lp_for (fun i => nI i) N (fun i hi => by rw [hs i hi, if_neg (hno i hi)]) he
theorem bdr_hit {ε ρ β : Type} {F : Int32 → Option (Int32 ⊕ (ε ⊕ ρ))} {A : ρ} {G : ε → Option β} {H : ρ → Option β} {Q : Nat → Prop} [DecidablePred Q] {N : Nat} (hex : ∃ i, i < N ∧ Q i) (hs : ∀ i, i < N → F (nI i) = if Q i then some (.inr (.inr A)) else some (.inl (nI (i + 1)))) : bdr (lp F 0) G H = H A := by
  rw [lp_hit hex hs]; rfl
theorem bdr_miss {ε ρ β : Type} {F : Int32 → Option (Int32 ⊕ (ε ⊕ ρ))} {A : ρ} {u : ε} {G : ε → Option β} {H : ρ → Option β} {Q : Nat → Prop} [DecidablePred Q] {N : Nat} (hno : ∀ i, i < N → ¬ Q i) (hs : ∀ i, i < N → F (nI i) = if Q i then some (.inr (.inr A)) else some (.inl (nI (i + 1)))) (he : F (nI N) = some (.inr (.inl u))) : bdr (lp F 0) G H = G u := by
  rw [lp_miss hno hs he]; rfl
/-- a road of these two is there -/
def rdQ (B : Nat → Int32) (x y : Int32) (i : Nat) : Prop := (B (41 + 3 * i) = x ∧ B (41 + 3 * i + 1) = y) ∨ (B (41 + 3 * i) = y ∧ B (41 + 3 * i + 1) = x)
theorem rdQ.of {B B' : Nat → Int32} {x y : Int32} {i : Nat} (q : rdQ B x y i) (h : ∀ j, B' j = B j) : rdQ B' x y i := by
  rw [show B' = B from funext h]; exact q
theorem road_full {k n r a b : Nat} {M : Nat → Nat → Int32} {B : Nat → Int32} (h : RoadsP k M B n r) (hn : n ≤ 5) (hr : r ≤ 10) (ha : a < n) (hb : b < n) (hab : a ≠ b) (hno : ∀ i, i < r → ¬ rdQ B (nI a) (nI b) i) : r < 10 := by
  obtain ⟨gd, g1, g2, g3, g4⟩ := h
  rcases Nat.lt_or_ge r 10 with q | q
  · exact q
  exfalso
  have hr10 : r = 10 := by omega
  have P : ∀ i, i < r → ∃ c d, c < 5 ∧ d < 5 ∧ c ≠ d ∧ B (41 + 3 * i) = nI c ∧ B (41 + 3 * i + 1) = nI d := fun i hi => by
    obtain ⟨c, d, b1, b2, b3, b4, b5, _⟩ := g3 i hi
    exact ⟨c, d, by omega, by omega, b3, b4, b5⟩
  have fc : ∀ i, i < r → ∀ c d, c < 5 → d < 5 → B (41 + 3 * i) = nI c → B (41 + 3 * i + 1) = nI d → ix (B (41 + 3 * i)) = c ∧ ix (B (41 + 3 * i + 1)) = d := fun i hi c d hc hd e1 e2 => by rw [e1, e2, ix_nI (by omega), ix_nI (by omega)]; exact ⟨rfl, rfl⟩
  have := pigeon 10 11 (fun i => if i < 10 then pcode (ix (B (41 + 3 * i))) (ix (B (41 + 3 * i + 1))) else pcode a b) (fun i hi => by
    show (if i < 10 then pcode (ix (B (41 + 3 * i))) (ix (B (41 + 3 * i + 1))) else pcode a b) < 10
    by_cases e : i < 10
    · rw [if_pos e]
      obtain ⟨c, d, hc, hd, hcd, e1, e2⟩ := P i (by omega)
      obtain ⟨f1, f2⟩ := fc i (by omega) c d hc hd e1 e2
      rw [f1, f2]
      exact pcode_lt hc hd hcd
    · rw [if_neg e]
      exact pcode_lt (by omega) (by omega) hab) (fun i j hi hj e => by
    have e : (if i < 10 then pcode (ix (B (41 + 3 * i))) (ix (B (41 + 3 * i + 1))) else pcode a b) = (if j < 10 then pcode (ix (B (41 + 3 * j))) (ix (B (41 + 3 * j + 1))) else pcode a b) := e
    by_cases h1 : i < 10
    · obtain ⟨c, d, hc, hd, hcd, e1, e2⟩ := P i (by omega)
      obtain ⟨f1, f2⟩ := fc i (by omega) c d hc hd e1 e2
      rw [if_pos h1, f1, f2] at e
      by_cases h2 : j < 10
      · obtain ⟨c', d', hc', hd', hcd', e1', e2'⟩ := P j (by omega)
        obtain ⟨f1', f2'⟩ := fc j (by omega) c' d' hc' hd' e1' e2'
        rw [if_pos h2, f1', f2'] at e
        by_cases hij : i = j
        · exact hij
        · exfalso
          obtain ⟨z1, z2⟩ := g4 i j (by omega) (by omega) hij
          rcases pcode_inj hc hd hc' hd' hcd hcd' e with ⟨w1, w2⟩ | ⟨w1, w2⟩
          · exact z1 ⟨by rw [e1, e1', w1], by rw [e2, e2', w2]⟩
          · exact z2 ⟨by rw [e1, e2', w1], by rw [e2, e1', w2]⟩
      · rw [if_neg h2] at e
        exfalso
        rcases pcode_inj hc hd (by omega) (by omega) hcd hab e with ⟨w1, w2⟩ | ⟨w1, w2⟩
        · exact hno i (by omega) (Or.inl ⟨by rw [e1, w1], by rw [e2, w2]⟩)
        · exact hno i (by omega) (Or.inr ⟨by rw [e1, w1], by rw [e2, w2]⟩)
    · rw [if_neg h1] at e
      by_cases h2 : j < 10
      · obtain ⟨c', d', hc', hd', hcd', e1', e2'⟩ := P j (by omega)
        obtain ⟨f1', f2'⟩ := fc j (by omega) c' d' hc' hd' e1' e2'
        rw [if_pos h2, f1', f2'] at e
        exfalso
        rcases pcode_inj hc' hd' (by omega) (by omega) hcd' hab e.symm with ⟨w1, w2⟩ | ⟨w1, w2⟩
        · exact hno j (by omega) (Or.inl ⟨by rw [e1', w1], by rw [e2', w2]⟩)
        · exact hno j (by omega) (Or.inr ⟨by rw [e1', w1], by rw [e2', w2]⟩)
      · omega)
  omega
theorem hasP_ok {k n a b : Nat} {μ : Mem} (hM : μ.1 k 0 = nI n) (hn : n ≤ 5) (ha : a < n) (hb : b < n) (hab : a ≠ b) : f_X3_hasPair k (nI a) (nI b) μ = some 1 := by
  unfold f_X3_hasPair
  rw [hasV_ok hM (by omega) ha, bd_some]
  simp only [jn_eq]
  rw [if_neg (by decide), hasV_ok hM (by omega) hb, bd_some, if_neg (by decide), if_neg (fun q => hab ((nI_eq (by omega) (by omega)).mp q))]
  rfl
theorem twoV (x y : Int32) {n : Nat} (hn : n ≤ 5) : (∃ a b, a < n ∧ b < n ∧ a ≠ b ∧ x = nI a ∧ y = nI b) ∨ ((x < 0 ∨ nI n ≤ x) ∨ (∃ a, a < n ∧ x = nI a) ∧ ((y < 0 ∨ nI n ≤ y) ∨ (∃ b, b < n ∧ y = nI b) ∧ x = y)) := by
  rcases isN_or x (n := n) (by omega) with ⟨a, ha, rfl⟩ | hx
  · rcases isN_or y (n := n) (by omega) with ⟨b, hb, rfl⟩ | hy
    · by_cases e : a = b
      · exact Or.inr (Or.inr ⟨⟨a, ha, rfl⟩, Or.inr ⟨⟨b, hb, rfl⟩, by rw [e]⟩⟩)
      · exact Or.inl ⟨a, b, ha, hb, e, rfl, rfl⟩
    · exact Or.inr (Or.inr ⟨⟨a, ha, rfl⟩, Or.inl hy⟩)
  · exact Or.inr (Or.inl hx)
theorem hasP_bad {k n : Nat} {x y : Int32} {μ : Mem} (hM : μ.1 k 0 = nI n) (hn : n ≤ 5) (h : (x < 0 ∨ nI n ≤ x) ∨ (∃ a, a < n ∧ x = nI a) ∧ ((y < 0 ∨ nI n ≤ y) ∨ (∃ b, b < n ∧ y = nI b) ∧ x = y)) : f_X3_hasPair k x y μ = some 0 := by
  unfold f_X3_hasPair
  rcases h with h | ⟨⟨a, ha, rfl⟩, h | ⟨⟨b, hb, rfl⟩, h⟩⟩
  · rw [hasV_bad hM h, bd_some]
    simp only [jn_eq]
    rw [if_pos (by trivial)]; rfl
  · rw [hasV_ok hM (by omega) ha, bd_some]
    simp only [jn_eq]
    rw [if_neg (by decide), hasV_bad hM h, bd_some, if_pos (by trivial)]; rfl
  · rw [hasV_ok hM (by omega) ha, bd_some]
    simp only [jn_eq]
    rw [if_neg (by decide), hasV_ok hM (by omega) hb, bd_some, if_neg (by decide), if_pos h]; rfl
theorem areT_ok {n a b : Nat} {μ : Mem} (hM : μ.1 113 0 = nI n) (hn : n ≤ 5) (ha : a < n) (hb : b < n) (hab : a ≠ b) : f_X11_areTwo (nI a) (nI b) μ = some 1 := by
  unfold f_X11_areTwo
  rw [isV_ok hM (by omega) ha, bd_some]
  simp only [jn_eq]
  rw [if_neg (by decide), isV_ok hM (by omega) hb, bd_some, if_neg (by decide), if_neg (fun q => hab ((nI_eq (by omega) (by omega)).mp q))]
  rfl
theorem areT_bad {n : Nat} {x y : Int32} {μ : Mem} (hM : μ.1 113 0 = nI n) (hn : n ≤ 5) (h : (x < 0 ∨ nI n ≤ x) ∨ (∃ a, a < n ∧ x = nI a) ∧ ((y < 0 ∨ nI n ≤ y) ∨ (∃ b, b < n ∧ y = nI b) ∧ x = y)) : f_X11_areTwo x y μ = some 0 := by
  unfold f_X11_areTwo
  rcases h with h | ⟨⟨a, ha, rfl⟩, h | ⟨⟨b, hb, rfl⟩, h⟩⟩
  · rw [isV_bad hM (by omega) h, bd_some]
    simp only [jn_eq]
    rw [if_pos (by trivial)]; rfl
  · rw [isV_ok hM (by omega) ha, bd_some]
    simp only [jn_eq]
    rw [if_neg (by decide), isV_bad hM (by omega) h, bd_some, if_pos (by trivial)]; rfl
  · rw [isV_ok hM (by omega) ha, bd_some]
    simp only [jn_eq]
    rw [if_neg (by decide), isV_ok hM (by omega) hb, bd_some, if_neg (by decide), if_pos h]; rfl
theorem add_step {k r i : Nat} {x y : Int32} {μ : Mem} {B : Nat → Int32} (hr : r ≤ 10) (hi : i < r) (e1 : μ.1 (k + 1) i = B (41 + 3 * i)) (e2 : μ.1 (k + 2) i = B (41 + 3 * i + 1)) [d : DecidablePred (rdQ B x y)] :
    chk (nI i) 10 (
        jn (
          (some (.inr (.inr ((-3), μ))) : Option (Int32 ⊕ (Unit ⊕ (Int32 × Mem))))
          ) fun j3 =>
        jn (
          chk (nI i) 10 (
            jn (
              some (.inl (nI i + 1))
              ) fun j5 =>
            if (μ.1 (k + 1) (ix (nI i))) = y then
              chk (nI i) 10 (
                if (μ.1 (k + 2) (ix (nI i))) = x then
                  j3
                else
                  j5
                )
            else
              j5
            )
          ) fun j4 =>
        if (μ.1 (k + 1) (ix (nI i))) = x then
          chk (nI i) 10 (
            if (μ.1 (k + 2) (ix (nI i))) = y then
              j3
            else
              j4
            )
        else
          j4
        ) = if rdQ B x y i then some (.inr (.inr (-3, μ))) else some (.inl (nI (i + 1))) := by
  simp only [jn_eq, chk_nI (show i < 10 by omega) (show 10 < 2 ^ 31 by decide), ix_nI (show i < 2 ^ 31 by omega), e1, e2, pair_if, ← nI_succ]
  by_cases q : rdQ B x y i
  · rw [if_pos q]; exact if_pos q
  · rw [if_neg q]; exact if_neg q
theorem add_hit {k r : Nat} {x y : Int32} {μ : Mem} {B : Nat → Int32} (m6 : μ.1 k 0 = nI r) (hr : r ≤ 10) (hRd : ∀ i, i < r → μ.1 (k + 1) i = B (41 + 3 * i) ∧ μ.1 (k + 2) i = B (41 + 3 * i + 1)) (hex : ∃ i, i < r ∧ rdQ B x y i) : f_X7_add k x y μ = some (-3, μ) := by
  have dQ : DecidablePred (rdQ B x y) := fun i => by unfold rdQ; exact inferInstance
  unfold f_X7_add
  rw [m6]
  refine (bdr_hit (A := ((-3 : Int32), μ)) (Q := rdQ B x y) (N := r) hex (fun i hi => ?_)).trans rfl
  show (if nI i < nI r then _ else _) = _
  rw [if_pos ((nI_ltI (by omega) (by omega)).mpr hi)]
  exact add_step hr hi (hRd i hi).1 (hRd i hi).2
theorem add_miss {k r : Nat} {x y : Int32} {μ : Mem} {B : Nat → Int32} (m6 : μ.1 k 0 = nI r) (hr : r < 10) (hRd : ∀ i, i < r → μ.1 (k + 1) i = B (41 + 3 * i) ∧ μ.1 (k + 2) i = B (41 + 3 * i + 1)) (hno : ∀ i, i < r → ¬ rdQ B x y i) : f_X7_add k x y μ = some (nI r, setI (setI (setI μ (k + 1) r x) (k + 2) r y) k 0 (nI (r + 1))) := by
  have dQ : DecidablePred (rdQ B x y) := fun i => by unfold rdQ; exact inferInstance
  unfold f_X7_add
  rw [m6]
  refine (bdr_miss (A := ((-3 : Int32), μ)) (u := ()) (Q := rdQ B x y) (N := r) hno (fun i hi => ?_) ?_).trans ?_
  · show (if nI i < nI r then _ else _) = _
    rw [if_pos ((nI_ltI (by omega) (by omega)).mpr hi)]
    exact add_step (by omega) hi (hRd i hi).1 (hRd i hi).2
  · show (if nI r < nI r then _ else _) = _
    rw [if_neg (fun q => Nat.lt_irrefl r ((nI_ltI (by omega) (by omega)).mp q))]
  · show (if nI r < 10 then _ else _) = _
    rw [if_pos (by exact (nI_ltI (b := 10) (by omega) (by decide)).mpr hr), chk_nI hr (by decide)]
    simp only [lt_eq]
    have e6 : (setI μ (k + 1) (ix (nI r)) x).1 k 0 = nI r := by rw [si_ne (by omega)]; exact m6
    have e7 : (setI (setI μ (k + 1) (ix (nI r)) x) (k + 2) (ix (nI r)) y).1 k 0 = nI r := by rw [si_ne (by omega)]; exact e6
    rw [e6, chk_nI hr (by decide), e7, si_eq, ix_nI (by omega), ← nI_succ, nI_pred]
theorem road_X {k n r a b : Nat} {μ : Mem} {B : Nat → Int32} (m0 : μ.1 (k + 1) 0 = nI n) (m6 : μ.1 (k + 6) 0 = nI r) (h4 : RoadsP k μ.1 B n r) (hn : n ≤ 5) (hr : r ≤ 10) (ha : a < n) (hb : b < n) (hab : a ≠ b) : ((∃ i, i < r ∧ rdQ B (nI a) (nI b) i) → f_X0_addRoad k (nI a) (nI b) μ = some (-3, μ)) ∧ ((∀ i, i < r → ¬ rdQ B (nI a) (nI b) i) → f_X0_addRoad k (nI a) (nI b) μ = some (nI r, setI (setI (setI μ (k + 7) r (nI a)) (k + 8) r (nI b)) (k + 6) 0 (nI (r + 1)))) := by
  have hRd : ∀ i, i < r → μ.1 (k + 6 + 1) i = B (41 + 3 * i) ∧ μ.1 (k + 6 + 2) i = B (41 + 3 * i + 1) := fun i hi => by
    obtain ⟨gd, g1, g2, g3, g4⟩ := h4
    obtain ⟨a1, a2, b1, b2, b3, b4, b5, b6, b7, b8⟩ := g3 i hi
    exact ⟨b6.trans b4.symm, b7.trans b5.symm⟩
  unfold f_X0_addRoad
  rw [hasP_ok m0 hn ha hb hab, bd_some]
  simp only [jn_eq]
  rw [if_neg (by decide)]
  constructor
  · intro hex
    rw [add_hit m6 hr hRd hex, bd2_some]
  · intro hno
    rw [add_miss m6 (road_full h4 hn hr ha hb hab hno) hRd hno, bd2_some]
theorem road_X0 {k n : Nat} {x y : Int32} {μ : Mem} (hM : μ.1 (k + 1) 0 = nI n) (hn : n ≤ 5) (h : (x < 0 ∨ nI n ≤ x) ∨ (∃ a, a < n ∧ x = nI a) ∧ ((y < 0 ∨ nI n ≤ y) ∨ (∃ b, b < n ∧ y = nI b) ∧ x = y)) : f_X0_addRoad k x y μ = some (-2, μ) := by
  unfold f_X0_addRoad
  rw [hasP_bad hM hn h, bd_some]
  simp only [jn_eq]
  rw [if_pos (by trivial)]
theorem roadY_step {r i : Nat} {x y : Int32} {μ : Mem} {no : Int32 × Mem} (hr : r ≤ 10) (hi : i < r) (hno : f_X11_no μ = some no) [d : DecidablePred (rdQ (fun j => μ.1 113 j) x y)] :
    chk (41 + (3 * nI i)) 184 (
          lt (μ.1 113 (ix (41 + (3 * nI i)))) fun x4_4 =>
          chk ((41 + (3 * nI i)) + 1) 184 (
            lt (μ.1 113 (ix ((41 + (3 * nI i)) + 1))) fun x5_5 =>
            jn (
              bd2 (f_X11_no μ) fun r7 ν8 =>
              (some (.inr (.inr (r7, ν8))) : Option (Int32 ⊕ (Unit ⊕ (Int32 × Mem))))
              ) fun j6 =>
            jn (
              jn (
                some (.inl (nI i + 1))
                ) fun j10 =>
              if x4_4 = y then
                if x5_5 = x then
                  j6
                else
                  j10
              else
                j10
              ) fun j9 =>
            if x4_4 = x then
              if x5_5 = y then
                j6
              else
                j9
            else
              j9
            )
          ) = if rdQ (fun j => μ.1 113 j) x y i then some (.inr (.inr no)) else some (.inl (nI (i + 1))) := by
  rw [show (41 : Int32) = nI 41 from rfl, show (3 : Int32) = nI 3 from rfl, ni_mul, ni_add, chk_nI (by omega) (by decide), lt_eq, show (1 : Int32) = nI 1 from rfl, ni_add, chk_nI (by omega) (by decide), lt_eq, hno, bd2_some]
  simp only [jn_eq, ix_nI (show 41 + 3 * i < 2 ^ 31 by omega), ix_nI (show 41 + 3 * i + 1 < 2 ^ 31 by omega), pair_if, ni_add]
  by_cases q : rdQ (fun j => μ.1 113 j) x y i
  · rw [if_pos q]; exact if_pos q
  · rw [if_neg q]; exact if_neg q
theorem road_Y {n r a b : Nat} {ν : Mem} {no : Int32 × Mem} (s0 : ν.1 113 0 = nI n) (s2 : ν.1 113 2 = nI r) (hn : n ≤ 5) (hr : r ≤ 10) (ha : a < n) (hb : b < n) (hab : a ≠ b) (hN : f_X11_no ν = some no) : ((∃ i, i < r ∧ rdQ (fun j => ν.1 113 j) (nI a) (nI b) i) → f_X11_road (nI a) (nI b) ν = some no) ∧ ((∀ i, i < r → ¬ rdQ (fun j => ν.1 113 j) (nI a) (nI b) i) → r < 10 → f_X11_road (nI a) (nI b) ν = some (nI r, setI (setI (setI (setI ν 113 (41 + 3 * r) (nI a)) 113 (41 + 3 * r + 1) (nI b)) 113 (41 + 3 * r + 2) 0) 113 2 (nI (r + 1)))) := by
  have dQ : DecidablePred (rdQ (fun j => ν.1 113 j) (nI a) (nI b)) := fun i => by unfold rdQ; exact inferInstance
  unfold f_X11_road
  rw [areT_ok s0 hn ha hb hab, bd_some, if_neg (by decide), s2]
  constructor
  · intro hex
    refine (bdr_hit (A := no) (Q := rdQ (fun j => ν.1 113 j) (nI a) (nI b)) (N := r) hex (fun i hi => ?_)).trans rfl
    show (if nI i < nI r then _ else _) = _
    rw [if_pos ((nI_ltI (by omega) (by omega)).mpr hi)]
    exact roadY_step hr hi hN
  · intro hno hr10
    refine (bdr_miss (A := no) (u := ()) (Q := rdQ (fun j => ν.1 113 j) (nI a) (nI b)) (N := r) hno (fun i hi => ?_) ?_).trans ?_
    · show (if nI i < nI r then _ else _) = _
      rw [if_pos ((nI_ltI (by omega) (by omega)).mpr hi)]
      exact roadY_step hr hi hN
    · show (if nI r < nI r then _ else _) = _
      rw [if_neg (fun q => Nat.lt_irrefl r ((nI_ltI (by omega) (by omega)).mp q))]
    · show chk (41 + 3 * nI r) 184 _ = _
      have e1 : (41 : Int32) + 3 * nI r = nI (41 + 3 * r) := by rw [show (41 : Int32) = nI 41 from rfl, show (3 : Int32) = nI 3 from rfl, ni_mul, ni_add]
      have e2 : nI (41 + 3 * r) + 1 = nI (41 + 3 * r + 1) := by rw [show (1 : Int32) = nI 1 from rfl, ni_add]
      have e3 : nI (41 + 3 * r) + 2 = nI (41 + 3 * r + 2) := by rw [show (2 : Int32) = nI 2 from rfl, ni_add]
      rw [e1, e2, e3, chk_nI (by omega) (by decide), lt_eq, chk_nI (by omega) (by decide), lt_eq, chk_nI (by omega) (by decide), lt_eq, lt_eq, ix_nI (by omega), ix_nI (by omega), ix_nI (by omega), si_eq]
      have e4 : (setI (setI (setI ν 113 (41 + 3 * r) (nI a)) 113 (41 + 3 * r + 1) (nI b)) 113 (41 + 3 * r + 2) 0).1 113 2 = nI r := by rw [si_ne (by omega), si_ne (by omega), si_ne (by omega)]; exact s2
      rw [e4, ← nI_succ, nI_pred]
theorem CR_road {k n l r p a b : Nat} {M M' : Nat → Nat → Int32} {B B' : Nat → Int32} (h : CRn k M B n l r p) (hr : r < 10) (ha : a < n) (hb : b < n) (hab : a ≠ b) (hno : ∀ i, i < r → ¬ rdQ B (nI a) (nI b) i) (hM : ∀ c j, c < 14 → c ≠ 5 → ¬ (c = 7 ∧ j = r) → ¬ (c = 8 ∧ j = r) → ¬ (c = 6 ∧ j = 0) → M' (k + c) j = M (k + c) j) (h7 : M' (k + 7) r = nI a) (h8 : M' (k + 8) r = nI b) (h6 : M' (k + 6) 0 = nI (r + 1)) (hB : ∀ j, j < 184 → j ≠ 2 → ¬ (41 + 3 * r ≤ j ∧ j < 41 + 3 * r + 3) → B' j = B j) (hB2 : B' 2 = nI (r + 1)) (hBa : B' (41 + 3 * r) = nI a) (hBb : B' (41 + 3 * r + 1) = nI b) (hB0 : B' (41 + 3 * r + 2) = 0) : CRn k M' B' n l (r + 1) p := by
  obtain ⟨⟨⟨hn1, hn5, hl, hr', hp⟩, ⟨s0, s1, s2, s4, gr, hgr, s5⟩, c1, c2, c3, c4, c5, c6⟩, h1, h2, h3, ⟨gd, g1, g2, g3, g4⟩, h5⟩ := h
  have M1 : ∀ j, M' (k + 1) j = M (k + 1) j := fun j => hM 1 j (by omega) (by omega) (by omega) (by omega) (by omega)
  refine ⟨⟨⟨hn1, hn5, hl, by omega, hp⟩, ⟨by rw [hB _ (by omega) (by omega) (by omega)]; exact s0, by rw [hB _ (by omega) (by omega) (by omega)]; exact s1, hB2, by rw [hB _ (by omega) (by omega) (by omega)]; exact s4, gr, hgr, by rw [hB _ (by omega) (by omega) (by omega)]; exact s5⟩, by rw [hB _ (by omega) (by omega) (by omega), M1]; exact c1, by rw [hB _ (by omega) (by omega) (by omega), M1]; exact c2, by rw [hB _ (by omega) (by omega) (by omega), M1]; exact c3, by rw [hB _ (by omega) (by omega) (by omega), M1]; exact c4, h6.trans hB2.symm, by rw [hB _ (by omega) (by omega) (by omega), hM _ _ (by omega) (by omega) (by omega) (by omega) (by omega)]; exact c6⟩, h1.of hl (fun c _ _ i _ => hM _ _ (by omega) (by omega) (by omega) (by omega) (by omega)) (fun j _ _ => hB _ (by omega) (by omega) (by omega)), h2.of (fun i _ => hM _ _ (by omega) (by omega) (by omega) (by omega) (by omega)) (fun j _ _ => hB _ (by omega) (by omega) (by omega)), h3.of (fun i _ => hM _ _ (by omega) (by omega) (by omega) (by omega) (by omega)) (fun j _ _ => hB _ (by omega) (by omega) (by omega)), ⟨gd, Nat.lt_of_lt_of_le g1 (Nat.pow_le_pow_right (by decide) (by omega)), by rw [hM _ _ (by omega) (by omega) (by omega) (by omega) (by omega)]; exact g2, fun i hi => ?_, fun i j hi hj hij => ?_⟩, h5.of hl hp (fun c _ _ i => hM _ _ (by omega) (by omega) (by omega) (by omega) (by omega)) (fun j _ _ => hB _ (by omega) (by omega) (by omega))⟩
  · by_cases e : i = r
    · subst e
      refine ⟨a, b, ha, hb, hab, hBa, hBb, h7, h8, ?_⟩
      rw [hB0, Nat.testBit_lt_two_pow g1]
      rfl
    · rw [hB _ (by omega) (by omega) (by omega), hB _ (by omega) (by omega) (by omega), hB _ (by omega) (by omega) (by omega), hM 7 i (by omega) (by omega) (by omega) (by omega) (by omega), hM 8 i (by omega) (by omega) (by omega) (by omega) (by omega)]
      exact g3 i (by omega)
  · have N1 : ∀ i, i < r → ¬ (B (41 + 3 * i) = nI a ∧ B (41 + 3 * i + 1) = nI b) := fun i hi q => hno i hi (Or.inl q)
    have N2 : ∀ i, i < r → ¬ (B (41 + 3 * i) = nI b ∧ B (41 + 3 * i + 1) = nI a) := fun i hi q => hno i hi (Or.inr q)
    by_cases e : i = r
    · subst e
      rw [hBa, hBb, hB (41 + 3 * j) (by omega) (by omega) (by omega), hB (41 + 3 * j + 1) (by omega) (by omega) (by omega)]
      exact ⟨fun q => N1 j (by omega) ⟨q.1.symm, q.2.symm⟩, fun q => N2 j (by omega) ⟨q.2.symm, q.1.symm⟩⟩
    · by_cases e' : j = r
      · subst e'
        rw [hBa, hBb, hB (41 + 3 * i) (by omega) (by omega) (by omega), hB (41 + 3 * i + 1) (by omega) (by omega) (by omega)]
        exact ⟨N1 i (by omega), N2 i (by omega)⟩
      · rw [hB (41 + 3 * i) (by omega) (by omega) (by omega), hB (41 + 3 * i + 1) (by omega) (by omega) (by omega), hB (41 + 3 * j) (by omega) (by omega) (by omega), hB (41 + 3 * j + 1) (by omega) (by omega) (by omega)]
        exact g4 i j (by omega) (by omega) hij
theorem ok_road (x y : Int32) : Ok (f_X10_road x y) (f_X11_road x y) := by
  intro μ h
  obtain ⟨⟨n, l, r, p, hh, h1, h2, h3, h4, h5⟩, hi, ht, hll, hrf, hq⟩ := id h
  obtain ⟨⟨hn1, hn5, hl, hr, hp⟩, ⟨s0, s1, s2, s4, gr, hgr, s5⟩, c1, c2, c3, c4, c5, c6⟩ := id hh
  have m6 : μ.1 (1 + 6) 0 = nI r := c5.trans s2
  have s2' : μ.1 113 2 = nI r := s2
  rcases twoV x y hn5 with ⟨a, b, ha, hb, hab, rfl, rfl⟩ | hx
  · by_cases hex : ∃ i, i < r ∧ rdQ (fun j => μ.1 113 j) (nI a) (nI b) i
    · refine ok_no h ?_ (fun ν h5 hB => ?_)
      · unfold f_X10_road
        rw [(road_X (c1.trans s0) m6 h4 hn5 hr ha hb hab).1 hex, bd2_some, tally_no, bd2_some]
      · refine (road_Y ((hB _ _ (by decide)).trans s0) ((hB _ _ (by decide)).trans s2') hn5 hr ha hb hab (noM h5)).1 ?_
        obtain ⟨i, hi, q⟩ := hex
        exact ⟨i, hi, q.of (fun j => hB _ _ (by decide))⟩
    · have hno : ∀ i, i < r → ¬ rdQ (fun j => μ.1 113 j) (nI a) (nI b) i := fun i hi q => hex ⟨i, hi, q⟩
      have hr10 := road_full h4 hn5 hr ha hb hab hno
      refine ok_ask (nI r) (setI (setI (setI μ (1 + 7) r (nI a)) (1 + 8) r (nI b)) (1 + 6) 0 (nI (r + 1))) (setI (setI (setI (setI (setI (setI (setI μ (1 + 7) r (nI a)) (1 + 8) r (nI b)) (1 + 6) 0 (nI (r + 1))) 113 (41 + 3 * r) (nI a)) 113 (41 + 3 * r + 1) (nI b)) 113 (41 + 3 * r + 2) 0) 113 2 (nI (r + 1))) ?_ ?_ ?_
      · unfold f_X10_road
        rw [(road_X (c1.trans s0) m6 h4 hn5 hr ha hb hab).2 hno, bd2_some, tally_ok (nI_pos (by omega)), bd2_some]
      · have hB : ∀ j, (setI (setI (setI μ (1 + 7) r (nI a)) (1 + 8) r (nI b)) (1 + 6) 0 (nI (r + 1))).1 113 j = μ.1 113 j := fun j => by rw [si_ne (by omega), si_ne (by omega), si_ne (by omega)]
        refine (road_Y (no := (-3, refM (setI (setI (setI μ (1 + 7) r (nI a)) (1 + 8) r (nI b)) (1 + 6) 0 (nI (r + 1))) 1)) ((hB _).trans s0) ((hB _).trans s2') hn5 hr ha hb hab (noM (by rw [si_ne (by omega), si_ne (by omega), si_ne (by omega)]; exact hq))).2 (fun i hi q => hno i hi (q.of (fun j => (hB j).symm))) hr10
      · refine h.now (fun q j hq9 => by have k9 := relo_ne hq9; ((try dsimp only); (repeat (first | rw [si_eq] | rw [si_ne (by omega)] | rw [cp_in (by omega)] | rw [cp_ne (by omega)])))) ⟨rfl, rfl⟩ ⟨n, l, r + 1, p, CR_road (M := μ.1) (B := fun j => μ.1 113 j) ⟨hh, h1, h2, h3, h4, h5⟩ hr10 ha hb hab hno (fun c j q1 q2 q3 q4 q5 => by ((try dsimp only); (repeat (first | rw [si_eq] | rw [si_ne (by omega)] | rw [cp_in (by omega)] | rw [cp_ne (by omega)])))) (by ((try dsimp only); (repeat (first | rw [si_eq] | rw [si_ne (by omega)] | rw [cp_in (by omega)] | rw [cp_ne (by omega)])))) (by ((try dsimp only); (repeat (first | rw [si_eq] | rw [si_ne (by omega)] | rw [cp_in (by omega)] | rw [cp_ne (by omega)])))) (by ((try dsimp only); (repeat (first | rw [si_eq] | rw [si_ne (by omega)] | rw [cp_in (by omega)] | rw [cp_ne (by omega)])))) (fun j q1 q2 q3 => by ((try dsimp only); (repeat (first | rw [si_eq] | rw [si_ne (by omega)] | rw [cp_in (by omega)] | rw [cp_ne (by omega)])))) (by ((try dsimp only); (repeat (first | rw [si_eq] | rw [si_ne (by omega)] | rw [cp_in (by omega)] | rw [cp_ne (by omega)])))) (by ((try dsimp only); (repeat (first | rw [si_eq] | rw [si_ne (by omega)] | rw [cp_in (by omega)] | rw [cp_ne (by omega)])))) (by ((try dsimp only); (repeat (first | rw [si_eq] | rw [si_ne (by omega)] | rw [cp_in (by omega)] | rw [cp_ne (by omega)])))) (by ((try dsimp only); (repeat (first | rw [si_eq] | rw [si_ne (by omega)] | rw [cp_in (by omega)] | rw [cp_ne (by omega)]))))⟩
  · refine ok_bad h ?_ (fun ν h5 hB _ => ?_)
    · unfold f_X10_road
      rw [road_X0 (c1.trans s0) hn5 hx, bd2_some, tally_bad, bd2_some]
    · unfold f_X11_road
      rw [areT_bad ((hB 0).trans s0) hn5 hx, bd_some, if_pos rfl, badM h5, bd2_some]
