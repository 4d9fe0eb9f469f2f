/-! read: the row of tokens, the items; the class's parser -/
noncomputable def tq (T : Nat → Nat) (L p : Nat) : Nat × Nat × Nat × Nat := Classical.epsilon (fun q : Nat × Nat × Nat × Nat => Tok T L p q.1 q.2.1 q.2.2.1 q.2.2.2)
theorem tq_ok (T : Nat → Nat) {L p : Nat} (hp : p ≤ L) : Tok T L p (tq T L p).1 (tq T L p).2.1 (tq T L p).2.2.1 (tq T L p).2.2.2 := by
  obtain ⟨s, e, k, v, h⟩ := ex_tok T hp
  exact Classical.epsilon_spec (p := fun q : Nat × Nat × Nat × Nat => Tok T L p q.1 q.2.1 q.2.2.1 q.2.2.2) ⟨(s, e, k, v), h⟩
/-- from where the m-th token is looked for -/
noncomputable def ps (T : Nat → Nat) (L : Nat) : Nat → Nat
  | 0 => 0
  | m + 1 => (tq T L (ps T L m)).2.1
noncomputable def tS (T : Nat → Nat) (L m : Nat) : Nat := (tq T L (ps T L m)).1
noncomputable def tK (T : Nat → Nat) (L m : Nat) : Nat := (tq T L (ps T L m)).2.2.1
noncomputable def tV (T : Nat → Nat) (L m : Nat) : Nat := (tq T L (ps T L m)).2.2.2
theorem ps_le (T : Nat → Nat) (L : Nat) : ∀ m, ps T L m ≤ L := by
  intro m
  induction m with
  | zero => exact Nat.zero_le _
  | succ m ih => exact (tq_ok T ih).far.2.2.1
theorem tk_ok (T : Nat → Nat) (L m : Nat) : Tok T L (ps T L m) (tS T L m) (ps T L (m + 1)) (tK T L m) (tV T L m) := tq_ok T (ps_le T L m)
theorem tk_w {T : Nat → Nat} {L m : Nat} (h : tK T L m = 1) : tV T L m < 6 ∧ ps T L m + LN (tV T L m) ≤ ps T L (m + 1) := (tk_ok T L m).far.2.2.2.2.2 h
theorem tk_n {T : Nat → Nat} {L m : Nat} (h : tK T L m = 2) : tV T L m ≤ 99 := by
  have q := tk_ok T L m
  rw [h] at q
  exact q.num
theorem tk_1 {T : Nat → Nat} {L m : Nat} (h : tK T L m ≠ 0) : ps T L m + 1 ≤ ps T L (m + 1) := by
  have q := (tk_ok T L m).far
  have := q.2.2.2.2.1 h
  omega
theorem tk_4 (T : Nat → Nat) (L m : Nat) : tK T L m ≤ 4 := (tk_ok T L m).far.2.2.2.1
theorem ts_le (T : Nat → Nat) (L m : Nat) : tS T L m ≤ L := Nat.le_trans (tk_ok T L m).far.2.1 (tk_ok T L m).far.2.2.1
def due (w : Nat) : Nat := ([1, 3, 1, 2, 2, 1] : List Nat).getD w 0
theorem due_3 : ∀ w, w < 6 → due w ≤ 3 ∧ 6 ≤ LN w + due w ∧ NUMB w = nI (due w) := by decide +kernel
/-- the d-th token of the item i, which begins at the token m, is as it must be -/
def okd (T : Nat → Nat) (L i m d : Nat) : Prop := if d = 0 then tK T L m = 1 ∧ (tV T L m = 0 ↔ i = 0) else if d ≤ due (tV T L m) then tK T L (m + d) = 2 else tK T L (m + d) = 3
theorem okd_0 {T : Nat → Nat} {L i m : Nat} : okd T L i m 0 ↔ tK T L m = 1 ∧ (tV T L m = 0 ↔ i = 0) := by unfold okd; rw [if_pos rfl]
theorem okd_n {T : Nat → Nat} {L i m d : Nat} (h : d < due (tV T L m)) : okd T L i m (d + 1) ↔ tK T L (m + 1 + d) = 2 := by
  unfold okd
  rw [if_neg (by omega), if_pos (by omega), show m + (d + 1) = m + 1 + d by omega]
theorem okd_e {T : Nat → Nat} {L i m : Nat} : okd T L i m (due (tV T L m) + 1) ↔ tK T L (m + 1 + due (tV T L m)) = 3 := by
  unfold okd
  rw [if_neg (by omega), if_neg (by omega), show m + (due (tV T L m) + 1) = m + 1 + due (tV T L m) by omega]
/-- where the i-th item begins -/
noncomputable def itm (T : Nat → Nat) (L : Nat) : Nat → Nat
  | 0 => 0
  | i + 1 => itm T L i + due (tV T L (itm T L i)) + 2
def Gd (T : Nat → Nat) (L i : Nat) : Prop := ∀ d, d < due (tV T L (itm T L i)) + 2 → okd T L i (itm T L i) d
theorem first_bad (P : Nat → Prop) : ∀ n, (∀ d, d < n → P d) ∨ ∃ d, d < n ∧ ¬ P d ∧ ∀ d', d' < d → P d' := by
  intro n
  induction n with
  | zero => exact Or.inl (fun d hd => absurd hd (Nat.not_lt_zero d))
  | succ n ih =>
    rcases ih with h | ⟨d, h1, h2, h3⟩
    · by_cases q : P n
      · refine Or.inl (fun d hd => ?_)
        by_cases e : d = n
        · subst e; exact q
        · exact h d (by omega)
      · exact Or.inr ⟨n, by omega, q, h⟩
    · exact Or.inr ⟨d, by omega, h2, h3⟩
theorem gd_far {T : Nat → Nat} {L i : Nat} (h : Gd T L i) : ps T L (itm T L i) + 7 ≤ ps T L (itm T L (i + 1)) := by
  have h0 := okd_0.mp (h 0 (by omega))
  have w := tk_w h0.1
  have d3 := due_3 _ w.1
  have e : ∀ k, k ≤ due (tV T L (itm T L i)) + 1 → ps T L (itm T L i + 1) + k ≤ ps T L (itm T L i + 1 + k) := by
    intro k
    induction k with
    | zero => intro _; exact Nat.le_refl _
    | succ k ih =>
      intro hk
      have h1 := ih (by omega)
      have h2 : tK T L (itm T L i + 1 + k) ≠ 0 := by
        by_cases q : k < due (tV T L (itm T L i))
        · rw [(okd_n q).mp (h (k + 1) (by omega))]; decide
        · have e9 : k = due (tV T L (itm T L i)) := by omega
          rw [e9, okd_e.mp (h _ (by omega))]; decide
      have h3 := tk_1 h2
      have e8 : itm T L i + 1 + (k + 1) = itm T L i + 1 + k + 1 := by omega
      rw [e8]
      omega
  have h4 := e _ (Nat.le_refl _)
  have e7 : itm T L (i + 1) = itm T L i + 1 + (due (tV T L (itm T L i)) + 1) := by
    show itm T L i + due (tV T L (itm T L i)) + 2 = _
    omega
  rw [e7]
  omega
theorem gd_many {T : Nat → Nat} {L : Nat} : ∀ n, (∀ i, i < n → Gd T L i) → 7 * n ≤ ps T L (itm T L n) := by
  intro n
  induction n with
  | zero => intro _; omega
  | succ n ih =>
    intro h
    have h1 := ih (fun i hi => h i (by omega))
    have h2 := gd_far (h n (by omega))
    omega
theorem ex_items (T : Nat → Nat) {L : Nat} (hL : L ≤ 150) : ∃ N, N < 22 ∧ ¬ Gd T L N ∧ ∀ i, i < N → Gd T L i := by
  rcases first_bad (Gd T L) 22 with h | h
  · have h1 := gd_many 22 h
    have h2 := ps_le T L (itm T L 22)
    omega
  · exact h
theorem lp_upto {σ ε : Type} {F : σ → Option (σ ⊕ ε)} (I : Nat → σ → Prop) : ∀ c, (∀ j s, j < c → I j s → ∃ s', F s = some (.inl s') ∧ I (j + 1) s') → ∀ s, I 0 s → ∃ s', lp F s = lp F s' ∧ I c s' := by
  intro c
  induction c with
  | zero => intro _ s h; exact ⟨s, rfl, h⟩
  | succ c ih =>
    intro hs s h
    obtain ⟨s1, e1, i1⟩ := ih (fun j s hj => hs j s (by omega)) s h
    obtain ⟨s2, e2, i2⟩ := hs c s1 (by omega) i1
    exact ⟨s2, e1.trans (lp_inl e2), i2⟩
theorem two_if {α : Type} {p q : Prop} [Decidable p] [Decidable q] (A B : α) : (jn (fun (y2 : Int32) => jn (fun (y4 : Int32) => if y2 = y4 then A else B) fun j5 => if q then j5 1 else j5 0) fun j3 => if p then j3 1 else j3 0) = if (p ↔ q) then A else B := by
  unfold jn
  by_cases hp : p <;> by_cases hq : q <;> simp [hp, hq]
def AX (T : Nat → Nat) (L m : Nat) (M : Nat → Nat → Int32) : Prop := M 45 5 = nI (tS T L m) ∧ M 45 6 = nI (ps T L (m + 1)) ∧ M 45 7 = nI (tK T L m) ∧ (tK T L m = 1 ∨ tK T L m = 2 → M 45 8 = nI (tV T L m))
theorem next_X {T : Nat → Nat} {L m : Nat} {μ : Mem} (h : TX T L μ.1) (a : μ.1 45 6 = nI (ps T L m)) : ∃ ν, f_X8_step μ = some ν ∧ KX μ ν ∧ AX T L m ν.1 := by
  obtain ⟨ν, h1, h2, h3, h4, h5, h6⟩ := step_X h a (tk_ok T L m)
  exact ⟨ν, h1, h2, h3, h4, h5, h6⟩
theorem TX.as {T : Nat → Nat} {L : Nat} {M M' : Nat → Nat → Int32} (h : TX T L M) (h1 : M' 45 1 = M 45 1) (h2 : ∀ j, M' 46 j = M 46 j) : TX T L M' := ⟨h.1, h1.trans h.2.1, fun j hj => ⟨(h.2.2 j hj).1, (h2 j).trans (h.2.2 j hj).2⟩⟩
def PX (i : Nat) (μ ν : Mem) : Prop := ν.2 = μ.2 ∧ ∀ b j, ¬ (b = 45 ∧ 5 ≤ j) → ¬ (b = 47 ∧ j = i) → ¬ (b = 48 ∧ 3 * i ≤ j ∧ j < 3 * i + 3) → ν.1 b j = μ.1 b j
theorem PX.rfl {i : Nat} {μ : Mem} : PX i μ μ := ⟨Eq.refl _, fun _ _ _ _ _ => Eq.refl _⟩
theorem PX.k {i : Nat} {μ ν ξ : Mem} (h : PX i μ ν) (k : KX ν ξ) : PX i μ ξ := ⟨k.1.trans h.1, fun b j q1 q2 q3 => (k.2 b j q1).trans (h.2 b j q1 q2 q3)⟩
theorem PX.tx {T : Nat → Nat} {L i : Nat} {μ ν : Mem} (h : PX i μ ν) (t : TX T L μ.1) : TX T L ν.1 := t.as (h.2 _ _ (by omega) (by omega) (by omega)) (fun j => h.2 _ _ (by omega) (by omega) (by omega))
noncomputable def fiX (i w : Nat) : Int32 → Mem → Option ((Int32 × Mem) ⊕ (Mem ⊕ (Int32 × Mem))) := fun x3_8 ν9 =>
  if x3_8 < nI (due w) then
    if (ν9.1 45 7) = 2 then
      chk ((nI i * 3) + x3_8) 90 (lt (setI ν9 48 (ix ((nI i * 3) + x3_8)) (ν9.1 45 8)) fun ν12 =>
        bd (f_X8_step  ν12) fun ν13 =>
        some (.inl ((x3_8 + 1), ν13))
        )
    else
      some (.inr (.inr (0, ν9)))
  else
    some (.inr (.inl ν9))
theorem item_X0 {T : Nat → Nat} {L m i : Nat} {μ : Mem} (h : TX T L μ.1) (a : AX T L m μ.1) (hi : i < 30) (h0 : ¬ okd T L i m 0) : f_X8_parseItem (nI i) μ = some (0, μ) := by
  have k4 := tk_4 T L m
  unfold f_X8_parseItem
  rw [jn_eq, a.2.2.1]
  by_cases k1 : tK T L m = 1
  · have hv := (tk_w k1).1
    rw [k1, if_pos (by rfl), two_if, a.2.2.2 (Or.inl k1), if_neg]
    intro q
    refine h0 (okd_0.mpr ⟨k1, ?_⟩)
    have z1 : (nI (tV T L m) = 0) ↔ tV T L m = 0 := nI_eq (b := 0) (by omega) (by decide)
    have z2 : (nI i = 0) ↔ i = 0 := nI_eq (b := 0) (by omega) (by decide)
    rw [← z1, ← z2]
    exact q
  · rw [if_neg (by exact fun z => k1 ((nI_eq (b := 1) (by omega) (by decide)).mp z))]
theorem item_X1 {T : Nat → Nat} {L m i : Nat} {μ : Mem} (h : TX T L μ.1) (a : AX T L m μ.1) (hi : i < 30) (h0 : okd T L i m 0) : ∃ ν7, f_X8_parseItem (nI i) μ = bdr (lp (cu2 (fiX i (tV T L m))) (0, ν7)) (fun ν10 => if (ν10.1 45 7) = 3 then bd (f_X8_step  ν10) fun ν14 => some (1, ν14) else some (0, ν10)) (fun r => some r) ∧ PX i μ ν7 ∧ AX T L (m + 1) ν7.1 ∧ ν7.1 47 i = nI (tV T L m) := by
  obtain ⟨k1, h0⟩ := okd_0.mp h0
  have hv := (tk_w k1).1
  have e8 := a.2.2.2 (Or.inl k1)
  have e9 : (setI μ 47 i (nI (tV T L m))).1 45 8 = nI (tV T L m) := by rw [si_ne (by omega)]; exact e8
  obtain ⟨ν7, s1, s2, s3⟩ := next_X (m := m + 1) (μ := setI μ 47 i (nI (tV T L m))) (h.as (si_ne (by omega)) (fun j => si_ne (by omega))) (by rw [si_ne (by omega)]; exact a.2.1)
  refine ⟨ν7, ?_, ?_, s3, ?_⟩
  · unfold f_X8_parseItem
    rw [jn_eq, a.2.2.1, k1, if_pos (by rfl), two_if, e8, if_pos, chk_nI hi (by decide), lt_eq, ix_nI (i := i) (by omega), e9, chk_nI hv (by decide), ix_nI (i := tV T L m) (by omega), (due_3 _ hv).2.2, s1, bd_some]
    · rfl
    · have z1 : (nI (tV T L m) = 0) ↔ tV T L m = 0 := nI_eq (b := 0) (by omega) (by decide)
      have z2 : (nI i = 0) ↔ i = 0 := nI_eq (b := 0) (by omega) (by decide)
      rw [z1, z2]
      exact h0
  · exact ⟨s2.1, fun b j q1 q2 q3 => by rw [s2.2 b j q1, si_ne q2]⟩
  · rw [s2.2 _ _ (by omega)]
    exact si_eq
theorem item_X2 {T : Nat → Nat} {L m i c : Nat} {μ ν7 : Mem} (h : TX T L μ.1) (hi : i < 30) (hw : tV T L m < 6) (p7 : PX i μ ν7) (a7 : AX T L (m + 1) ν7.1) (m7 : ν7.1 47 i = nI (tV T L m)) (hc : c ≤ due (tV T L m)) (ho : ∀ d, d < c → okd T L i m (d + 1)) : ∃ x, lp (cu2 (fiX i (tV T L m))) (0, ν7) = lp (cu2 (fiX i (tV T L m))) x ∧ x.1 = nI c ∧ PX i μ x.2 ∧ AX T L (m + 1 + c) x.2.1 ∧ x.2.1 47 i = nI (tV T L m) ∧ ∀ k, k < c → x.2.1 48 (3 * i + k) = nI (tV T L (m + 1 + k)) := by
  have d3 := due_3 _ hw
  refine lp_upto (fun k x => x.1 = nI k ∧ PX i μ x.2 ∧ AX T L (m + 1 + k) x.2.1 ∧ x.2.1 47 i = nI (tV T L m) ∧ ∀ k', k' < k → x.2.1 48 (3 * i + k') = nI (tV T L (m + 1 + k'))) c (fun k x hk hI => ?_) (0, ν7) ⟨rfl, p7, a7, m7, fun k hk => absurd hk (Nat.not_lt_zero k)⟩
  obtain ⟨x, ν⟩ := x
  obtain ⟨i0, i1, i2, i3, i4⟩ := hI
  dsimp only at i0 i1 i2 i3 i4
  subst i0
  have k2 := (okd_n (by omega)).mp (ho k hk)
  have e8 := i2.2.2.2 (Or.inr k2)
  have e3 : nI i * 3 + nI k = nI (3 * i + k) := by
    rw [show (3 : Int32) = nI 3 from rfl, ni_mul, ni_add, Nat.mul_comm]
  have tx := i1.tx h
  obtain ⟨ν1, s1, s2, s3⟩ := next_X (m := m + 1 + k + 1) (μ := setI ν 48 (3 * i + k) (nI (tV T L (m + 1 + k)))) (tx.as (si_ne (by omega)) (fun j => si_ne (by omega))) (by rw [si_ne (by omega)]; exact i2.2.1)
  refine ⟨(nI (k + 1), ν1), ?_, rfl, ?_, s3, ?_, fun k' hk' => ?_⟩
  · rw [cu2_eq]
    unfold fiX
    rw [if_pos ((nI_ltI (by omega) (by omega)).mpr (by omega)), i2.2.2.1, k2, if_pos (by rfl), e3, chk_nI (by omega) (by decide), lt_eq, ix_nI (by omega), e8, s1, bd_some, nI_succ]
  · exact ⟨s2.1.trans i1.1, fun b j q1 q2 q3 => by rw [s2.2 b j q1, si_ne (by omega), i1.2 b j q1 q2 q3]⟩
  · rw [s2.2 _ _ (by omega), si_ne (by omega)]
    exact i3
  · rw [s2.2 _ _ (by omega)]
    by_cases e : k' = k
    · subst e; exact si_eq
    · rw [si_ne (by omega)]
      exact i4 k' (by omega)
theorem item_X {T : Nat → Nat} {L m i : Nat} {μ : Mem} (h : TX T L μ.1) (a : AX T L m μ.1) (hi : i < 30) (hg : ∀ d, d < due (tV T L m) + 2 → okd T L i m d) : ∃ ν, f_X8_parseItem (nI i) μ = some (1, ν) ∧ PX i μ ν ∧ AX T L (m + due (tV T L m) + 2) ν.1 ∧ ν.1 47 i = nI (tV T L m) ∧ ∀ k, k < due (tV T L m) → ν.1 48 (3 * i + k) = nI (tV T L (m + 1 + k)) := by
  have h0 := hg 0 (by omega)
  have hw := (tk_w (okd_0.mp h0).1).1
  have d3 := due_3 _ hw
  obtain ⟨ν7, e1, p7, a7, m7⟩ := item_X1 h a hi h0
  obtain ⟨⟨x, ν⟩, e2, i0, i1, i2, i3, i4⟩ := item_X2 h hi hw p7 a7 m7 (Nat.le_refl _) (fun d hd => hg (d + 1) (by omega))
  dsimp only at i0 i1 i2 i3 i4
  subst i0
  have k3 := okd_e.mp (hg _ (by omega))
  obtain ⟨ν1, s1, s2, s3⟩ := next_X (m := m + 1 + due (tV T L m) + 1) (μ := ν) (i1.tx h) i2.2.1
  refine ⟨ν1, ?_, i1.k s2, ?_, by rw [s2.2 _ _ (by omega)]; exact i3, fun k hk => by rw [s2.2 _ _ (by omega)]; exact i4 k hk⟩
  · rw [e1, e2, lp_inr (e := .inl ν) (by rw [cu2_eq]; unfold fiX; rw [if_neg (fun z => Nat.lt_irrefl _ ((nI_ltI (by omega) (by omega)).mp z))]), bdr_l, i2.2.2.1, k3, if_pos (by rfl), s1, bd_some]
  · rw [show m + due (tV T L m) + 2 = m + 1 + due (tV T L m) + 1 by omega]
    exact s3
theorem item_XF {T : Nat → Nat} {L m i d : Nat} {μ : Mem} (h : TX T L μ.1) (a : AX T L m μ.1) (hi : i < 30) (hd : d < due (tV T L m) + 2) (hb : ¬ okd T L i m d) (hg : ∀ d', d' < d → okd T L i m d') : ∃ ν, f_X8_parseItem (nI i) μ = some (0, ν) ∧ PX i μ ν ∧ AX T L (m + d) ν.1 := by
  cases d with
  | zero => exact ⟨μ, item_X0 h a hi hb, PX.rfl, a⟩
  | succ d =>
    have h0 := hg 0 (by omega)
    have hw := (tk_w (okd_0.mp h0).1).1
    have d3 := due_3 _ hw
    obtain ⟨ν7, e1, p7, a7, m7⟩ := item_X1 h a hi h0
    obtain ⟨⟨x, ν⟩, e2, i0, i1, i2, i3, i4⟩ := item_X2 (c := d) h hi hw p7 a7 m7 (by omega) (fun d' hd' => hg (d' + 1) (by omega))
    dsimp only at i0 i1 i2 i3 i4
    subst i0
    have k4 := tk_4 T L (m + 1 + d)
    refine ⟨ν, ?_, i1, by rw [show m + (d + 1) = m + 1 + d by omega]; exact i2⟩
    by_cases q : d < due (tV T L m)
    · have k2 : ¬ tK T L (m + 1 + d) = 2 := fun z => hb ((okd_n q).mpr z)
      rw [e1, e2, lp_inr (e := .inr (0, ν)) (by rw [cu2_eq]; unfold fiX; rw [if_pos ((nI_ltI (by omega) (by omega)).mpr q), i2.2.2.1, if_neg (by exact fun z => k2 ((nI_eq (b := 2) (by omega) (by decide)).mp z))]), bdr_r]
    · have e9 : d = due (tV T L m) := by omega
      have k3 : ¬ tK T L (m + 1 + d) = 3 := fun z => hb (by rw [e9]; exact okd_e.mpr (by rw [← e9]; exact z))
      rw [e1, e2, lp_inr (e := .inl ν) (by rw [cu2_eq]; unfold fiX; rw [if_neg (fun z => q ((nI_ltI (by omega) (by omega)).mp z))]), bdr_l, i2.2.2.1, if_neg (by exact fun z => k3 ((nI_eq (b := 3) (by omega) (by decide)).mp z))]
/-- the items that are kept -/
def SX (T : Nat → Nat) (L N : Nat) (M : Nat → Nat → Int32) : Prop := ∀ i, i < N → M 47 i = nI (tV T L (itm T L i)) ∧ ∀ k, k < due (tV T L (itm T L i)) → M 48 (3 * i + k) = nI (tV T L (itm T L i + 1 + k))
def FX (μ ν : Mem) : Prop := ν.2 = μ.2 ∧ ∀ b j, ¬ (b = 45 ∧ (j = 2 ∨ 5 ≤ j)) → b ≠ 47 → b ≠ 48 → ν.1 b j = μ.1 b j
theorem FX.tx {T : Nat → Nat} {L : Nat} {μ ν : Mem} (h : FX μ ν) (t : TX T L μ.1) : TX T L ν.1 := t.as (h.2 _ _ (by omega) (by omega) (by omega)) (fun j => h.2 _ _ (by omega) (by omega) (by omega))
noncomputable def fpX : Int32 → Mem → Option ((Int32 × Mem) ⊕ (Mem ⊕ (Int32 × Mem))) := fun x1_4 ν5 =>
    if x1_4 < 30 then
      jn (
        bd2 (f_X8_parseItem x1_4 ν5) fun r9 ν10 =>
        if r9 = 0 then
          some (.inr (.inr ((ν10.1 45 5), ν10)))
        else
          lt (setI ν10 45 2 ((ν10.1 45 2) + 1)) fun ν11 =>
          some (.inl ((x1_4 + 1), ν11))
        ) fun j8 =>
      if 0 < x1_4 then
        if (ν5.1 45 7) = 0 then
          some (.inr (.inr ((-1), ν5)))
        else
          j8
      else
        j8
    else
      some (.inr (.inl ν5))
theorem fpX_on {i : Nat} {ν : Mem} (hi : i < 30) (h : ¬ (0 < i ∧ ν.1 45 7 = 0)) : fpX (nI i) ν = bd2 (f_X8_parseItem (nI i) ν) fun r9 ν10 => if r9 = 0 then some (.inr (.inr ((ν10.1 45 5), ν10))) else lt (setI ν10 45 2 ((ν10.1 45 2) + 1)) fun ν11 => some (.inl ((nI i + 1), ν11)) := by
  unfold fpX
  rw [if_pos (by exact (nI_ltI (b := 30) (by omega) (by decide)).mpr hi), jn_eq]
  by_cases q : 0 < i
  · rw [if_pos (by exact (nI_ltI (a := 0) (by decide) (by omega)).mpr q), if_neg (fun z => h ⟨q, z⟩)]
  · rw [if_neg (by exact fun z => q ((nI_ltI (a := 0) (by decide) (by omega)).mp z))]
theorem parse_X {T : Nat → Nat} {L N : Nat} {μ : Mem} (h : TX T L μ.1) (hN : N < 22) (hb : ¬ Gd T L N) (hg : ∀ i, i < N → Gd T L i) : ((0 < N ∧ tK T L (itm T L N) = 0) → ∃ ν, f_X8_parse μ = some (-1, ν) ∧ FX μ ν ∧ SX T L N ν.1 ∧ ν.1 45 2 = nI N) ∧ (¬ (0 < N ∧ tK T L (itm T L N) = 0) → ∀ d, d < due (tV T L (itm T L N)) + 2 → ¬ okd T L N (itm T L N) d → (∀ d', d' < d → okd T L N (itm T L N) d') → ∃ ν, f_X8_parse μ = some (nI (tS T L (itm T L N + d)), ν) ∧ FX μ ν) := by
  have h2 : TX T L (setI (setI μ 45 2 0) 45 6 0).1 := h.as (by rw [si_ne (by omega), si_ne (by omega)]) (fun j => by rw [si_ne (by omega), si_ne (by omega)])
  obtain ⟨ν3, s1, s2, s3⟩ := next_X (m := 0) (μ := setI (setI μ 45 2 0) 45 6 0) h2 si_eq
  have e0 : ∀ G H, f_X8_parse μ = bdr (lp (cu2 fpX) (0, ν3)) G H ↔ bdr (lp (cu2 fpX) (0, ν3)) (fun (ν6 : Mem) => some ((ν6.1 45 5), ν6)) (fun r => some r) = bdr (lp (cu2 fpX) (0, ν3)) G H := by
    intro G H
    unfold f_X8_parse
    rw [lt_eq, lt_eq, s1, bd_some]
    exact Iff.rfl
  have e1 : f_X8_parse μ = bdr (lp (cu2 fpX) (0, ν3)) (fun (ν6 : Mem) => some ((ν6.1 45 5), ν6)) (fun r => some r) := (e0 _ _).mpr rfl
  obtain ⟨⟨x, ν⟩, e2, i0, i1, i2, i3, i4⟩ := lp_upto (F := cu2 fpX) (fun i x => x.1 = nI i ∧ FX μ x.2 ∧ AX T L (itm T L i) x.2.1 ∧ SX T L i x.2.1 ∧ x.2.1 45 2 = nI i) N (fun i x hi hI => by
    obtain ⟨x, ν⟩ := x
    obtain ⟨i0, i1, i2, i3, i4⟩ := hI
    dsimp only at i0 i1 i2 i3 i4
    subst i0
    have g := hg i hi
    have k1 := (okd_0.mp (g 0 (by omega))).1
    obtain ⟨ν1, p1, p2, p3, p4, p5⟩ := item_X (i1.tx h) i2 (by omega) g
    refine ⟨(nI (i + 1), setI ν1 45 2 (nI (i + 1))), ?_, rfl, ?_, ?_, ?_, si_eq⟩
    · rw [cu2_eq, fpX_on (by omega) (fun z => by
        have := z.2
        rw [i2.2.2.1, k1] at this
        exact absurd this (by decide)), p1, bd2_some, if_neg (by decide), lt_eq, p2.2 _ _ (by omega) (by omega) (by omega), i4, nI_succ]
    · exact ⟨p2.1.trans i1.1, fun b j q1 q2 q3 => by rw [si_ne (by omega), p2.2 b j (by omega) (by omega) (by omega), i1.2 b j q1 q2 q3]⟩
    · obtain ⟨a1, a2, a3, a4⟩ := p3
      refine ⟨?_, ?_, ?_, fun q => ?_⟩
      · dsimp only; rw [si_ne (by omega)]; exact a1
      · dsimp only; rw [si_ne (by omega)]; exact a2
      · dsimp only; rw [si_ne (by omega)]; exact a3
      · dsimp only; rw [si_ne (by omega)]; exact a4 q
    · intro i' hi'
      dsimp only
      by_cases e : i' = i
      · subst e
        refine ⟨by rw [si_ne (by omega)]; exact p4, fun k hk => by rw [si_ne (by omega)]; exact p5 k hk⟩
      · have w := (tk_w (okd_0.mp (hg i' (by omega) 0 (by omega))).1).1
        have d3 := due_3 _ w
        obtain ⟨b1, b2⟩ := i3 i' (by omega)
        refine ⟨?_, fun k hk => ?_⟩
        · rw [si_ne (by omega), p2.2 _ _ (by omega) (by omega) (by omega)]; exact b1
        · rw [si_ne (by omega), p2.2 _ _ (by omega) (by omega) (by omega)]; exact b2 k hk) (0, ν3) ⟨rfl, ⟨s2.1, fun b j q1 q2 q3 => by rw [s2.2 b j (by omega), si_ne (by omega), si_ne (by omega)]⟩, s3, fun i hi => absurd hi (Nat.not_lt_zero i), by
      dsimp only
      rw [s2.2 _ _ (by omega), si_ne (by omega), si_eq]; rfl⟩
  dsimp only at i0 i1 i2 i3 i4
  subst i0
  rw [e1, e2]
  constructor
  · intro q
    refine ⟨ν, ?_, i1, i3, i4⟩
    rw [lp_inr (e := .inr (-1, ν)) (by
      rw [cu2_eq]
      unfold fpX
      rw [if_pos (by exact (nI_ltI (b := 30) (by omega) (by decide)).mpr (by omega)), jn_eq, if_pos (by exact (nI_ltI (a := 0) (by decide) (by omega)).mpr q.1), i2.2.2.1, q.2, if_pos (by rfl)]), bdr_r]
  · intro q d hd hb hg
    obtain ⟨ν1, p1, p2, p3⟩ := item_XF (i1.tx h) i2 (by omega) hd hb hg
    have k4 := tk_4 T L (itm T L N)
    refine ⟨ν1, ?_, p2.1.trans i1.1, fun b j q1 q2 q3 => by rw [p2.2 b j (by omega) (by omega) (by omega), i1.2 b j q1 q2 q3]⟩
    rw [lp_inr (e := .inr (nI (tS T L (itm T L N + d)), ν1)) (by
      rw [cu2_eq, fpX_on (by omega) (fun z => q ⟨z.1, by
        have := z.2
        rw [i2.2.2.1] at this
        exact (nI_eq (b := 0) (by omega) (by decide)).mp this⟩), p1, bd2_some, if_pos rfl, p3.1]), bdr_r]
