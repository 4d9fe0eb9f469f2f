/-! ways and guards: unseen, cut -/
theorem fa_or (a b : Nat) : nI a ||| nI b = nI (a ||| b) := b_ext (fun i hi => by rw [b_or, bt_nI hi, bt_nI hi, bt_nI hi, Nat.testBit_or])
/-- one step over the roads -/
def stN (A B : Nat → Nat) (op : Nat → Bool) (s : Nat) : Nat → Nat
  | 0 => s
  | i + 1 => (stN A B op s i ||| (if (op i && s.testBit (A i)) = true then 2 ^ B i else 0)) ||| (if (op i && s.testBit (B i)) = true then 2 ^ A i else 0)
theorem stN_congr {A B : Nat → Nat} {op op' : Nat → Bool} {s : Nat} : ∀ {r : Nat}, (∀ i, i < r → op i = op' i) → stN A B op s r = stN A B op' s r
  | 0, _ => rfl
  | r + 1, h => by
    show (stN A B op s r ||| (if (op r && s.testBit (A r)) = true then 2 ^ B r else 0)) ||| (if (op r && s.testBit (B r)) = true then 2 ^ A r else 0) = (stN A B op' s r ||| (if (op' r && s.testBit (A r)) = true then 2 ^ B r else 0)) ||| (if (op' r && s.testBit (B r)) = true then 2 ^ A r else 0)
    rw [stN_congr (fun i hi => h i (by omega)), h r (by omega)]
theorem stN_lt {A B : Nat → Nat} {op : Nat → Bool} {s : Nat} (hs : s < 2 ^ 5) : ∀ {r : Nat}, (∀ i, i < r → A i < 5 ∧ B i < 5) → stN A B op s r < 2 ^ 5
  | 0, _ => hs
  | r + 1, h => by
    have P : ∀ (c : Bool) (v : Nat), v < 5 → (if c = true then 2 ^ v else 0) < 2 ^ 5 := fun c v hv => by
      cases c
      · rw [if_neg (by decide)]; decide
      · rw [if_pos rfl]; exact Nat.pow_lt_pow_right (by decide) hv
    exact Nat.or_lt_two_pow (Nat.or_lt_two_pow (stN_lt hs (fun i hi => h i (by omega))) (P _ _ (h r (by omega)).2)) (P _ _ (h r (by omega)).1)
theorem stN_sup {A B : Nat → Nat} {op : Nat → Bool} {s : Nat} : ∀ r, s ||| stN A B op s r = stN A B op s r
  | 0 => Nat.or_self s
  | r + 1 => by
    show s ||| ((stN A B op s r ||| _) ||| _) = _
    rw [← Nat.or_assoc, ← Nat.or_assoc, stN_sup r]
    rfl
theorem stN_off {A B : Nat → Nat} {s : Nat} : ∀ r, stN A B (fun _ => false) s r = s
  | 0 => rfl
  | r + 1 => by
    show (stN A B (fun _ => false) s r ||| 0) ||| 0 = s
    rw [stN_off r, Nat.or_zero, Nat.or_zero]
/-- what is reached in t steps -/
def itS (A B : Nat → Nat) (op : Nat → Bool) (r s : Nat) : Nat → Nat
  | 0 => s
  | t + 1 => stN A B op (itS A B op r s t) r
theorem itS_congr {A B : Nat → Nat} {op op' : Nat → Bool} {r s : Nat} (h : ∀ i, i < r → op i = op' i) : ∀ t, itS A B op r s t = itS A B op' r s t
  | 0 => rfl
  | t + 1 => by
    show stN A B op (itS A B op r s t) r = stN A B op' (itS A B op' r s t) r
    rw [itS_congr h t, stN_congr h]
theorem itS_lt {A B : Nat → Nat} {op : Nat → Bool} {r s : Nat} (hs : s < 2 ^ 5) (h : ∀ i, i < r → A i < 5 ∧ B i < 5) : ∀ t, itS A B op r s t < 2 ^ 5
  | 0 => hs
  | t + 1 => stN_lt (itS_lt hs h t) h
theorem itS_off {A B : Nat → Nat} {r s : Nat} : ∀ t, itS A B (fun _ => false) r s t = s
  | 0 => rfl
  | t + 1 => by
    show stN A B (fun _ => false) (itS A B (fun _ => false) r s t) r = s
    rw [itS_off t, stN_off]
theorem gtab : ∀ a : Fin 32, ∀ b : Fin 32, a.1 ||| b.1 = b.1 → a.1 ≠ b.1 → popN a.1 10 + 1 ≤ popN b.1 10 := by decide +kernel
theorem gtab5 : ∀ a : Fin 32, 5 ≤ popN a.1 10 → a.1 = 31 := by decide +kernel
theorem gtab1 : ∀ a : Fin 5, popN (2 ^ a.1) 10 = 1 := by decide +kernel
theorem itS_fix {A B : Nat → Nat} {op : Nat → Bool} {r s : Nat} {t : Nat} (h : itS A B op r s (t + 1) = itS A B op r s t) : ∀ d, itS A B op r s (t + d) = itS A B op r s t
  | 0 => rfl
  | d + 1 => by
    show stN A B op (itS A B op r s (t + d)) r = _
    rw [itS_fix h d]
    exact h
theorem itS_45 {A B : Nat → Nat} {op : Nat → Bool} {r a : Nat} (ha : a < 5) (h : ∀ i, i < r → A i < 5 ∧ B i < 5) : itS A B op r (2 ^ a) 5 = itS A B op r (2 ^ a) 4 := by
  have hs : 2 ^ a < 2 ^ 5 := Nat.pow_lt_pow_right (by decide) ha
  have L := fun t => itS_lt (op := op) hs h t
  have G : ∀ t, itS A B op r (2 ^ a) (t + 1) = itS A B op r (2 ^ a) t ∨ popN (itS A B op r (2 ^ a) t) 10 + 1 ≤ popN (itS A B op r (2 ^ a) (t + 1)) 10 := fun t => by
    by_cases e : itS A B op r (2 ^ a) (t + 1) = itS A B op r (2 ^ a) t
    · exact Or.inl e
    · exact Or.inr (gtab ⟨_, L t⟩ ⟨_, L (t + 1)⟩ (stN_sup r) (fun q => e q.symm))
  have F : ∀ t, t ≤ 4 → itS A B op r (2 ^ a) (t + 1) = itS A B op r (2 ^ a) t → itS A B op r (2 ^ a) 5 = itS A B op r (2 ^ a) 4 := fun t ht e => by
    have q5 := itS_fix e (5 - t)
    have q4 := itS_fix e (4 - t)
    rw [show t + (5 - t) = 5 by omega] at q5
    rw [show t + (4 - t) = 4 by omega] at q4
    rw [q5, q4]
  rcases G 0 with e | g0
  · exact F 0 (by omega) e
  rcases G 1 with e | g1
  · exact F 1 (by omega) e
  rcases G 2 with e | g2
  · exact F 2 (by omega) e
  rcases G 3 with e | g3
  · exact F 3 (by omega) e
  rcases G 4 with e | g4
  · exact e
  exfalso
  have k0 : popN (itS A B op r (2 ^ a) 0) 10 + 1 ≤ popN (itS A B op r (2 ^ a) 1) 10 := g0
  have k1 : popN (itS A B op r (2 ^ a) 1) 10 + 1 ≤ popN (itS A B op r (2 ^ a) 2) 10 := g1
  have k2 : popN (itS A B op r (2 ^ a) 2) 10 + 1 ≤ popN (itS A B op r (2 ^ a) 3) 10 := g2
  have k3 : popN (itS A B op r (2 ^ a) 3) 10 + 1 ≤ popN (itS A B op r (2 ^ a) 4) 10 := g3
  have k4 : popN (itS A B op r (2 ^ a) 4) 10 + 1 ≤ popN (itS A B op r (2 ^ a) 5) 10 := g4
  have p0 : popN (itS A B op r (2 ^ a) 0) 10 = 1 := gtab1 ⟨a, ha⟩
  have e4 : itS A B op r (2 ^ a) 4 = 31 := gtab5 ⟨_, L 4⟩ (show 5 ≤ popN (itS A B op r (2 ^ a) 4) 10 by omega)
  have e5 : itS A B op r (2 ^ a) 5 = 31 := gtab5 ⟨_, L 5⟩ (show 5 ≤ popN (itS A B op r (2 ^ a) 5) 10 by omega)
  rw [e5, e4] at k4
  omega
/-- open roads -/
def opn (gd : Nat) : Nat → Nat
  | 0 => 0
  | i + 1 => opn gd i ||| (if gd.testBit i then 0 else 2 ^ i)
theorem opn_lt (gd : Nat) : ∀ r, opn gd r < 2 ^ r
  | 0 => by show (0 : Nat) < 2 ^ 0; decide
  | r + 1 => by
    refine Nat.or_lt_two_pow (Nat.lt_trans (opn_lt gd r) (Nat.pow_lt_pow_right (by decide) (by omega))) ?_
    cases gd.testBit r
    · rw [if_neg (by decide)]; exact Nat.pow_lt_pow_right (by decide) (by omega)
    · rw [if_pos rfl]; exact Nat.pos_of_ne_zero (by have := Nat.one_le_two_pow (n := r + 1); omega)
theorem opn_bit (gd j : Nat) : ∀ r, (opn gd r).testBit j = (decide (j < r) && !gd.testBit j)
  | 0 => by
    show Nat.testBit 0 j = _
    rw [Nat.zero_testBit, decide_eq_false (by omega), Bool.false_and]
  | r + 1 => by
    show (opn gd r ||| (if gd.testBit r then 0 else 2 ^ r)).testBit j = _
    rw [Nat.testBit_or, opn_bit gd j r]
    by_cases e : j = r
    · subst e
      rw [decide_eq_false (by omega), Bool.false_and, Bool.false_or, decide_eq_true (by omega), Bool.true_and]
      cases gd.testBit j
      · rw [if_neg (by decide), Nat.testBit_two_pow, decide_eq_true rfl]; rfl
      · rw [if_pos rfl, Nat.zero_testBit]; rfl
    · have : (if gd.testBit r = true then 0 else 2 ^ r).testBit j = false := by
        cases gd.testBit r
        · rw [if_neg (by decide), Nat.testBit_two_pow, decide_eq_false (fun q => e q.symm)]
        · rw [if_pos rfl, Nat.zero_testBit]
      rw [this, Bool.or_false]
      by_cases q : j < r
      · rw [decide_eq_true q, decide_eq_true (by omega)]
      · rw [decide_eq_false q, decide_eq_false (by omega)]
section ROADS
variable {r : Nat} {A B : Nat → Nat} {μ : Mem}
def RdX (k : Nat) (M : Nat → Nat → Int32) (r : Nat) (A B : Nat → Nat) : Prop := M k 0 = nI r ∧ r ≤ 10 ∧ ∀ i, i < r → (A i < 5 ∧ B i < 5) ∧ M (k + 1) i = nI (A i) ∧ M (k + 2) i = nI (B i)
def RdY (M : Nat → Nat → Int32) (r : Nat) (A B : Nat → Nat) : Prop := M 113 2 = nI r ∧ r ≤ 10 ∧ ∀ i, i < r → (A i < 5 ∧ B i < 5) ∧ M 113 (41 + 3 * i) = nI (A i) ∧ M 113 (41 + 3 * i + 1) = nI (B i)
theorem sp_X {k : Nat} (hx : RdX k μ.1 r A B) (s : Nat) (x : Int32) : f_X7_spread k (nI s) x μ = some (nI (stN A B (fun i => !(bt x i)) s r)) := by
  obtain ⟨m0, hr, hR⟩ := hx
  unfold f_X7_spread
  rw [m0]
  refine (bd_for (e := nI (stN A B (fun i => !(bt x i)) s r)) (fun i => (nI (stN A B (fun i => !(bt x i)) s i), nI i)) r rfl (fun i hi => ?_) ?_).trans rfl
  · obtain ⟨⟨a5, b5⟩, ea, eb⟩ := hR i hi
    rw [cu2_eq, if_pos ((nI_ltI (by omega) (by omega)).mpr hi), ix_nI (by omega), ea, eb, shl1 _ (by omega), shl1 _ (by omega)]
    simp only [jn_eq, lt_eq, chk_nI (show i < 10 by omega) (show 10 < 2 ^ 31 by decide), fa_or, ← nI_succ]
    show _ = some (Sum.inl (nI ((stN A B (fun i => !(bt x i)) s i ||| (if (!(bt x i) && s.testBit (A i)) = true then 2 ^ B i else 0)) ||| (if (!(bt x i) && s.testBit (B i)) = true then 2 ^ A i else 0)), _))
    by_cases q : bt x i = true
    · rw [if_neg (fun z => by rw [(bit_0 (by omega)).mp z] at q; cases q), q]
      simp
    · have q' : bt x i = false := by cases h : bt x i <;> simp_all
      rw [if_pos ((bit_0 (by omega)).mpr q'), q']
      by_cases qa : s.testBit (A i) = true
      · rw [if_pos ((bit_1 (by omega)).mpr (by rw [bt_nI (by omega)]; exact qa)), qa]
        by_cases qb : s.testBit (B i) = true
        · rw [if_pos ((bit_1 (by omega)).mpr (by rw [bt_nI (by omega)]; exact qb)), qb]
          simp
        · rw [if_neg (fun z => qb (by rw [← bt_nI (by omega)]; exact (bit_1 (by omega)).mp z))]
          simp [qb]
      · rw [if_neg (fun z => qa (by rw [← bt_nI (by omega)]; exact (bit_1 (by omega)).mp z))]
        by_cases qb : s.testBit (B i) = true
        · rw [if_pos ((bit_1 (by omega)).mpr (by rw [bt_nI (by omega)]; exact qb)), qb]
          simp [qa]
        · rw [if_neg (fun z => qb (by rw [← bt_nI (by omega)]; exact (bit_1 (by omega)).mp z))]
          simp [qa, qb]
  · rw [cu2_eq, if_neg (fun q => Nat.lt_irrefl _ ((nI_ltI (by omega) (by omega)).mp q))]
theorem sp_Y (hx : RdY μ.1 r A B) (s : Nat) (x : Int32) : f_X11_steps (nI s) x μ = some (nI (stN A B (fun i => bt x i) s r)) := by
  obtain ⟨m0, hr, hR⟩ := hx
  unfold f_X11_steps
  rw [m0]
  refine (bd_for (e := nI (stN A B (fun i => bt x i) s r)) (fun i => (nI (stN A B (fun i => bt x i) s i), nI i)) r rfl (fun i hi => ?_) ?_).trans rfl
  · obtain ⟨⟨a5, b5⟩, ea, eb⟩ := hR i hi
    rw [cu2_eq, if_pos ((nI_ltI (by omega) (by omega)).mpr hi), show (41 : Int32) = nI 41 from rfl, show (3 : Int32) = nI 3 from rfl, ni_mul 3 i, ni_add, chk_nI (by omega) (by decide), lt_eq, nI_1, chk_nI (by omega) (by decide), lt_eq, ix_nI (i := 41 + 3 * i) (by omega), ix_nI (i := 41 + 3 * i + 1) (by omega), ea, eb, shl1 _ (by omega), shl1 _ (by omega)]
    simp only [jn_eq, ← nI_succ]
    show _ = some (Sum.inl (nI ((stN A B (fun i => bt x i) s i ||| (if (bt x i && s.testBit (A i)) = true then 2 ^ B i else 0)) ||| (if (bt x i && s.testBit (B i)) = true then 2 ^ A i else 0)), _))
    rw [← fa_or, ← fa_or]
    by_cases q : bt x i = true
    · rw [if_pos ((bit_1 (by omega)).mpr q), q]
      by_cases qa : s.testBit (A i) = true
      · rw [if_neg (by decide), if_pos ((bit_1 (by omega)).mpr (by rw [bt_nI (by omega)]; exact qa)), qa]
        by_cases qb : s.testBit (B i) = true
        · rw [if_neg (by decide), if_pos ((bit_1 (by omega)).mpr (by rw [bt_nI (by omega)]; exact qb)), qb]
          rfl
        · rw [if_neg (by decide), if_neg (fun z => qb (by rw [← bt_nI (by omega)]; exact (bit_1 (by omega)).mp z))]
          simp [qb, nI_0]
      · rw [if_neg (by decide), if_neg (fun z => qa (by rw [← bt_nI (by omega)]; exact (bit_1 (by omega)).mp z))]
        by_cases qb : s.testBit (B i) = true
        · rw [if_neg (by decide), if_pos ((bit_1 (by omega)).mpr (by rw [bt_nI (by omega)]; exact qb)), qb]
          simp [qa, nI_0]
        · rw [if_neg (by decide), if_neg (fun z => qb (by rw [← bt_nI (by omega)]; exact (bit_1 (by omega)).mp z))]
          simp [qa, qb, nI_0]
    · rw [if_neg (fun z => q ((bit_1 (by omega)).mp z))]
      simp [q, nI_0]
  · rw [cu2_eq, if_neg (fun q => Nat.lt_irrefl _ ((nI_ltI (by omega) (by omega)).mp q))]
theorem op_Y {gd : Nat} (hx : RdY μ.1 r A B) (hg : ∀ i, i < r → μ.1 113 (41 + 3 * i + 2) = if gd.testBit i then 1 else 0) : f_X11_openRoads μ = some (nI (opn gd r)) := by
  obtain ⟨m0, hr, hR⟩ := hx
  unfold f_X11_openRoads
  rw [m0]
  refine (bd_for (e := nI (opn gd r)) (fun i => (nI (opn gd i), nI i)) r rfl (fun i hi => ?_) ?_).trans rfl
  · rw [cu2_eq, if_pos ((nI_ltI (by omega) (by omega)).mpr hi), show (41 : Int32) = nI 41 from rfl, show (3 : Int32) = nI 3 from rfl, ni_mul 3 i, ni_add, show (2 : Int32) = nI 2 from rfl, ni_add, chk_nI (by omega) (by decide), jn_eq, ix_nI (by omega), hg i hi, shl1 i (by omega), ← nI_succ]
    show _ = some (Sum.inl (nI (opn gd i ||| (if gd.testBit i then 0 else 2 ^ i)), _))
    rw [← fa_or]
    cases gd.testBit i
    · rfl
    · rfl
  · rw [cu2_eq, if_neg (fun q => Nat.lt_irrefl _ ((nI_ltI (by omega) (by omega)).mp q))]
theorem side_X {k a : Nat} (hx : RdX k μ.1 r A B) (ha : a < 5) (x : Int32) : f_X7_sideOf k (nI a) x μ = some (nI (itS A B (fun i => !(bt x i)) r (2 ^ a) 4)) := by
  unfold f_X7_sideOf
  rw [shl1 a (by omega)]
  refine (bd_for (e := nI (itS A B (fun i => !(bt x i)) r (2 ^ a) 4)) (fun t => (nI (itS A B (fun i => !(bt x i)) r (2 ^ a) t), nI (t + 1))) 4 rfl (fun t ht => ?_) ?_).trans rfl
  · rw [cu2_eq, if_pos (by exact (nI_ltI (b := 5) (by omega) (by decide)).mpr (by omega)), sp_X hx, bd_some, ← nI_succ]
    rfl
  · rw [cu2_eq, if_neg (by decide)]
theorem reach_Y {a : Nat} (hx : RdY μ.1 r A B) (ha : a < 5) (x : Int32) : f_X11_reaches (nI a) x μ = some (nI (itS A B (fun i => bt x i) r (2 ^ a) 4)) := by
  rw [← itS_45 ha (fun i hi => (hx.2.2 i hi).1)]
  unfold f_X11_reaches
  rw [shl1 a (by omega)]
  refine (bd_for (e := nI (itS A B (fun i => bt x i) r (2 ^ a) 5)) (fun t => (nI (itS A B (fun i => bt x i) r (2 ^ a) t), nI t)) 5 rfl (fun t ht => ?_) ?_).trans rfl
  · rw [cu2_eq, if_pos (by exact (nI_ltI (b := 5) (by omega) (by decide)).mpr (by omega)), sp_Y hx, bd_some, ← nI_succ]
    rfl
  · rw [cu2_eq, if_neg (by decide)]
end ROADS
theorem rd_of {μ : Mem} {n r gd : Nat} (s2 : μ.1 113 2 = nI r) (c5 : μ.1 7 0 = μ.1 113 2) (hr : r ≤ 10) (hn : n ≤ 5) (g3 : ∀ i, i < r → ∃ a b, a < n ∧ b < n ∧ a ≠ b ∧ μ.1 113 (41 + 3 * i) = nI a ∧ μ.1 113 (41 + 3 * i + 1) = nI b ∧ μ.1 (1 + 7) i = nI a ∧ μ.1 (1 + 8) i = nI b ∧ μ.1 113 (41 + 3 * i + 2) = if gd.testBit i then 1 else 0) : RdX 7 μ.1 r (fun i => ix (μ.1 113 (41 + 3 * i))) (fun i => ix (μ.1 113 (41 + 3 * i + 1))) ∧ RdY μ.1 r (fun i => ix (μ.1 113 (41 + 3 * i))) (fun i => ix (μ.1 113 (41 + 3 * i + 1))) := by
  refine ⟨⟨c5.trans s2, hr, fun i hi => ?_⟩, s2, hr, fun i hi => ?_⟩
  · obtain ⟨a, b, ha, hb, _, e1, e2, e3, e4, _⟩ := g3 i hi
    (try dsimp only)
    rw [e1, e2, ix_nI (by omega), ix_nI (by omega)]
    exact ⟨⟨by omega, by omega⟩, e3, e4⟩
  · obtain ⟨a, b, ha, hb, _, e1, e2, e3, e4, _⟩ := g3 i hi
    (try dsimp only)
    rw [e1, e2, ix_nI (by omega), ix_nI (by omega)]
    exact ⟨⟨by omega, by omega⟩, rfl, rfl⟩
def usJ (P : Nat → Prop) (r : Int32) : Prop := (r = -1 ∧ ∀ t, t < 4 → ¬ P t) ∨ ∃ t, t < 4 ∧ r = nI (t + 1) ∧ P t ∧ ∀ t', t' < t → ¬ P t'
theorem usJ_one {P : Nat → Prop} {r r' : Int32} (h : usJ P r) (h' : usJ P r') : r = r' := by
  rcases h with ⟨a, b⟩ | ⟨g, a1, a2, a3, a4⟩
  · rcases h' with ⟨a', b'⟩ | ⟨g', a1', a2', a3', a4'⟩
    · rw [a, a']
    · exact absurd a3' (b g' a1')
  · rcases h' with ⟨a', b'⟩ | ⟨g', a1', a2', a3', a4'⟩
    · exact absurd a3 (b' g a1)
    · rcases Nat.lt_trichotomy g g' with q | q | q
      · exact absurd a3 (a4' g q)
      · rw [a2, a2', q]
      · exact absurd a3' (a4 g' q)
theorem short_X {k r a b gd : Nat} {A B : Nat → Nat} {μ : Mem} (hx : RdX k μ.1 r A B) (hg : μ.1 k 3 = nI gd) (ha : a < 5) (hb : b < 5) : ∃ q, f_X7_shortestWay k (nI a) (nI b) μ = some q ∧ usJ (fun t => (itS A B (fun i => !(gd.testBit i)) r (2 ^ a) (t + 1)).testBit b = true) q := by
  have hr := hx.2.1
  unfold f_X7_shortestWay
  rw [shl1 a (by omega), hg]
  have L := lp_inv (F := cu2 fun (x3_1 : Int32) (x4_2 : Int32) =>
    if x4_2 < 5 then
      bd (f_X7_spread k x3_1 (nI gd) μ) fun r4 =>
      if ((r4 >>> (nI b &&& 31)) &&& 1) = 1 then
        some (.inr (.inr x4_2))
      else
        some (.inl (r4, (x4_2 + 1)))
    else
      some (.inr (.inl ()))) (fun t s => s.1 = nI (itS A B (fun i => !(gd.testBit i)) r (2 ^ a) t) ∧ s.2 = nI (t + 1) ∧ ∀ t', t' < t → ¬ (itS A B (fun i => !(gd.testBit i)) r (2 ^ a) (t' + 1)).testBit b = true) (fun e : Unit ⊕ Int32 => ∃ q, usJ (fun t => (itS A B (fun i => !(gd.testBit i)) r (2 ^ a) (t + 1)).testBit b = true) q ∧ ((e = .inl () ∧ q = -1) ∨ e = .inr q)) 4 (fun t s ht hI => ?_) (fun s hI => ?_) (s := (nI (2 ^ a), 1)) ⟨rfl, rfl, fun t' h => absurd h (by omega)⟩
  · obtain ⟨e, he, q, j1, j2⟩ := L
    refine ⟨q, ?_, j1⟩
    rw [he]
    rcases j2 with ⟨rfl, rfl⟩ | rfl
    · rfl
    · rfl
  · obtain ⟨x, y⟩ := s
    obtain ⟨rfl, rfl, i3⟩ := hI
    have e : stN A B (fun i => !(bt (nI gd) i)) (itS A B (fun i => !(gd.testBit i)) r (2 ^ a) t) r = itS A B (fun i => !(gd.testBit i)) r (2 ^ a) (t + 1) := stN_congr (fun i hi => by (try dsimp only); rw [bt_nI (by omega)])
    rw [cu2_eq, if_pos (by exact (nI_ltI (b := 5) (by omega) (by decide)).mpr (by omega)), sp_X hx, bd_some, e]
    by_cases q : (itS A B (fun i => !(gd.testBit i)) r (2 ^ a) (t + 1)).testBit b = true
    · rw [if_pos ((bit_1 (by omega)).mpr (by rw [bt_nI (by omega)]; exact q))]
      exact Or.inr ⟨_, rfl, nI (t + 1), Or.inr ⟨t, ht, rfl, q, i3⟩, Or.inr rfl⟩
    · rw [if_neg (fun z => q (by rw [← bt_nI (by omega)]; exact (bit_1 (by omega)).mp z))]
      refine Or.inl ⟨_, rfl, rfl, (nI_succ (t + 1)).symm, fun t' h => ?_⟩
      by_cases e : t' = t
      · rw [e]; exact q
      · exact i3 t' (by omega)
  · obtain ⟨x, y⟩ := s
    obtain ⟨rfl, rfl, i3⟩ := hI
    rw [cu2_eq, if_neg (by decide)]
    exact ⟨_, rfl, -1, Or.inl ⟨rfl, i3⟩, Or.inl ⟨rfl, rfl⟩⟩
theorem unseen_Y {n r a b gd : Nat} {A B : Nat → Nat} {μ : Mem} (s0 : μ.1 113 0 = nI n) (hn : n ≤ 5) (hx : RdY μ.1 r A B) (hg : ∀ i, i < r → μ.1 113 (41 + 3 * i + 2) = if gd.testBit i then 1 else 0) (ha : a < n) (hb : b < n) (hab : a ≠ b) : ∃ q, f_X11_unseen (nI a) (nI b) μ = some (q, μ) ∧ usJ (fun t => (itS A B (fun i => !(gd.testBit i)) r (2 ^ a) (t + 1)).testBit b = true) q := by
  have hr := hx.2.1
  unfold f_X11_unseen
  rw [areT_ok s0 hn ha hb hab, bd_some, if_neg (by decide), shl1 a (by omega)]
  have L := lp_inv (F := cu2 fun (x3_2 : Int32) (x4_3 : Int32) =>
      if x4_3 < 5 then
        bd (f_X11_openRoads  μ) fun r5 =>
        bd (f_X11_steps x3_2 r5 μ) fun r6 =>
        if ((r6 >>> (nI b &&& 31)) &&& 1) = 1 then
          some (.inr (.inr (x4_3, μ)))
        else
          some (.inl (r6, (x4_3 + 1)))
      else
        some (.inr (.inl ()))) (fun t s => s.1 = nI (itS A B (fun i => !(gd.testBit i)) r (2 ^ a) t) ∧ s.2 = nI (t + 1) ∧ ∀ t', t' < t → ¬ (itS A B (fun i => !(gd.testBit i)) r (2 ^ a) (t' + 1)).testBit b = true) (fun e : Unit ⊕ (Int32 × Mem) => ∃ q, usJ (fun t => (itS A B (fun i => !(gd.testBit i)) r (2 ^ a) (t + 1)).testBit b = true) q ∧ ((e = .inl () ∧ q = -1) ∨ e = .inr (q, μ))) 4 (fun t s ht hI => ?_) (fun s hI => ?_) (s := (nI (2 ^ a), 1)) ⟨rfl, rfl, fun t' h => absurd h (by omega)⟩
  · obtain ⟨e, he, q, j1, j2⟩ := L
    refine ⟨q, ?_, j1⟩
    rw [he]
    rcases j2 with ⟨rfl, rfl⟩ | rfl
    · rfl
    · rfl
  · obtain ⟨x, y⟩ := s
    obtain ⟨rfl, rfl, i3⟩ := hI
    have e : stN A B (fun i => bt (nI (opn gd r)) i) (itS A B (fun i => !(gd.testBit i)) r (2 ^ a) t) r = itS A B (fun i => !(gd.testBit i)) r (2 ^ a) (t + 1) := stN_congr (fun i hi => by (try dsimp only); rw [bt_nI (by omega), opn_bit, decide_eq_true hi, Bool.true_and])
    rw [cu2_eq, if_pos (by exact (nI_ltI (b := 5) (by omega) (by decide)).mpr (by omega)), op_Y hx hg, bd_some, sp_Y hx, bd_some, e]
    by_cases q : (itS A B (fun i => !(gd.testBit i)) r (2 ^ a) (t + 1)).testBit b = true
    · rw [if_pos ((bit_1 (by omega)).mpr (by rw [bt_nI (by omega)]; exact q))]
      exact Or.inr ⟨_, rfl, nI (t + 1), Or.inr ⟨t, ht, rfl, q, i3⟩, Or.inr rfl⟩
    · rw [if_neg (fun z => q (by rw [← bt_nI (by omega)]; exact (bit_1 (by omega)).mp z))]
      refine Or.inl ⟨_, rfl, rfl, (nI_succ (t + 1)).symm, fun t' h => ?_⟩
      by_cases e : t' = t
      · rw [e]; exact q
      · exact i3 t' (by omega)
  · obtain ⟨x, y⟩ := s
    obtain ⟨rfl, rfl, i3⟩ := hI
    rw [cu2_eq, if_neg (by decide)]
    exact ⟨_, rfl, -1, Or.inl ⟨rfl, i3⟩, Or.inl ⟨rfl, rfl⟩⟩
theorem ok_unseen (x y : Int32) : Ok (f_X10_unseen x y) (f_X11_unseen x y) := by
  intro μ h
  obtain ⟨⟨n, l, r, p, hh, h1, h2, h3, h4, h5⟩, hi, ht, hll, hrf, hq⟩ := id h
  obtain ⟨⟨hn1, hn5, hl, hr, hp⟩, ⟨s0, s1, s2, s4, gr, hgr, s5⟩, c1, c2, c3, c4, c5, c6⟩ := id hh
  obtain ⟨gd, g1, g2, g3, g4⟩ := id h4
  rcases twoV x y hn5 with ⟨a, b, ha, hb, hab, rfl, rfl⟩ | hx
  · obtain ⟨rx, ry⟩ := rd_of s2 c5 hr hn5 g3
    obtain ⟨q, e1, e2⟩ := short_X (a := a) (b := b) rx g2 (by omega) (by omega)
    obtain ⟨q', d1, d2⟩ := unseen_Y s0 hn5 ry (fun i hi => by obtain ⟨a, b, z⟩ := g3 i hi; exact z.2.2.2.2.2.2.2) ha hb hab
    have := usJ_one e2 d2
    subst this
    refine ok_ask q μ μ ?_ d1 h
    unfold f_X10_unseen
    rw [hasP_ok (k := 2) (c1.trans s0) hn5 ha hb hab, bd_some, if_neg (by decide), e1, bd_some]
  · refine ok_bad h ?_ (fun ν h5 hB _ => ?_)
    · unfold f_X10_unseen
      rw [hasP_bad (k := 2) (c1.trans s0) hn5 hx, bd_some, if_pos rfl, tally_bad, bd2_some]
    · unfold f_X11_unseen
      rw [areT_bad ((hB 0).trans s0) hn5 hx, bd_some, if_pos rfl, badM h5, bd2_some]
