/-! cut -/
def subP (gd g : Nat) : Prop := ∀ j, g.testBit j = true → gd.testBit j = false
theorem popN_le {g x : Nat} (h : ∀ j, g.testBit j = true → x.testBit j = true) : ∀ k, popN g k ≤ popN x k
  | 0 => Nat.le_refl _
  | k + 1 => by
    have := popN_le h k
    show popN g k + (if g.testBit k then 1 else 0) ≤ popN x k + (if x.testBit k then 1 else 0)
    cases q : g.testBit k
    · cases x.testBit k <;> simp <;> omega
    · rw [h k q]; simp; exact this
theorem popN_lt {g x : Nat} (h : ∀ j, g.testBit j = true → x.testBit j = true) {j0 : Nat} (h0 : g.testBit j0 = false) (h1 : x.testBit j0 = true) : ∀ k, j0 < k → popN g k < popN x k
  | 0, hk => absurd hk (by omega)
  | k + 1, hk => by
    show popN g k + (if g.testBit k then 1 else 0) < popN x k + (if x.testBit k then 1 else 0)
    by_cases e : j0 = k
    · subst e
      have := popN_le h j0
      rw [h0, h1]
      simp
      omega
    · have := popN_lt h h0 h1 k (by omega)
      cases q : g.testBit k
      · cases x.testBit k <;> simp <;> omega
      · rw [h k q]; simp; exact this
theorem popN_10 (g : Nat) : ∀ k, popN g k ≤ k
  | 0 => Nat.le_refl _
  | k + 1 => by
    have := popN_10 g k
    show popN g k + (if g.testBit k then 1 else 0) ≤ k + 1
    cases g.testBit k <;> simp <;> omega
theorem big_bit {g r j : Nat} (hg : g < 2 ^ r) (hj : r ≤ j) : g.testBit j = false := Nat.testBit_lt_two_pow (Nat.lt_of_lt_of_le hg (Nat.pow_le_pow_right (by decide) hj))
theorem sub_op {gd g r : Nat} (hg : g < 2 ^ r) (h : subP gd g) : ∀ j, g.testBit j = true → (opn gd r).testBit j = true := fun j q => by
  rw [opn_bit]
  rcases Nat.lt_or_ge j r with e | e
  · rw [decide_eq_true e, h j q]; rfl
  · rw [big_bit hg e] at q; cases q
theorem sub_le {gd g r : Nat} (hg : g < 2 ^ r) (h : subP gd g) : g ≤ opn gd r := by
  have e : g &&& opn gd r = g := Nat.eq_of_testBit_eq (fun j => by
    rw [Nat.testBit_and]
    cases q : g.testBit j
    · rfl
    · rw [sub_op hg h j q]; rfl)
  rw [← e]
  exact Nat.and_le_right
theorem op_sub (gd r : Nat) : subP gd (opn gd r) := fun j q => by
  rw [opn_bit] at q
  cases z : gd.testBit j
  · rfl
  · rw [z, Bool.not_true, Bool.and_false] at q; cases q
theorem sub_pop {gd g r : Nat} (hr : r ≤ 10) (hg : g < opn gd r) (h : subP gd g) : popN g 10 < popN (opn gd r) 10 := by
  have hg2 : g < 2 ^ r := Nat.lt_trans hg (opn_lt gd r)
  have ex : ∃ j, g.testBit j = false ∧ (opn gd r).testBit j = true := by
    refine Classical.byContradiction (fun q => ?_)
    have e : g = opn gd r := Nat.eq_of_testBit_eq (fun j => by
      cases z : g.testBit j
      · cases w : (opn gd r).testBit j
        · rfl
        · exact absurd ⟨j, z, w⟩ q
      · exact (sub_op hg2 h j z).symm)
    omega
  obtain ⟨j, a, b⟩ := ex
  refine popN_lt (sub_op hg2 h) a b 10 ?_
  rcases Nat.lt_or_ge j r with e | e
  · omega
  · rw [big_bit (opn_lt gd r) e] at b; cases b
theorem andG {gd g r : Nat} (hg : g < 2 ^ r) (hr : r ≤ 10) : (nI g &&& nI gd = 0) ↔ subP gd g := by
  constructor
  · intro h j q
    have hj : j < r := by
      rcases Nat.lt_or_ge j r with e | e
      · exact e
      · rw [big_bit hg e] at q; cases q
    have : bt (nI g &&& nI gd) j = false := by rw [h]; exact b_0 j
    rw [b_and, bt_nI (by omega), bt_nI (by omega), q, Bool.true_and] at this
    exact this
  · intro h
    refine b_ext (fun i hi => ?_)
    rw [b_and, bt_nI hi, bt_nI hi, b_0]
    cases q : g.testBit i
    · rfl
    · rw [h i q]; rfl
theorem andO {gd g r : Nat} (hg : g < 2 ^ r) (hr : r ≤ 10) : (nI g &&& (nI (opn gd r) ^^^ (-1)) = 0) ↔ subP gd g := by
  constructor
  · intro h j q
    have hj : j < r := by
      rcases Nat.lt_or_ge j r with e | e
      · exact e
      · rw [big_bit hg e] at q; cases q
    have : bt (nI g &&& (nI (opn gd r) ^^^ (-1))) j = false := by rw [h]; exact b_0 j
    rw [b_and, bt_nI (by omega), bt_not (by omega), bt_nI (by omega), opn_bit, q, Bool.true_and, decide_eq_true hj, Bool.true_and, Bool.not_not] at this
    exact this
  · intro h
    refine b_ext (fun i hi => ?_)
    rw [b_and, bt_nI hi, bt_not hi, bt_nI hi, b_0]
    cases q : g.testBit i
    · rfl
    · rw [sub_op hg h i q]; rfl
/-- who is reached, when besides the guarded roads those of g are guarded -/
def sdN (A B : Nat → Nat) (gd r a g : Nat) : Nat := itS A B (fun i => !(gd.testBit i || g.testBit i)) r (2 ^ a) 4
noncomputable def cS (A B : Nat → Nat) (gd r a b : Nat) : Nat → Nat × Nat
  | 0 => (0, 11)
  | g + 1 => @ite _ (subP gd g ∧ popN g 10 < (cS A B gd r a b g).2 ∧ (sdN A B gd r a g).testBit b = false) (Classical.propDecidable _) (g, popN g 10) (cS A B gd r a b g)
noncomputable def rS (A B : Nat → Nat) (gd r a b : Nat) : Nat → Nat
  | 0 => opn gd r
  | g + 1 => @ite _ (subP gd g ∧ popN g 10 < popN (rS A B gd r a b g) 10 ∧ (sdN A B gd r a g).testBit b = false) (Classical.propDecidable _) g (rS A B gd r a b g)
theorem cS_t {A B : Nat → Nat} {gd r a b g : Nat} (h : subP gd g ∧ popN g 10 < (cS A B gd r a b g).2 ∧ (sdN A B gd r a g).testBit b = false) : cS A B gd r a b (g + 1) = (g, popN g 10) := by
  unfold cS
  exact @if_pos _ (Classical.propDecidable _) h _ _ _
theorem cS_f {A B : Nat → Nat} {gd r a b g : Nat} (h : ¬ (subP gd g ∧ popN g 10 < (cS A B gd r a b g).2 ∧ (sdN A B gd r a g).testBit b = false)) : cS A B gd r a b (g + 1) = cS A B gd r a b g := by
  rw [cS]
  exact @if_neg _ (Classical.propDecidable _) h _ _ _
theorem rS_t {A B : Nat → Nat} {gd r a b g : Nat} (h : subP gd g ∧ popN g 10 < popN (rS A B gd r a b g) 10 ∧ (sdN A B gd r a g).testBit b = false) : rS A B gd r a b (g + 1) = g := by
  unfold rS
  exact @if_pos _ (Classical.propDecidable _) h _ _ _
theorem rS_f {A B : Nat → Nat} {gd r a b g : Nat} (h : ¬ (subP gd g ∧ popN g 10 < popN (rS A B gd r a b g) 10 ∧ (sdN A B gd r a g).testBit b = false)) : rS A B gd r a b (g + 1) = rS A B gd r a b g := by
  rw [rS]
  exact @if_neg _ (Classical.propDecidable _) h _ _ _
theorem rS_in {A B : Nat → Nat} {gd r a b : Nat} : ∀ g, g ≤ opn gd r → (rS A B gd r a b g ≤ opn gd r ∧ subP gd (rS A B gd r a b g))
  | 0, _ => ⟨Nat.le_refl _, op_sub gd r⟩
  | g + 1, h => by
    by_cases q : subP gd g ∧ popN g 10 < popN (rS A B gd r a b g) 10 ∧ (sdN A B gd r a g).testBit b = false
    · rw [rS_t q]; exact ⟨by omega, q.1⟩
    · rw [rS_f q]; exact rS_in g (by omega)
theorem cr_inv {A B : Nat → Nat} {gd r a b : Nat} (hr : r ≤ 10) : ∀ g, g ≤ opn gd r → ((cS A B gd r a b g = (0, 11) ∧ rS A B gd r a b g = opn gd r) ∨ (cS A B gd r a b g = (rS A B gd r a b g, popN (rS A B gd r a b g) 10) ∧ rS A B gd r a b g < opn gd r ∧ subP gd (rS A B gd r a b g)))
  | 0, _ => Or.inl ⟨rfl, rfl⟩
  | g + 1, h => by
    rcases cr_inv (A := A) (B := B) (gd := gd) (r := r) (a := a) (b := b) hr g (by omega) with ⟨e1, e2⟩ | ⟨e1, e2, e3⟩
    · by_cases q : subP gd g ∧ (sdN A B gd r a g).testBit b = false
      · have hp := sub_pop hr (by omega : g < opn gd r) q.1
        have h10 := popN_10 g 10
        rw [cS_t ⟨q.1, by rw [e1]; show popN g 10 < 11; omega, q.2⟩, rS_t ⟨q.1, by rw [e2]; exact hp, q.2⟩]
        exact Or.inr ⟨rfl, by omega, q.1⟩
      · rw [cS_f (fun z => q ⟨z.1, z.2.2⟩), rS_f (fun z => q ⟨z.1, z.2.2⟩)]
        exact Or.inl ⟨e1, e2⟩
    · by_cases q : subP gd g ∧ popN g 10 < popN (rS A B gd r a b g) 10 ∧ (sdN A B gd r a g).testBit b = false
      · rw [cS_t (by rw [e1]; exact q), rS_t q]
        exact Or.inr ⟨rfl, by omega, q.1⟩
      · rw [cS_f (by rw [e1]; exact q), rS_f q]
        exact Or.inr ⟨e1, e2, e3⟩
theorem cr_end {A B : Nat → Nat} {gd r a b : Nat} (hr : r ≤ 10) (hab : a ≠ b) : (cS A B gd r a b (opn gd r + 1)).1 = rS A B gd r a b (opn gd r) := by
  have hsep : (sdN A B gd r a (opn gd r)).testBit b = false := by
    unfold sdN
    rw [itS_congr (op' := fun _ => false) (fun i hi => by
      (try dsimp only)
      rw [opn_bit, decide_eq_true hi, Bool.true_and]
      cases gd.testBit i <;> rfl), itS_off, Nat.testBit_two_pow, decide_eq_false hab]
  rcases cr_inv hr (opn gd r) (Nat.le_refl _) with ⟨e1, e2⟩ | ⟨e1, e2, e3⟩
  · have h10 := popN_10 (opn gd r) 10
    rw [cS_t ⟨op_sub gd r, by rw [e1]; show popN _ 10 < 11; omega, hsep⟩, e2]
  · have hp := popN_le (sub_op (Nat.lt_trans e2 (opn_lt gd r)) e3) 10
    rw [cS_f (fun z => by have := z.2.1; rw [e1] at this; dsimp only at this; omega), e1]
theorem cr_all {A B : Nat → Nat} {gd r a b : Nat} (hr : r ≤ 10) (hab : a ≠ b) : ∀ d, opn gd r + 1 + d ≤ 2 ^ r → (cS A B gd r a b (opn gd r + 1 + d)).1 = rS A B gd r a b (opn gd r)
  | 0, _ => cr_end hr hab
  | d + 1, h => by
    rw [← Nat.add_assoc, cS_f (fun z => by have := sub_le (r := r) (by omega) z.1; omega)]
    exact cr_all hr hab d (by omega)
theorem cr_eq {A B : Nat → Nat} {gd r a b : Nat} (hr : r ≤ 10) (hab : a ≠ b) : (cS A B gd r a b (2 ^ r)).1 = rS A B gd r a b (opn gd r) := by
  have hlt := opn_lt gd r
  have := cr_all (A := A) (B := B) (gd := gd) hr hab (2 ^ r - (opn gd r + 1)) (by omega)
  rw [show opn gd r + 1 + (2 ^ r - (opn gd r + 1)) = 2 ^ r by omega] at this
  exact this
theorem cS_in {A B : Nat → Nat} {gd r a b : Nat} : ∀ g, (cS A B gd r a b g).2 ≤ 11 ∧ ((cS A B gd r a b g).1 ≤ g)
  | 0 => ⟨Nat.le_refl 11, Nat.le_refl 0⟩
  | g + 1 => by
    have := cS_in (A := A) (B := B) (gd := gd) (r := r) (a := a) (b := b) g
    by_cases q : subP gd g ∧ popN g 10 < (cS A B gd r a b g).2 ∧ (sdN A B gd r a g).testBit b = false
    · rw [cS_t q]
      have := popN_10 g 10
      exact ⟨by show popN g 10 ≤ 11; omega, by show g ≤ g + 1; omega⟩
    · rw [cS_f q]; omega
theorem sdX {k r a gd g : Nat} {A B : Nat → Nat} {μ : Mem} (hx : RdX k μ.1 r A B) (ha : a < 5) : f_X7_sideOf k (nI a) (nI gd ||| nI g) μ = some (nI (sdN A B gd r a g)) := by
  have hr := hx.2.1
  rw [side_X hx ha]
  refine congrArg (fun z => some (nI z)) (itS_congr (fun i hi => ?_) 4)
  (try dsimp only)
  rw [b_or, bt_nI (by omega), bt_nI (by omega)]
theorem sdY {r a gd g : Nat} {A B : Nat → Nat} {μ : Mem} (hx : RdY μ.1 r A B) (ha : a < 5) : f_X11_reaches (nI a) (nI (opn gd r) &&& (nI g ^^^ (-1))) μ = some (nI (sdN A B gd r a g)) := by
  have hr := hx.2.1
  rw [reach_Y hx ha]
  refine congrArg (fun z => some (nI z)) (itS_congr (fun i hi => ?_) 4)
  (try dsimp only)
  rw [b_and, bt_not (by omega), bt_nI (by omega), bt_nI (by omega), opn_bit, decide_eq_true hi, Bool.true_and, Bool.not_or]
theorem fg_X {k r a b gd : Nat} {A B : Nat → Nat} {μ : Mem} (hx : RdX k μ.1 r A B) (hg : μ.1 k 3 = nI gd) (ha : a < 5) (hb : b < 5) : f_X7_fewestGuards k (nI a) (nI b) μ = some (nI (cS A B gd r a b (2 ^ r)).1) := by
  have hr := hx.2.1
  have hp := pow10 hr
  unfold f_X7_fewestGuards
  rw [hx.1, hg, shl1 r (by omega)]
  refine (bd_for (e := nI (cS A B gd r a b (2 ^ r)).1) (fun g => (nI (cS A B gd r a b g).1, nI (cS A B gd r a b g).2, nI g)) (2 ^ r) rfl (fun g hgr => ?_) ?_).trans rfl
  · have hc := cS_in (A := A) (B := B) (gd := gd) (r := r) (a := a) (b := b) g
    have h10 := popN_10 g 10
    rw [cu3_eq, if_pos ((nI_ltI (by omega) (by omega)).mpr hgr), jn_eq, bitC_X (by omega), bd_some, sdX hx ha, bd_some, bd_some, ← nI_succ]
    by_cases q1 : subP gd g
    · rw [if_pos ((andG hgr hr).mpr q1)]
      by_cases q2 : popN g 10 < (cS A B gd r a b g).2
      · rw [if_pos ((nI_ltI (by omega) (by omega)).mpr q2)]
        by_cases q3 : (sdN A B gd r a g).testBit b = false
        · rw [if_pos ((bit_0 (by omega)).mpr (by rw [bt_nI (by omega)]; exact q3)), cS_t ⟨q1, q2, q3⟩]
        · rw [if_neg (fun z => q3 (by rw [← bt_nI (by omega)]; exact (bit_0 (by omega)).mp z)), cS_f (fun z => q3 z.2.2)]
      · rw [if_neg (fun z => q2 ((nI_ltI (by omega) (by omega)).mp z)), cS_f (fun z => q2 z.2.1)]
    · rw [if_neg (fun z => q1 ((andG hgr hr).mp z)), cS_f (fun z => q1 z.1)]
  · rw [cu3_eq, if_neg (fun q => Nat.lt_irrefl _ ((nI_ltI (by omega) (by omega)).mp q))]
theorem cut_X {r a b n gd w : Nat} {A B : Nat → Nat} {μ : Mem} (m0 : μ.1 2 0 = nI n) (hn : n ≤ 5) (hx : RdX 7 μ.1 r A B) (hg : μ.1 7 3 = nI gd) (ha : a < n) (hb : b < n) (hab : a ≠ b) (hw : w < 2) : f_X10_cut (nI a) (nI b) (nI w) μ = some (if w = 0 then nI (popN (rS A B gd r a b (opn gd r)) 10) else nI (sdN A B gd r a (rS A B gd r a b (opn gd r))), μ) := by
  have hr := hx.2.1
  have hp := pow10 hr
  have hin := (rS_in (A := A) (B := B) (gd := gd) (r := r) (a := a) (b := b) (opn gd r) (Nat.le_refl _)).1
  have hlt := opn_lt gd r
  unfold f_X10_cut
  rw [hasP_ok m0 hn ha hb hab, bd_some]
  simp only [jn_eq]
  rw [if_neg (by decide), if_neg (nI_pos (by omega)), if_neg (by exact ngt (n := 1) (by omega) (by decide)), fg_X hx hg (by omega) (by omega), bd_some, cr_eq hr hab, bitC_X (by omega), bd_some, hg, sdX hx (by omega), bd_some]
  match w, hw with
  | 0, _ => rw [if_pos (by rfl), if_pos rfl]
  | 1, _ => rw [if_neg (by decide), if_neg (by decide)]
  | w + 2, h => exact absurd h (by omega)
theorem cut_Y {r a b n gd w : Nat} {A B : Nat → Nat} {μ : Mem} (s0 : μ.1 113 0 = nI n) (hn : n ≤ 5) (hx : RdY μ.1 r A B) (hg : ∀ i, i < r → μ.1 113 (41 + 3 * i + 2) = if gd.testBit i then 1 else 0) (ha : a < n) (hb : b < n) (hab : a ≠ b) (hw : w < 2) : f_X11_cut (nI a) (nI b) (nI w) μ = some (if w = 0 then nI (popN (rS A B gd r a b (opn gd r)) 10) else nI (sdN A B gd r a (rS A B gd r a b (opn gd r))), μ) := by
  have hr := hx.2.1
  have hp := pow10 hr
  have hlt := opn_lt gd r
  unfold f_X11_cut
  rw [areT_ok s0 hn ha hb hab, bd_some]
  simp only [jn_eq]
  rw [if_neg (by decide), inL_ok (hi := 1) (by decide) (by omega), bd_some, if_neg (by decide), op_Y hx hg, bd_some]
  refine (bd_for (e := nI (rS A B gd r a b (opn gd r))) (fun g => (nI (rS A B gd r a b g), nI g)) (opn gd r) rfl (fun g hgo => ?_) ?_).trans ?_
  · have hgr : g < 2 ^ r := by omega
    have hin := (rS_in (A := A) (B := B) (gd := gd) (r := r) (a := a) (b := b) g (by omega)).1
    have h10 := popN_10 g 10
    have h10' := popN_10 (rS A B gd r a b g) 10
    rw [cu2_eq, if_pos ((nI_ltI (by omega) (by omega)).mpr hgo), bits_Y, bd_some, bits_Y, bd_some, sdY hx (by omega), bd_some, ← nI_succ]
    by_cases q1 : subP gd g
    · rw [if_pos ((andO hgr hr).mpr q1)]
      by_cases q2 : popN g 10 < popN (rS A B gd r a b g) 10
      · rw [if_pos ((nI_ltI (by omega) (by omega)).mpr q2), if_neg (by decide)]
        by_cases q3 : (sdN A B gd r a g).testBit b = false
        · rw [if_pos ((bit_0 (by omega)).mpr (by rw [bt_nI (by omega)]; exact q3)), rS_t ⟨q1, q2, q3⟩]
        · rw [if_neg (fun z => q3 (by rw [← bt_nI (by omega)]; exact (bit_0 (by omega)).mp z)), rS_f (fun z => q3 z.2.2)]
      · rw [if_neg (fun z => q2 ((nI_ltI (by omega) (by omega)).mp z)), if_pos (by trivial), rS_f (fun z => q2 z.2.1)]
    · rw [if_neg (fun z => q1 ((andO hgr hr).mp z)), if_pos (by trivial), rS_f (fun z => q1 z.1)]
  · rw [cu2_eq, if_neg (fun q => Nat.lt_irrefl _ ((nI_ltI (by omega) (by omega)).mp q))]
  · rw [bits_Y, bd_some, sdY hx (by omega), bd_some]
    match w, hw with
    | 0, _ => rw [if_pos (by rfl), if_pos rfl]
    | 1, _ => rw [if_neg (by decide), if_neg (by decide)]
    | w + 2, h => exact absurd h (by omega)
theorem ok_cut (x y z : Int32) : Ok (f_X10_cut x y z) (f_X11_cut x y z) := by
  intro μ h
  obtain ⟨⟨n, l, r, p, hh, h1, h2, h3, h4, h5⟩, hi, ht, hll, hrf, hq⟩ := id h
  obtain ⟨⟨hn1, hn5, hl, hr, hp⟩, ⟨s0, s1, s2, s4, gr, hgr, s5⟩, c1, c2, c3, c4, c5, c6⟩ := id hh
  obtain ⟨gd, g1, g2, g3, g4⟩ := id h4
  rcases twoV x y hn5 with ⟨a, b, ha, hb, hab, rfl, rfl⟩ | hx
  · rcases isN_or z (n := 1 + 1) (by decide) with ⟨w, hw, rfl⟩ | hz
    · obtain ⟨rx, ry⟩ := rd_of s2 c5 hr hn5 g3
      exact ok_ask _ μ μ (cut_X (c1.trans s0) hn5 rx g2 ha hb hab hw) (cut_Y s0 hn5 ry (fun i hi => by obtain ⟨a, b, z⟩ := g3 i hi; exact z.2.2.2.2.2.2.2) ha hb hab hw) h
    · refine ok_bad h ?_ (fun ν h5 hB _ => ?_)
      · unfold f_X10_cut
        rw [hasP_ok (k := 2) (c1.trans s0) hn5 ha hb hab, bd_some]
        simp only [jn_eq]
        rw [if_neg (by decide)]
        by_cases h0 : z < 0
        · rw [if_pos h0, tally_bad, bd2_some]
        · rw [if_neg h0, if_pos (by exact gt_of (n := 1) (by decide) (hz.resolve_left h0)), tally_bad, bd2_some]
      · unfold f_X11_cut
        rw [areT_ok ((hB 0).trans s0) hn5 ha hb hab, bd_some]
        simp only [jn_eq]
        rw [if_neg (by decide), inL_bad (hi := 1) (by decide) (or_of (by decide) hz), bd_some, if_pos (by trivial), badM h5, bd2_some]
  · refine ok_bad h ?_ (fun ν h5 hB _ => ?_)
    · unfold f_X10_cut
      rw [hasP_bad (k := 2) (c1.trans s0) hn5 hx, bd_some]
      simp only [jn_eq]
      rw [if_pos (by trivial), tally_bad, bd2_some]
    · unfold f_X11_cut
      rw [areT_bad ((hB 0).trans s0) hn5 hx, bd_some]
      simp only [jn_eq]
      rw [if_pos (by trivial), badM h5, bd2_some]
