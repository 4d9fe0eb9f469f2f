theorem cp_1 (μ : Mem) (s sp d dp n b i : Nat) : (cpyI μ s sp d dp n).1 b i = if b = d ∧ dp ≤ i ∧ i < dp + n then μ.1 s (sp + (i - dp)) else μ.1 b i := rfl
theorem cp_ne {μ : Mem} {s sp d dp n b i : Nat} (h : ¬ (b = d ∧ dp ≤ i ∧ i < dp + n)) : (cpyI μ s sp d dp n).1 b i = μ.1 b i := by rw [cp_1, if_neg h]
theorem cp_in {μ : Mem} {s sp d dp n b i : Nat} (h : b = d ∧ dp ≤ i ∧ i < dp + n) : (cpyI μ s sp d dp n).1 b i = μ.1 s (sp + (i - dp)) := by rw [cp_1, if_pos h]
theorem cpL {p q s d N Ns Nd : Nat} {NI : Int32} {fs fd : Int32 → Int32} {μ : Mem} (hN : NI = nI N) (hN1 : N < 2 ^ 31) (hs : ∀ i, i < N → fs (nI i) = nI (s + i)) (hd : ∀ i, i < N → fd (nI i) = nI (d + i)) (h1 : s + N ≤ Ns) (h2 : d + N ≤ Nd) (b1 : Ns < 2 ^ 31) (b2 : Nd < 2 ^ 31) (hov : p ≠ q ∨ d ≤ s ∨ s + N ≤ d) :
    lp (ε := Mem) (cu2 fun (x : Int32) (ν : Mem) => if x < NI then chk (fs x) Ns (chk (fd x) Nd (lt (setI ν q (ix (fd x)) (ν.1 p (ix (fs x)))) fun ν5 => some (.inl ((x + 1), ν5)))) else some (.inr ν)) (0, μ) = some (cpyI μ p s q d N) := by
  subst hN
  have h0 : ((0 : Int32), μ) = (fun i => (nI i, cpyI μ p s q d i)) 0 := by
    show (nI 0, μ) = (nI 0, cpyI μ p s q d 0)
    refine congrArg (Prod.mk (nI 0)) ?_
    refine Prod.ext (funext fun b => funext fun j => ?_) rfl
    rw [cp_ne (by omega)]
  rw [h0]
  refine lp_for (fun i => (nI i, cpyI μ p s q d i)) N (fun i hi => ?_) ?_
  · show (if nI i < nI N then _ else _) = _
    rw [if_pos ((nI_ltI (by omega) (by omega)).mpr hi), hs i hi, hd i hi, chk_nI (by omega) b1, chk_nI (by omega) b2, lt_eq, ix_nI (by omega), ix_nI (by omega)]
    refine congrArg some (congrArg Sum.inl ?_)
    show (nI i + 1, _) = (nI (i + 1), _)
    rw [← nI_succ]
    refine congrArg (Prod.mk (nI (i + 1))) ?_
    refine Prod.ext (funext fun b => funext fun j => ?_) rfl
    rw [si_1]
    by_cases h : b = q ∧ j = d + i
    · rw [if_pos h, cp_ne (by omega), cp_in (by omega), show s + (j - d) = s + i by omega]
    · rw [if_neg h]
      by_cases h3 : b = q ∧ d ≤ j ∧ j < d + i
      · rw [cp_in h3, cp_in (by omega)]
      · rw [cp_ne h3, cp_ne (by omega)]
  · show (if nI N < nI N then _ else _) = _
    rw [if_neg (fun q => Nat.lt_irrefl N ((nI_ltI (by omega) (by omega)).mp q))]
theorem ckC_nI {α : Type} {a b n n0 n1 : Nat} {x : Option α} (ha : a < 2 ^ 31) (hb : b < 2 ^ 31) (hn : n < 2 ^ 31) (h1 : a + n ≤ n0) (h2 : b + n ≤ n1) : ckC (nI a) (nI b) (nI n) n0 n1 x = x := by
  unfold ckC
  rw [if_pos]
  refine ⟨nI_pos ha, nI_pos hb, nI_pos hn, ?_, ?_⟩ <;> (rw [ix_nI (by omega), ix_nI (by omega)]; assumption)
theorem undo_X {μ : Mem} {p : Nat} (m : μ.1 (1 + 9) 0 = nI (p + 1)) (hp : p < 10) : f_X10_undo μ = some (1, cpyI (setI (setI μ 10 0 (nI p)) 2 2 (μ.1 11 p)) 12 (p * 10) 5 0 10) := by
  unfold f_X10_undo f_X0_undoLast f_X6_putBack
  simp only [lt_eq]
  have e1 : nI (p + 1) - 1 = nI p := ni_sub (a := p + 1) (b := 1) (by omega)
  have e2 : (setI μ (1 + 9) 0 (nI p)).1 (1 + 9) 0 = nI p := si_eq
  have e3 : (setI (setI μ (1 + 9) 0 (nI p)) (1 + 1) 2 ((setI μ (1 + 9) 0 (nI p)).1 (1 + 9 + 1) p)).1 (1 + 9) 0 = nI p := by rw [si_ne (by omega), si_eq]
  rw [m, if_pos (by exact (nI_ltI (a := 0) (by decide) (by omega)).mpr (by omega)), e1, e2, chk_nI hp (by decide), ix_nI (by omega), e3, show (10 : Int32) = nI 10 from rfl, show (0 : Int32) = nI 0 from rfl, ni_mul, ckC_nI (by omega) (by decide) (by decide) (by omega) (by decide), ix_nI (by omega), ix_nI (by omega), ix_nI (by omega), bd2_some, bd2_some, tally_ok (by decide), bd2_some, si_ne (by omega)]
theorem undo_Y {ν : Mem} {p : Nat} (m : ν.1 113 4 = nI (p + 1)) (hp : p < 10) : f_X11_undo ν = some (1, cpyI (setI (setI ν 113 4 (nI p)) 113 3 (ν.1 113 (74 + 11 * p))) 113 (74 + 11 * p + 1) 113 26 10) := by
  unfold f_X11_undo
  have e1 : nI (p + 1) - 1 = nI p := ni_sub (a := p + 1) (b := 1) (by omega)
  have e2 : (setI ν 113 4 (nI p)).1 113 4 = nI p := si_eq
  rw [m, if_neg (by exact fun q => absurd ((nI_eq (b := 0) (by omega) (by decide)).mp q) (by omega)), lt_eq, e1, e2, show (74 : Int32) = nI 74 from rfl, show (11 : Int32) = nI 11 from rfl, ni_mul, ni_add, chk_nI (by omega) (by decide), lt_eq, ix_nI (by omega), si_ne (by omega), cpL (N := 10) (NI := 10) (s := 74 + 11 * p + 1) (d := 26) rfl (by decide) (fun i hi => by rw [show (1 : Int32) = nI 1 from rfl, ni_add, ni_add]) (fun i hi => by rw [show (26 : Int32) = nI 26 from rfl, ni_add]) (by omega) (by decide) (by decide) (by decide) (by omega), bd_some]
theorem ok_undo : Ok (f_X10_undo) (f_X11_undo) := by
  intro μ h
  obtain ⟨⟨n, l, r, p, hh, h1, h2, h3, h4, h5⟩, hi, ht, hll, hrf, hq⟩ := id h
  obtain ⟨⟨hn1, hn5, hl, hr, hp⟩, ⟨s0, s1, s2, s4, gr, hgr, s5⟩, c1, c2, c3, c4, c5, c6⟩ := id hh
  have m6 : μ.1 (1 + 9) 0 = nI p := c6.trans s4
  have s4' : μ.1 113 4 = nI p := s4
  match p, hp, h5, m6, s4' with
  | 0, _, _, m6, s4' =>
    refine ok_no h ?_ (fun ν h5 hB => ?_)
    · unfold f_X10_undo f_X0_undoLast f_X6_putBack
      rw [m6, if_neg (by decide), bd2_some, bd2_some, tally_no, bd2_some]
    · unfold f_X11_undo
      rw [hB _ _ (by decide), s4', if_pos (by rfl), noM h5, bd2_some]
  | p + 1, hp, h5, m6, s4' =>
    refine ⟨_, _, _, undo_X m6 (by omega), undo_Y (by (((try dsimp only); (repeat (first | rw [si_eq] | rw [si_ne (by omega)] | rw [cp_in (by omega)] | rw [cp_ne (by omega)]))) <;> exact s4')) (by omega), ?_⟩
    have q5 := h5 p (by omega)
    exact h.now (fun q j hq9 => by have k9 := relo_ne hq9; (try dsimp only); (repeat (first | rw [si_eq] | rw [si_ne (by omega)] | rw [cp_in (by omega)] | rw [cp_ne (by omega)]))) ⟨rfl, rfl⟩ ⟨n, l, r, p, ⟨⟨hn1, hn5, hl, hr, by omega⟩, ⟨by (((try dsimp only); (repeat (first | rw [si_eq] | rw [si_ne (by omega)] | rw [cp_in (by omega)] | rw [cp_ne (by omega)]))) <;> exact s0), by (((try dsimp only); (repeat (first | rw [si_eq] | rw [si_ne (by omega)] | rw [cp_in (by omega)] | rw [cp_ne (by omega)]))) <;> exact s1), by (((try dsimp only); (repeat (first | rw [si_eq] | rw [si_ne (by omega)] | rw [cp_in (by omega)] | rw [cp_ne (by omega)]))) <;> exact s2), by (try dsimp only); (repeat (first | rw [si_eq] | rw [si_ne (by omega)] | rw [cp_in (by omega)] | rw [cp_ne (by omega)])), gr, hgr, by (((try dsimp only); (repeat (first | rw [si_eq] | rw [si_ne (by omega)] | rw [cp_in (by omega)] | rw [cp_ne (by omega)]))) <;> exact s5)⟩, by (((try dsimp only); (repeat (first | rw [si_eq] | rw [si_ne (by omega)] | rw [cp_in (by omega)] | rw [cp_ne (by omega)]))) <;> exact c1), by (((try dsimp only); (repeat (first | rw [si_eq] | rw [si_ne (by omega)] | rw [cp_in (by omega)] | rw [cp_ne (by omega)]))) <;> exact c2), by (((try dsimp only); (repeat (first | rw [si_eq] | rw [si_ne (by omega)] | rw [cp_in (by omega)] | rw [cp_ne (by omega)]))) <;> exact q5.1), by (((try dsimp only); (repeat (first | rw [si_eq] | rw [si_ne (by omega)] | rw [cp_in (by omega)] | rw [cp_ne (by omega)]))) <;> exact c4), by (((try dsimp only); (repeat (first | rw [si_eq] | rw [si_ne (by omega)] | rw [cp_in (by omega)] | rw [cp_ne (by omega)]))) <;> exact c5), by (try dsimp only); (repeat (first | rw [si_eq] | rw [si_ne (by omega)] | rw [cp_in (by omega)] | rw [cp_ne (by omega)]))⟩, fun i hi => ⟨by (((try dsimp only); (repeat (first | rw [si_eq] | rw [si_ne (by omega)] | rw [cp_in (by omega)] | rw [cp_ne (by omega)]))) <;> exact (h1 i hi).1), by (((try dsimp only); (repeat (first | rw [si_eq] | rw [si_ne (by omega)] | rw [cp_in (by omega)] | rw [cp_ne (by omega)]))) <;> exact (h1 i hi).2.1), by (((try dsimp only); (repeat (first | rw [si_eq] | rw [si_ne (by omega)] | rw [cp_in (by omega)] | rw [cp_ne (by omega)]))) <;> (obtain ⟨g, g1, g2, g3⟩ := q5.2 i hi; exact ⟨g, g1, by rw [← g2, show 26 + i - 26 = i by omega], by rw [← g3, show p * 10 + (i - 0) = 10 * p + i by omega]⟩))⟩, h2.of (fun i _ => by ((try dsimp only); (repeat (first | rw [si_eq] | rw [si_ne (by omega)] | rw [cp_in (by omega)] | rw [cp_ne (by omega)])))) (fun j _ _ => by ((try dsimp only); (repeat (first | rw [si_eq] | rw [si_ne (by omega)] | rw [cp_in (by omega)] | rw [cp_ne (by omega)])))), h3.of (fun i _ => by ((try dsimp only); (repeat (first | rw [si_eq] | rw [si_ne (by omega)] | rw [cp_in (by omega)] | rw [cp_ne (by omega)])))) (fun j _ _ => by ((try dsimp only); (repeat (first | rw [si_eq] | rw [si_ne (by omega)] | rw [cp_in (by omega)] | rw [cp_ne (by omega)])))), h4.of hr (by ((try dsimp only); (repeat (first | rw [si_eq] | rw [si_ne (by omega)] | rw [cp_in (by omega)] | rw [cp_ne (by omega)])))) (fun c _ _ i _ => by ((try dsimp only); (repeat (first | rw [si_eq] | rw [si_ne (by omega)] | rw [cp_in (by omega)] | rw [cp_ne (by omega)])))) (fun j _ _ => by ((try dsimp only); (repeat (first | rw [si_eq] | rw [si_ne (by omega)] | rw [cp_in (by omega)] | rw [cp_ne (by omega)])))), PastP.of (p := p) (fun i hi => h5 i (by omega)) hl (by omega) (fun c _ _ i => by ((try dsimp only); (repeat (first | rw [si_eq] | rw [si_ne (by omega)] | rw [cp_in (by omega)] | rw [cp_ne (by omega)])))) (fun j _ _ => by ((try dsimp only); (repeat (first | rw [si_eq] | rw [si_ne (by omega)] | rw [cp_in (by omega)] | rw [cp_ne (by omega)]))))⟩
