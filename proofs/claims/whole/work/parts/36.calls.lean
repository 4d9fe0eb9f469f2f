theorem ckC_d {α : Type} {sp dp n : Int32} {n0 n1 : Nat} {x : Option α} (h : ¬ sp < 0 ∧ ¬ dp < 0 ∧ ¬ n < 0 ∧ ix sp + ix n ≤ n0 ∧ ix dp + ix n ≤ n1) : ckC sp dp n n0 n1 x = x := if_pos h
theorem kj_eq {ν : Mem} {q : Nat} (m : ν.1 (1 + 9) 0 = nI q) (hq : q < 10) :
    chk (ν.1 (1 + 9) 0) 10 (lt (setI ν (1 + 9 + 1) (ix (ν.1 (1 + 9) 0)) (ν.1 (1 + 1) 2)) fun ν3 =>
      ckC 0 ((ν3.1 (1 + 9) 0) * 10) 10 10 100 (lt (cpyI ν3 (1 + 1 + 3) (ix 0) (1 + 9 + 2) (ix ((ν3.1 (1 + 9) 0) * 10)) (ix 10)) fun ν4 =>
        lt (setI ν4 (1 + 9) 0 ((ν4.1 (1 + 9) 0) + 1)) fun ν5 => some ν5)) = some (setI (cpyI (setI ν 11 q (ν.1 2 2)) 5 0 12 (q * 10) 10) 10 0 (nI (q + 1))) := by
  simp only [lt_eq]
  have e3 : (setI ν (1 + 9 + 1) q (ν.1 (1 + 1) 2)).1 (1 + 9) 0 = nI q := by rw [si_ne (by omega)]; exact m
  have e4 : (cpyI (setI ν (1 + 9 + 1) q (ν.1 (1 + 1) 2)) (1 + 1 + 3) 0 (1 + 9 + 2) (q * 10) 10).1 (1 + 9) 0 = nI q := by rw [cp_ne (by omega)]; exact e3
  rw [m, chk_nI hq (by decide), ix_nI (by omega), e3, show (10 : Int32) = nI 10 from rfl, show (0 : Int32) = nI 0 from rfl, ni_mul, ckC_nI (by decide) (by omega) (by decide) (by decide) (by omega), ix_nI (by omega), ix_nI (by omega), ix_nI (by omega), e4, ← nI_succ]
theorem keep_X {μ : Mem} {p q sh : Nat} (m : μ.1 (1 + 9) 0 = nI p) (hc : (p < 10 ∧ q = p ∧ sh = 0) ∨ (p = 10 ∧ q = 9 ∧ sh = 1)) : ∃ ν, f_X6_keep (1 + 9) (1 + 1) μ = some ν ∧ ν.2 = μ.2 ∧ (∀ b j, ¬ (10 ≤ b ∧ b ≤ 12) → ν.1 b j = μ.1 b j) ∧ ν.1 10 0 = nI (q + 1) ∧ (∀ i, i < q → ν.1 11 i = μ.1 11 (i + sh) ∧ ∀ j, j < 10 → ν.1 12 (10 * i + j) = μ.1 12 (10 * (i + sh) + j)) ∧ ν.1 11 q = μ.1 2 2 ∧ ∀ j, j < 10 → ν.1 12 (10 * q + j) = μ.1 5 j := by
  rcases hc with ⟨h, rfl, rfl⟩ | ⟨rfl, rfl, rfl⟩
  · refine ⟨setI (cpyI (setI μ 11 q (μ.1 2 2)) 5 0 12 (q * 10) 10) 10 0 (nI (q + 1)), ?_, rfl, fun b j hb => by (((try dsimp only); (repeat (first | rw [si_eq] | rw [si_ne (by omega)] | rw [cp_in (by omega)] | rw [cp_ne (by omega)]))) <;> (first | exact congrArg _ (by omega) | rfl)), by (((try dsimp only); (repeat (first | rw [si_eq] | rw [si_ne (by omega)] | rw [cp_in (by omega)] | rw [cp_ne (by omega)]))) <;> (first | exact congrArg _ (by omega) | rfl)), fun i hi => ⟨by (((try dsimp only); (repeat (first | rw [si_eq] | rw [si_ne (by omega)] | rw [cp_in (by omega)] | rw [cp_ne (by omega)]))) <;> (first | exact congrArg _ (by omega) | rfl)), fun j hj => by (((try dsimp only); (repeat (first | rw [si_eq] | rw [si_ne (by omega)] | rw [cp_in (by omega)] | rw [cp_ne (by omega)]))) <;> (first | exact congrArg _ (by omega) | rfl))⟩, by (((try dsimp only); (repeat (first | rw [si_eq] | rw [si_ne (by omega)] | rw [cp_in (by omega)] | rw [cp_ne (by omega)]))) <;> (first | exact congrArg _ (by omega) | rfl)), fun j hj => by (((try dsimp only); (repeat (first | rw [si_eq] | rw [si_ne (by omega)] | rw [cp_in (by omega)] | rw [cp_ne (by omega)]))) <;> (first | exact congrArg _ (by omega) | rfl))⟩
    unfold f_X6_keep
    rw [jn_eq, m, if_pos (by exact (nI_ltI (b := 10) (by omega) (by decide)).mpr h)]
    exact kj_eq m h
  · refine ⟨setI (cpyI (setI (setI (cpyI (cpyI μ 11 1 11 0 9) 12 10 12 0 90) 10 0 9) 11 9 (μ.1 2 2)) 5 0 12 (9 * 10) 10) 10 0 (nI (9 + 1)), ?_, rfl, fun b j hb => by (((try dsimp only); (repeat (first | rw [si_eq] | rw [si_ne (by omega)] | rw [cp_in (by omega)] | rw [cp_ne (by omega)]))) <;> (first | exact congrArg _ (by omega) | rfl)), by (((try dsimp only); (repeat (first | rw [si_eq] | rw [si_ne (by omega)] | rw [cp_in (by omega)] | rw [cp_ne (by omega)]))) <;> (first | exact congrArg _ (by omega) | rfl)), fun i hi => ⟨by (((try dsimp only); (repeat (first | rw [si_eq] | rw [si_ne (by omega)] | rw [cp_in (by omega)] | rw [cp_ne (by omega)]))) <;> (first | exact congrArg _ (by omega) | rfl)), fun j hj => by (((try dsimp only); (repeat (first | rw [si_eq] | rw [si_ne (by omega)] | rw [cp_in (by omega)] | rw [cp_ne (by omega)]))) <;> (first | exact congrArg _ (by omega) | rfl))⟩, by (((try dsimp only); (repeat (first | rw [si_eq] | rw [si_ne (by omega)] | rw [cp_in (by omega)] | rw [cp_ne (by omega)]))) <;> (first | exact congrArg _ (by omega) | rfl)), fun j hj => by (((try dsimp only); (repeat (first | rw [si_eq] | rw [si_ne (by omega)] | rw [cp_in (by omega)] | rw [cp_ne (by omega)]))) <;> (first | exact congrArg _ (by omega) | rfl))⟩
    unfold f_X6_keep
    rw [jn_eq, m, if_neg (by decide), ckC_d (by decide), lt_eq, ckC_d (by decide), lt_eq, lt_eq]
    refine (kj_eq (q := 9) (by rfl) (by decide)).trans ?_
    rfl
theorem rj_eq {ν : Mem} {q : Nat} (m : ν.1 113 4 = nI q) (hq : q < 10) :
    chk (74 + (11 * (ν.1 113 4))) 184 (lt (setI ν 113 (ix (74 + (11 * (ν.1 113 4)))) (ν.1 113 3)) fun ν3 =>
      bd (lp (ε := Mem) (cu2 fun (x2_4 : Int32) (ν5 : Mem) =>
        if x2_4 < 10 then
          chk (26 + x2_4) 184 (
            chk (((74 + (11 * (ν.1 113 4))) + 1) + x2_4) 184 (lt (setI ν5 113 (ix (((74 + (11 * (ν.1 113 4))) + 1) + x2_4)) (ν5.1 113 (ix (26 + x2_4)))) fun ν8 =>
              some (.inl ((x2_4 + 1), ν8))
              )
            )
        else
          some (.inr ν5)
        ) (0, ν3)) (fun (ν6 : Mem) =>
        lt (setI ν6 113 4 ((ν6.1 113 4) + 1)) fun ν9 =>
        some ν9
        )
      ) = some (setI (cpyI (setI ν 113 (74 + 11 * q) (ν.1 113 3)) 113 26 113 (74 + 11 * q + 1) 10) 113 4 (nI (q + 1))) := by
  have e4 : (cpyI (setI ν 113 (74 + 11 * q) (ν.1 113 3)) 113 26 113 (74 + 11 * q + 1) 10).1 113 4 = nI q := by rw [cp_ne (by omega), si_ne (by omega)]; exact m
  rw [m, show (74 : Int32) = nI 74 from rfl, show (11 : Int32) = nI 11 from rfl, ni_mul, ni_add, chk_nI (by omega) (by decide), lt_eq, ix_nI (by omega), cpL (N := 10) (NI := 10) (s := 26) (d := 74 + 11 * q + 1) rfl (by decide) (fun i hi => by rw [show (26 : Int32) = nI 26 from rfl, ni_add]) (fun i hi => by rw [show (1 : Int32) = nI 1 from rfl, ni_add, ni_add]) (by decide) (by omega) (by decide) (by decide) (by omega), bd_some, lt_eq, e4, ← nI_succ]
theorem rem_Y {μ : Mem} {p q sh : Nat} (m : μ.1 113 4 = nI p) (hc : (p < 10 ∧ q = p ∧ sh = 0) ∨ (p = 10 ∧ q = 9 ∧ sh = 1)) : ∃ ν, f_X11_remembers μ = some ν ∧ ν.2 = μ.2 ∧ (∀ b j, ¬ (b = 113 ∧ (j = 4 ∨ (74 ≤ j ∧ j < 184))) → ν.1 b j = μ.1 b j) ∧ ν.1 113 4 = nI (q + 1) ∧ (∀ i, i < q → ∀ j, j < 11 → ν.1 113 (74 + 11 * i + j) = μ.1 113 (74 + 11 * (i + sh) + j)) ∧ ν.1 113 (74 + 11 * q) = μ.1 113 3 ∧ ∀ j, j < 10 → ν.1 113 (74 + 11 * q + 1 + j) = μ.1 113 (26 + j) := by
  rcases hc with ⟨h, rfl, rfl⟩ | ⟨rfl, rfl, rfl⟩
  · refine ⟨setI (cpyI (setI μ 113 (74 + 11 * q) (μ.1 113 3)) 113 26 113 (74 + 11 * q + 1) 10) 113 4 (nI (q + 1)), ?_, rfl, fun b j hb => by (((try dsimp only); (repeat (first | rw [si_eq] | rw [si_ne (by omega)] | rw [cp_in (by omega)] | rw [cp_ne (by omega)]))) <;> (first | exact congrArg _ (by omega) | rfl)), by (((try dsimp only); (repeat (first | rw [si_eq] | rw [si_ne (by omega)] | rw [cp_in (by omega)] | rw [cp_ne (by omega)]))) <;> (first | exact congrArg _ (by omega) | rfl)), fun i hi j hj => by (((try dsimp only); (repeat (first | rw [si_eq] | rw [si_ne (by omega)] | rw [cp_in (by omega)] | rw [cp_ne (by omega)]))) <;> (first | exact congrArg _ (by omega) | rfl)), by (((try dsimp only); (repeat (first | rw [si_eq] | rw [si_ne (by omega)] | rw [cp_in (by omega)] | rw [cp_ne (by omega)]))) <;> (first | exact congrArg _ (by omega) | rfl)), fun j hj => by (((try dsimp only); (repeat (first | rw [si_eq] | rw [si_ne (by omega)] | rw [cp_in (by omega)] | rw [cp_ne (by omega)]))) <;> (first | exact congrArg _ (by omega) | rfl))⟩
    unfold f_X11_remembers
    rw [jn_eq, m, if_neg (by exact fun z => absurd ((nI_eq (b := 10) (by omega) (by decide)).mp z) (by omega))]
    exact rj_eq m h
  · refine ⟨setI (cpyI (setI (setI (cpyI μ 113 85 113 74 99) 113 4 (nI 9)) 113 (74 + 11 * 9) (μ.1 113 3)) 113 26 113 (74 + 11 * 9 + 1) 10) 113 4 (nI (9 + 1)), ?_, rfl, fun b j hb => by (((try dsimp only); (repeat (first | rw [si_eq] | rw [si_ne (by omega)] | rw [cp_in (by omega)] | rw [cp_ne (by omega)]))) <;> (first | exact congrArg _ (by omega) | rfl)), by (((try dsimp only); (repeat (first | rw [si_eq] | rw [si_ne (by omega)] | rw [cp_in (by omega)] | rw [cp_ne (by omega)]))) <;> (first | exact congrArg _ (by omega) | rfl)), fun i hi j hj => by (((try dsimp only); (repeat (first | rw [si_eq] | rw [si_ne (by omega)] | rw [cp_in (by omega)] | rw [cp_ne (by omega)]))) <;> (first | exact congrArg _ (by omega) | rfl)), by (((try dsimp only); (repeat (first | rw [si_eq] | rw [si_ne (by omega)] | rw [cp_in (by omega)] | rw [cp_ne (by omega)]))) <;> (first | exact congrArg _ (by omega) | rfl)), fun j hj => by (((try dsimp only); (repeat (first | rw [si_eq] | rw [si_ne (by omega)] | rw [cp_in (by omega)] | rw [cp_ne (by omega)]))) <;> (first | exact congrArg _ (by omega) | rfl))⟩
    unfold f_X11_remembers
    have e4 : (cpyI μ 113 85 113 74 99).1 113 4 = nI 10 := by rw [cp_ne (by omega)]; exact m
    rw [jn_eq, m, if_pos (by rfl), cpL (N := 99) (NI := 99) (s := 85) (d := 74) rfl (by decide) (fun i hi => by rw [show (74 : Int32) = nI 74 from rfl, show (11 : Int32) = nI 11 from rfl, ni_add, ni_add, show 74 + i + 11 = 85 + i by omega]) (fun i hi => by rw [show (74 : Int32) = nI 74 from rfl, ni_add]) (by decide) (by decide) (by decide) (by decide) (by omega), bd_some, lt_eq, e4, show nI 10 - 1 = nI 9 by decide]
    refine (rj_eq (q := 9) si_eq (by decide)).trans ?_
    rw [si_ne (by omega), cp_ne (by omega)]
theorem past_step {M M' : Nat → Nat → Int32} {B B' : Nat → Int32} {l p q sh : Nat} (h5 : PastP 1 M B l p) (hL : ∀ j, j < l → ∃ h, h ≤ 99 ∧ B (26 + j) = nI h ∧ M (1 + 4) j = nI h) (hm : M (1 + 1) 2 = B 3) (hl : l ≤ 10) (hc : (p < 10 ∧ q = p ∧ sh = 0) ∨ (p = 10 ∧ q = 9 ∧ sh = 1)) (K1 : ∀ i, i < q → M' 11 i = M 11 (i + sh) ∧ ∀ j, j < 10 → M' 12 (10 * i + j) = M 12 (10 * (i + sh) + j)) (K2 : M' 11 q = M 2 2) (K3 : ∀ j, j < 10 → M' 12 (10 * q + j) = M 5 j) (R1 : ∀ i, i < q → ∀ j, j < 11 → B' (74 + 11 * i + j) = B (74 + 11 * (i + sh) + j)) (R2 : B' (74 + 11 * q) = B 3) (R3 : ∀ j, j < 10 → B' (74 + 11 * q + 1 + j) = B (26 + j)) : PastP 1 M' B' l (q + 1) := by
  intro i hi
  by_cases e : i = q
  · subst e
    refine ⟨K2.trans (hm.trans R2.symm), fun j hj => ?_⟩
    obtain ⟨g, hg, g1, g2⟩ := hL j hj
    exact ⟨g, hg, (R3 j (by omega)).trans g1, (K3 j (by omega)).trans g2⟩
  · have q5 := h5 (i + sh) (by omega)
    refine ⟨(K1 i (by omega)).1.trans (q5.1.trans (R1 i (by omega) 0 (by decide)).symm), fun j hj => ?_⟩
    obtain ⟨g, hg, g1, g2⟩ := q5.2 j hj
    refine ⟨g, hg, ?_, ((K1 i (by omega)).2 j (by omega)).trans g2⟩
    have := R1 i (by omega) (1 + j) (by omega)
    rw [← Nat.add_assoc, ← Nat.add_assoc] at this
    exact this.trans g1
theorem qsh (p : Nat) (h : p ≤ 10) : ∃ q sh, (p < 10 ∧ q = p ∧ sh = 0) ∨ (p = 10 ∧ q = 9 ∧ sh = 1) := by
  by_cases e : p < 10
  · exact ⟨p, 0, Or.inl ⟨e, rfl, rfl⟩⟩
  · exact ⟨9, 1, Or.inr ⟨by omega, rfl, rfl⟩⟩
theorem drive_X {μ ν : Mem} {l a b g g' w : Nat} (s1 : μ.1 (1 + 1) 1 = nI l) (hl : l ≤ 10) (ha : a < l) (hb : b < l) (hab : a ≠ b) (e1 : μ.1 (1 + 4) a = nI g) (e2 : μ.1 (1 + 4) b = nI g') (hg : g ≤ 99) (hw : w ≤ g) (hs : g' + w ≤ 99) (k1 : f_X6_keep (1 + 9) (1 + 1) μ = some ν) (f : ∀ j, ν.1 (1 + 4) j = μ.1 (1 + 4) j) : f_X10_drive (nI a) (nI b) (nI w) μ = some (nI (g' + w), setI (setI ν 5 a (nI (g - w))) 5 b (nI (g' + w))) := by
  unfold f_X10_drive f_X0_driveHeads
  have e3 : (setI ν (1 + 4) a (nI (g - w))).1 (1 + 4) b = nI g' := by rw [si_ne (by omega), f b]; exact e2
  rw [hasL_ok s1 (by omega) ha, bd_some]
  simp only [jn_eq]
  rw [ix_nI (i := a) (by omega), ix_nI (i := b) (by omega), if_neg (by decide), hasL_ok s1 (by omega) hb, bd_some, if_neg (by decide), if_neg (fun q => hab ((nI_eq (by omega) (by omega)).mp q)), if_neg (nI_pos (by omega)), chk_nI (by omega) (by decide), e1, if_neg (fun q => absurd ((nI_ltI (by omega) (by omega)).mp q) (by omega)), chk_nI (by omega) (by decide), e2, ni_add, if_neg (by exact fun q => absurd ((nI_ltI (a := 99) (by omega) (by omega)).mp q) (by omega)), k1, bd_some, chk_nI (by omega) (by decide), chk_nI (by omega) (by decide), lt_eq, f a, e1, ni_sub hw, chk_nI (by omega) (by decide), chk_nI (by omega) (by decide), lt_eq, e3, ni_add, chk_nI (by omega) (by decide), si_eq, bd2_some, tally_ok (nI_pos (by omega)), bd2_some]
theorem drive_Y {μ ν : Mem} {l a b g g' w : Nat} (s1 : μ.1 113 1 = nI l) (hl : l ≤ 10) (ha : a < l) (hb : b < l) (hab : a ≠ b) (e1 : μ.1 113 (26 + a) = nI g) (e2 : μ.1 113 (26 + b) = nI g') (hg : g ≤ 99) (hw : w ≤ g) (hs : g' + w ≤ 99) (k1 : f_X11_remembers μ = some ν) (f : ∀ j, 26 ≤ j → j < 36 → ν.1 113 j = μ.1 113 j) : f_X11_drive (nI a) (nI b) (nI w) μ = some (nI (g' + w), setI (setI ν 113 (26 + a) (nI (g - w))) 113 (26 + b) (nI (g' + w))) := by
  unfold f_X11_drive
  have e3 : (setI ν 113 (26 + a) (nI (g - w))).1 113 (26 + b) = nI g' := by rw [si_ne (by omega), f _ (by omega) (by omega)]; exact e2
  rw [isL_ok s1 (by omega) ha, bd_some]
  simp only [jn_eq]
  rw [show (26 : Int32) = nI 26 from rfl, ni_add 26 a, ni_add 26 b, ix_nI (i := 26 + a) (by omega), ix_nI (i := 26 + b) (by omega), if_neg (by decide), isL_ok s1 (by omega) hb, bd_some, if_neg (by decide), if_neg (fun q => hab ((nI_eq (by omega) (by omega)).mp q)), if_neg (nI_pos (by omega)), chk_nI (by omega) (by decide), e1, if_neg (fun q => absurd ((nI_ltI (by omega) (by omega)).mp q) (by omega)), chk_nI (by omega) (by decide), e2, ni_add, if_neg (by exact fun q => absurd ((nI_ltI (a := 99) (by omega) (by omega)).mp q) (by omega)), k1, bd_some, chk_nI (by omega) (by decide), chk_nI (by omega) (by decide), lt_eq, f (26 + a) (by omega) (by omega), e1, ni_sub hw, chk_nI (by omega) (by decide), chk_nI (by omega) (by decide), lt_eq, e3, ni_add, chk_nI (by omega) (by decide), si_eq]
theorem ok_drive (x y z : Int32) : Ok (f_X10_drive x y z) (f_X11_drive x y z) := by
  intro μ h
  obtain ⟨⟨n, l, r, p, hh, h1, h2, h3, h4, h5⟩, hi, ht, hll, hrf, hq⟩ := id h
  obtain ⟨⟨hn1, hn5, hl, hr, hp⟩, ⟨s0, s1, s2, s4, gr, hgr, s5⟩, c1, c2, c3, c4, c5, c6⟩ := id hh
  have m1 : μ.1 (1 + 1) 1 = nI l := c2.trans s1
  have m6 : μ.1 (1 + 9) 0 = nI p := c6.trans s4
  rcases isN_or x (n := l) (by omega) with ⟨a, ha, rfl⟩ | hx
  · rcases isN_or y (n := l) (by omega) with ⟨b, hb, rfl⟩ | hx
    · by_cases hab : a = b
      · refine ok_bad h ?_ (fun ν h5 hB _ => ?_)
        · unfold f_X10_drive f_X0_driveHeads
          rw [hasL_ok m1 (by omega) ha, bd_some]
          simp only [jn_eq]
          rw [if_neg (by decide), hasL_ok m1 (by omega) hb, bd_some, if_neg (by decide), if_pos (by rw [hab]), bd2_some, tally_bad, bd2_some]
        · unfold f_X11_drive
          rw [isL_ok ((hB 1).trans s1) (by omega) ha, bd_some]
          simp only [jn_eq]
          rw [if_neg (by decide), isL_ok ((hB 1).trans s1) (by omega) hb, bd_some, if_neg (by decide), if_pos (by rw [hab]), badM h5, bd2_some]
      · have hne : ¬ nI a = nI b := fun q => hab ((nI_eq (by omega) (by omega)).mp q)
        obtain ⟨g, hg, g1, g2⟩ := (h1 a ha).2.2
        obtain ⟨g', hg', g1', g2'⟩ := (h1 b hb).2.2
        rcases isN_or z (n := g + 1) (by omega) with ⟨w, hw, rfl⟩ | hz
        · by_cases hs : g' + w ≤ 99
          · obtain ⟨q, sh, hc⟩ := qsh p hp
            obtain ⟨νk, k1, k2, k3, k4, k5, k6, k7⟩ := keep_X m6 hc
            have X := drive_X m1 hl ha hb hab g2 g2' hg (by omega) hs k1 (fun j => k3 _ _ (by omega))
            obtain ⟨νr, r1, r2, r3, r4, r5, r6, r7⟩ := rem_Y (μ := setI (setI νk 5 a (nI (g - w))) 5 b (nI (g' + w))) (p := p) (by rw [si_ne (by omega), si_ne (by omega), k3 _ _ (by omega)]; exact s4) hc
            refine ⟨_, _, _, X, drive_Y (l := l) (by rw [si_ne (by omega), si_ne (by omega), k3 _ _ (by omega)]; exact s1) hl ha hb hab (by rw [si_ne (by omega), si_ne (by omega), k3 _ _ (by omega)]; exact g1) (by rw [si_ne (by omega), si_ne (by omega), k3 _ _ (by omega)]; exact g1') hg (by omega) hs r1 (fun j _ _ => r3 _ _ (by omega)), ?_⟩
            refine h.now (fun q j hq9 => by have k9 := relo_ne hq9; (try dsimp only); (repeat (first | rw [si_eq] | rw [si_ne (by omega)] | rw [r3 _ _ (by omega)] | rw [k3 _ _ (by omega)]))) ⟨by show νr.2 0 = _; rw [r2]; show νk.2 0 = _; rw [k2], by show νr.2 112 = _; rw [r2]; show νk.2 112 = _; rw [k2]⟩ ⟨n, l, r, q + 1, ⟨⟨hn1, hn5, hl, hr, by omega⟩, ⟨by (((try dsimp only); (repeat (first | rw [si_eq] | rw [si_ne (by omega)] | rw [r3 _ _ (by omega)] | rw [k3 _ _ (by omega)]))) <;> exact s0), by (((try dsimp only); (repeat (first | rw [si_eq] | rw [si_ne (by omega)] | rw [r3 _ _ (by omega)] | rw [k3 _ _ (by omega)]))) <;> exact s1), by (((try dsimp only); (repeat (first | rw [si_eq] | rw [si_ne (by omega)] | rw [r3 _ _ (by omega)] | rw [k3 _ _ (by omega)]))) <;> exact s2), by (((try dsimp only); (repeat (first | rw [si_eq] | rw [si_ne (by omega)] | rw [r3 _ _ (by omega)] | rw [k3 _ _ (by omega)]))) <;> exact r4), gr, hgr, by (((try dsimp only); (repeat (first | rw [si_eq] | rw [si_ne (by omega)] | rw [r3 _ _ (by omega)] | rw [k3 _ _ (by omega)]))) <;> exact s5)⟩, by (((try dsimp only); (repeat (first | rw [si_eq] | rw [si_ne (by omega)] | rw [r3 _ _ (by omega)] | rw [k3 _ _ (by omega)]))) <;> exact c1), by (((try dsimp only); (repeat (first | rw [si_eq] | rw [si_ne (by omega)] | rw [r3 _ _ (by omega)] | rw [k3 _ _ (by omega)]))) <;> exact c2), by (((try dsimp only); (repeat (first | rw [si_eq] | rw [si_ne (by omega)] | rw [r3 _ _ (by omega)] | rw [k3 _ _ (by omega)]))) <;> exact c3), by (((try dsimp only); (repeat (first | rw [si_eq] | rw [si_ne (by omega)] | rw [r3 _ _ (by omega)] | rw [k3 _ _ (by omega)]))) <;> exact c4), by (((try dsimp only); (repeat (first | rw [si_eq] | rw [si_ne (by omega)] | rw [r3 _ _ (by omega)] | rw [k3 _ _ (by omega)]))) <;> exact c5), by (((try dsimp only); (repeat (first | rw [si_eq] | rw [si_ne (by omega)] | rw [r3 _ _ (by omega)] | rw [k3 _ _ (by omega)]))) <;> exact (k4.trans r4.symm))⟩, fun i hi => ⟨by (((try dsimp only); (repeat (first | rw [si_eq] | rw [si_ne (by omega)] | rw [r3 _ _ (by omega)] | rw [k3 _ _ (by omega)]))) <;> exact (h1 i hi).1), by (((try dsimp only); (repeat (first | rw [si_eq] | rw [si_ne (by omega)] | rw [r3 _ _ (by omega)] | rw [k3 _ _ (by omega)]))) <;> exact (h1 i hi).2.1), ?_⟩, h2.of (fun i _ => by (try dsimp only); (repeat (first | rw [si_eq] | rw [si_ne (by omega)] | rw [r3 _ _ (by omega)] | rw [k3 _ _ (by omega)]))) (fun j _ _ => by (try dsimp only); (repeat (first | rw [si_eq] | rw [si_ne (by omega)] | rw [r3 _ _ (by omega)] | rw [k3 _ _ (by omega)]))), h3.of (fun i _ => by (try dsimp only); (repeat (first | rw [si_eq] | rw [si_ne (by omega)] | rw [r3 _ _ (by omega)] | rw [k3 _ _ (by omega)]))) (fun j _ _ => by (try dsimp only); (repeat (first | rw [si_eq] | rw [si_ne (by omega)] | rw [r3 _ _ (by omega)] | rw [k3 _ _ (by omega)]))), h4.of hr (by (try dsimp only); (repeat (first | rw [si_eq] | rw [si_ne (by omega)] | rw [r3 _ _ (by omega)] | rw [k3 _ _ (by omega)]))) (fun c _ _ i _ => by (try dsimp only); (repeat (first | rw [si_eq] | rw [si_ne (by omega)] | rw [r3 _ _ (by omega)] | rw [k3 _ _ (by omega)]))) (fun j _ _ => by (try dsimp only); (repeat (first | rw [si_eq] | rw [si_ne (by omega)] | rw [r3 _ _ (by omega)] | rw [k3 _ _ (by omega)]))), ?_⟩
            · by_cases e : i = a
              · subst e
                exact ⟨g - w, by omega, by (try dsimp only); (repeat (first | rw [si_eq] | rw [si_ne (by omega)] | rw [r3 _ _ (by omega)] | rw [k3 _ _ (by omega)])), by (try dsimp only); (repeat (first | rw [si_eq] | rw [si_ne (by omega)] | rw [r3 _ _ (by omega)] | rw [k3 _ _ (by omega)]))⟩
              · by_cases e' : i = b
                · subst e'
                  exact ⟨g' + w, by omega, by (try dsimp only); (repeat (first | rw [si_eq] | rw [si_ne (by omega)] | rw [r3 _ _ (by omega)] | rw [k3 _ _ (by omega)])), by (try dsimp only); (repeat (first | rw [si_eq] | rw [si_ne (by omega)] | rw [r3 _ _ (by omega)] | rw [k3 _ _ (by omega)]))⟩
                · obtain ⟨g, hg, g1, g2⟩ := (h1 i hi).2.2
                  exact ⟨g, hg, by (((try dsimp only); (repeat (first | rw [si_eq] | rw [si_ne (by omega)] | rw [r3 _ _ (by omega)] | rw [k3 _ _ (by omega)]))) <;> exact g1), by (((try dsimp only); (repeat (first | rw [si_eq] | rw [si_ne (by omega)] | rw [r3 _ _ (by omega)] | rw [k3 _ _ (by omega)]))) <;> exact g2)⟩
            · refine (past_step (M' := νk.1) (B' := fun j => νr.1 113 j) h5 (fun j hj => (h1 j hj).2.2) c3 hl hc k5 k6 k7 (fun i hi j hj => (r5 i hi j hj).trans (by (try dsimp only); (repeat (first | rw [si_eq] | rw [si_ne (by omega)] | rw [r3 _ _ (by omega)] | rw [k3 _ _ (by omega)])))) (r6.trans (by (try dsimp only); (repeat (first | rw [si_eq] | rw [si_ne (by omega)] | rw [r3 _ _ (by omega)] | rw [k3 _ _ (by omega)])))) (fun j hj => (r7 j hj).trans (by (try dsimp only); (repeat (first | rw [si_eq] | rw [si_ne (by omega)] | rw [r3 _ _ (by omega)] | rw [k3 _ _ (by omega)]))))).of hl (by omega) (fun c _ _ i => ?_) (fun j _ _ => ?_)
              · show (setI (setI νr 113 (26 + a) (nI (g - w))) 113 (26 + b) (nI (g' + w))).1 (1 + c) i = νk.1 (1 + c) i
                rw [si_ne (by omega), si_ne (by omega), r3 _ _ (by omega), si_ne (by omega), si_ne (by omega)]
              · show (setI (setI νr 113 (26 + a) (nI (g - w))) 113 (26 + b) (nI (g' + w))).1 113 j = νr.1 113 j
                rw [si_ne (by omega), si_ne (by omega)]
          · refine ok_no h ?_ (fun ν h5 hB => ?_)
            · unfold f_X10_drive f_X0_driveHeads
              rw [hasL_ok m1 (by omega) ha, bd_some]
              simp only [jn_eq]
              rw [ix_nI (i := a) (by omega), ix_nI (i := b) (by omega), if_neg (by decide), hasL_ok m1 (by omega) hb, bd_some, if_neg (by decide), if_neg hne, if_neg (nI_pos (by omega)), chk_nI (by omega) (by decide), g2, if_neg (fun q => absurd ((nI_ltI (by omega) (by omega)).mp q) (by omega)), chk_nI (by omega) (by decide), g2', ni_add, if_pos (by exact (nI_ltI (a := 99) (by omega) (by omega)).mpr (by omega)), bd2_some, tally_no, bd2_some]
            · have e1 : ν.1 113 (26 + a) = nI g := (hB _ _ (by decide)).trans g1
              have e2 : ν.1 113 (26 + b) = nI g' := (hB _ _ (by decide)).trans g1'
              unfold f_X11_drive
              rw [isL_ok ((hB _ _ (by decide)).trans s1) (by omega) ha, bd_some]
              simp only [jn_eq]
              rw [show (26 : Int32) = nI 26 from rfl, ni_add 26 a, ni_add 26 b, ix_nI (i := 26 + a) (by omega), ix_nI (i := 26 + b) (by omega), if_neg (by decide), isL_ok ((hB _ _ (by decide)).trans s1) (by omega) hb, bd_some, if_neg (by decide), if_neg hne, if_neg (nI_pos (by omega)), chk_nI (by omega) (by decide), e1, if_neg (fun q => absurd ((nI_ltI (by omega) (by omega)).mp q) (by omega)), chk_nI (by omega) (by decide), e2, ni_add, if_pos (by exact (nI_ltI (a := 99) (by omega) (by omega)).mpr (by omega)), noM h5, bd2_some]
        · by_cases hz0 : z < 0
          · refine ok_bad h ?_ (fun ν h5 hB _ => ?_)
            · unfold f_X10_drive f_X0_driveHeads
              rw [hasL_ok m1 (by omega) ha, bd_some]
              simp only [jn_eq]
              rw [if_neg (by decide), hasL_ok m1 (by omega) hb, bd_some, if_neg (by decide), if_neg hne, if_pos hz0, bd2_some, tally_bad, bd2_some]
            · unfold f_X11_drive
              rw [isL_ok ((hB 1).trans s1) (by omega) ha, bd_some]
              simp only [jn_eq]
              rw [if_neg (by decide), isL_ok ((hB 1).trans s1) (by omega) hb, bd_some, if_neg (by decide), if_neg hne, if_pos hz0, badM h5, bd2_some]
          · have hz1 : nI g < z := gt_of (by omega) (hz.resolve_left hz0)
            refine ok_no h ?_ (fun ν h5 hB => ?_)
            · unfold f_X10_drive f_X0_driveHeads
              rw [hasL_ok m1 (by omega) ha, bd_some]
              simp only [jn_eq]
              rw [ix_nI (i := a) (by omega), if_neg (by decide), hasL_ok m1 (by omega) hb, bd_some, if_neg (by decide), if_neg hne, if_neg hz0, chk_nI (by omega) (by decide), g2, if_pos hz1, bd2_some, tally_no, bd2_some]
            · have e1 : ν.1 113 (26 + a) = nI g := (hB _ _ (by decide)).trans g1
              unfold f_X11_drive
              rw [isL_ok ((hB _ _ (by decide)).trans s1) (by omega) ha, bd_some]
              simp only [jn_eq]
              rw [show (26 : Int32) = nI 26 from rfl, ni_add 26 a, ix_nI (i := 26 + a) (by omega), if_neg (by decide), isL_ok ((hB _ _ (by decide)).trans s1) (by omega) hb, bd_some, if_neg (by decide), if_neg hne, if_neg hz0, chk_nI (by omega) (by decide), e1, if_pos hz1, noM h5, bd2_some]
    · refine ok_bad h ?_ (fun ν h5 hB _ => ?_)
      · unfold f_X10_drive f_X0_driveHeads
        rw [hasL_ok m1 (by omega) ha, bd_some]
        simp only [jn_eq]
        rw [if_neg (by decide), hasL_bad m1 hx, bd_some, if_pos (by trivial), bd2_some, tally_bad, bd2_some]
      · unfold f_X11_drive
        rw [isL_ok ((hB 1).trans s1) (by omega) ha, bd_some]
        simp only [jn_eq]
        rw [if_neg (by decide), isL_bad ((hB 1).trans s1) (by omega) hx, bd_some, if_pos (by trivial), badM h5, bd2_some]
  · refine ok_bad h ?_ (fun ν h5 hB _ => ?_)
    · unfold f_X10_drive f_X0_driveHeads
      rw [hasL_bad m1 hx, bd_some]
      simp only [jn_eq]
      rw [if_pos (by trivial), bd2_some, tally_bad, bd2_some]
    · unfold f_X11_drive
      rw [isL_bad ((hB 1).trans s1) (by omega) hx, bd_some]
      simp only [jn_eq]
      rw [if_pos (by trivial), badM h5, bd2_some]
