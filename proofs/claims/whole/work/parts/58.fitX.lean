/-! fit: the class -/
section SORT
variable {K W H : Nat → Int32} {m : Int32} {l n k : Nat} {μ : Mem}
theorem sort_X (hk : k < 3) (hx : HX (83 + 5 * k) μ.1 n l K W H (m + nI k)) (hw : HW n l K W H) : ∃ ν, f_X1_sortClouds (nI k) μ = some ν ∧ ν.2 = μ.2 ∧ (∀ b j, b ≠ 104 + k → b ≠ 108 + k → b ≠ 83 + 5 * k + 4 → ν.1 b j = μ.1 b j) ∧ (∀ g, g < 6 → ν.1 (104 + k) g = nI (cN (fun c => fgi K W m l n H k c = g) (2 ^ n))) ∧ ∀ g, g < 6 → 0 < cN (fun c => fgi K W m l n H k c = g) (2 ^ n) → ∃ x, ν.1 (108 + k) g = nI x ∧ LstP (fun c => fgi K W m l n H k c = g) (2 ^ n) x := by
  have hn := hw.1.2.1
  have hp := pow5 hn
  unfold f_X1_sortClouds
  simp only [chk_nI (show k < 4 by omega) (show 4 < 2 ^ 31 by decide), chk_nI hk (show 3 < 2 ^ 31 by decide), lt_eq, ix_nI (show k < 2 ^ 31 by omega), jn_eq]
  rw [show 82 + 1 + 5 * k = 83 + 5 * k by omega, show 103 + 1 + 1 * k = 104 + k by omega, show 107 + 1 + 1 * k = 108 + k by omega]
  have hx4 : HX (83 + 5 * k) (mapM (104 + k) (fun _ _ => 0) μ 6).1 n l K W H (m + nI k) := hx.of (fun j => mp_ne (by omega)) (fun b j _ _ => mp_ne (by omega))
  refine (fun Z => ?_) (bd_for (G := fun ν4 => bd (f_X3_look (83 + 5 * k) ν4) fun ν8 =>
      bd (lp (ε := Mem) (cu2 fun (x3_9 : Int32) (ν10 : Mem) =>
        if x3_9 < ((1 : Int32) <<< ((ν10.1 (83 + 5 * k) 0) &&& 31)) then
          bd (f_X3_greatestBut (83 + 5 * k) x3_9 ν10) fun r13 =>
            chk (r13 + 1) 6 (
              if (ν10.1 (104 + k) (ix (r13 + 1))) = 0 then
                  chk (r13 + 1) 6 (
                  chk (r13 + 1) 6 (
                    chk (r13 + 1) 6 (
                      some (.inl ((x3_9 + 1), setI (setI ν10 (108 + k) (ix (r13 + 1)) x3_9) (104 + k) (ix (r13 + 1)) (((setI ν10 (108 + k) (ix (r13 + 1)) x3_9).1 (104 + k) (ix (r13 + 1))) + 1)))
                      )
                    )
                  )
              else
                  chk (r13 + 1) 6 (
                    chk (r13 + 1) 6 (
                      some (.inl ((x3_9 + 1), setI ν10 (104 + k) (ix (r13 + 1)) ((ν10.1 (104 + k) (ix (r13 + 1))) + 1)))
                      )
                    )
              )
        else
          some (.inr ν10)
        ) (0, ν8)) (fun (ν11 : Mem) =>
        some ν11
        )) (F := cu2 fun (x3_2 : Int32) (ν3 : Mem) =>
      if x3_2 < 6 then
          chk x3_2 6 (
            some (.inl ((x3_2 + 1), setI ν3 (104 + k) (ix x3_2) 0))
            )
      else
        some (.inr ν3)) (s := (0, μ)) (e := mapM (104 + k) (fun _ _ => 0) μ 6) (fun i => (nI i, mapM (104 + k) (fun _ _ => 0) μ i)) 6 (by show ((0 : Int32), μ) = (0, mapM _ _ μ 0); rw [mp_0]) (fun i hi => by
        rw [cu2_eq, if_pos (by exact (nI_ltI (b := 6) (by omega) (by decide)).mpr hi), chk_nI hi (by decide), ix_nI (by omega), mp_s (f := fun _ _ => 0) rfl, ← nI_succ]) (by rw [cu2_eq, if_neg (by decide)]))
  rw [Z, lk_X hx4 hw, bd_some]
  have L := lp_inv (F := cu2 fun (x3_9 : Int32) (ν10 : Mem) =>
        if x3_9 < ((1 : Int32) <<< ((ν10.1 (83 + 5 * k) 0) &&& 31)) then
          bd (f_X3_greatestBut (83 + 5 * k) x3_9 ν10) fun r13 =>
            chk (r13 + 1) 6 (
              if (ν10.1 (104 + k) (ix (r13 + 1))) = 0 then
                  chk (r13 + 1) 6 (
                  chk (r13 + 1) 6 (
                    chk (r13 + 1) 6 (
                      some (.inl ((x3_9 + 1), setI (setI ν10 (108 + k) (ix (r13 + 1)) x3_9) (104 + k) (ix (r13 + 1)) (((setI ν10 (108 + k) (ix (r13 + 1)) x3_9).1 (104 + k) (ix (r13 + 1))) + 1)))
                      )
                    )
                  )
              else
                  chk (r13 + 1) 6 (
                    chk (r13 + 1) 6 (
                      some (.inl ((x3_9 + 1), setI ν10 (104 + k) (ix (r13 + 1)) ((ν10.1 (104 + k) (ix (r13 + 1))) + 1)))
                      )
                    )
              )
        else
          some (.inr ν10)) (fun c s => s.1 = nI c ∧ s.2.2 = μ.2 ∧ (∀ b j, b ≠ 104 + k → b ≠ 108 + k → b ≠ 83 + 5 * k + 4 → s.2.1 b j = μ.1 b j) ∧ (∀ v, v < n → s.2.1 (83 + 5 * k + 4) v = sg K W H (m + nI k) l (nI v)) ∧ (∀ g, g < 6 → s.2.1 (104 + k) g = nI (cN (fun c => fgi K W m l n H k c = g) c)) ∧ ∀ g, g < 6 → 0 < cN (fun c => fgi K W m l n H k c = g) c → ∃ x, s.2.1 (108 + k) g = nI x ∧ LstP (fun c => fgi K W m l n H k c = g) c x) (fun e : Mem => e.2 = μ.2 ∧ (∀ b j, b ≠ 104 + k → b ≠ 108 + k → b ≠ 83 + 5 * k + 4 → e.1 b j = μ.1 b j) ∧ (∀ g, g < 6 → e.1 (104 + k) g = nI (cN (fun c => fgi K W m l n H k c = g) (2 ^ n))) ∧ ∀ g, g < 6 → 0 < cN (fun c => fgi K W m l n H k c = g) (2 ^ n) → ∃ x, e.1 (108 + k) g = nI x ∧ LstP (fun c => fgi K W m l n H k c = g) (2 ^ n) x) (2 ^ n) (fun c s hc hI => ?_) (fun s hI => ?_) (s := (0, lkM (83 + 5 * k) K W H (m + nI k) (mapM (104 + k) (fun _ _ => 0) μ 6) l)) ⟨rfl, rfl, fun b j b1 b2 b3 => by rw [lk_ne b3, mp_ne (by omega)], fun v hv => lk_in (by omega), fun g hg => by rw [lk_ne (by omega), mp_in hg]; rfl, fun g hg h => absurd h (by show ¬ 0 < 0; omega)⟩
  · obtain ⟨e, he, j1, j2, j3, j4⟩ := L
    exact ⟨e, by rw [he]; rfl, j1, j2, j3, j4⟩
  · obtain ⟨x, ν⟩ := s
    obtain ⟨rfl, i1, i2, i3, i4, i5⟩ := hI
    dsimp only at i1 i2 i3 i4 i5
    have h0 : ν.1 (83 + 5 * k) 0 = nI n := (i2 _ _ (by omega) (by omega) (by omega)).trans hx.1
    obtain ⟨w1, w2, w3⟩ := fgi_in (K := K) (W := W) (m := m) (l := l) hn H k c
    have w4 : fiO K W H (m + nI k) l n (nI c) + 1 = nI (fgi K W m l n H k c) := w2
    have hcl := cN_le (fun c' => fgi K W m l n H k c' = fgi K W m l n H k c) c
    rw [cu2_eq, h0, shl1 n (by omega), if_pos ((nI_ltI (by omega) (by omega)).mpr hc), gb_F h0 hn i3, bd_some, w4, ix_nI (by omega), i4 _ w1]
    simp only [chk_nI w1 (show 6 < 2 ^ 31 by decide), ← nI_succ]
    left
    have Z : ∀ ν' : Mem, ν'.2 = μ.2 → (∀ b j, b ≠ 104 + k → b ≠ 108 + k → b ≠ 83 + 5 * k + 4 → ν'.1 b j = μ.1 b j) → (∀ v, v < n → ν'.1 (83 + 5 * k + 4) v = sg K W H (m + nI k) l (nI v)) → (∀ g, g < 6 → ν'.1 (104 + k) g = nI (cN (fun c => fgi K W m l n H k c = g) c)) → (∀ g, g < 6 → g ≠ fgi K W m l n H k c → 0 < cN (fun c => fgi K W m l n H k c = g) c → ∃ x, ν'.1 (108 + k) g = nI x ∧ LstP (fun c => fgi K W m l n H k c = g) c x) → (∃ x, ν'.1 (108 + k) (fgi K W m l n H k c) = nI x ∧ LstP (fun c' => fgi K W m l n H k c' = fgi K W m l n H k c) (c + 1) x) → ∃ s', (some (Sum.inl (nI (c + 1), setI ν' (104 + k) (fgi K W m l n H k c) (nI (cN (fun c' => fgi K W m l n H k c' = fgi K W m l n H k c) c + 1)))) : Option ((Int32 × Mem) ⊕ Mem)) = some (.inl s') ∧ s'.1 = nI (c + 1) ∧ s'.2.2 = μ.2 ∧ (∀ b j, b ≠ 104 + k → b ≠ 108 + k → b ≠ 83 + 5 * k + 4 → s'.2.1 b j = μ.1 b j) ∧ (∀ v, v < n → s'.2.1 (83 + 5 * k + 4) v = sg K W H (m + nI k) l (nI v)) ∧ (∀ g, g < 6 → s'.2.1 (104 + k) g = nI (cN (fun c => fgi K W m l n H k c = g) (c + 1))) ∧ ∀ g, g < 6 → 0 < cN (fun c => fgi K W m l n H k c = g) (c + 1) → ∃ x, s'.2.1 (108 + k) g = nI x ∧ LstP (fun c => fgi K W m l n H k c = g) (c + 1) x := by
      intro ν' a1 a2 a3 a4 a5 a6
      refine ⟨_, rfl, rfl, a1, fun b j b1 b2 b3 => by rw [si_ne (by omega)]; exact a2 b j b1 b2 b3, fun v hv => by rw [si_ne (by omega)]; exact a3 v hv, fun g hg => ?_, fun g hg h => ?_⟩
      · by_cases e : g = fgi K W m l n H k c
        · rw [e, si_eq, cN_t (P := fun c' => fgi K W m l n H k c' = fgi K W m l n H k c) rfl]
        · rw [si_ne (by omega), cN_f (P := fun c' => fgi K W m l n H k c' = g) (fun q => e q.symm)]
          exact a4 g hg
      · by_cases e : g = fgi K W m l n H k c
        · rw [e, si_ne (by omega)]
          exact a6
        · rw [si_ne (by omega)]
          rw [cN_f (P := fun c' => fgi K W m l n H k c' = g) (fun q => e q.symm)] at h
          obtain ⟨x, x1, x2⟩ := a5 g hg e h
          exact ⟨x, x1, by have := x2.1; omega, x2.2⟩
    by_cases q : nI (cN (fun c' => fgi K W m l n H k c' = fgi K W m l n H k c) c) = 0
    · have q0 : cN (fun c' => fgi K W m l n H k c' = fgi K W m l n H k c) c = 0 := (nI_eq (b := 0) (by omega) (by decide)).mp q
      rw [if_pos q]
      have e : (setI ν (108 + k) (fgi K W m l n H k c) (nI c)).1 (104 + k) (fgi K W m l n H k c) + 1 = nI (cN (fun c' => fgi K W m l n H k c' = fgi K W m l n H k c) c + 1) := by rw [si_ne (by omega), i4 _ w1, ← nI_succ]
      rw [e]
      refine Z _ i1 (fun b j b1 b2 b3 => by rw [si_ne (by omega)]; exact i2 b j b1 b2 b3) (fun v hv => by rw [si_ne (by omega)]; exact i3 v hv) (fun g hg => by rw [si_ne (by omega)]; exact i4 g hg) (fun g hg hne h => by rw [si_ne (by omega)]; exact i5 g hg h) ⟨c, si_eq, by omega, rfl, fun j hj p => ?_⟩
      have := cN_pos (P := fun c' => fgi K W m l n H k c' = fgi K W m l n H k c) hj p
      omega
    · have q0 : 0 < cN (fun c' => fgi K W m l n H k c' = fgi K W m l n H k c) c := Nat.pos_of_ne_zero (fun z => q (by rw [z]; rfl))
      rw [if_neg q]
      refine Z _ i1 i2 i3 i4 (fun g hg hne h => i5 g hg h) ?_
      obtain ⟨x, x1, x2⟩ := i5 _ w1 q0
      exact ⟨x, x1, by have := x2.1; omega, x2.2⟩
  · obtain ⟨x, ν⟩ := s
    obtain ⟨rfl, i1, i2, i3, i4, i5⟩ := hI
    dsimp only at i1 i2 i3 i4 i5
    have h0 : ν.1 (83 + 5 * k) 0 = nI n := (i2 _ _ (by omega) (by omega) (by omega)).trans hx.1
    rw [cu2_eq, h0, shl1 n (by omega), if_neg (fun q => Nat.lt_irrefl _ ((nI_ltI (by omega) (by omega)).mp q))]
    exact ⟨_, rfl, i1, i2, i4, i5⟩
end SORT
