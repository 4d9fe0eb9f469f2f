/-! become; pays, drawn -/
theorem bc_X {k0 k1 : Nat} {μ : Mem} (hd : k0 + 4 ≤ k1 ∨ k1 + 4 ≤ k0) : ∃ ν, f_X3_become k0 k1 μ = some ν ∧ ν.2 = μ.2 ∧ (∀ b j, ¬ (k0 ≤ b ∧ b ≤ k0 + 3) → ν.1 b j = μ.1 b j) ∧ (∀ j, j < 4 → ν.1 k0 j = μ.1 k1 j) ∧ ∀ c j, 1 ≤ c → c ≤ 3 → j < 10 → ν.1 (k0 + c) j = μ.1 (k1 + c) j := by
  have i0 : ix 0 = 0 := by decide
  have i10 : ix 10 = 10 := by decide
  unfold f_X3_become
  simp only [lt_eq]
  rw [ckC_d (by decide), ckC_d (by decide), ckC_d (by decide), i0, i10]
  refine ⟨_, rfl, rfl, fun b j hb => by ((try dsimp only); (repeat (first | rw [si_eq] | rw [si_ne (by omega)] | rw [cp_in (by omega)] | rw [cp_ne (by omega)]))), fun j hj => ?_, fun c j hc1 hc3 hj => ?_⟩
  · match j, hj with
    | 0, _ => ((try dsimp only); (repeat (first | rw [si_eq] | rw [si_ne (by omega)] | rw [cp_in (by omega)] | rw [cp_ne (by omega)])))
    | 1, _ => ((try dsimp only); (repeat (first | rw [si_eq] | rw [si_ne (by omega)] | rw [cp_in (by omega)] | rw [cp_ne (by omega)])))
    | 2, _ => ((try dsimp only); (repeat (first | rw [si_eq] | rw [si_ne (by omega)] | rw [cp_in (by omega)] | rw [cp_ne (by omega)])))
    | 3, _ => ((try dsimp only); (repeat (first | rw [si_eq] | rw [si_ne (by omega)] | rw [cp_in (by omega)] | rw [cp_ne (by omega)])))
    | j + 4, hj => exact absurd hj (by omega)
  · have e : 0 + (j - 0) = j := by omega
    match c, hc1, hc3 with
    | 1, _, _ => rw [cp_ne (by omega), cp_ne (by omega), cp_in (by omega), e]; ((try dsimp only); (repeat (first | rw [si_eq] | rw [si_ne (by omega)] | rw [cp_in (by omega)] | rw [cp_ne (by omega)])))
    | 2, _, _ => rw [cp_ne (by omega), cp_in (by omega), e]; ((try dsimp only); (repeat (first | rw [si_eq] | rw [si_ne (by omega)] | rw [cp_in (by omega)] | rw [cp_ne (by omega)])))
    | 3, _, _ => rw [cp_in (by omega), e]; ((try dsimp only); (repeat (first | rw [si_eq] | rw [si_ne (by omega)] | rw [cp_in (by omega)] | rw [cp_ne (by omega)])))
    | c + 4, _, h => exact absurd h (by omega)
theorem bc_H {k0 k1 n l : Nat} {K W H : Nat → Int32} {m : Int32} {μ : Mem} (hd : k0 + 4 ≤ k1 ∨ k1 + 4 ≤ k0) (hx : HX k1 μ.1 n l K W H m) (hl : l ≤ 10) : ∃ ν, f_X3_become k0 k1 μ = some ν ∧ ν.2 = μ.2 ∧ (∀ b j, ¬ (k0 ≤ b ∧ b ≤ k0 + 3) → ν.1 b j = μ.1 b j) ∧ HX k0 ν.1 n l K W H m ∧ ν.1 k0 3 = μ.1 k1 3 := by
  obtain ⟨ν, e1, e2, e3, e4, e5⟩ := bc_X (μ := μ) hd
  refine ⟨ν, e1, e2, e3, ⟨(e4 0 (by omega)).trans hx.1, (e4 1 (by omega)).trans hx.2.1, (e4 2 (by omega)).trans hx.2.2.1, fun i hi => ?_⟩, e4 3 (by omega)⟩
  rw [e5 1 i (by omega) (by omega) (by omega), e5 2 i (by omega) (by omega) (by omega), e5 3 i (by omega) (by omega) (by omega)]
  exact hx.2.2.2 i hi
theorem i32_s (m : Int32) (k : Nat) : m + nI k + 1 = m + nI (k + 1) := by rw [nI_succ, Int32.add_assoc]
theorem ma_0 (m : Int32) : m + nI 0 = m := Int32.add_zero m
/-- heads after k moons without clouds, at growth g -/
noncomputable def pyH (K W H : Nat → Int32) (m : Int32) (l n g : Nat) : Nat → Nat → Int32
  | 0 => H
  | k + 1 => nx K W (pyH K W H m l n g k) (nI g) (fiO K W (pyH K W H m l n g k) (m + nI k) l n 0) (seO K W (pyH K W H m l n g k) (m + nI k) l n 0 0)
def pyP (K W H : Nat → Int32) (m : Int32) (l n M : Nat) (v : Int32) (g : Nat) : Prop := hd W (pyH K W H m l n g M) l v < hd W H l v
def pyJ (P : Nat → Prop) (r : Int32) : Prop := (r = -1 ∧ ∀ g, g < 10 → P g) ∨ ∃ g, g < 10 ∧ r = nI g ∧ ¬ P g ∧ ∀ g', g' < g → P g'
theorem pyJ_one {P : Nat → Prop} {r r' : Int32} (h : pyJ P r) (h' : pyJ P r') : r = r' := by
  rcases h with ⟨a, b⟩ | ⟨g, a1, a2, a3, a4⟩
  · rcases h' with ⟨a', b'⟩ | ⟨g', a1', a2', a3', a4'⟩
    · rw [a, a']
    · exact absurd (b g' a1') a3'
  · rcases h' with ⟨a', b'⟩ | ⟨g', a1', a2', a3', a4'⟩
    · exact absurd (b' g a1) a3
    · rcases Nat.lt_trichotomy g g' with q | q | q
      · exact absurd (a4' g q) a3
      · rw [a2, a2', q]
      · exact absurd (a4 g' q) a3'
section PAYS
variable {n l : Nat} {K W H : Nat → Int32} {m : Int32} {μ : Mem}
theorem HW.py (hw : HW n l K W H) {g : Nat} (hg : g ≤ 9) : ∀ k, HW n l K W (pyH K W H m l n g k)
  | 0 => hw
  | k + 1 => (HW.py hw hg k).nx _ _ hg
theorem pays_X {v M : Nat} (hx : HX 2 μ.1 n l K W H m) (hw : HW n l K W H) (hv : v < n) (hM : M ≤ 40) : ∃ r ν, f_X10_pays (nI v) (nI M) μ = some (r, ν) ∧ pyJ (pyP K W H m l n M (nI v)) r ∧ ν.2 = μ.2 ∧ ∀ b j, ¬ (63 ≤ b ∧ b ≤ 67) → ν.1 b j = μ.1 b j := by
  have hl := hw.1.2.2
  unfold f_X10_pays
  rw [hasV_ok hx.1 (by have := hw.1.2.1; omega) hv, bd_some]
  simp only [jn_eq]
  rw [if_neg (by decide), if_neg (nI_pos (by omega)), if_neg (by exact ngt (n := 40) (by omega) (by decide)), hd_X hx hw, bd_some]
  have L := lp_inv (F := cu2 fun (x4_6 : Int32) (ν7 : Mem) =>
          if 9 < x4_6 then
            some (.inr (.inl ν7))
          else
            bd (f_X3_become 63 2 ν7) fun ν10 =>
            lt (setI ν10 63 3 x4_6) fun ν11 =>
            bd (lp (ε := Mem) (cu2 fun (x5_12 : Int32) (ν13 : Mem) =>
              if x5_12 < nI M then
                bd2 (f_X3_fullMoon 63 0 0 ν13) fun r16 ν17 =>
                some (.inl ((x5_12 + 1), ν17))
              else
                some (.inr ν13)
              ) (0, ν11)) (fun (ν14 : Mem) =>
              bd (f_X3_headsIn 63 (nI v) ν14) fun r18 =>
              if r18 < hd W H l (nI v) then
                some (.inl ((x4_6 + 1), ν14))
              else
                some (.inr (.inr (x4_6, ν14)))
              )) (fun g s => s.1 = nI g ∧ s.2.2 = μ.2 ∧ (∀ b j, ¬ (63 ≤ b ∧ b ≤ 67) → s.2.1 b j = μ.1 b j) ∧ ∀ g', g' < g → pyP K W H m l n M (nI v) g') (fun e : Mem ⊕ (Int32 × Mem) => ∃ r ν, pyJ (pyP K W H m l n M (nI v)) r ∧ ν.2 = μ.2 ∧ (∀ b j, ¬ (63 ≤ b ∧ b ≤ 67) → ν.1 b j = μ.1 b j) ∧ ((e = .inl ν ∧ r = -1) ∨ e = .inr (r, ν))) 10 (fun g s hg hI => ?_) (fun s hI => ?_) (s := (0, μ)) ⟨rfl, rfl, fun _ _ _ => rfl, fun g' h => absurd h (by omega)⟩
  · obtain ⟨e, he, r, ν, j1, j2, j3, j4⟩ := L
    refine ⟨r, ν, ?_, j1, j2, j3⟩
    rw [he]
    rcases j4 with ⟨rfl, rfl⟩ | rfl
    · rfl
    · rfl
  · obtain ⟨a, ν⟩ := s
    obtain ⟨rfl, i2, i3, i4⟩ := hI
    rw [cu2_eq, if_neg (by exact ngt (n := 9) (by omega) (by decide))]
    obtain ⟨ν1, b1, b2, b3, b4, b5⟩ := bc_H (k0 := 63) (k1 := 2) (μ := ν) (by omega) (hx.of (fun j => i3 _ _ (by omega)) (fun b j _ _ => i3 _ _ (by omega))) hl
    rw [b1, bd_some, lt_eq]
    have L2 := lp_inv (F := cu2 fun (x5_12 : Int32) (ν13 : Mem) =>
              if x5_12 < nI M then
                bd2 (f_X3_fullMoon 63 0 0 ν13) fun r16 ν17 =>
                some (.inl ((x5_12 + 1), ν17))
              else
                some (.inr ν13)) (fun k s => s.1 = nI k ∧ s.2.2 = μ.2 ∧ (∀ b j, ¬ (63 ≤ b ∧ b ≤ 67) → s.2.1 b j = μ.1 b j) ∧ HX 63 s.2.1 n l K W (pyH K W H m l n g k) (m + nI k) ∧ s.2.1 63 3 = nI g) (fun e : Mem => e.2 = μ.2 ∧ (∀ b j, ¬ (63 ≤ b ∧ b ≤ 67) → e.1 b j = μ.1 b j) ∧ HX 63 e.1 n l K W (pyH K W H m l n g M) (m + nI M)) M (fun k s hk hI => ?_) (fun s hI => ?_) (s := (0, setI ν1 63 3 (nI g))) ⟨rfl, b2.trans i2, fun b j hb => by rw [si_ne (by omega), b3 _ _ (by omega), i3 _ _ hb], by
                rw [ma_0]
                refine ⟨?_, ?_, ?_, fun i hi => ?_⟩
                · rw [si_ne (by omega)]; exact b4.1
                · rw [si_ne (by omega)]; exact b4.2.1
                · rw [si_ne (by omega)]; exact b4.2.2.1
                · rw [si_ne (by omega), si_ne (by omega), si_ne (by omega)]; exact b4.2.2.2 i hi, si_eq⟩
    · obtain ⟨ν2, he, d1, d2, d3⟩ := L2
      rw [he, bd_some, hd_X d3 (hw.py (by omega) M), bd_some]
      by_cases hp : hd W (pyH K W H m l n g M) l (nI v) < hd W H l (nI v)
      · rw [if_pos hp]
        refine Or.inl ⟨_, rfl, (nI_succ g).symm, d1, d2, fun g' h => ?_⟩
        by_cases e : g' = g
        · rw [e]; exact hp
        · exact i4 g' (by omega)
      · rw [if_neg hp]
        exact Or.inr ⟨_, rfl, nI g, ν2, Or.inr ⟨g, hg, rfl, hp, i4⟩, d1, d2, Or.inr rfl⟩
    · obtain ⟨a, ν'⟩ := s
      obtain ⟨rfl, i2', i3', i4', i5'⟩ := hI
      rw [cu2_eq, if_pos ((nI_ltI (by omega) (by omega)).mpr hk)]
      obtain ⟨νm, f1, f2, f3, f4, f5⟩ := fm_X i4' (hw.py (by omega) k) 0 0 i5'
      rw [f1, bd2_some]
      refine Or.inl ⟨_, rfl, (nI_succ k).symm, f2.trans i2', fun b j hb => by rw [f3 _ _ (by omega) (by omega) (by omega)]; exact i3' b j hb, ⟨?_, ?_, ?_, fun i hi => ?_⟩, ?_⟩
      · rw [f3 _ _ (by omega) (by omega) (by omega)]; exact i4'.1
      · rw [f3 _ _ (by omega) (by omega) (by omega)]; exact i4'.2.1
      · rw [f4, i32_s]
      · rw [f3 _ _ (by omega) (by omega) (by omega), f3 _ _ (by omega) (by omega) (by omega), f5 i hi]
        exact ⟨(i4'.2.2.2 i hi).1, (i4'.2.2.2 i hi).2.1, rfl⟩
      · rw [f3 _ _ (by omega) (by omega) (by omega)]; exact i5'
    · obtain ⟨a, ν'⟩ := s
      obtain ⟨rfl, i2', i3', i4', i5'⟩ := hI
      rw [cu2_eq, if_neg (fun q => Nat.lt_irrefl M ((nI_ltI (by omega) (by omega)).mp q))]
      exact ⟨_, rfl, i2', i3', i4'⟩
  · obtain ⟨a, ν⟩ := s
    obtain ⟨rfl, i2, i3, i4⟩ := hI
    rw [cu2_eq, if_pos (by decide)]
    exact ⟨_, rfl, -1, ν, Or.inl ⟨rfl, i4⟩, i2, i3, Or.inl ⟨rfl, rfl⟩⟩
end PAYS
theorem mp_HY {n l g : Nat} {K W H : Nat → Int32} {ν : Mem} {fi se : Int32} (hy : HY ν.1 n l K W H) : HY (mapM 120 (fun i _ => nx K W H (nI g) fi se i) ν l).1 n l K W (nx K W H (nI g) fi se) := by
  refine ⟨?_, ?_, fun i hi => ⟨?_, ?_, ?_⟩⟩
  · rw [mp_ne (by omega)]; exact hy.1
  · rw [mp_ne (by omega)]; exact hy.2.1
  · rw [mp_ne (by omega)]; exact (hy.2.2 i hi).1
  · rw [mp_ne (by omega)]; exact (hy.2.2 i hi).2.1
  · rw [mp_in hi]
theorem pays_Y {n l r p v M : Nat} {μ ν0 : Mem} (hh : HeadP 1 μ.1 (fun j => μ.1 113 j) n l r p) (hw : HW n l (fun i => μ.1 113 (6 + i)) (fun i => μ.1 113 (16 + i)) (fun i => μ.1 113 (26 + i))) (h0 : ∀ j, ν0.1 113 j = μ.1 113 j) (hv : v < n) (hM : M ≤ 40) : ∃ r ν, f_X11_pays (nI v) (nI M) ν0 = some (r, ν) ∧ pyJ (pyP (fun i => μ.1 113 (6 + i)) (fun i => μ.1 113 (16 + i)) (fun i => μ.1 113 (26 + i)) (μ.1 113 3) l n M (nI v)) r ∧ ν.2 = ν0.2 ∧ ∀ b j, b ≠ 120 → ν.1 b j = ν0.1 b j := by
  have hl := hw.1.2.2
  have hn := hw.1.2.1
  have s0 : μ.1 113 0 = nI n := hh.2.1.1
  unfold f_X11_pays
  rw [isV_ok ((h0 0).trans s0) (by omega) hv, bd_some]
  simp only [jn_eq]
  rw [if_neg (by decide), inL_ok (hi := 40) (by decide) hM, bd_some, if_neg (by decide)]
  generalize hK : (fun i => μ.1 113 (6 + i)) = K at hw ⊢
  generalize hWW : (fun i => μ.1 113 (16 + i)) = W at hw ⊢
  generalize hH : (fun i => μ.1 113 (26 + i)) = H at hw ⊢
  generalize hmm : μ.1 113 3 = m at ⊢
  have L := lp_inv (F := cu2 fun (x3_6 : Int32) (ν7 : Mem) =>
        if x3_6 < 10 then
          bd (f_X11_asNow  ν7) fun ν10 =>
          bd (f_X11_headsOf (nI v) ν10) fun r11 =>
          bd (lp (ε := Mem) (cu2 fun (x5_12 : Int32) (ν13 : Mem) =>
            if x5_12 < nI M then
              bd2 (f_X11_goes 0 0 ((ν13.1 113 3) + x5_12) x3_6 ν13) fun r16 ν17 =>
              some (.inl ((x5_12 + 1), ν17))
            else
              some (.inr ν13)
            ) (0, ν10)) (fun (ν14 : Mem) =>
            bd (f_X11_headsOf (nI v) ν14) fun r18 =>
            if r18 < r11 then
              some (.inl ((x3_6 + 1), ν14))
            else
              some (.inr (.inr (x3_6, ν14)))
            )
        else
          some (.inr (.inl ν7))) (fun g s => s.1 = nI g ∧ s.2.2 = ν0.2 ∧ (∀ b j, b ≠ 120 → s.2.1 b j = ν0.1 b j) ∧ ∀ g', g' < g → pyP K W H m l n M (nI v) g') (fun e : Mem ⊕ (Int32 × Mem) => ∃ r ν, pyJ (pyP K W H m l n M (nI v)) r ∧ ν.2 = ν0.2 ∧ (∀ b j, b ≠ 120 → ν.1 b j = ν0.1 b j) ∧ ((e = .inl ν ∧ r = -1) ∨ e = .inr (r, ν))) 10 (fun g s hg hI => ?_) (fun s hI => ?_) (s := (0, ν0)) ⟨rfl, rfl, fun _ _ _ => rfl, fun g' h => absurd h (by omega)⟩
  · obtain ⟨e, he, r, ν, j1, j2, j3, j4⟩ := L
    refine ⟨r, ν, ?_, j1, j2, j3⟩
    rw [he]
    rcases j4 with ⟨rfl, rfl⟩ | rfl
    · rfl
    · rfl
  · obtain ⟨a, ν⟩ := s
    obtain ⟨rfl, i2, i3, i4⟩ := hI
    have hy : HY (cpyI ν 113 26 120 0 10).1 n l K W H := by
      rw [← hK, ← hWW, ← hH]
      exact hy_of hh (fun j => (i3 _ _ (by omega)).trans (h0 j))
    rw [cu2_eq, if_pos (by exact (nI_ltI (b := 10) (by omega) (by omega)).mpr hg), asNow_eq, bd_some, hd_Y hy hw, bd_some]
    have L2 := lp_inv (F := cu2 fun (x5_12 : Int32) (ν13 : Mem) =>
            if x5_12 < nI M then
              bd2 (f_X11_goes 0 0 ((ν13.1 113 3) + x5_12) (nI g) ν13) fun r16 ν17 =>
              some (.inl ((x5_12 + 1), ν17))
            else
              some (.inr ν13)) (fun k s => s.1 = nI k ∧ s.2.2 = ν0.2 ∧ (∀ b j, b ≠ 120 → s.2.1 b j = ν0.1 b j) ∧ HY s.2.1 n l K W (pyH K W H m l n g k)) (fun e : Mem => e.2 = ν0.2 ∧ (∀ b j, b ≠ 120 → e.1 b j = ν0.1 b j) ∧ HY e.1 n l K W (pyH K W H m l n g M)) M (fun k s hk hI => ?_) (fun s hI => ?_) (s := (0, cpyI ν 113 26 120 0 10)) ⟨rfl, i2, fun b j hb => by rw [cp_ne (by omega)]; exact i3 b j hb, hy⟩
    · obtain ⟨ν2, he, d1, d2, d3⟩ := L2
      rw [he, bd_some, hd_Y d3 (hw.py (by omega) M), bd_some]
      by_cases hp : hd W (pyH K W H m l n g M) l (nI v) < hd W H l (nI v)
      · rw [if_pos hp]
        refine Or.inl ⟨_, rfl, (nI_succ g).symm, d1, d2, fun g' h => ?_⟩
        by_cases e : g' = g
        · rw [e]; exact hp
        · exact i4 g' (by omega)
      · rw [if_neg hp]
        exact Or.inr ⟨_, rfl, nI g, ν2, Or.inr ⟨g, hg, rfl, hp, i4⟩, d1, d2, Or.inr rfl⟩
    · obtain ⟨a, ν'⟩ := s
      obtain ⟨rfl, i2', i3', i4'⟩ := hI
      rw [cu2_eq, if_pos ((nI_ltI (by omega) (by omega)).mpr hk)]
      rw [show ν'.1 113 3 = m from ((i3' 113 3 (by omega)).trans (h0 3)).trans hmm, gs_Y i4' (hw.py (by omega) k) 0 0 _ (by omega), bd2_some]
      exact Or.inl ⟨_, rfl, (nI_succ k).symm, i2', fun b j hb => by rw [mp_ne (by omega)]; exact i3' b j hb, mp_HY i4'⟩
    · obtain ⟨a, ν'⟩ := s
      obtain ⟨rfl, i2', i3', i4'⟩ := hI
      rw [cu2_eq, if_neg (fun q => Nat.lt_irrefl M ((nI_ltI (by omega) (by omega)).mp q))]
      exact ⟨_, rfl, i2', i3', i4'⟩
  · obtain ⟨a, ν⟩ := s
    obtain ⟨rfl, i2, i3, i4⟩ := hI
    rw [cu2_eq, if_neg (by decide)]
    exact ⟨_, rfl, -1, ν, Or.inl ⟨rfl, i4⟩, i2, i3, Or.inl ⟨rfl, rfl⟩⟩
/-- scratch places of the class, the reference's so -/
theorem Rel.scr {μ ν ν' : Mem} (h : Rel μ) (a1 : ν.2 = μ.2) (a2 : ∀ b j, ¬ (b = 6 ∨ (63 ≤ b ∧ b ≤ 111)) → ν.1 b j = μ.1 b j) (b1 : ν'.2 = ν.2) (b2 : ∀ b j, b ≠ 120 → ν'.1 b j = ν.1 b j) : Rel ν' :=
  h.frame (fun p j hp => by have := relv_ne hp; rw [b2 _ _ (by omega), a2 _ _ (by omega)]) (by rw [b1, a1]; exact ⟨rfl, rfl⟩)
theorem ok_pays (x y : Int32) : Ok (f_X10_pays x y) (f_X11_pays x y) := by
  intro μ h
  obtain ⟨⟨n, l, r, p, hh, h1, h2, h3, h4, h5⟩, hi, ht, hll, hrf, hq⟩ := id h
  obtain ⟨⟨hn1, hn5, hl, hr, hp⟩, ⟨s0, s1, s2, s4, gr, hgr, s5⟩, c1, c2, c3, c4, c5, c6⟩ := id hh
  obtain ⟨hX, hW⟩ := hx_of hh h1
  rcases isN_or x (n := n) (by omega) with ⟨v, hv, rfl⟩ | hx
  · rcases isN_or y (n := 40 + 1) (by decide) with ⟨M, hM, rfl⟩ | hx
    · obtain ⟨r, ν, e1, e2, e3, e4⟩ := pays_X hX hW hv (by omega : M ≤ 40)
      obtain ⟨r', ν', d1, d2, d3, d4⟩ := pays_Y (ν0 := ν) hh hW (fun j => e4 _ _ (by omega)) hv (by omega : M ≤ 40)
      have := pyJ_one e2 d2
      subst this
      exact ok_ask r ν ν' e1 d1 (h.scr e3 (fun b j hb => e4 _ _ (by omega)) d3 d4)
    · refine ok_bad h ?_ (fun ν h5 hB _ => ?_)
      · unfold f_X10_pays
        rw [hasV_ok hX.1 (by omega) hv, bd_some]
        simp only [jn_eq]
        rw [if_neg (by decide)]
        by_cases h0 : y < 0
        · rw [if_pos h0, tally_bad, bd2_some]
        · rw [if_neg h0, if_pos (by exact gt_of (n := 40) (by decide) (hx.resolve_left h0)), tally_bad, bd2_some]
      · unfold f_X11_pays
        rw [isV_ok ((hB 0).trans s0) (by omega) hv, bd_some]
        simp only [jn_eq]
        rw [if_neg (by decide), inL_bad (hi := 40) (by decide) (or_of (by decide) hx), bd_some, if_pos (by trivial), badM h5, bd2_some]
  · refine ok_bad h ?_ (fun ν h5 hB _ => ?_)
    · unfold f_X10_pays
      rw [hasV_bad hX.1 hx, bd_some]
      simp only [jn_eq]
      rw [if_pos (by trivial), tally_bad, bd2_some]
    · unfold f_X11_pays
      rw [isV_bad ((hB 0).trans s0) (by omega) hx, bd_some]
      simp only [jn_eq]
      rw [if_pos (by trivial), badM h5, bd2_some]
