/-! chance, mean, painting -/
theorem frac_ok2 {μ ν : Mem} {x : Int64} {w : Nat} (h : Rel μ) (hx : bI x (2 ^ 60)) (h0 : 0 < w) (hw : w < 2 ^ 20) (a2 : ∀ b j, ¬ (b = 6 ∨ (63 ≤ b ∧ b ≤ 111)) → ν.1 b j = μ.1 b j) : ∃ ν1, f_X10_setFraction x (lN w) ν = some ν1 ∧ ν1.1 = ν.1 ∧ ∀ ν', (∀ b j, b ≠ 120 → ν'.1 b j = ν1.1 b j) → ν'.2 = ν1.2 → ∃ ν2, f_X11_keeps x (lN w) ν' = some (1, ν2) ∧ Rel ν2 := by
  obtain ⟨ν1, e1, e2, _⟩ := frac_ok (ν' := ν) h hx h0 hw a2
  refine ⟨ν1, e1, e2, fun ν' f1 f2 => ?_⟩
  obtain ⟨ν1', e1', e2', e3'⟩ := frac_ok (ν' := ν') h hx h0 hw a2
  have : ν1 = ν1' := Option.some.inj (e1.symm.trans e1')
  subst this
  exact e3' (Or.inr f1) f2
section CH
variable {n l : Nat} {K W H od : Nat → Int32} {m : Int32} {μ : Mem}
theorem gp_Y (hx : HY μ.1 n l K W H) (hw : HW n l K W H) (pt more : Int32) (c : Nat) : f_X11_greatestOf (nI (2 ^ n - 1) &&& (nI c ^^^ (-1))) m pt more μ = some (grp K W H m l n pt more c) := by
  rw [go_Y hx.1 hw.1.2.1 (fun v => sg K W H m l (nI v)) (fun v _ => sg_Y hx hw (nI v))]
  exact congrArg (fun z : Int32 × Int32 => some z.1) (gst_congr (fun _ _ => rfl) (fun v hv => bt_all hw.1.2.1 hv))
theorem wsum_bI (ho : Odd od) (hn : n ≤ 5) (pt more : Int32) (v : Nat) {N : Nat} (hN : N ≤ 32) : bI (wsum K W H m l n od pt more v N) (2 ^ 60) := by
  have hp : 10 ^ n ≤ 10 ^ 5 := Nat.pow_le_pow_right (by decide) hn
  have hq : 10 ^ n * N ≤ 10 ^ 5 * 32 := Nat.mul_le_mul hp hN
  refine bI_mono (s64_bI (B := 10 ^ n) (fun c _ => ?_) (by omega)) (by omega)
  by_cases q : grp K W H m l n pt more c = nI v
  · rw [if_pos q]; exact wy_bI ho hn
  · rw [if_neg q]; exact bI_mono bI_0 (Nat.zero_le _)
theorem tl_in (hw : HW n l K W H) (v : Int32) : ∃ T, T ≤ 100 ∧ tl K W H l v = nI T := by
  have hl := hw.1.2.2
  obtain ⟨T, hT, e⟩ := sgt_in (f := fun i => if W i = v then tk (K i) (H i) else 0) (B := 10) (l := l) (fun i hi => by
    obtain ⟨⟨c, hc, e1⟩, _, h, hh, e3⟩ := hw.2 i hi
    (try dsimp only)
    by_cases q : W i = v
    · rw [if_pos q, e1, e3, tk_N hc hh]
      exact ⟨_, (tkN_le c hh).2, rfl⟩
    · rw [if_neg q]
      exact ⟨0, by omega, rfl⟩)
  exact ⟨T, by omega, e⟩
noncomputable def lsf (K W H : Nat → Int32) (m : Int32) (l n : Nat) (od : Nat → Int32) (pt more x : Int32) (c : Nat) : Int64 := if grp K W H m l n pt more c = -1 then 0 else if x = -1 ∨ grp K W H m l n pt more c = x then wy od (nI c) n * (tl K W H l (grp K W H m l n pt more c)).toInt64 else 0
noncomputable def lss (K W H : Nat → Int32) (m : Int32) (l n : Nat) (od : Nat → Int32) (pt more x : Int32) (N : Nat) : Int64 := s64 (lsf K W H m l n od pt more x) N
theorem lss_bI (hw : HW n l K W H) (ho : Odd od) (pt more x : Int32) {N : Nat} (hN : N ≤ 32) : bI (lss K W H m l n od pt more x N) (2 ^ 60) := by
  have hn := hw.1.2.1
  have hp : 10 ^ n ≤ 10 ^ 5 := Nat.pow_le_pow_right (by decide) hn
  have hp1 : 1 ≤ 10 ^ n := Nat.one_le_pow _ _ (by decide)
  have hq : 10 ^ n * 100 * N ≤ 10 ^ 5 * 100 * 32 := Nat.mul_le_mul (by omega) hN
  refine bI_mono (s64_bI (B := 10 ^ n * 100) (fun c _ => ?_) (by omega)) (by omega)
  unfold lsf
  by_cases q : grp K W H m l n pt more c = -1
  · rw [if_pos q]; exact bI_mono bI_0 (Nat.zero_le _)
  · rw [if_neg q]
    by_cases q2 : x = -1 ∨ grp K W H m l n pt more c = x
    · rw [if_pos q2]
      obtain ⟨T, hT, e⟩ := tl_in hw (grp K W H m l n pt more c)
      rw [e]
      exact bI_mul (wy_bI ho hn) (bI_n hT (by decide)) (by omega)
    · rw [if_neg q2]; exact bI_mono bI_0 (Nat.zero_le _)
theorem lss_one (hn : n ≤ 5) (pt more : Int32) {v : Nat} (hv : v < n) : ∀ N, lss K W H m l n od pt more (nI v) N = wsum K W H m l n od pt more v N * (tl K W H l (nI v)).toInt64
  | 0 => (Int64.zero_mul).symm
  | N + 1 => by
    show lss K W H m l n od pt more (nI v) N + lsf K W H m l n od pt more (nI v) N = (wsum K W H m l n od pt more v N + (if grp K W H m l n pt more N = nI v then wy od (nI N) n else 0)) * _
    rw [lss_one hn pt more hv N, Int64.add_mul]
    refine congrArg _ ?_
    unfold lsf
    by_cases q : grp K W H m l n pt more N = nI v
    · rw [if_neg (by rw [q]; exact nI_m1 v (by omega)), if_pos (Or.inr q), if_pos q, q]
    · rw [if_neg q, Int64.zero_mul]
      by_cases q2 : grp K W H m l n pt more N = -1
      · rw [if_pos q2]
      · rw [if_neg q2, if_neg (fun z => by rcases z with z | z; exact nI_m1 v (by omega) z; exact q z)]
theorem lss_all (hn : n ≤ 5) (pt more : Int32) : ∀ N, lss K W H m l n od pt more (-1) N = s64 (fun v => wsum K W H m l n od pt more v N * (tl K W H l (nI v)).toInt64) n
  | 0 => by
    rw [s64_congr (g := fun _ => 0) (fun v _ => by (try dsimp only); exact Int64.zero_mul), s64_0]
    rfl
  | N + 1 => by
    show lss K W H m l n od pt more (-1) N + lsf K W H m l n od pt more (-1) N = _
    rw [lss_all hn pt more N, s64_congr (f := fun v => wsum K W H m l n od pt more v (N + 1) * (tl K W H l (nI v)).toInt64) (g := fun v => wsum K W H m l n od pt more v N * (tl K W H l (nI v)).toInt64 + (if grp K W H m l n pt more N = nI v then wy od (nI N) n else 0) * (tl K W H l (nI v)).toInt64) (fun v _ => by
      show (wsum K W H m l n od pt more v N + (if grp K W H m l n pt more N = nI v then wy od (nI N) n else 0)) * _ = _
      rw [Int64.add_mul]), s64_add]
    refine congrArg _ ?_
    unfold lsf
    rcases grp_in K W H m l n pt more N with g | ⟨v0, hv0, g⟩
    · rw [if_pos g, s64_congr (g := fun _ => 0) (fun v hv => by (try dsimp only); rw [g, if_neg (fun q => nI_m1 v (by omega) q.symm), Int64.zero_mul]), s64_0]
    · rw [g, if_neg (nI_m1 v0 (by omega)), if_pos (Or.inl rfl), s64_congr (g := fun v => if v = v0 then wy od (nI N) n * (tl K W H l (nI v0)).toInt64 else 0) (fun v hv => by
        (try dsimp only)
        by_cases e : v = v0
        · rw [e, if_pos rfl, if_pos rfl]
        · rw [if_neg e, if_neg (fun q => e ((nI_eq (by omega) (by omega)).mp q).symm), Int64.zero_mul]), s64_one, if_pos hv0]
theorem mean_Y (hx : HY (cpyI μ 113 26 120 0 10).1 n l K W H) (hw : HW n l K W H) (em : μ.1 113 3 = m) (ho : ∀ v, v < 5 → μ.1 113 (36 + v) = od v) (x pt more : Int32) : f_X11_meanOf x pt more μ = some (lss K W H m l n od pt more x (2 ^ n), cpyI μ 113 26 120 0 10) := by
  have hn := hw.1.2.1
  have hp := pow5 hn
  unfold f_X11_meanOf
  rw [asNow_eq, bd_some]
  refine (bd_for (e := lss K W H m l n od pt more x (2 ^ n)) (fun c => (lss K W H m l n od pt more x c, nI c)) (2 ^ n) rfl (fun c hc => ?_) ?_).trans rfl
  · rw [cu2_eq, all_eq hx.1 hn, bd_some, bd_some, if_neg (fun q => absurd ((nI_ltI (by omega) (by omega)).mp q) (by omega)), cp_ne (by omega), em, gp_Y hx hw, bd_some]
    simp only [jn_eq]
    rw [wy_Y (od := od) hx.1 hn (fun v hv => by rw [cp_ne (by omega)]; exact ho v hv), bd_some, tl_Y hx hw, bd_some, ← nI_succ]
    show _ = some (Sum.inl (lss K W H m l n od pt more x c + lsf K W H m l n od pt more x c, _))
    unfold lsf
    by_cases q : grp K W H m l n pt more c = -1
    · rw [if_pos q, if_pos q]
    · rw [if_neg q, if_neg q]
      by_cases q1 : x = -1
      · rw [if_pos q1, if_pos (Or.inl q1)]
      · rw [if_neg q1]
        by_cases q2 : grp K W H m l n pt more c = x
        · rw [if_pos q2, if_pos (Or.inr q2)]
        · rw [if_neg q2, if_neg (fun z => by rcases z with z | z; exact q1 z; exact q2 z)]
  · rw [cu2_eq, all_eq hx.1 hn, bd_some, if_pos ((nI_ltI (by omega) (by omega)).mpr (by omega))]
end CH
theorem lossOf_X {v : Nat} {ν : Mem} (hv : v < 5) : f_X9_lossOf (nI v) ν = some ((ν.2 71 v) * (ν.1 70 v).toInt64) := by
  unfold f_X9_lossOf
  rw [chk_nI hv (by decide), chk_nI hv (by decide), ix_nI (by omega)]
theorem lossAll_X {n : Nat} {ν : Mem} (h4 : ν.1 68 4 = nI n) (hn : n ≤ 5) : f_X9_lossOfAll ν = some (s64 (fun v => (ν.2 71 v) * (ν.1 70 v).toInt64) n) := by
  unfold f_X9_lossOfAll
  rw [h4]
  refine (bd_for (e := s64 (fun v => (ν.2 71 v) * (ν.1 70 v).toInt64) n) (fun v => (s64 (fun v => (ν.2 71 v) * (ν.1 70 v).toInt64) v, nI v)) n rfl (fun v hv => ?_) ?_).trans rfl
  · rw [cu2_eq, if_pos ((nI_ltI (by omega) (by omega)).mpr hv), lossOf_X (by omega), bd_some, ← nI_succ]
    rfl
  · rw [cu2_eq, if_neg (fun q => Nat.lt_irrefl n ((nI_ltI (by omega) (by omega)).mp q))]
theorem odd_of {μ : Mem} (h2 : OddsP 1 μ.1 (fun j => μ.1 113 j)) : Odd (fun v => μ.1 113 (36 + v)) ∧ ∀ v, v < 5 → μ.1 13 v = μ.1 113 (36 + v) :=
  ⟨fun v hv => by obtain ⟨c, hc, a, b⟩ := h2 v hv; exact ⟨c, hc, a⟩, fun v hv => by obtain ⟨c, hc, a, b⟩ := h2 v hv; exact b.trans a.symm⟩
theorem p10 {n : Nat} (hn : n ≤ 5) : 0 < 10 ^ n ∧ 10 ^ n < 2 ^ 20 := by
  have hp : 10 ^ n ≤ 10 ^ 5 := Nat.pow_le_pow_right (by decide) hn
  exact ⟨Nat.one_le_pow _ _ (by decide), by omega⟩
theorem ok_chance (x : Int32) : Ok (f_X10_chance x) (f_X11_chance x) := by
  intro μ h
  obtain ⟨⟨n, l, r, p, hh, h1, h2, h3, h4, h5⟩, hi, ht, hll, hrf, hq⟩ := id h
  obtain ⟨⟨hn1, hn5, hl, hr, hp⟩, ⟨s0, s1, s2, s4, gr, hgr, s5⟩, c1, c2, c3, c4, c5, c6⟩ := id hh
  obtain ⟨hX, hW⟩ := hx_of hh h1
  obtain ⟨oO, oE⟩ := odd_of h2
  have hp := pow5 hn5
  rcases isN_or x (n := n) (by omega) with ⟨v, hv, rfl⟩ | hx
  · obtain ⟨ν, e1, e2, e3, e4, e5, e6⟩ := fore_X (od := fun v => μ.1 113 (36 + v)) hX hW oE (-1) 0
    obtain ⟨ν1, f1, f2, f3⟩ := frac_ok2 (ν := ν) h (wsum_bI (K := fun i => μ.1 113 (6 + i)) (W := fun i => μ.1 113 (16 + i)) (H := fun i => μ.1 113 (26 + i)) (m := μ.1 113 3) (l := l) oO hn5 (-1) 0 v hp.2) (p10 hn5).1 (p10 hn5).2 (fun b j hb => e2 _ _ (by omega))
    obtain ⟨ν2, g1, g2⟩ := f3 (cpyI ν1 113 26 120 0 10) (fun b j hb => cp_ne (by omega)) rfl
    have hB : ∀ j, ν1.1 113 j = μ.1 113 j := fun j => by rw [f2]; exact e2 _ _ (by omega)
    have hY := hy_of hh hB
    refine ok_ask 1 ν1 ν2 ?_ ?_ g2
    · unfold f_X10_chance
      rw [hasV_ok hX.1 (by omega) hv, bd_some, if_neg (by decide), e1, bd_some, chk_nI (by omega) (by decide), ix_nI (by omega), (e6 v hv).2, e5, f1, bd_some]
    · unfold f_X11_chance
      rw [isV_ok ((hB 0).trans s0) (by omega) hv, bd_some, if_neg (by decide), asNow_eq, bd_some]
      refine (bd_for (e := wsum (fun i => μ.1 113 (6 + i)) (fun i => μ.1 113 (16 + i)) (fun i => μ.1 113 (26 + i)) (μ.1 113 3) l n (fun v => μ.1 113 (36 + v)) (-1) 0 v (2 ^ n)) (fun c => (wsum (fun i => μ.1 113 (6 + i)) (fun i => μ.1 113 (16 + i)) (fun i => μ.1 113 (26 + i)) (μ.1 113 3) l n (fun v => μ.1 113 (36 + v)) (-1) 0 v c, nI c)) (2 ^ n) rfl (fun c hc => ?_) ?_).trans ?_
      · rw [cu2_eq, all_eq hY.1 hn5, bd_some, bd_some, if_neg (fun q => absurd ((nI_ltI (by omega) (by omega)).mp q) (by omega)), cp_ne (by omega), hB, gp_Y hY hW, bd_some, jn_eq, wy_Y (od := fun v => μ.1 113 (36 + v)) hY.1 hn5 (fun v hv => by rw [cp_ne (by omega), hB]), bd_some, ← nI_succ]
        show _ = some (Sum.inl (wsum _ _ _ _ _ _ _ _ _ v c + (if _ then _ else _), _))
        by_cases q : grp (fun i => μ.1 113 (6 + i)) (fun i => μ.1 113 (16 + i)) (fun i => μ.1 113 (26 + i)) (μ.1 113 3) l n (-1) 0 c = nI v
        · rw [if_pos q, if_pos q]
        · rw [if_neg q, if_neg q]
      · rw [cu2_eq, all_eq hY.1 hn5, bd_some, if_pos ((nI_ltI (by omega) (by omega)).mpr (by omega))]
      · rw [whole_Y hY.1 hn5, bd_some, g1, bd2_some]
  · refine ok_bad h ?_ (fun ν h5 hB _ => ?_)
    · unfold f_X10_chance
      rw [hasV_bad hX.1 hx, bd_some, if_pos rfl, tally_bad, bd2_some]
    · unfold f_X11_chance
      rw [isV_bad ((hB 0).trans s0) (by omega) hx, bd_some, if_pos rfl, badM h5, bd2_some]
theorem ok_mean (x : Int32) : Ok (f_X10_mean x) (f_X11_mean x) := by
  intro μ h
  obtain ⟨⟨n, l, r, p, hh, h1, h2, h3, h4, h5⟩, hi, ht, hll, hrf, hq⟩ := id h
  obtain ⟨⟨hn1, hn5, hl, hr, hp⟩, ⟨s0, s1, s2, s4, gr, hgr, s5⟩, c1, c2, c3, c4, c5, c6⟩ := id hh
  obtain ⟨hX, hW⟩ := hx_of hh h1
  obtain ⟨oO, oE⟩ := odd_of h2
  have hp := pow5 hn5
  have good : (x = -1 ∨ ∃ v, v < n ∧ x = nI v) → ∃ r ν1 ν2, f_X10_mean x μ = some (r, ν1) ∧ f_X11_mean x ν1 = some (r, ν2) ∧ Rel ν2 := by
    intro hx
    obtain ⟨ν, e1, e2, e3, e4, e5, e6⟩ := fore_X (od := fun v => μ.1 113 (36 + v)) hX hW oE (-1) 0
    obtain ⟨ν1, f1, f2, f3⟩ := frac_ok2 (ν := ν) h (lss_bI (m := μ.1 113 3) hW oO (-1) 0 x hp.2) (p10 hn5).1 (p10 hn5).2 (fun b j hb => e2 _ _ (by omega))
    obtain ⟨ν2, g1, g2⟩ := f3 (cpyI ν1 113 26 120 0 10) (fun b j hb => cp_ne (by omega)) rfl
    have hB : ∀ j, ν1.1 113 j = μ.1 113 j := fun j => by rw [f2]; exact e2 _ _ (by omega)
    have hY := hy_of hh hB
    refine ok_ask 1 ν1 ν2 ?_ ?_ g2
    · unfold f_X10_mean
      simp only [jn_eq]
      rcases hx with rfl | ⟨v, hv, rfl⟩
      · rw [if_pos (by trivial), e1, bd_some, if_pos (by trivial), lossAll_X e4 hn5, bd_some, s64_congr (g := fun v => wsum (fun i => μ.1 113 (6 + i)) (fun i => μ.1 113 (16 + i)) (fun i => μ.1 113 (26 + i)) (μ.1 113 3) l n (fun v => μ.1 113 (36 + v)) (-1) 0 v (2 ^ n) * (tl (fun i => μ.1 113 (6 + i)) (fun i => μ.1 113 (16 + i)) (fun i => μ.1 113 (26 + i)) l (nI v)).toInt64) (fun v hv => by (try dsimp only); rw [(e6 v hv).1, (e6 v hv).2]), ← lss_all hn5, e5, f1, bd_some]
      · rw [if_neg (nI_m1 v (by omega)), hasV_ok hX.1 (by omega) hv, bd_some, if_neg (by decide), e1, bd_some, if_neg (nI_m1 v (by omega)), lossOf_X (by omega), bd_some, (e6 v hv).1, (e6 v hv).2, ← lss_one hn5 _ _ hv, e5, f1, bd_some]
    · have Z : (bd2 (f_X11_meanOf x (-1) 0 ν1) fun r2 ν3 => bd (f_X11_whole ν3) fun r4 => bd2 (f_X11_keeps r2 r4 ν3) fun r5 ν6 => some (r5, ν6)) = some (1, ν2) := by
        rw [mean_Y (od := fun v => μ.1 113 (36 + v)) hY hW (hB 3) (fun v _ => hB _), bd2_some, whole_Y hY.1 hn5, bd_some, g1, bd2_some]
      unfold f_X11_mean
      rw [jn_eq]
      rcases hx with rfl | ⟨v, hv, rfl⟩
      · rw [if_pos rfl]; exact Z
      · rw [if_neg (nI_m1 v (by omega)), isV_ok ((hB 0).trans s0) (by omega) hv, bd_some, if_neg (by decide)]
        exact Z
  by_cases h1x : x = -1
  · exact good (Or.inl h1x)
  rcases isN_or x (n := n) (by omega) with ⟨v, hv, rfl⟩ | hx
  · exact good (Or.inr ⟨v, hv, rfl⟩)
  · refine ok_bad h ?_ (fun ν h5 hB _ => ?_)
    · unfold f_X10_mean
      rw [jn_eq, if_neg h1x, hasV_bad hX.1 hx, bd_some, if_pos rfl, tally_bad, bd2_some]
    · unfold f_X11_mean
      rw [jn_eq, if_neg h1x, isV_bad ((hB 0).trans s0) (by omega) hx, bd_some, if_pos rfl, badM h5, bd2_some]
noncomputable def pS (f : Nat → Int64) (a : Int64) : Nat → Int64 × Int32
  | 0 => (a, -1)
  | u + 1 => if f u < (pS f a u).1 then (f u, nI u) else pS f a u
theorem seen2 (x : Int32) : f_X4_seen 2 x 0 = some (x + 10) := by
  unfold f_X4_seen
  simp only [jn_eq]
  first
    | rw [if_neg (by decide), if_neg (by decide), if_pos rfl]
    | rfl
theorem ok_painting (x y : Int32) : Ok (f_X10_painting x y) (f_X11_painting x y) := by
  intro μ h
  obtain ⟨⟨n, l, r, p, hh, h1, h2, h3, h4, h5⟩, hi, ht, hll, hrf, hq⟩ := id h
  obtain ⟨⟨hn1, hn5, hl, hr, hp⟩, ⟨s0, s1, s2, s4, gr, hgr, s5⟩, c1, c2, c3, c4, c5, c6⟩ := id hh
  obtain ⟨hX, hW⟩ := hx_of hh h1
  obtain ⟨oO, oE⟩ := odd_of h2
  have hp := pow5 hn5
  rcases isN_or x (n := n) (by omega) with ⟨v, hv, rfl⟩ | hx
  · rcases isN_or y (n := 99 + 1) (by decide) with ⟨g, hg, rfl⟩ | hx
    · generalize hK : (fun i => μ.1 113 (6 + i)) = K at hX hW
      generalize hWW : (fun i => μ.1 113 (16 + i)) = W at hX hW
      generalize hH : (fun i => μ.1 113 (26 + i)) = H at hX hW
      have X : ∃ ν, f_X10_painting (nI v) (nI g) μ = some ((pS (fun u => lss K W H (μ.1 113 3) l n (fun v => μ.1 113 (36 + v)) (nI u) (nI g + 10) (nI v) (2 ^ n)) (lss K W H (μ.1 113 3) l n (fun v => μ.1 113 (36 + v)) (-1) 0 (nI v) (2 ^ n)) n).2, ν) ∧ (∀ b j, ¬ (68 ≤ b ∧ b ≤ 71) → ν.1 b j = μ.1 b j) ∧ ∀ b, ¬ (68 ≤ b ∧ b ≤ 71) → ν.2 b = μ.2 b := by
        obtain ⟨ν, e1, e2, e3, e4, e5, e6⟩ := fore_X (od := fun v => μ.1 113 (36 + v)) hX hW oE (-1) 0
        unfold f_X10_painting
        rw [hasV_ok hX.1 (by omega) hv, bd_some]
        simp only [jn_eq]
        rw [if_neg (by decide), if_neg (nI_pos (by omega)), if_neg (by exact ngt (n := 99) (by omega) (by decide))]
        unfold f_X9_bestPainting
        rw [e1, bd_some, lossOf_X (by omega), bd_some, (e6 v hv).1, (e6 v hv).2, ← lss_one hn5 _ _ hv]
        have L := lp_inv (F := cu4 fun (x4_3 : Int64) (x6_4 : Int32) (x7_5 : Int32) (ν6 : Mem) =>
    if x7_5 < (ν6.1 (1 + 1) 0) then
      bd (f_X4_seen 2 (nI g) 0) fun r10 =>
      bd (f_X9_foresee 1 x7_5 r10 ν6) fun ν11 =>
      bd (f_X9_lossOf (nI v) ν11) fun r12 =>
      jn (fun (x4_13 : Int64) (x6_14 : Int32) =>
        some (.inl (x4_13, x6_14, (x7_5 + 1), ν11))
        ) fun j15 =>
      if r12 < x4_3 then
        bd (f_X9_lossOf (nI v) ν11) fun r16 =>
        j15 r16 x7_5
      else
        j15 x4_3 x6_4
    else
      some (.inr (x6_4, ν6))) (fun u s => s.1 = (pS (fun u => lss K W H (μ.1 113 3) l n (fun v => μ.1 113 (36 + v)) (nI u) (nI g + 10) (nI v) (2 ^ n)) (lss K W H (μ.1 113 3) l n (fun v => μ.1 113 (36 + v)) (-1) 0 (nI v) (2 ^ n)) u).1 ∧ s.2.1 = (pS (fun u => lss K W H (μ.1 113 3) l n (fun v => μ.1 113 (36 + v)) (nI u) (nI g + 10) (nI v) (2 ^ n)) (lss K W H (μ.1 113 3) l n (fun v => μ.1 113 (36 + v)) (-1) 0 (nI v) (2 ^ n)) u).2 ∧ s.2.2.1 = nI u ∧ (∀ b j, ¬ (68 ≤ b ∧ b ≤ 71) → s.2.2.2.1 b j = μ.1 b j) ∧ ∀ b, ¬ (68 ≤ b ∧ b ≤ 71) → s.2.2.2.2 b = μ.2 b) (fun e : Int32 × Mem => e.1 = (pS (fun u => lss K W H (μ.1 113 3) l n (fun v => μ.1 113 (36 + v)) (nI u) (nI g + 10) (nI v) (2 ^ n)) (lss K W H (μ.1 113 3) l n (fun v => μ.1 113 (36 + v)) (-1) 0 (nI v) (2 ^ n)) n).2 ∧ (∀ b j, ¬ (68 ≤ b ∧ b ≤ 71) → e.2.1 b j = μ.1 b j) ∧ ∀ b, ¬ (68 ≤ b ∧ b ≤ 71) → e.2.2 b = μ.2 b) n (fun u s hu hI => ?_) (fun s hI => ?_) (s := (lss K W H (μ.1 113 3) l n (fun v => μ.1 113 (36 + v)) (-1) 0 (nI v) (2 ^ n), -1, 0, ν)) ⟨rfl, rfl, rfl, e2, e3⟩
        · obtain ⟨⟨r, ν'⟩, d1, d2, d3, d4⟩ := L
          refine ⟨ν', ?_, d3, d4⟩
          rw [d1, ← d2]
          rfl
        · obtain ⟨a, b, c, ν'⟩ := s
          obtain ⟨rfl, rfl, rfl, i4, i5⟩ := hI
          dsimp only at i4 i5
          obtain ⟨ν3, a1, a2, a3, a4, a5, a6⟩ := fore_X (μ := ν') (od := fun v => μ.1 113 (36 + v)) (hX.of (fun j => i4 _ _ (by omega)) (fun b j _ _ => i4 _ _ (by omega))) hW (fun v hv => (i4 _ _ (by omega)).trans (oE v hv)) (nI u) (nI g + 10)
          rw [cu4_eq, i4 _ _ (by omega), show μ.1 (1 + 1) 0 = nI n from hX.1, if_pos ((nI_ltI (by omega) (by omega)).mpr hu), seen2, bd_some, a1, bd_some, lossOf_X (by omega), bd_some, (a6 v hv).1, (a6 v hv).2, ← lss_one hn5 _ _ hv, jn_eq]
          left
          by_cases q : lss K W H (μ.1 113 3) l n (fun v => μ.1 113 (36 + v)) (nI u) (nI g + 10) (nI v) (2 ^ n) < (pS (fun u => lss K W H (μ.1 113 3) l n (fun v => μ.1 113 (36 + v)) (nI u) (nI g + 10) (nI v) (2 ^ n)) (lss K W H (μ.1 113 3) l n (fun v => μ.1 113 (36 + v)) (-1) 0 (nI v) (2 ^ n)) u).1
          · rw [if_pos q, bd_some]
            refine ⟨_, rfl, ?_, ?_, (nI_succ u).symm, fun b j hb => (a2 b j hb).trans (i4 b j hb), fun b hb => (a3 b hb).trans (i5 b hb)⟩
            · show _ = (if _ then _ else _ : Int64 × Int32).1
              rw [if_pos q]
            · show _ = (if _ then _ else _ : Int64 × Int32).2
              rw [if_pos q]
          · rw [if_neg q]
            refine ⟨_, rfl, ?_, ?_, (nI_succ u).symm, fun b j hb => (a2 b j hb).trans (i4 b j hb), fun b hb => (a3 b hb).trans (i5 b hb)⟩
            · show _ = (if _ then _ else _ : Int64 × Int32).1
              rw [if_neg q]
            · show _ = (if _ then _ else _ : Int64 × Int32).2
              rw [if_neg q]
        · obtain ⟨a, b, c, ν'⟩ := s
          obtain ⟨rfl, rfl, rfl, i4, i5⟩ := hI
          dsimp only at i4 i5
          rw [cu4_eq, i4 _ _ (by omega), show μ.1 (1 + 1) 0 = nI n from hX.1, if_neg (fun q => Nat.lt_irrefl _ ((nI_ltI (by omega) (by omega)).mp q))]
          exact ⟨_, rfl, rfl, i4, i5⟩
      obtain ⟨ν, x1, x2, x3⟩ := X
      have Y : ∃ ν', f_X11_painting (nI v) (nI g) ν = some ((pS (fun u => lss K W H (μ.1 113 3) l n (fun v => μ.1 113 (36 + v)) (nI u) (nI g + 10) (nI v) (2 ^ n)) (lss K W H (μ.1 113 3) l n (fun v => μ.1 113 (36 + v)) (-1) 0 (nI v) (2 ^ n)) n).2, ν') ∧ (∀ b j, b ≠ 120 → ν'.1 b j = ν.1 b j) ∧ ν'.2 = ν.2 := by
        have hB : ∀ j, ν.1 113 j = μ.1 113 j := fun j => x2 _ _ (by omega)
        have hYY : ∀ ν' : Mem, (∀ j, ν'.1 113 j = μ.1 113 j) → HY (cpyI ν' 113 26 120 0 10).1 n l K W H := fun ν' h' => by rw [← hK, ← hWW, ← hH]; exact hy_of hh h'
        unfold f_X11_painting
        rw [isV_ok ((hB 0).trans s0) (by omega) hv, bd_some]
        simp only [jn_eq]
        rw [if_neg (by decide), inL_ok (hi := 99) (by decide) (by omega), bd_some, if_neg (by decide), mean_Y (od := fun v => μ.1 113 (36 + v)) (hYY ν hB) hW (hB 3) (fun v _ => hB _), bd2_some]
        have L := lp_inv (F := cu4 fun (x3_8 : Int64) (x5_9 : Int32) (x6_10 : Int32) (ν11 : Mem) =>
        if x6_10 < (ν11.1 113 0) then
          bd2 (f_X11_meanOf (nI v) x6_10 (nI g + 10) ν11) fun r15 ν16 =>
            if r15 < x3_8 then
              if r15 < x3_8 then some (.inl (r15, x6_10, (x6_10 + 1), ν16)) else some (.inl (x3_8, x6_10, (x6_10 + 1), ν16))
            else
              if r15 < x3_8 then some (.inl (r15, x5_9, (x6_10 + 1), ν16)) else some (.inl (x3_8, x5_9, (x6_10 + 1), ν16))
        else
          some (.inr (x5_9, ν11))) (fun u s => s.1 = (pS (fun u => lss K W H (μ.1 113 3) l n (fun v => μ.1 113 (36 + v)) (nI u) (nI g + 10) (nI v) (2 ^ n)) (lss K W H (μ.1 113 3) l n (fun v => μ.1 113 (36 + v)) (-1) 0 (nI v) (2 ^ n)) u).1 ∧ s.2.1 = (pS (fun u => lss K W H (μ.1 113 3) l n (fun v => μ.1 113 (36 + v)) (nI u) (nI g + 10) (nI v) (2 ^ n)) (lss K W H (μ.1 113 3) l n (fun v => μ.1 113 (36 + v)) (-1) 0 (nI v) (2 ^ n)) u).2 ∧ s.2.2.1 = nI u ∧ (∀ b j, b ≠ 120 → s.2.2.2.1 b j = ν.1 b j) ∧ s.2.2.2.2 = ν.2) (fun e : Int32 × Mem => e.1 = (pS (fun u => lss K W H (μ.1 113 3) l n (fun v => μ.1 113 (36 + v)) (nI u) (nI g + 10) (nI v) (2 ^ n)) (lss K W H (μ.1 113 3) l n (fun v => μ.1 113 (36 + v)) (-1) 0 (nI v) (2 ^ n)) n).2 ∧ (∀ b j, b ≠ 120 → e.2.1 b j = ν.1 b j) ∧ e.2.2 = ν.2) n (fun u s hu hI => ?_) (fun s hI => ?_) (s := (lss K W H (μ.1 113 3) l n (fun v => μ.1 113 (36 + v)) (-1) 0 (nI v) (2 ^ n), -1, 0, cpyI ν 113 26 120 0 10)) ⟨rfl, rfl, rfl, fun b j hb => cp_ne (by omega), rfl⟩
        · obtain ⟨⟨r, ν'⟩, d1, d2, d3, d4⟩ := L
          refine ⟨ν', ?_, d3, d4⟩
          rw [d1, ← d2]
          rfl
        · obtain ⟨a, b, c, ν'⟩ := s
          obtain ⟨rfl, rfl, rfl, i4, i5⟩ := hI
          dsimp only at i4 i5
          have hB' : ∀ j, ν'.1 113 j = μ.1 113 j := fun j => (i4 _ _ (by omega)).trans (hB j)
          rw [cu4_eq, hB', show μ.1 113 0 = nI n from s0, if_pos ((nI_ltI (by omega) (by omega)).mpr hu), mean_Y (od := fun v => μ.1 113 (36 + v)) (hYY ν' hB') hW (hB' 3) (fun v _ => hB' _), bd2_some]
          left
          by_cases q : lss K W H (μ.1 113 3) l n (fun v => μ.1 113 (36 + v)) (nI u) (nI g + 10) (nI v) (2 ^ n) < (pS (fun u => lss K W H (μ.1 113 3) l n (fun v => μ.1 113 (36 + v)) (nI u) (nI g + 10) (nI v) (2 ^ n)) (lss K W H (μ.1 113 3) l n (fun v => μ.1 113 (36 + v)) (-1) 0 (nI v) (2 ^ n)) u).1
          · rw [if_pos q, if_pos q]
            refine ⟨_, rfl, ?_, ?_, (nI_succ u).symm, fun b j hb => (cp_ne (by omega)).trans (i4 b j hb), i5⟩
            · show _ = (if _ then _ else _ : Int64 × Int32).1
              rw [if_pos q]
            · show _ = (if _ then _ else _ : Int64 × Int32).2
              rw [if_pos q]
          · rw [if_neg q, if_neg q]
            refine ⟨_, rfl, ?_, ?_, (nI_succ u).symm, fun b j hb => (cp_ne (by omega)).trans (i4 b j hb), i5⟩
            · show _ = (if _ then _ else _ : Int64 × Int32).1
              rw [if_neg q]
            · show _ = (if _ then _ else _ : Int64 × Int32).2
              rw [if_neg q]
        · obtain ⟨a, b, c, ν'⟩ := s
          obtain ⟨rfl, rfl, rfl, i4, i5⟩ := hI
          dsimp only at i4 i5
          rw [cu4_eq, (i4 _ _ (by omega)).trans (hB 0), show μ.1 113 0 = nI n from s0, if_neg (fun q => Nat.lt_irrefl _ ((nI_ltI (by omega) (by omega)).mp q))]
          exact ⟨_, rfl, rfl, i4, i5⟩
      obtain ⟨ν', y1, y2, y3⟩ := Y
      refine ok_ask _ ν ν' x1 y1 (h.frame (fun p j hp => ?_) ?_)
      · have := relv_ne hp
        rw [y2 _ _ (by omega), x2 _ _ (by omega)]
      · rw [y3, x3 0 (by omega), x3 112 (by omega)]
        exact ⟨rfl, rfl⟩
    · refine ok_bad h ?_ (fun ν h5 hB _ => ?_)
      · unfold f_X10_painting
        rw [hasV_ok hX.1 (by omega) hv, bd_some]
        simp only [jn_eq]
        rw [if_neg (by decide)]
        by_cases h0 : y < 0
        · rw [if_pos h0, tally_bad, bd2_some]
        · rw [if_neg h0, if_pos (by exact gt_of (n := 99) (by decide) (hx.resolve_left h0)), tally_bad, bd2_some]
      · unfold f_X11_painting
        rw [isV_ok ((hB 0).trans s0) (by omega) hv, bd_some]
        simp only [jn_eq]
        rw [if_neg (by decide), inL_bad (hi := 99) (by decide) (or_of (by decide) hx), bd_some, if_pos (by trivial), badM h5, bd2_some]
  · refine ok_bad h ?_ (fun ν h5 hB _ => ?_)
    · unfold f_X10_painting
      rw [hasV_bad hX.1 hx, bd_some]
      simp only [jn_eq]
      rw [if_pos (by trivial), tally_bad, bd2_some]
    · unfold f_X11_painting
      rw [isV_bad ((hB 0).trans s0) (by omega) hx, bd_some]
      simp only [jn_eq]
      rw [if_pos (by trivial), badM h5, bd2_some]
