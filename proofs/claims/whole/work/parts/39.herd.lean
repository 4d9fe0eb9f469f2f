/-! Herds: what is seen, taken; the class's and the reference's alike -/
theorem bd_for {σ ε β : Type} {F : σ → Option (σ ⊕ ε)} {s : σ} {e : ε} {G : ε → Option β} (st : Nat → σ) (N : Nat) (h0 : s = st 0) (hs : ∀ i, i < N → F (st i) = some (.inl (st (i + 1)))) (he : F (st N) = some (.inr e)) : bd (lp F s) G = G e := by
  rw [h0, lp_for st N hs he]
  rfl
def HW (n l : Nat) (K W H : Nat → Int32) : Prop := (1 ≤ n ∧ n ≤ 5 ∧ l ≤ 10) ∧ ∀ i, i < l → (∃ c, c ≤ 5 ∧ K i = nI c) ∧ (∃ v, v < n ∧ W i = nI v) ∧ ∃ h, h ≤ 99 ∧ H i = nI h
def HX (k : Nat) (M : Nat → Nat → Int32) (n l : Nat) (K W H : Nat → Int32) (m : Int32) : Prop := M k 0 = nI n ∧ M k 1 = nI l ∧ M k 2 = m ∧ ∀ i, i < l → M (k + 1) i = K i ∧ M (k + 2) i = W i ∧ M (k + 3) i = H i
def HY (M : Nat → Nat → Int32) (n l : Nat) (K W H : Nat → Int32) : Prop := M 113 0 = nI n ∧ M 113 1 = nI l ∧ ∀ i, i < l → M 113 (6 + i) = K i ∧ M 113 (16 + i) = W i ∧ M 120 i = H i
noncomputable def sg (K W H : Nat → Int32) (m : Int32) (l : Nat) (v : Int32) : Int32 := sgt (fun i => if W i = v then sn (K i) (H i) m else 0) l
noncomputable def tl (K W H : Nat → Int32) (l : Nat) (v : Int32) : Int32 := sgt (fun i => if W i = v then tk (K i) (H i) else 0) l
noncomputable def hd (W H : Nat → Int32) (l : Nat) (v : Int32) : Int32 := sgt (fun i => if W i = v then H i else 0) l
noncomputable def grt (K W H : Nat → Int32) (m : Int32) (l n : Nat) (b : Nat → Bool) : Int32 := (gst (fun v => sg K W H m l (nI v)) b n).1
theorem HX.of {k n l : Nat} {M M' : Nat → Nat → Int32} {K W H : Nat → Int32} {m : Int32} (h : HX k M n l K W H m) (h0 : ∀ j, M' k j = M k j) (h1 : ∀ b j, k + 1 ≤ b → b ≤ k + 3 → M' b j = M b j) : HX k M' n l K W H m := by
  obtain ⟨a, b, c, d⟩ := h
  refine ⟨(h0 0).trans a, (h0 1).trans b, (h0 2).trans c, fun i hi => ?_⟩
  rw [h1 _ _ (by omega) (by omega), h1 _ _ (by omega) (by omega), h1 _ _ (by omega) (by omega)]
  exact d i hi
theorem HY.of {n l : Nat} {M M' : Nat → Nat → Int32} {K W H : Nat → Int32} (h : HY M n l K W H) (h0 : ∀ j, M' 113 j = M 113 j) (h1 : ∀ j, M' 120 j = M 120 j) : HY M' n l K W H := by
  obtain ⟨a, b, d⟩ := h
  refine ⟨(h0 0).trans a, (h0 1).trans b, fun i hi => ?_⟩
  rw [h0, h0, h1]
  exact d i hi
section HERD
variable {k n l : Nat} {K W H : Nat → Int32} {m : Int32} {μ : Mem}
theorem sg_X (hx : HX k μ.1 n l K W H m) (hw : HW n l K W H) (v : Int32) : f_X3_sightOf k v μ = some (sg K W H m l v) := by
  rw [sight_X hx.2.1 hw.1.2.2]
  refine congrArg some (sgt_congr (fun i hi => ?_))
  obtain ⟨a, b, c⟩ := hx.2.2.2 i hi
  rw [a, b, c, hx.2.2.1]
theorem sg_Y (hx : HY μ.1 n l K W H) (hw : HW n l K W H) (v : Int32) : f_X11_sightOf v m μ = some (sg K W H m l v) := by
  rw [sight_Y hx.2.1 hw.1.2.2 (fun i hi => by rw [(hx.2.2 i hi).1]; exact (hw.2 i hi).1)]
  refine congrArg some (sgt_congr (fun i hi => ?_))
  obtain ⟨a, b, c⟩ := hx.2.2 i hi
  rw [a, b, c]
theorem hd_X (hx : HX k μ.1 n l K W H m) (hw : HW n l K W H) (v : Int32) : f_X3_headsIn k v μ = some (hd W H l v) := by
  rw [heads_X hx.2.1 hw.1.2.2]
  refine congrArg some (sgt_congr (fun i hi => ?_))
  obtain ⟨a, b, c⟩ := hx.2.2.2 i hi
  rw [b, c]
theorem hd_Y (hx : HY μ.1 n l K W H) (hw : HW n l K W H) (v : Int32) : f_X11_headsOf v μ = some (hd W H l v) := by
  rw [heads_Y hx.2.1 hw.1.2.2]
  refine congrArg some (sgt_congr (fun i hi => ?_))
  obtain ⟨a, b, c⟩ := hx.2.2 i hi
  rw [b, c]
theorem tl_X (hx : HX k μ.1 n l K W H m) (hw : HW n l K W H) (v : Int32) : f_X3_tollOf k v μ = some (tl K W H l v) := by
  have hl := hw.1.2.2
  unfold f_X3_tollOf
  rw [hx.2.1]
  refine (bd_for (e := tl K W H l v) (fun i => (tl K W H i v, nI i)) l rfl (fun i hi => ?_) ?_).trans rfl
  · obtain ⟨a, b, c⟩ := hx.2.2.2 i hi
    rw [cu2_eq, if_pos ((nI_ltI (by omega) (by omega)).mpr hi), chk_nI (by omega) (by decide), jn_eq, ix_nI (by omega), b]
    show _ = some (Sum.inl (tl K W H i v + (if W i = v then _ else _), _))
    by_cases h : W i = v
    · unfold f_X3_takenOf
      rw [if_pos h, if_pos h, chk_nI (by omega) (by decide), chk_nI (by omega) (by decide), ix_nI (by omega), a, c, tk_X, bd_some, bd_some, ← nI_succ]
    · rw [if_neg h, if_neg h, Int32.add_zero, ← nI_succ]
  · rw [cu2_eq, if_neg (fun q => Nat.lt_irrefl l ((nI_ltI (by omega) (by omega)).mp q))]
theorem tl_Y (hx : HY μ.1 n l K W H) (hw : HW n l K W H) (v : Int32) : f_X11_tithe v μ = some (tl K W H l v) := by
  have hl := hw.1.2.2
  unfold f_X11_tithe
  rw [hx.2.1]
  refine (bd_for (e := tl K W H l v) (fun i => (tl K W H i v, nI i)) l rfl (fun i hi => ?_) ?_).trans rfl
  · obtain ⟨a, b, c⟩ := hx.2.2 i hi
    obtain ⟨⟨c1, hc1, e1⟩, _, g, hg, e3⟩ := hw.2 i hi
    rw [cu2_eq, if_pos ((nI_ltI (by omega) (by omega)).mpr hi), show (16 : Int32) = nI 16 from rfl, show (6 : Int32) = nI 6 from rfl, ni_add 16 i, ni_add 6 i, chk_nI (by omega) (by decide), jn_eq, ix_nI (i := 16 + i) (by omega), ix_nI (i := 6 + i) (by omega), ix_nI (i := i) (by omega), a, b, c]
    show _ = some (Sum.inl (tl K W H i v + (if W i = v then _ else _), _))
    by_cases h : W i = v
    · rw [if_pos h, if_pos h, chk_nI (by omega) (by decide), chk_nI (by omega) (by decide), e1, e3, tk_Y hc1 hg, bd_some, ← nI_succ]
    · rw [if_neg h, if_neg h, ← nI_succ]
  · rw [cu2_eq, if_neg (fun q => Nat.lt_irrefl l ((nI_ltI (by omega) (by omega)).mp q))]
/-- what look() leaves -/
noncomputable def lkM (k : Nat) (K W H : Nat → Int32) (m : Int32) (μ : Mem) (i : Nat) : Mem := (fun b j => if b = k + 4 ∧ j < 5 then sg K W H m i (nI j) else μ.1 b j, μ.2)
theorem lk_ne {i b j : Nat} (h : b ≠ k + 4) : (lkM k K W H m μ i).1 b j = μ.1 b j := if_neg (fun q => h q.1)
theorem lk_in {i j : Nat} (h : j < 5) : (lkM k K W H m μ i).1 (k + 4) j = sg K W H m i (nI j) := if_pos ⟨rfl, h⟩
theorem lk_X (hx : HX k μ.1 n l K W H m) (hw : HW n l K W H) : f_X3_look k μ = some (lkM k K W H m μ l) := by
  have hl := hw.1.2.2
  unfold f_X3_look
  rw [fillL (N := 5) (NI := 5) rfl (by decide) (by decide), bd_some]
  refine (bd_for (e := lkM k K W H m μ l) (fun i => (nI i, lkM k K W H m μ i)) l ?_ (fun i hi => ?_) ?_).trans rfl
  · show ((0 : Int32), _) = (nI 0, lkM k K W H m μ 0)
    refine congrArg (Prod.mk (nI 0)) (Prod.ext (funext fun b => funext fun j => ?_) rfl)
    rfl
  · obtain ⟨a, b, c⟩ := hx.2.2.2 i hi
    obtain ⟨⟨c1, hc1, e1⟩, ⟨v, hv, e2⟩, g, hg, e3⟩ := hw.2 i hi
    have hn := hw.1.2.1
    rw [cu2_eq, lk_ne (by omega), hx.2.1, if_pos ((nI_ltI (by omega) (by omega)).mpr hi), chk_nI (by omega) (by decide), ix_nI (by omega), lk_ne (by omega), b, e2, chk_nI (by omega) (by decide)]
    unfold f_X3_seenOf
    rw [chk_nI (by omega) (by decide), chk_nI (by omega) (by decide), ix_nI (by omega), ix_nI (by omega), lk_ne (by omega), lk_ne (by omega), lk_ne (by omega), a, c, hx.2.2.1, sn_X, bd_some, bd_some, chk_nI (by omega) (by decide), lt_eq, lk_in (by omega), ← nI_succ]
    refine congrArg some (congrArg Sum.inl (congrArg (Prod.mk (nI (i + 1))) (Prod.ext (funext fun b => funext fun j => ?_) rfl)))
    rw [si_1]
    by_cases h4 : b = k + 4
    · subst h4
      by_cases h5 : j < 5
      · rw [lk_in h5, lk_in h5]
        show _ = sg K W H m i (nI j) + (if W i = nI j then _ else _)
        by_cases h6 : j = v
        · rw [if_pos ⟨rfl, h6⟩, h6, if_pos e2]
        · rw [if_neg (fun q => h6 q.2), e2, if_neg (fun q => h6 ((nI_eq (by omega) (by omega)).mp q).symm), Int32.add_zero]
      · rw [if_neg (fun q => h5 (by omega))]
        show (if _ then _ else _) = (if _ then _ else _)
        rw [if_neg (fun q => h5 q.2), if_neg (fun q => h5 q.2)]
    · rw [if_neg (fun q => h4 q.1), lk_ne h4, lk_ne h4]
  · rw [cu2_eq, lk_ne (by omega), hx.2.1, if_neg (fun q => Nat.lt_irrefl l ((nI_ltI (by omega) (by omega)).mp q))]
theorem gb_X {ν : Mem} (h0 : ν.1 k 0 = nI n) (hn : n ≤ 5) (hs : ∀ v, v < n → ν.1 (k + 4) v = sg K W H m l (nI v)) (x : Int32) : f_X3_greatestBut k x ν = some (grt K W H m l n (fun v => !(bt x v))) := by
  unfold f_X3_greatestBut
  rw [h0, gi_X hn, bd_some]
  exact congrArg (fun z : Int32 × Int32 => some z.1) (gst_congr (fun i hi => hs i hi) (fun i hi => rfl))
theorem go_H (hx : HY μ.1 n l K W H) (hw : HW n l K W H) (x : Int32) : f_X11_greatestOf x m (-1) 0 μ = some (grt K W H m l n (fun v => bt x v)) :=
  go_Y0 hx.1 hw.1.2.1 (fun v => sg K W H m l (nI v)) (fun v _ => sg_Y hx hw (nI v))
theorem grt_congr {b b' : Nat → Bool} (h : ∀ v, v < n → b v = b' v) : grt K W H m l n b = grt K W H m l n b' := congrArg Prod.fst (gst_congr (fun _ _ => rfl) h)
theorem grt_in (b : Nat → Bool) : grt K W H m l n b = -1 ∨ ∃ v, v < n ∧ grt K W H m l n b = nI v := gst_in _ _ _
end HERD
theorem hx_of {μ : Mem} {n l r p : Nat} (hh : HeadP 1 μ.1 (fun j => μ.1 113 j) n l r p) (h1 : LotsP 1 μ.1 (fun j => μ.1 113 j) n l) : HX 2 μ.1 n l (fun i => μ.1 113 (6 + i)) (fun i => μ.1 113 (16 + i)) (fun i => μ.1 113 (26 + i)) (μ.1 113 3) ∧ HW n l (fun i => μ.1 113 (6 + i)) (fun i => μ.1 113 (16 + i)) (fun i => μ.1 113 (26 + i)) := by
  obtain ⟨⟨hn1, hn5, hl, hr, hp⟩, ⟨s0, s1, s2, s4, gr, hgr, s5⟩, c1, c2, c3, c4, c5, c6⟩ := hh
  refine ⟨⟨c1.trans s0, c2.trans s1, c3, fun i hi => ?_⟩, ⟨hn1, hn5, hl⟩, fun i hi => ?_⟩
  · obtain ⟨⟨c, hc, u1, u2⟩, ⟨v, hv, u3, u4⟩, g, hg, u5, u6⟩ := h1 i hi
    exact ⟨u2.trans u1.symm, u4.trans u3.symm, u6.trans u5.symm⟩
  · obtain ⟨⟨c, hc, u1, u2⟩, ⟨v, hv, u3, u4⟩, g, hg, u5, u6⟩ := h1 i hi
    exact ⟨⟨c, hc, u1⟩, ⟨v, hv, u3⟩, g, hg, u5⟩
theorem hy_of {μ ν : Mem} {n l r p : Nat} (hh : HeadP 1 μ.1 (fun j => μ.1 113 j) n l r p) (hν : ∀ j, ν.1 113 j = μ.1 113 j) : HY (cpyI ν 113 26 120 0 10).1 n l (fun i => μ.1 113 (6 + i)) (fun i => μ.1 113 (16 + i)) (fun i => μ.1 113 (26 + i)) := by
  obtain ⟨⟨hn1, hn5, hl, hr, hp⟩, ⟨s0, s1, s2, s4, gr, hgr, s5⟩, c1, c2, c3, c4, c5, c6⟩ := hh
  refine ⟨?_, ?_, fun i hi => ⟨?_, ?_, ?_⟩⟩
  · rw [cp_ne (by omega), hν]; exact s0
  · rw [cp_ne (by omega), hν]; exact s1
  · rw [cp_ne (by omega), hν]
  · rw [cp_ne (by omega), hν]
  · rw [cp_in (by omega), Nat.sub_zero, hν]
/-- a refused call that answers r -/
theorem ok_badr {X Y : Mem → Option (Int32 × Mem)} {μ : Mem} {r : Int32} (h : Rel μ) (hX : X μ = some (r, badX μ)) (hY : ∀ ν : Mem, ν.1 112 5 = 0 → (∀ j, ν.1 113 j = μ.1 113 j) → Y ν = some (r, refM ν 0)) : ∃ r ν1 ν2, X μ = some (r, ν1) ∧ Y ν1 = some (r, ν2) ∧ Rel ν2 :=
  ⟨r, badX μ, refM (badX μ) 0, hX, hY _ (quiet_bad h) (fun j => by simp [badX, si_1]), h.bad⟩
theorem refM0 {v : Int32} {μ : Mem} (hq : μ.1 112 5 = 0) : f_X11_refuses 0 v μ = some (v, refM μ 0) := ref_eq (s := 0) (by decide) hq
theorem ok_ask {X Y : Mem → Option (Int32 × Mem)} {μ : Mem} (r : Int32) (ν ν' : Mem) (hX : X μ = some (r, ν)) (hY : Y ν = some (r, ν')) (hR : Rel ν') : ∃ r ν1 ν2, X μ = some (r, ν1) ∧ Y ν1 = some (r, ν2) ∧ Rel ν2 := ⟨r, ν, ν', hX, hY, hR⟩
theorem ok_greatest (x : Int32) : Ok (f_X10_greatest x) (f_X11_greatest x) := by
  intro μ h
  obtain ⟨⟨n, l, r, p, hh, h1, h2, h3, h4, h5⟩, hi, ht, hll, hrf, hq⟩ := id h
  obtain ⟨⟨hn1, hn5, hl, hr, hp⟩, ⟨s0, s1, s2, s4, gr, hgr, s5⟩, c1, c2, c3, c4, c5, c6⟩ := id hh
  obtain ⟨hX, hW⟩ := hx_of hh h1
  rcases isN_or x (n := 2 ^ n) (by have := pow5 hn5; omega) with ⟨c, hc, rfl⟩ | hx
  · have hν : ∀ j, (lkM 2 (fun i => μ.1 113 (6 + i)) (fun i => μ.1 113 (16 + i)) (fun i => μ.1 113 (26 + i)) (μ.1 113 3) μ l).1 113 j = μ.1 113 j := fun j => lk_ne (by decide)
    refine ok_ask (grt (fun i => μ.1 113 (6 + i)) (fun i => μ.1 113 (16 + i)) (fun i => μ.1 113 (26 + i)) (μ.1 113 3) l n (fun v => !(bt (nI c) v))) (lkM 2 (fun i => μ.1 113 (6 + i)) (fun i => μ.1 113 (16 + i)) (fun i => μ.1 113 (26 + i)) (μ.1 113 3) μ l) _ ?_ ?_ (Rel.asNow (h.frame (ν := lkM 2 (fun i => μ.1 113 (6 + i)) (fun i => μ.1 113 (16 + i)) (fun i => μ.1 113 (26 + i)) (μ.1 113 3) μ l) (fun p j hp => lk_ne (by have := relv_ne hp; omega)) ⟨rfl, rfl⟩))
    · unfold f_X10_greatest
      rw [hasC_ok hX.1 hn5 hc, bd_some, if_neg (by decide), lk_X hX hW, bd_some, gb_X ((lk_ne (by decide)).trans hX.1) hn5 (fun v hv => lk_in (by omega)), bd_some]
    · unfold f_X11_greatest
      rw [isS_ok ((hν 0).trans s0) hn5 hc, bd_some, if_neg (by decide), asNow_eq, bd_some, all_eq (hy_of hh hν).1 hn5, bd_some, cp_ne (by omega), hν, go_H (hy_of hh hν) hW, bd_some, grt_congr (fun v hv => bt_all hn5 hv)]
  · refine ok_badr h (r := -10) ?_ (fun ν h5 hB => ?_)
    · unfold f_X10_greatest
      rw [hasC_bad hX.1 hn5 hx, bd_some, if_pos rfl, refB, bd2_some]
    · unfold f_X11_greatest
      rw [isS_bad ((hB 0).trans s0) hn5 hx, bd_some, if_pos rfl, refM0 h5, bd2_some]
theorem tn_X {k n l : Nat} {K W H : Nat → Int32} {m : Int32} {ν : Mem} (hx : HX k ν.1 n l K W H m) (hw : HW n l K W H) (hs : ∀ v, v < n → ν.1 (k + 4) v = sg K W H m l (nI v)) (x : Int32) : f_X3_takenFromLeague k x ν = some (if grt K W H m l n (fun v => bt x v) = -1 then 0 else tl K W H l (grt K W H m l n (fun v => bt x v))) := by
  have hn := hw.1.2.1
  unfold f_X3_takenFromLeague
  rw [gb_X hx.1 hw.1.2.1 hs, bd_some, jn_eq, grt_congr (b' := fun v => bt x v) (fun v hv => by (try dsimp only); rw [bt_not (by omega), Bool.not_not])]
  by_cases e : grt K W H m l n (fun v => bt x v) = -1
  · rw [if_pos e, if_pos e]
  · rw [if_neg e, if_neg e, tl_X hx hw, bd_some]
theorem tn_Y {n l : Nat} {K W H : Nat → Int32} {m : Int32} {ν : Mem} (hx : HY ν.1 n l K W H) (hw : HW n l K W H) (hm : ν.1 113 3 = m) (x : Int32) : f_X11_takenNow x ν = some (if grt K W H m l n (fun v => bt x v) = -1 then 0 else tl K W H l (grt K W H m l n (fun v => bt x v))) := by
  unfold f_X11_takenNow
  rw [hm, go_H hx hw, bd_some, jn_eq]
  by_cases e : grt K W H m l n (fun v => bt x v) = -1
  · rw [if_pos e, if_pos e]
  · rw [if_neg e, if_neg e, tl_Y hx hw, bd_some]
theorem lk_HX {k n l i : Nat} {K W H : Nat → Int32} {m : Int32} {μ : Mem} (hx : HX k μ.1 n l K W H m) : HX k (lkM k K W H m μ i).1 n l K W H m := hx.of (fun j => lk_ne (by omega)) (fun b j _ _ => lk_ne (by omega))
theorem ok_league (x : Int32) : Ok (f_X10_league x) (f_X11_league x) := by
  intro μ h
  obtain ⟨⟨n, l, r, p, hh, h1, h2, h3, h4, h5⟩, hi, ht, hll, hrf, hq⟩ := id h
  obtain ⟨⟨hn1, hn5, hl, hr, hp⟩, ⟨s0, s1, s2, s4, gr, hgr, s5⟩, c1, c2, c3, c4, c5, c6⟩ := id hh
  obtain ⟨hX, hW⟩ := hx_of hh h1
  rcases isN_or x (n := 2 ^ n) (by have := pow5 hn5; omega) with ⟨c, hc, rfl⟩ | hx
  · have hν : ∀ j, (lkM 2 (fun i => μ.1 113 (6 + i)) (fun i => μ.1 113 (16 + i)) (fun i => μ.1 113 (26 + i)) (μ.1 113 3) μ l).1 113 j = μ.1 113 j := fun j => lk_ne (by decide)
    refine ok_ask ((if grt (fun i => μ.1 113 (6 + i)) (fun i => μ.1 113 (16 + i)) (fun i => μ.1 113 (26 + i)) (μ.1 113 3) l n (fun v => bt (nI c) v) = -1 then 0 else tl (fun i => μ.1 113 (6 + i)) (fun i => μ.1 113 (16 + i)) (fun i => μ.1 113 (26 + i)) l (grt (fun i => μ.1 113 (6 + i)) (fun i => μ.1 113 (16 + i)) (fun i => μ.1 113 (26 + i)) (μ.1 113 3) l n (fun v => bt (nI c) v)))) (lkM 2 (fun i => μ.1 113 (6 + i)) (fun i => μ.1 113 (16 + i)) (fun i => μ.1 113 (26 + i)) (μ.1 113 3) μ l) _ ?_ ?_ (Rel.asNow (h.frame (ν := lkM 2 (fun i => μ.1 113 (6 + i)) (fun i => μ.1 113 (16 + i)) (fun i => μ.1 113 (26 + i)) (μ.1 113 3) μ l) (fun p j hp => lk_ne (by have := relv_ne hp; omega)) ⟨rfl, rfl⟩))
    · unfold f_X10_league
      rw [hasC_ok hX.1 hn5 hc, bd_some, if_neg (by decide), lk_X hX hW, bd_some, tn_X (lk_HX hX) hW (fun v hv => lk_in (by omega)), bd_some]
    · unfold f_X11_league
      rw [isS_ok ((hν 0).trans s0) hn5 hc, bd_some, if_neg (by decide), asNow_eq, bd_some, tn_Y (hy_of hh hν) hW ((cp_ne (by omega)).trans (hν 3)), bd_some]
  · refine ok_bad h ?_ (fun ν h5 hB _ => ?_)
    · unfold f_X10_league
      rw [hasC_bad hX.1 hn5 hx, bd_some, if_pos rfl, tally_bad, bd2_some]
    · unfold f_X11_league
      rw [isS_bad ((hB 0).trans s0) hn5 hx, bd_some, if_pos rfl, badM h5, bd2_some]
