/-! share -/
def popN (s : Nat) : Nat → Nat
  | 0 => 0
  | k + 1 => popN s k + (if s.testBit k then 1 else 0)
theorem bits_Y (s : Nat) : f_X11_bits (nI s) = some (nI (popN s 10)) := by
  unfold f_X11_bits
  refine (bd_for (e := nI (popN s 10)) (fun k => (nI (popN s k), nI k)) 10 rfl (fun k hk => ?_) ?_).trans rfl
  · rw [cu2_eq, if_pos (by exact (nI_ltI (b := 10) (by omega) (by decide)).mpr hk), lt_eq, bit1 (by omega), bt_nI (by omega), ← nI_succ]
    show _ = some (Sum.inl (nI (popN s k + (if s.testBit k then 1 else 0)), _))
    cases s.testBit k
    · exact congrArg (fun z => some (Sum.inl (z, nI (k + 1)))) (Int32.add_zero _)
    · rw [if_pos rfl, if_pos rfl, ← nI_succ]
  · rw [cu2_eq, if_neg (by decide)]
theorem bc_tab : ∀ a : Fin 32, ∀ b : Fin 32, f_J6_bitCount_0f7a4 (nI (32 * a.1 + b.1)) = some (nI (popN (32 * a.1 + b.1) 10)) := by decide +kernel
theorem bitC_X {s : Nat} (hs : s < 1024) : f_J6_bitCount_0f7a4 (nI s) = some (nI (popN s 10)) := by
  have := bc_tab ⟨s / 32, by omega⟩ ⟨s % 32, by omega⟩
  simp only [Nat.div_add_mod] at this
  exact this
def fc : Nat → Nat
  | 0 => 1
  | k + 1 => (k + 1) * fc k
theorem fc_in : ∀ k, k ≤ 5 → 1 ≤ fc k ∧ fc k ≤ 120 := by decide
theorem fc_in4 : ∀ k, k ≤ 4 → 1 ≤ fc k ∧ fc k ≤ 24 := by decide
theorem fact_X : ∀ k, k ≤ 5 → FACT k = nI (fc k) := by decide +kernel
theorem orders_Y {k : Nat} (hk : k ≤ 5) : f_X11_orders (nI k) = some (nI (fc k)) := by
  unfold f_X11_orders
  have e : fc k = fc (k - 1 + 1) := by
    match k with
    | 0 => rfl
    | k + 1 => rfl
  rw [e]
  refine (bd_for (e := nI (fc (k - 1 + 1))) (fun i => (nI (fc (i + 1)), nI (i + 2))) (k - 1) rfl (fun i hi => ?_) ?_).trans rfl
  · rw [cu2_eq, if_neg (fun q => absurd ((nI_ltI (by omega) (by omega)).mp q) (by omega)), ni_mul, Nat.mul_comm, ← nI_succ]
    rfl
  · rw [cu2_eq, if_pos ((nI_ltI (by omega) (by omega)).mpr (by omega))]
theorem pop_tab : ∀ n : Fin 6, ∀ v : Fin 5, ∀ s : Fin 32, v.1 < n.1 → s.1 < 2 ^ n.1 → s.1.testBit v.1 = false → popN s.1 10 + 1 ≤ n.1 := by decide +kernel
theorem pop_le {n v s : Nat} (hn : n ≤ 5) (hv : v < n) (hs : s < 2 ^ n) (h : s.testBit v = false) : popN s 10 + 1 ≤ n :=
  pop_tab ⟨n, by omega⟩ ⟨v, by omega⟩ ⟨s, by have := pow5 hn; omega⟩ hv hs h
theorem ordW_X {b n : Nat} {μ : Mem} (hn : n ≤ 5) (hb : b + 1 ≤ n) : f_X10_ordersWith (nI b) (nI n) μ = some (lN (fc b * fc (n - 1 - b))) := by
  have e : nI n - 1 - nI b = nI (n - 1 - b) := by rw [show (1 : Int32) = nI 1 from rfl, ni_sub (by omega), ni_sub (by omega)]
  unfold f_X10_ordersWith
  simp only [jn_eq]
  have f1 := fc_in b (by omega)
  have f2 := fc_in (n - 1 - b) (by omega)
  rw [if_neg (nI_pos (by omega)), e, if_neg (nI_pos (by omega)), if_pos (by exact (nI_ltI (b := 6) (by omega) (by decide)).mpr (by omega)), if_pos (by exact (nI_ltI (b := 6) (by omega) (by decide)).mpr (by omega)), chk_nI (by omega) (by decide), chk_nI (by omega) (by decide), ix_nI (by omega), ix_nI (by omega), fact_X b (by omega), fact_X _ (by omega), nI_l (by omega), nI_l (by omega), lN_mul]
theorem and_bit {c v : Nat} (hv : v < 32) (h : nI c &&& nI (2 ^ v) = 0) : c.testBit v = false := by
  have : bt (nI c &&& nI (2 ^ v)) v = false := by rw [h]; exact b_0 v
  rw [b_and, bt_pow hv, decide_eq_true rfl, Bool.and_true, bt_nI hv] at this
  exact this
noncomputable def tnw (K W H : Nat → Int32) (m : Int32) (l n : Nat) (x : Int32) : Int32 := if grt K W H m l n (fun v => bt x v) = -1 then 0 else tl K W H l (grt K W H m l n (fun v => bt x v))
theorem tnw_in {K W H : Nat → Int32} {m : Int32} {l n : Nat} (hw : HW n l K W H) (x : Int32) : ∃ T, T ≤ 100 ∧ tnw K W H m l n x = nI T := by
  unfold tnw
  by_cases q : grt K W H m l n (fun v => bt x v) = -1
  · rw [if_pos q]; exact ⟨0, by omega, rfl⟩
  · rw [if_neg q]; exact tl_in hw _
noncomputable def shf (K W H : Nat → Int32) (m : Int32) (l n v c : Nat) : Int64 := if nI c &&& nI (2 ^ v) = 0 then (tnw K W H m l n (nI c ||| nI (2 ^ v)) - tnw K W H m l n (nI c)).toInt64 * lN (fc (popN c 10) * fc (n - 1 - popN c 10)) else 0
theorem shf_bI {K W H : Nat → Int32} {m : Int32} {l n v c : Nat} (hw : HW n l K W H) (hv : v < n) (hc : c < 2 ^ n) : bI (shf K W H m l n v c) 1000000 := by
  have hn := hw.1.2.1
  unfold shf
  by_cases q : nI c &&& nI (2 ^ v) = 0
  · rw [if_pos q]
    have hp := pop_le hn hv hc (and_bit (by omega) q)
    obtain ⟨a, ha, ea⟩ := tnw_in (m := m) hw (nI c ||| nI (2 ^ v))
    obtain ⟨b, hb, eb⟩ := tnw_in (m := m) hw (nI c)
    have f1 := fc_in4 (popN c 10) (by omega)
    have f2 := fc_in4 (n - 1 - popN c 10) (by omega)
    have f3 : fc (popN c 10) * fc (n - 1 - popN c 10) ≤ 24 * 24 := Nat.mul_le_mul f1.2 f2.2
    have e : (nI a - nI b).toInt = (a : Int) - b := pk_sub_toInt (by omega) (by omega)
    rw [ea, eb]
    refine bI_mono (bI_mul (A := 100) (B := 576) (bI_i (by rw [e]; omega) (by rw [e]; omega)) ?_ (by decide)) (by decide)
    unfold bI
    rw [pk_lT (by omega)]
    omega
  · rw [if_neg q]; exact bI_mono bI_0 (Nat.zero_le _)
theorem ok_share (x : Int32) : Ok (f_X10_share x) (f_X11_share x) := by
  intro μ h
  obtain ⟨⟨n, l, r, p, hh, h1, h2, h3, h4, h5⟩, hi, ht, hll, hrf, hq⟩ := id h
  obtain ⟨⟨hn1, hn5, hl, hr, hp⟩, ⟨s0, s1, s2, s4, gr, hgr, s5⟩, c1, c2, c3, c4, c5, c6⟩ := id hh
  obtain ⟨hX, hW⟩ := hx_of hh h1
  have hp := pow5 hn5
  rcases isN_or x (n := n) (by omega) with ⟨v, hv, rfl⟩ | hx
  · have hf := fc_in n hn5
    have hL := lk_HX (i := l) hX
    generalize hK : (fun i => μ.1 113 (6 + i)) = K at hX hW hL
    generalize hWW : (fun i => μ.1 113 (16 + i)) = W at hX hW hL
    generalize hH : (fun i => μ.1 113 (26 + i)) = H at hX hW hL
    have hb : bI (s64 (shf K W H (μ.1 113 3) l n v) (2 ^ n)) (2 ^ 60) := by
      refine bI_mono (s64_bI (B := 1000000) (fun c hc => shf_bI hW hv hc) ?_) ?_ <;> omega
    obtain ⟨ν1, f1, f2, f3⟩ := frac_ok2 (ν := lkM 2 K W H (μ.1 113 3) μ l) h hb (by omega : 0 < fc n) (by omega) (fun b j hb => lk_ne (by omega))
    obtain ⟨ν2, g1, g2⟩ := f3 (cpyI ν1 113 26 120 0 10) (fun b j hb => cp_ne (by omega)) rfl
    have hB : ∀ j, ν1.1 113 j = μ.1 113 j := fun j => by rw [f2]; exact lk_ne (by decide)
    have hY : HY (cpyI ν1 113 26 120 0 10).1 n l K W H := by rw [← hK, ← hWW, ← hH]; exact hy_of hh hB
    refine ok_ask 1 ν1 ν2 ?_ ?_ g2
    · unfold f_X10_share
      rw [hasV_ok hX.1 (by omega) hv, bd_some, if_neg (by decide), lk_X hX hW, bd_some, hL.1, shl1 n (by omega), shl1 v (by omega)]
      refine (bd_for (e := s64 (shf K W H (μ.1 113 3) l n v) (2 ^ n)) (fun c => (s64 (shf K W H (μ.1 113 3) l n v) c, nI c)) (2 ^ n) rfl (fun c hc => ?_) ?_).trans ?_
      · rw [cu2_eq, if_pos ((nI_ltI (by omega) (by omega)).mpr hc), jn_eq, ← nI_succ]
        show _ = some (Sum.inl (s64 (shf K W H (μ.1 113 3) l n v) c + (if nI c &&& nI (2 ^ v) = 0 then _ else _), _))
        by_cases q : nI c &&& nI (2 ^ v) = 0
        · have hpp := pop_le hn5 hv hc (and_bit (by omega) q)
          rw [if_pos q, if_pos q, tn_X hL hW (fun v hv => lk_in (by omega)), bd_some, tn_X hL hW (fun v hv => lk_in (by omega)), bd_some, bitC_X (by omega), bd_some, ordW_X hn5 hpp, bd_some, lt_eq]
          rfl
        · rw [if_neg q, if_neg q, Int64.add_zero]
      · rw [cu2_eq, if_neg (fun q => Nat.lt_irrefl _ ((nI_ltI (by omega) (by omega)).mp q))]
      · rw [chk_nI (by omega) (by decide), ix_nI (by omega), fact_X n hn5, nI_l (by omega), f1, bd_some]
    · unfold f_X11_share
      rw [isV_ok ((hB 0).trans s0) (by omega) hv, bd_some, if_neg (by decide), asNow_eq, bd_some, hY.1, shl1 v (by omega)]
      refine (bd_for (e := s64 (shf K W H (μ.1 113 3) l n v) (2 ^ n)) (fun c => (s64 (shf K W H (μ.1 113 3) l n v) c, nI c)) (2 ^ n) rfl (fun c hc => ?_) ?_).trans ?_
      · rw [cu2_eq, all_eq hY.1 hn5, bd_some, if_neg (fun q => absurd ((nI_ltI (by omega) (by omega)).mp q) (by omega)), jn_eq, ← nI_succ]
        show _ = some (Sum.inl (s64 (shf K W H (μ.1 113 3) l n v) c + (if nI c &&& nI (2 ^ v) = 0 then _ else _), _))
        by_cases q : nI c &&& nI (2 ^ v) = 0
        · have hpp := pop_le hn5 hv hc (and_bit (by omega) q)
          have em : (cpyI ν1 113 26 120 0 10).1 113 3 = μ.1 113 3 := (cp_ne (by omega)).trans (hB 3)
          have p1 := fc_in4 (popN c 10) (by omega)
          have p2 := fc_in4 (n - 1 - popN c 10) (by omega)
          have p3 : fc (popN c 10) * fc (n - 1 - popN c 10) ≤ 24 * 24 := Nat.mul_le_mul p1.2 p2.2
          have e : nI n - 1 - nI (popN c 10) = nI (n - 1 - popN c 10) := by rw [show (1 : Int32) = nI 1 from rfl, ni_sub (by omega), ni_sub (by omega)]
          rw [if_pos q, if_pos q, bits_Y, bd_some, tn_Y hY hW em, bd_some, tn_Y hY hW em, bd_some, orders_Y (by omega), bd_some, e, orders_Y (by omega), bd_some, lt_eq, ni_mul, nI_l (by omega), Int64.mul_comm (lN _)]
          rfl
        · rw [if_neg q, if_neg q, Int64.add_zero]
      · rw [cu2_eq, all_eq hY.1 hn5, bd_some, if_pos ((nI_ltI (by omega) (by omega)).mpr (by omega))]
      · rw [orders_Y hn5, bd_some, nI_l (by omega), g1, bd2_some]
  · refine ok_bad h ?_ (fun ν h5 hB _ => ?_)
    · unfold f_X10_share
      rw [hasV_bad hX.1 hx, bd_some, if_pos rfl, tally_bad, bd2_some]
    · unfold f_X11_share
      rw [isV_bad ((hB 0).trans s0) (by omega) hx, bd_some, if_pos rfl, badM h5, bd2_some]
