/-! A full moon, in the class and in the reference -/
def tkN (c h : Nat) : Nat := if c = 2 then 0 else if c = 4 then (h + 9) / 10 / 2 else if c = 5 then (if h = 0 then 0 else 1) else (h + 9) / 10
theorem tk_l {h : Nat} (hh : h ≤ 99) : (nI h + 9) / 10 = nI ((h + 9) / 10) := by
  rw [show (9 : Int32) = nI 9 from rfl, ni_add, show (10 : Int32) = nI 10 from rfl, pk_div (by omega) (by decide) (by decide)]
theorem tk_N {c h : Nat} (hc : c ≤ 5) (hh : h ≤ 99) : tk (nI c) (nI h) = nI (tkN c h) := by
  match c, hc with
  | 0, _ => exact tk_l hh
  | 1, _ => exact tk_l hh
  | 2, _ => rfl
  | 3, _ => exact tk_l hh
  | 4, _ =>
    show (nI h + 9) / 10 / 2 = nI ((h + 9) / 10 / 2)
    rw [tk_l hh, show (2 : Int32) = nI 2 from rfl, pk_div (by omega) (by decide) (by decide)]
  | 5, _ =>
    show (if nI h < 1 then nI h else 1) = nI (if h = 0 then 0 else 1)
    by_cases e : h = 0
    · subst e; rfl
    · rw [if_neg e, if_neg (by exact fun q => absurd ((nI_ltI (b := 1) (by omega) (by decide)).mp q) (by omega))]
      rfl
  | c + 6, h => exact absurd h (by omega)
theorem tkN_le (c : Nat) {h : Nat} (hh : h ≤ 99) : tkN c h ≤ h ∧ tkN c h ≤ 10 := by
  unfold tkN
  repeat (first | (constructor <;> omega) | split)
noncomputable def gw (c h g : Int32) : Int32 := if 0 < h ∧ ¬ c = 2 ∧ ¬ c = 5 then (if h + g < 99 then h + g else 99) else h
noncomputable def gwR (c h g : Int32) : Int32 := if 99 < (if 0 < h ∧ ¬ c = 2 ∧ ¬ c = 5 then h + g else h) then 99 else (if 0 < h ∧ ¬ c = 2 ∧ ¬ c = 5 then h + g else h)
theorem gw_R {c : Int32} {h g : Nat} (hh : h ≤ 99) (hg : g ≤ 9) : gwR c (nI h) (nI g) = gw c (nI h) (nI g) := by
  unfold gw gwR
  by_cases e : 0 < nI h ∧ ¬ c = 2 ∧ ¬ c = 5
  · rw [if_pos e, if_pos e, ni_add, show (99 : Int32) = nI 99 from rfl]
    by_cases a : h + g < 99
    · rw [if_pos ((nI_ltI (by omega) (by omega)).mpr a), if_neg (fun q => absurd ((nI_ltI (by omega) (by omega)).mp q) (by omega))]
    · rw [if_neg (fun q => a ((nI_ltI (by omega) (by omega)).mp q))]
      by_cases b : h + g = 99
      · rw [b, if_neg (by decide)]
      · rw [if_pos ((nI_ltI (by omega) (by omega)).mpr (by omega))]
  · rw [if_neg e, if_neg e, if_neg (by exact fun q => absurd ((nI_ltI (a := 99) (by omega) (by omega)).mp q) (by omega))]
theorem gw_in {c : Int32} {h g : Nat} (hh : h ≤ 99) (hg : g ≤ 9) : ∃ h', h' ≤ 99 ∧ gw c (nI h) (nI g) = nI h' := by
  unfold gw
  by_cases e : 0 < nI h ∧ ¬ c = 2 ∧ ¬ c = 5
  · rw [if_pos e, ni_add]
    by_cases a : nI (h + g) < 99
    · rw [if_pos a]
      exact ⟨h + g, by have := (nI_ltI (b := 99) (by omega) (by omega)).mp a; omega, rfl⟩
    · rw [if_neg a]
      exact ⟨99, by omega, rfl⟩
  · rw [if_neg e]
    exact ⟨h, hh, rfl⟩
theorem grows_X {c : Nat} (hc : c ≤ 5) : f_X4_grows (nI c) = some (if nI c = 2 ∨ nI c = 5 then 0 else 1) := by
  match c, hc with
  | 0, _ => rfl
  | 1, _ => rfl
  | 2, _ => rfl
  | 3, _ => rfl
  | 4, _ => rfl
  | 5, _ => rfl
  | c + 6, h => exact absurd h (by omega)
theorem jn_of {γ α : Type} {j j' : γ} {f : γ → α} (h : j = j') : jn j f = f j' := by rw [h]; rfl
theorem ss_eq {μ : Mem} {a j : Nat} {x y : Int32} : setI (setI μ a j x) a j y = setI μ a j y := by
  refine Prod.ext (funext fun b => funext fun i => ?_) rfl
  rw [si_1, si_1, si_1]
  by_cases h : b = a ∧ i = j
  · rw [if_pos h, if_pos h]
  · rw [if_neg h, if_neg h, if_neg h]
/-- a row changed place by place -/
def mapM (p : Nat) (f : Nat → Int32 → Int32) (μ : Mem) (i : Nat) : Mem := (fun b j => if b = p ∧ j < i then f j (μ.1 p j) else μ.1 b j, μ.2)
section MAP
variable {p i : Nat} {f : Nat → Int32 → Int32} {μ : Mem}
theorem mp_ne {b j : Nat} (h : ¬ (b = p ∧ j < i)) : (mapM p f μ i).1 b j = μ.1 b j := if_neg h
theorem mp_in {j : Nat} (h : j < i) : (mapM p f μ i).1 p j = f j (μ.1 p j) := if_pos ⟨rfl, h⟩
theorem mp_0 : mapM p f μ 0 = μ := by
  refine Prod.ext (funext fun b => funext fun j => ?_) rfl
  rw [mp_ne (by omega)]
theorem mp_s {x : Int32} (h : x = f i (μ.1 p i)) : setI (mapM p f μ i) p i x = mapM p f μ (i + 1) := by
  refine Prod.ext (funext fun b => funext fun j => ?_) rfl
  rw [si_1]
  by_cases e : b = p ∧ j = i
  · rw [if_pos e, e.1, e.2, mp_in (by omega), h]
  · rw [if_neg e]
    by_cases e2 : b = p ∧ j < i
    · rw [e2.1, mp_in e2.2, mp_in (by omega)]
    · rw [mp_ne e2, mp_ne (by omega)]
theorem mp_k (h : f i (μ.1 p i) = μ.1 p i) : mapM p f μ i = mapM p f μ (i + 1) := by
  refine Prod.ext (funext fun b => funext fun j => ?_) rfl
  by_cases e : b = p ∧ j = i
  · rw [e.1, e.2, mp_ne (i := i) (by omega), mp_in (i := i + 1) (by omega), h]
  · by_cases e2 : b = p ∧ j < i
    · rw [e2.1, mp_in e2.2, mp_in (by omega)]
    · rw [mp_ne e2, mp_ne (by omega)]
end MAP
theorem tf_X {k l : Nat} {v : Int32} {μ : Mem} (m1 : μ.1 k 1 = nI l) (hl : l ≤ 10) : f_X3_takeFrom k v μ = some (sgt (fun i => if μ.1 (k + 2) i = v then tk (μ.1 (k + 1) i) (μ.1 (k + 3) i) else 0) l, mapM (k + 3) (fun i h => if μ.1 (k + 2) i = v then h - tk (μ.1 (k + 1) i) h else h) μ l) := by
  unfold f_X3_takeFrom
  refine (bd_for (e := (sgt (fun i => if μ.1 (k + 2) i = v then tk (μ.1 (k + 1) i) (μ.1 (k + 3) i) else 0) l, mapM (k + 3) (fun i h => if μ.1 (k + 2) i = v then h - tk (μ.1 (k + 1) i) h else h) μ l)) (fun i => (sgt (fun i => if μ.1 (k + 2) i = v then tk (μ.1 (k + 1) i) (μ.1 (k + 3) i) else 0) i, nI i, mapM (k + 3) (fun i h => if μ.1 (k + 2) i = v then h - tk (μ.1 (k + 1) i) h else h) μ i)) l ?_ (fun i hi => ?_) ?_).trans rfl
  · show ((0 : Int32), (0 : Int32), μ) = (0, 0, mapM _ _ μ 0)
    rw [mp_0]
  · rw [cu3_eq, mp_ne (by omega), m1, if_pos ((nI_ltI (by omega) (by omega)).mpr hi), chk_nI (by omega) (by decide), jn_eq, ix_nI (by omega), mp_ne (by omega)]
    show _ = some (Sum.inl (sgt _ i + (if μ.1 (k + 2) i = v then _ else _), _, _))
    by_cases h : μ.1 (k + 2) i = v
    · unfold f_X3_takenOf
      rw [if_pos h, if_pos h, chk_nI (by omega) (by decide), chk_nI (by omega) (by decide), ix_nI (by omega), mp_ne (by omega), mp_ne (by omega), tk_X, bd_some, bd_some, chk_nI (by omega) (by decide), chk_nI (by omega) (by decide), lt_eq, mp_s (by (try dsimp only); rw [if_pos h]), ← nI_succ]
    · rw [if_neg h, if_neg h, Int32.add_zero, mp_k (by (try dsimp only); rw [if_neg h]), ← nI_succ]
  · rw [cu3_eq, mp_ne (by omega), m1, if_neg (fun q => Nat.lt_irrefl l ((nI_ltI (by omega) (by omega)).mp q))]
theorem ga_X {k l : Nat} {μ : Mem} (m1 : μ.1 k 1 = nI l) (hl : l ≤ 10) (hc : ∀ i, i < l → ∃ c, c ≤ 5 ∧ μ.1 (k + 1) i = nI c) : f_X3_growAll k μ = some (mapM (k + 3) (fun i h => gw (μ.1 (k + 1) i) h (μ.1 k 3)) μ l) := by
  unfold f_X3_growAll
  refine (bd_for (e := mapM (k + 3) (fun i h => gw (μ.1 (k + 1) i) h (μ.1 k 3)) μ l) (fun i => (nI i, mapM (k + 3) (fun i h => gw (μ.1 (k + 1) i) h (μ.1 k 3)) μ i)) l ?_ (fun i hi => ?_) ?_).trans rfl
  · show ((0 : Int32), μ) = (0, mapM _ _ μ 0)
    rw [mp_0]
  · obtain ⟨c, hc5, e⟩ := hc i hi
    rw [cu2_eq, mp_ne (by omega), m1, if_pos ((nI_ltI (by omega) (by omega)).mpr hi), chk_nI (by omega) (by decide), jn_eq, ix_nI (by omega), mp_ne (b := k + 3) (by omega), mp_ne (b := k + 1) (by omega), mp_ne (b := k) (by omega)]
    by_cases h0 : 0 < μ.1 (k + 3) i
    · rw [if_pos h0, chk_nI (by omega) (by decide)]
      have hg : f_X4_grows (μ.1 (k + 1) i) = some (if μ.1 (k + 1) i = 2 ∨ μ.1 (k + 1) i = 5 then 0 else 1) := by rw [e]; exact grows_X hc5
      rw [hg, bd_some]
      by_cases h2 : μ.1 (k + 1) i = 2 ∨ μ.1 (k + 1) i = 5
      · rw [if_pos h2, if_pos rfl, mp_k (i := i) (by (try dsimp only); unfold gw; rw [if_neg (fun q => by rcases h2 with h2 | h2; exact q.2.1 h2; exact q.2.2 h2)]), ← nI_succ]
      · rw [if_neg h2, if_neg (by decide), chk_nI (by omega) (by decide), chk_nI (by omega) (by decide), lt_eq, mp_s (f := fun i h => gw (μ.1 (k + 1) i) h (μ.1 k 3)) (by exact (if_pos (show 0 < μ.1 (k + 3) i ∧ ¬ μ.1 (k + 1) i = 2 ∧ ¬ μ.1 (k + 1) i = 5 from ⟨h0, fun q => h2 (Or.inl q), fun q => h2 (Or.inr q)⟩)).symm), ← nI_succ]
    · rw [if_neg h0, mp_k (i := i) (by (try dsimp only); unfold gw; rw [if_neg (fun q => h0 q.1)]), ← nI_succ]
  · rw [cu2_eq, mp_ne (by omega), m1, if_neg (fun q => Nat.lt_irrefl l ((nI_ltI (by omega) (by omega)).mp q))]
/-! pure: whom it takes from, what, what is left -/
noncomputable def fiO (K W H : Nat → Int32) (m : Int32) (l n : Nat) (x : Int32) : Int32 := grt K W H m l n (fun v => !(bt x v))
noncomputable def seO (K W H : Nat → Int32) (m : Int32) (l n : Nat) (x b : Int32) : Int32 := if fiO K W H m l n x = -1 ∨ b = 0 then -1 else fiO K W H m l n (x ||| ((1 : Int32) <<< (fiO K W H m l n x &&& 31)))
noncomputable def tt (K W H : Nat → Int32) (fi se : Int32) (i : Nat) : Int32 := if W i = fi ∨ W i = se then tk (K i) (H i) else 0
noncomputable def nx (K W H : Nat → Int32) (g fi se : Int32) (i : Nat) : Int32 := gw (K i) (H i - tt K W H fi se i) g
theorem sgt_add {f g : Nat → Int32} : ∀ l, sgt f l + sgt g l = sgt (fun i => f i + g i) l
  | 0 => by show (0 : Int32) + 0 = 0; decide
  | l + 1 => by
    show (sgt f l + f l) + (sgt g l + g l) = sgt (fun i => f i + g i) l + (f l + g l)
    rw [← sgt_add l, Int32.add_assoc, Int32.add_assoc, ← Int32.add_assoc (f l), Int32.add_comm (f l) (sgt g l), Int32.add_assoc (sgt g l)]
theorem sgt_in {f : Nat → Int32} {B : Nat} : ∀ {l : Nat}, (∀ i, i < l → ∃ t, t ≤ B ∧ f i = nI t) → ∃ T, T ≤ B * l ∧ sgt f l = nI T
  | 0, _ => ⟨0, Nat.le_refl _, rfl⟩
  | l + 1, h => by
    obtain ⟨T, hT, e⟩ := sgt_in (l := l) (fun i hi => h i (by omega))
    obtain ⟨t, ht, e2⟩ := h l (by omega)
    refine ⟨T + t, by rw [Nat.mul_succ]; omega, ?_⟩
    show sgt f l + f l = _
    rw [e, e2, ni_add]
theorem gst_vis (s : Nat → Int32) (b : Nat → Bool) : ∀ n v, v < 32 → n ≤ 32 → (gst s b n).1 = nI v → b v = true
  | 0, v, hv, _, h => absurd h.symm (nI_m1 v hv)
  | n + 1, v, hv, hn, h => by
    by_cases e : b n = true ∧ (gst s b n).2 < s n
    · rw [gst_t e.1 e.2] at h
      have : n = v := (nI_eq (by omega) (by omega)).mp h
      rw [← this]; exact e.1
    · rw [gst_f e] at h
      exact gst_vis s b n v hv (by omega) h
section MOON
variable {k n l : Nat} {K W H : Nat → Int32} {m : Int32} {μ : Mem}
theorem gb_F {ν : Mem} (h0 : ν.1 k 0 = nI n) (hn : n ≤ 5) (hs : ∀ v, v < n → ν.1 (k + 4) v = sg K W H m l (nI v)) (x : Int32) : f_X3_greatestBut k x ν = some (fiO K W H m l n x) := gb_X h0 hn hs x
theorem go_F (hx : HY μ.1 n l K W H) (hw : HW n l K W H) (x : Int32) : f_X11_greatestOf (nI (2 ^ n - 1) &&& (x ^^^ (-1))) m (-1) 0 μ = some (fiO K W H m l n x) := by
  rw [go_H hx hw]
  exact congrArg some (grt_congr (fun v hv => bt_all hw.1.2.1 hv))
theorem go_S (hx : HY μ.1 n l K W H) (hw : HW n l K W H) (x y : Int32) : f_X11_greatestOf ((nI (2 ^ n - 1) &&& (x ^^^ (-1))) &&& (y ^^^ (-1))) m (-1) 0 μ = some (fiO K W H m l n (x ||| y)) := by
  have hn := hw.1.2.1
  rw [go_H hx hw]
  exact congrArg some (grt_congr (fun v hv => by
    (try dsimp only)
    rw [b_and, bt_all hn hv, bt_not (by omega), b_or, Bool.not_or]))
theorem tt_in (hw : HW n l K W H) (fi se : Int32) {i : Nat} (hi : i < l) : ∃ h t, h ≤ 99 ∧ t ≤ h ∧ t ≤ 10 ∧ H i = nI h ∧ tt K W H fi se i = nI t := by
  obtain ⟨⟨c, hc, e1⟩, _, h, hh, e3⟩ := hw.2 i hi
  unfold tt
  by_cases e : W i = fi ∨ W i = se
  · rw [if_pos e, e1, e3, tk_N hc hh]
    exact ⟨h, tkN c h, hh, (tkN_le c hh).1, (tkN_le c hh).2, rfl, rfl⟩
  · rw [if_neg e]
    exact ⟨h, 0, hh, by omega, by omega, e3, rfl⟩
theorem nx_in (hw : HW n l K W H) (fi se : Int32) {g i : Nat} (hi : i < l) (hg : g ≤ 9) : (∃ h, h ≤ 99 ∧ nx K W H (nI g) fi se i = nI h) ∧ gwR (K i) (H i - tt K W H fi se i) (nI g) = nx K W H (nI g) fi se i := by
  obtain ⟨h, t, hh, ht, _, e1, e2⟩ := tt_in hw fi se hi
  unfold nx
  rw [e1, e2, ni_sub ht]
  exact ⟨gw_in (by omega) hg, gw_R (by omega) hg⟩
theorem HW.nx (hw : HW n l K W H) (fi se : Int32) {g : Nat} (hg : g ≤ 9) : HW n l K W (nx K W H (nI g) fi se) := ⟨hw.1, fun i hi => ⟨(hw.2 i hi).1, (hw.2 i hi).2.1, (nx_in hw fi se hi hg).1⟩⟩
theorem tts_in (hw : HW n l K W H) (fi se : Int32) : ∃ T, T ≤ 100 ∧ sgt (tt K W H fi se) l = nI T := by
  obtain ⟨T, hT, e⟩ := sgt_in (f := tt K W H fi se) (B := 10) (l := l) (fun i hi => by
    obtain ⟨h, t, hh, ht, h10, e1, e2⟩ := tt_in hw fi se hi
    exact ⟨t, h10, e2⟩)
  have := hw.1.2.2
  exact ⟨T, by omega, e⟩
theorem se_ne {x b : Int32} (hn : n ≤ 5) (h : ¬ seO K W H m l n x b = -1) : ¬ fiO K W H m l n x = seO K W H m l n x b ∧ ¬ fiO K W H m l n x = -1 ∧ ¬ b = 0 := by
  have a : ¬ (fiO K W H m l n x = -1 ∨ b = 0) := fun q => h (if_pos q)
  refine ⟨fun q => ?_, fun q => a (Or.inl q), fun q => a (Or.inr q)⟩
  unfold seO at q
  rw [if_neg a] at q
  rcases grt_in (K := K) (W := W) (H := H) (m := m) (l := l) (n := n) (fun v => !(bt x v)) with e | ⟨v, hv, e⟩
  · exact a (Or.inl e)
  · have e' : fiO K W H m l n x = nI v := e
    rw [e'] at q
    have := gst_vis _ _ n v (by omega) (by omega) q.symm
    rw [shl1 v (by omega), b_or, bt_pow (by omega), decide_eq_true rfl, Bool.or_true] at this
    cases this
theorem fm_X (hx : HX k μ.1 n l K W H m) (hw : HW n l K W H) (x b : Int32) {g : Int32} (hg : μ.1 k 3 = g) : ∃ ν, f_X3_fullMoon k x b μ = some (sgt (tt K W H (fiO K W H m l n x) (seO K W H m l n x b)) l, ν) ∧ ν.2 = μ.2 ∧ (∀ p j, p ≠ k + 3 → p ≠ k + 4 → ¬ (p = k ∧ j = 2) → ν.1 p j = μ.1 p j) ∧ ν.1 k 2 = m + 1 ∧ ∀ i, i < l → ν.1 (k + 3) i = nx K W H g (fiO K W H m l n x) (seO K W H m l n x b) i := by
  have hn := hw.1.2.1
  have hl := hw.1.2.2
  have hL := lk_HX (i := l) hx
  have hWm : ∀ i, i < l → ¬ W i = -1 := fun i hi => by
    obtain ⟨_, ⟨v, hv, e⟩, _⟩ := hw.2 i hi
    rw [e]; exact nI_m1 v (by omega)
  -- the last steps, from any memory in which heads alone were changed
  have J : ∀ (T : Int32) (ν4 : Mem) (fi se : Int32), T = sgt (tt K W H fi se) l → ν4.2 = μ.2 → (∀ p j, p ≠ k + 3 → p ≠ k + 4 → ν4.1 p j = μ.1 p j) → (∀ i, i < l → ν4.1 (k + 3) i = H i - tt K W H fi se i) → ∃ ν, (bd (f_X3_growAll k ν4) fun ν6 => lt (setI ν6 k 2 ((ν6.1 k 2) + 1)) fun ν7 => some (T, ν7)) = some (sgt (tt K W H fi se) l, ν) ∧ ν.2 = μ.2 ∧ (∀ p j, p ≠ k + 3 → p ≠ k + 4 → ¬ (p = k ∧ j = 2) → ν.1 p j = μ.1 p j) ∧ ν.1 k 2 = m + 1 ∧ ∀ i, i < l → ν.1 (k + 3) i = nx K W H g fi se i := by
    intro T ν4 fi se hT a1 a2 a3
    have e1 : ν4.1 k 1 = nI l := (a2 _ _ (by omega) (by omega)).trans hx.2.1
    rw [ga_X e1 hl (fun i hi => by rw [a2 _ _ (by omega) (by omega), (hx.2.2.2 i hi).1]; exact (hw.2 i hi).1), bd_some, lt_eq]
    refine ⟨_, congrArg (fun z => some (z, _)) hT, a1, fun p j p1 p2 p3 => ?_, ?_, fun i hi => ?_⟩
    · rw [si_ne p3, mp_ne (by omega), a2 _ _ p1 p2]
    · rw [si_eq, mp_ne (by omega), a2 _ _ (by omega) (by omega), hx.2.2.1]
    · rw [si_ne (by omega), mp_in hi, a2 (k + 1) i (by omega) (by omega), a2 k 3 (by omega) (by omega), a3 i hi, (hx.2.2.2 i hi).1, hg]
      rfl
  unfold f_X3_fullMoon
  rw [lk_X hx hw, bd_some, gb_F hL.1 hn (fun v hv => lk_in (by omega)), bd_some]
  simp only [jn_eq]
  by_cases hf : fiO K W H m l n x = -1
  · rw [if_pos hf]
    have hs : seO K W H m l n x b = -1 := if_pos (Or.inl hf)
    rw [hs, hf]
    have z : ∀ i, i < l → tt K W H (-1) (-1) i = 0 := fun i hi => if_neg (fun q => by rcases q with q | q <;> exact hWm i hi q)
    refine J 0 _ _ _ ?_ rfl (fun p j p1 p2 => lk_ne p2) (fun i hi => ?_)
    · rw [sgt_congr (g := fun _ => 0) (fun i hi => z i hi)]
      have : ∀ l, sgt (fun _ => 0) l = 0 := fun l => by
        induction l with
        | zero => rfl
        | succ l ih => show sgt (fun _ => 0) l + 0 = 0; rw [ih]; decide
      exact (this l).symm
    · rw [z i hi, lk_ne (by omega), (hx.2.2.2 i hi).2.2, Int32.sub_zero]
  · rw [if_neg hf, tf_X hL.2.1 hl, bd2_some]
    have hT1 : sgt (fun i => if (lkM k K W H m μ l).1 (k + 2) i = fiO K W H m l n x then tk ((lkM k K W H m μ l).1 (k + 1) i) ((lkM k K W H m μ l).1 (k + 3) i) else 0) l = sgt (fun i => if W i = fiO K W H m l n x then tk (K i) (H i) else 0) l := sgt_congr (fun i hi => by
      obtain ⟨a, b, c⟩ := hL.2.2.2 i hi
      rw [a, b, c])
    rw [hT1]
    have F1 : ∀ p j, p ≠ k + 3 → p ≠ k + 4 → (mapM (k + 3) (fun i h => if (lkM k K W H m μ l).1 (k + 2) i = fiO K W H m l n x then h - tk ((lkM k K W H m μ l).1 (k + 1) i) h else h) (lkM k K W H m μ l) l).1 p j = μ.1 p j := fun p j p1 p2 => by rw [mp_ne (by omega), lk_ne p2]
    have F2 : ∀ i, i < l → (mapM (k + 3) (fun i h => if (lkM k K W H m μ l).1 (k + 2) i = fiO K W H m l n x then h - tk ((lkM k K W H m μ l).1 (k + 1) i) h else h) (lkM k K W H m μ l) l).1 (k + 3) i = if W i = fiO K W H m l n x then H i - tk (K i) (H i) else H i := fun i hi => by
      obtain ⟨a, b, c⟩ := hL.2.2.2 i hi
      rw [mp_in hi, a, b, c]
    have F3 : ∀ v, v < 5 → (mapM (k + 3) (fun i h => if (lkM k K W H m μ l).1 (k + 2) i = fiO K W H m l n x then h - tk ((lkM k K W H m μ l).1 (k + 1) i) h else h) (lkM k K W H m μ l) l).1 (k + 4) v = sg K W H m l (nI v) := fun v hv => by rw [mp_ne (by omega), lk_in hv]
    have F0 : (mapM (k + 3) (fun i h => if (lkM k K W H m μ l).1 (k + 2) i = fiO K W H m l n x then h - tk ((lkM k K W H m μ l).1 (k + 1) i) h else h) (lkM k K W H m μ l) l).2 = μ.2 := rfl
    generalize mapM (k + 3) (fun i h => if (lkM k K W H m μ l).1 (k + 2) i = fiO K W H m l n x then h - tk ((lkM k K W H m μ l).1 (k + 1) i) h else h) (lkM k K W H m μ l) l = ν1 at F0 F1 F2 F3 ⊢
    -- one dragon alone
    have ONE : seO K W H m l n x b = -1 → ∃ ν, (bd (f_X3_growAll k ν1) fun ν6 => lt (setI ν6 k 2 ((ν6.1 k 2) + 1)) fun ν7 => some (0 + sgt (fun i => if W i = fiO K W H m l n x then tk (K i) (H i) else 0) l, ν7)) = some (sgt (tt K W H (fiO K W H m l n x) (seO K W H m l n x b)) l, ν) ∧ ν.2 = μ.2 ∧ (∀ p j, p ≠ k + 3 → p ≠ k + 4 → ¬ (p = k ∧ j = 2) → ν.1 p j = μ.1 p j) ∧ ν.1 k 2 = m + 1 ∧ ∀ i, i < l → ν.1 (k + 3) i = nx K W H g (fiO K W H m l n x) (seO K W H m l n x b) i := by
      intro hs
      rw [hs]
      have z : ∀ i, i < l → tt K W H (fiO K W H m l n x) (-1) i = if W i = fiO K W H m l n x then tk (K i) (H i) else 0 := fun i hi => by
        unfold tt
        by_cases e : W i = fiO K W H m l n x
        · rw [if_pos (Or.inl e), if_pos e]
        · rw [if_neg (fun q => by rcases q with q | q; exact e q; exact hWm i hi q), if_neg e]
      refine J _ _ _ _ ?_ F0 F1 (fun i hi => ?_)
      · rw [Int32.zero_add]
        exact (sgt_congr z).symm
      · rw [F2 i hi, z i hi]
        by_cases e : W i = fiO K W H m l n x
        · rw [if_pos e, if_pos e]
        · rw [if_neg e, if_neg e, Int32.sub_zero]
    by_cases hb : b = 0
    · rw [if_pos hb, if_pos (by trivial)]
      exact ONE (if_pos (Or.inr hb))
    · have hse : seO K W H m l n x b = fiO K W H m l n (x ||| ((1 : Int32) <<< (fiO K W H m l n x &&& 31))) := if_neg (fun q => by rcases q with q | q; exact hf q; exact hb q)
      rw [if_neg hb, gb_F ((F1 _ _ (by omega) (by omega)).trans hx.1) hn (fun v hv => F3 v (by omega)), bd_some]
      rw [← hse]
      by_cases hs : seO K W H m l n x b = -1
      · rw [if_pos hs]
        exact ONE hs
      · rw [if_neg hs, tf_X ((F1 _ _ (by omega) (by omega)).trans hx.2.1) hl, bd2_some]
        have hne := (se_ne hn hs).1
        have h2 : ∀ i, i < l → (if ν1.1 (k + 2) i = seO K W H m l n x b then tk (ν1.1 (k + 1) i) (ν1.1 (k + 3) i) else 0) = if W i = seO K W H m l n x b then tk (K i) (H i) else 0 := fun i hi => by
          obtain ⟨a, b', c⟩ := hx.2.2.2 i hi
          rw [F1 _ _ (by omega) (by omega), F1 _ _ (by omega) (by omega), F2 i hi, a, b']
          by_cases e : W i = seO K W H m l n x b
          · rw [if_pos e, if_pos e, if_neg (fun q => hne (q.symm.trans e))]
          · rw [if_neg e, if_neg e]
        refine J _ _ _ _ ?_ F0 (fun p j p1 p2 => ?_) (fun i hi => ?_)
        · rw [Int32.zero_add, sgt_congr h2, sgt_add]
          refine sgt_congr (fun i hi => ?_)
          show _ = if _ then _ else _
          by_cases e : W i = fiO K W H m l n x
          · rw [if_pos e, if_neg (fun q => hne (e.symm.trans q)), if_pos (Or.inl e), Int32.add_zero]
          · by_cases e2 : W i = seO K W H m l n x b
            · rw [if_neg e, if_pos e2, if_pos (Or.inr e2), Int32.zero_add]
            · rw [if_neg e, if_neg e2, if_neg (fun q => by rcases q with q | q; exact e q; exact e2 q), Int32.zero_add]
        · rw [mp_ne (by omega), F1 p j p1 p2]
        · obtain ⟨a, b', c⟩ := hx.2.2.2 i hi
          rw [mp_in hi, F1 (k + 2) i (by omega) (by omega), F1 (k + 1) i (by omega) (by omega), F2 i hi, a, b']
          unfold tt
          by_cases e : W i = fiO K W H m l n x
          · rw [if_pos e, if_neg (fun q => hne (e.symm.trans q)), if_pos (Or.inl e)]
          · by_cases e2 : W i = seO K W H m l n x b
            · rw [if_neg e, if_pos e2, if_pos (Or.inr e2)]
            · rw [if_neg e, if_neg e2, if_neg (fun q => by rcases q with q | q; exact e q; exact e2 q), Int32.sub_zero]
theorem gs_Y (hx : HY μ.1 n l K W H) (hw : HW n l K W H) (x b m : Int32) {g : Nat} (hg : g ≤ 9) : f_X11_goes x b m (nI g) μ = some (sgt (tt K W H (fiO K W H m l n x) (seO K W H m l n x b)) l, mapM 120 (fun i _ => nx K W H (nI g) (fiO K W H m l n x) (seO K W H m l n x b) i) μ l) := by
  have hn := hw.1.2.1
  have hl := hw.1.2.2
  unfold f_X11_goes
  rw [all_eq hx.1 hn, bd_some, go_F hx hw, bd_some]
  refine (jn_of (j' := fun y3 => some (sgt (tt K W H (fiO K W H m l n x) y3) l, mapM 120 (fun i _ => nx K W H (nI g) (fiO K W H m l n x) y3 i) μ l)) (funext fun y3 => ?_)).trans ?_
  · show bd (lp (ε := Int32 × Mem) _ _) _ = _
    generalize fiO K W H m l n x = F
    refine (bd_for (e := (sgt (tt K W H F y3) l, mapM 120 (fun i _ => nx K W H (nI g) F y3 i) μ l)) (fun i => (sgt (tt K W H F y3) i, nI i, mapM 120 (fun i _ => nx K W H (nI g) F y3 i) μ i)) l ?_ (fun i hi => ?_) ?_).trans rfl
    · show ((0 : Int32), (0 : Int32), μ) = (0, 0, mapM _ _ μ 0)
      rw [mp_0]
    · obtain ⟨a, b', c⟩ := hx.2.2 i hi
      obtain ⟨⟨c1, hc1, e1⟩, ⟨v, hv, e2⟩, h0, hh0, e3⟩ := hw.2 i hi
      have hWm : ¬ W i = -1 := by rw [e2]; exact nI_m1 v (by omega)
      rw [cu3_eq, mp_ne (b := 113) (by omega), hx.2.1, if_pos ((nI_ltI (by omega) (by omega)).mpr hi), show (6 : Int32) = nI 6 from rfl, show (16 : Int32) = nI 16 from rfl, ni_add 6 i, ni_add 16 i, chk_nI (by omega) (by decide), chk_nI (by omega) (by decide), ix_nI (i := 6 + i) (by omega), ix_nI (i := 16 + i) (by omega), ix_nI (i := i) (by omega), mp_ne (b := 113) (by omega), mp_ne (b := 113) (by omega), mp_ne (b := 120) (by omega), a, b', c]
      refine (jn_of (j' := fun y11 : Int32 => some (Sum.inl (sgt (tt K W H F y3) i + y11, nI (i + 1), setI (mapM 120 (fun i _ => nx K W H (nI g) F y3 i) μ i) 120 i (gwR (K i) (H i - y11) (nI g))))) (funext fun y11 => ?_)).trans ?_
      · simp only [chk_nI (show i < 10 by omega) (show 10 < 2 ^ 31 by decide), lt_eq, jn_eq, si_eq, ss_eq, ← nI_succ]
        unfold gwR
        by_cases q0 : 0 < H i - y11
        · by_cases q2 : K i = 2
          · simp only [q0, q2, ↓reduceIte, not_true_eq_false, false_and, and_false, Int32.add_zero]
            (first | (split <;> rfl) | (by_cases q9 : 99 < H i - y11 <;> simp only [q9, ↓reduceIte]))
          · by_cases q5 : K i = 5
            · simp only [q0, q5, show ¬ (5 : Int32) = 2 by decide, ↓reduceIte, not_true_eq_false, false_and, and_false, Int32.add_zero]
              (first | (split <;> rfl) | (by_cases q9 : 99 < H i - y11 <;> simp only [q9, ↓reduceIte]))
            · simp only [q0, q2, q5, ↓reduceIte, not_false_eq_true, and_self, show ¬ (1 : Int32) = 0 by decide]
              (first | (split <;> rfl) | (by_cases q9 : 99 < H i - y11 <;> simp only [q9, ↓reduceIte]))
        · simp only [q0, ↓reduceIte, false_and, Int32.add_zero]
          (first | (split <;> rfl) | (by_cases q9 : 99 < H i - y11 <;> simp only [q9, ↓reduceIte]))
      · have Z : ∀ y11, y11 = tt K W H F y3 i → (some (Sum.inl (sgt (tt K W H F y3) i + y11, nI (i + 1), setI (mapM 120 (fun i _ => nx K W H (nI g) F y3 i) μ i) 120 i (gwR (K i) (H i - y11) (nI g)))) : Option ((Int32 × Int32 × Mem) ⊕ (Int32 × Mem))) = some (Sum.inl (sgt (tt K W H F y3) (i + 1), nI (i + 1), mapM 120 (fun i _ => nx K W H (nI g) F y3 i) μ (i + 1))) := fun y11 hy => by
          subst hy
          rw [mp_s (f := fun i _ => nx K W H (nI g) F y3 i) (nx_in hw F y3 hi hg).2]
          rfl
        have hk : f_X11_takenOf (K i) (H i) = some (tk (K i) (H i)) := by rw [e1, e3]; exact tk_Y hc1 hh0
        simp only [jn_eq, chk_nI (show i < 10 by omega) (show 10 < 2 ^ 31 by decide), hk, bd_some]
        by_cases w1 : W i = F
        · rw [if_pos w1, if_neg (fun q => hWm (w1.trans q))]
          exact Z _ (by unfold tt; rw [if_pos (Or.inl w1)])
        · rw [if_neg w1]
          by_cases w2 : W i = y3
          · rw [if_pos w2, if_neg (fun q => hWm (w2.trans q))]
            exact Z _ (by unfold tt; rw [if_pos (Or.inr w2)])
          · rw [if_neg w2]
            exact Z _ (by unfold tt; rw [if_neg (fun q => by rcases q with q | q; exact w1 q; exact w2 q)])
    · rw [cu3_eq, mp_ne (b := 113) (by omega), hx.2.1, if_neg (fun q => Nat.lt_irrefl l ((nI_ltI (by omega) (by omega)).mp q))]
  · simp only [jn_eq]
    by_cases hf : fiO K W H m l n x = -1
    · rw [if_pos hf, show seO K W H m l n x b = -1 from if_pos (Or.inl hf)]
    · by_cases hb : b = 0
      · rw [if_neg hf, if_pos hb, show seO K W H m l n x b = -1 from if_pos (Or.inr hb)]
      · have hse : seO K W H m l n x b = fiO K W H m l n (x ||| ((1 : Int32) <<< (fiO K W H m l n x &&& 31))) := if_neg (fun q => by rcases q with q | q; exact hf q; exact hb q)
        rw [if_neg hf, if_neg hb, bd_some, go_S hx hw, bd_some, hse]
end MOON
