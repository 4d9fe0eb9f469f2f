/-! new int[3][6]: an outer array, and its three rows behind it -/
def mmO (c : ClassId) (h i : Nat) : Cell := arrV c 3 (fun j => if j < i then .ref (h + 1 + j) else .null)
def mmR (c : ClassId) : Cell := arrV c 6 (fun _ => .int 0)
def mmS (s : State) (c comp : ClassId) : Nat → State
  | 0 => s.pushCell (mmO c s.heap.size 0)
  | i + 1 => ((mmS s c comp i).pushCell (mmR comp)).setCell s.heap.size (mmO c s.heap.size (i + 1))
theorem mmO_set (c : ClassId) (h i : Nat) : (mmO c h i).setSlot i (.ref (h + 1 + i)) = mmO c h (i + 1) := by
  unfold mmO
  rw [arrV_store]
  refine congrArg (arrV c 3) (funext fun j => ?_)
  unfold updV
  by_cases h1 : j = i
  · rw [if_pos h1, if_pos (by omega), h1]
  · rw [if_neg h1]
    show (if j < i then Value.ref (h + 1 + j) else Value.null) = _
    by_cases h2 : j < i
    · rw [if_pos h2, if_pos (by omega)]
    · rw [if_neg h2, if_neg (by omega)]
theorem mmS_known (s : State) (c comp : ClassId) (i : Nat) : (mmS s c comp i).heap.size = s.heap.size + 1 + i ∧ (mmS s c comp i).heap[s.heap.size]? = some (mmO c s.heap.size i) ∧ (mmS s c comp i).vm = s.vm ∧ (mmS s c comp i).slotsUsed = s.slotsUsed + 3 + 6 * i ∧ (∀ a, a < s.heap.size → (mmS s c comp i).heap[a]? = s.heap[a]?) ∧ (∀ j, j < i → (mmS s c comp i).heap[s.heap.size + 1 + j]? = some (mmR comp)) := by
  induction i with
  | zero => exact ⟨by simp [mmS], by simp [mmS], rfl, by simp [mmS, mmO, arrV_size], fun a ha => State.heap_pushCell_of_lt _ _ ha, fun j hj => absurd hj (Nat.not_lt_zero j)⟩
  | succ i ih =>
    obtain ⟨h1, h2, h3, h4, h5, h6⟩ := ih
    have hlt : ∀ a, a < s.heap.size + 1 + i → ((mmS s c comp i).pushCell (mmR comp)).heap[a]? = (mmS s c comp i).heap[a]? := fun a ha => State.heap_pushCell_of_lt _ _ (by rw [h1]; exact ha)
    refine ⟨?_, ?_, ?_, ?_, fun a ha => ?_, fun j hj => ?_⟩
    · simp [mmS, State.setCell, h1]; omega
    · exact State.heap_setCell_self (c := mmO c s.heap.size i) (by rw [hlt _ (by omega)]; exact h2)
    · simp [mmS, h3]
    · simp [mmS, h4, mmR, arrV_size]; omega
    · show (((mmS s c comp i).pushCell (mmR comp)).setCell s.heap.size _).heap[a]? = _
      rw [State.heap_setCell_other (Nat.ne_of_gt ha), hlt a (by omega)]
      exact h5 a ha
    · show (((mmS s c comp i).pushCell (mmR comp)).setCell s.heap.size _).heap[s.heap.size + 1 + j]? = _
      rw [State.heap_setCell_other (show s.heap.size ≠ s.heap.size + 1 + j by omega)]
      by_cases hji : j < i
      · rw [hlt _ (by omega)]; exact h6 j hji
      · have e : j = i := by omega
        subst e
        have := State.heap_pushCell_size (s := mmS s c comp j) (c := mmR comp)
        rwa [h1] at this
theorem mmS_top (s : State) (f : JFrame) (c comp : ClassId) (i : Nat) : mmS (s.setTop f) c comp i = (mmS s c comp i).setTop f := by
  induction i with
  | zero => rfl
  | succ i ih => simp only [mmS, ih, State.heap_setTop, State.pushCell_setTop, State.setCell_setTop]
theorem mmS_stand {p : Program} {l : Launch} {e : Env} {R : Room} {s : State} {m : MethodId} {args : Array Value} {below : List Frame} {meth : Method} {c : Code} {T : State} {locs : List Loc} {cells slots : Nat} (X : Stand p l e R s m args below meth c T locs cells slots) (cA comp : ClassId) (i : Nat) : ∃ L : List Loc, (∀ q ∈ L, q.base = T.heap.size) ∧ Stand p l e R s m args below meth c (mmS T cA comp i) (locs ++ L) (cells + 1 + i) (slots + 3 + 6 * i) := by
  induction i with
  | zero =>
    have h := X.pushed (mmO cA T.heap.size 0)
    rw [show (mmO cA T.heap.size 0).slots.size = 3 from arrV_size _ _ _] at h
    exact ⟨[], fun q hq => absurd hq List.not_mem_nil, by simpa [mmS] using h⟩
  | succ i ih =>
    obtain ⟨L, hL, XL⟩ := ih
    obtain ⟨h1, h2, h3, h4, h5, h6⟩ := mmS_known T cA comp i
    have hc : ((mmS T cA comp i).pushCell (mmR comp)).heap[T.heap.size]? = some (mmO cA T.heap.size i) := by
      rw [State.heap_pushCell_of_lt (h := show T.heap.size < (mmS T cA comp i).heap.size by rw [h1]; omega)]; exact h2
    have h := (XL.pushed (mmR comp)).stored hc i (.ref (T.heap.size + 1 + i))
    rw [mmO_set, show (mmR comp).slots.size = 6 from arrV_size _ _ _] at h
    refine ⟨L ++ [⟨T.heap.size, i⟩], fun q hq => ?_, ?_⟩
    · rcases List.mem_append.mp hq with h | h
      · exact hL q h
      · rw [List.mem_singleton.mp h]
    · have e1 : slots + 3 + 6 * (i + 1) = slots + 3 + 6 * i + 6 := by omega
      rw [e1, ← List.append_assoc]
      exact h
section MMW
variable {E : CtlPost} {e : Env} {d : Bool} {acts : List Action} {s : State}
theorem mm_arr {c comp : ClassId} {k : Class} {t : FieldType} {len : Nat} {v : Value} (hk : s.vm.classes[c]? = some k) (hkind : k.kind = .array comp t) (h1 : ¬ len > e.platform.arrayLengthLimit) (h2 : ¬ len * componentBytes t > e.platform.maxHeapBytes) (hf : fits t v = true) (hv : v.isDefault = true) (h3 : s.heap.size < e.platform.maxCells) (h4 : s.slotsUsed + len ≤ e.platform.maxSlots) {Q : Addr → Pre} (hq : Q s.heap.size d acts (s.pushCell (arrV c len (fun _ => v)))) : wp (Jvm.newArray c len v) Q E e d acts s := by
  have hfit : ∀ i w, (Array.replicate len v)[i]? = some w → s.fitsSlot c .none i w = true := by
    intro i w hw
    simp only [Array.getElem?_replicate] at hw
    split at hw
    · cases hw; simp [State.fitsSlot, State.slotType?, hk, hkind, hf]
    · cases hw
  have hact : allocActs (Array.replicate len v) s.heap.size acts = acts := by
    have hall : ((Array.replicate len v).all (·.isDefault)) = true := by
      rw [Array.all_replicate]; split <;> simp [hv]
    unfold allocActs
    rw [if_pos hall]
  rw [← arrV_new] at hq
  simp only [Jvm.newArray, Jvm.arrayFits, wp_bind', W.ask, W.ite, h1, if_false, wp_pure', W.theClass, hk, hkind, h2, W.alloc, W.stop, Option.some.injEq, exists_eq_left', Array.size_replicate, hact]
  rw [if_neg (by omega)]
  exact ⟨h3, h4, hfit, hq⟩
theorem mm_row {comp cc : ClassId} {k : Class} (hk : s.vm.classes[comp]? = some k) (hkind : k.kind = .array cc .int) (hl : e.platform.arrayLengthLimit = 2147483645) (hh : e.platform.maxHeapBytes = 536870912) (h3 : s.heap.size < e.platform.maxCells) (h4 : s.slotsUsed + 6 ≤ e.platform.maxSlots) {Q : Addr → Pre} (hq : Q s.heap.size d acts (s.pushCell (mmR comp))) : wp (multianewarray.make comp [6]) Q E e d acts s := by
  rw [multianewarray.make]
  simp only [wp_bind', W.ite, show ¬ (6 : Int32) < 0 by decide, if_false, wp_pure', W.theClass, hk, hkind, Option.some.injEq, exists_eq_left']
  exact mm_arr hk hkind (by rw [hl]; decide) (by rw [hh]; decide) rfl rfl h3 h4 hq
theorem mm_make {c comp cc : ClassId} {k kc : Class} (hk : s.vm.classes[c]? = some k) (hkind : k.kind = .array comp (.array .int)) (hkc : s.vm.classes[comp]? = some kc) (hkindc : kc.kind = .array cc .int) (hl : e.platform.arrayLengthLimit = 2147483645) (hh : e.platform.maxHeapBytes = 536870912) (h3 : s.heap.size + 4 ≤ e.platform.maxCells) (h4 : s.slotsUsed + 21 ≤ e.platform.maxSlots) {Q : Addr → Pre} (hq : ∀ d' acts', Q s.heap.size d' acts' (mmS s c comp 3)) : wp (multianewarray.make c [3, 6]) Q E e d acts s := by
  rw [multianewarray.make]
  simp only [wp_bind', W.ite, show ¬ (3 : Int32) < 0 by decide, if_false, wp_pure', W.theClass, hk, hkind, Option.some.injEq, exists_eq_left']
  refine mm_arr hk hkind (by rw [hl]; decide) (by rw [hh]; decide) rfl rfl (by omega) (by show s.slotsUsed + 3 ≤ _; omega) ?_
  have e0 : s.pushCell (arrV c 3 (fun _ => .null)) = mmS s c comp 0 := by
    show _ = s.pushCell (mmO c s.heap.size 0)
    refine congrArg s.pushCell ?_
    unfold mmO
    refine congrArg (arrV c 3) (funext fun j => ?_)
    rw [if_neg (Nat.not_lt_zero j)]
  have hfind : ([6] : List Int32).find? (· < 0) = none := by decide
  simp only [hfind]
  rw [ite_self, wp_bind', Std.Legacy.Range.forIn_eq_forIn_range']
  have hr : List.range' 0 ([:(3 : Int32).toNatClampNeg] : Std.Legacy.Range).size 1 = [0, 1, 2] := by decide
  rw [show ({ start := 0, stop := (3 : Int32).toNatClampNeg, step := 1, step_pos := Nat.zero_lt_one } : Std.Legacy.Range) = [:(3 : Int32).toNatClampNeg] from rfl]
  show wp (forIn (List.range' 0 ([:(3 : Int32).toNatClampNeg] : Std.Legacy.Range).size 1) PUnit.unit _) _ E e d acts _
  rw [hr]
  refine wp_forIn_inv (fun rest s' => ∃ i, i ≤ 3 ∧ rest = ([0, 1, 2] : List Nat).drop i ∧ s' = mmS s c comp i) _ _ ⟨0, by decide, rfl, e0⟩ ?_ ?_
  · rintro x rest s' d' acts' Q' ⟨i, hi, hrest, rfl⟩ hnext
    have hx : i < 3 ∧ x = i ∧ rest = ([0, 1, 2] : List Nat).drop (i + 1) := by
      match i, hi, hrest with
      | 0, _, h => cases h; exact ⟨by decide, rfl, rfl⟩
      | 1, _, h => cases h; exact ⟨by decide, rfl, rfl⟩
      | 2, _, h => cases h; exact ⟨by decide, rfl, rfl⟩
      | 3, _, h => cases h
      | i + 4, h, _ => exact absurd h (by omega)
    obtain ⟨hi3, rfl, hr2⟩ := hx
    obtain ⟨g1, g2, g3, g4, g5, g6⟩ := mmS_known s c comp x
    simp only [wp_bind']
    refine mm_row (k := kc) (cc := cc) (by rw [g3]; exact hkc) hkindc hl hh (by rw [g1]; omega) (by rw [g4]; omega) ?_
    simp only [wp_bind', W.writeLoc, wp_pure']
    refine ⟨mmO c s.heap.size x, by rw [State.heap_pushCell_of_lt (h := show s.heap.size < (mmS s c comp x).heap.size by rw [g1]; omega)]; exact g2, by simp [mmO, arrV], by rw [show (mmO c s.heap.size x).slots.size = 3 from arrV_size _ _ _]; exact hi3, ?_, hnext _ _ _ ⟨x + 1, hi3, hr2, ?_⟩⟩
    · simp [mmO, arrV, State.fitsSlot, State.slotType?, g3, hk, hkind, fits]
    · rw [g1, mmO_set]
      rfl
  · rintro s' d' acts' ⟨i, hi, hrest, rfl⟩
    have hx : i = 3 := by
      match i, hi, hrest with
      | 0, _, h => cases h
      | 1, _, h => cases h
      | 2, _, h => cases h
      | 3, _, _ => rfl
      | i + 4, h, _ => exact absurd h (by omega)
    subst hx
    simp only [wp_pure']
    exact hq _ _
end MMW
theorem mm_step {p : Program} {l : Launch} {e : Env} {R : Room} {s : State} {m : MethodId} {args : Array Value} {below : List Frame} {meth : Method} {c : Code} {T : State} {locs : List Loc} {cells slots : Nat} (X : Stand p l e R s m args below meth c T locs cells slots) (hexec : p.tables.exec = Jvm.exec) {own : String} {idx : Nat} {cA cI cc : ClassId} {kA kI : Class} (hown : s.vm.findClass own = some m.cls) (hclink : (Cond.classLink own idx "[[I").before args s = true) (hnm : s.vm.findClass "[[I" = some cA) (hkA : s.vm.classes[cA]? = some kA) (hkindA : kA.kind = .array cI (.array .int)) (hkI : s.vm.classes[cI]? = some kI) (hkindI : kI.kind = .array cc .int)
    {g : JFrame} (hg : g.method = m) (hdg : decode c.code g.pc = .ok (.multianewarray idx 2, 4)) {rest : List Value} (hstack : g.stack = .int 6 :: .int 3 :: rest) (hcells : cells + 4 ≤ R.cells) (hslots : slots + 21 ≤ R.slots) :
    ∃ (vm₁ : Vm) (L : List Loc), (∀ q ∈ L, q.base = T.heap.size) ∧ Stand p l e R s m args below meth c (mmS (T.setVm vm₁) cA cI 3) (locs ++ L) (cells + 4) (slots + 21) ∧ ∀ target, Steps p.tables e below ((mmS (T.setVm vm₁) cA cI 3).setTop { g with pc := g.pc + 4, stack := .ref T.heap.size :: rest }) target → Steps p.tables e below (T.setTop g) target := by
  subst hg
  have hpl : e.platform.magicAccessors = ({} : Platform).magicAccessors := by rw [X.admits.platform]
  obtain ⟨c0, hfc0, hcl⟩ := Cond.classLink_spec hown hclink e.platform hpl
  have ec : c0 = cA := Option.some.inj (hfc0.symm.trans hnm)
  subst ec
  obtain ⟨hg₁, hwarm₁, hready₁⟩ := State.classEntry (e := e) X.warmed hcl
  generalize T.vm.noted g.method.cls idx (.cls c0) = vm₁ at hg₁ hwarm₁ hready₁
  have hal : s.vm.Alike vm₁ := hwarm₁.alike
  obtain ⟨kA₁, hkA₁, heA⟩ := hal.2.2 _ _ hkA
  obtain ⟨kI₁, hkI₁, heI⟩ := hal.2.2 _ _ hkI
  have hkindA₁ : kA₁.kind = .array cI (.array .int) := by rw [heA]; exact hkindA
  have hkindI₁ : kI₁.kind = .array cc .int := by rw [heI]; exact hkindI
  have X₁ := X.noted hwarm₁
  obtain ⟨hr1, hr2⟩ := X.roomAbove hcells hslots
  obtain ⟨L, hL, XF⟩ := mmS_stand X₁ c0 cI 3
  refine ⟨vm₁, L, hL, XF, fun target hrest => ?_⟩
  jvm_step X.here [hexec, hdg]
  simp only [multianewarray.sem, wp_bind', W.resolveClassAt_links (State.method?_setTop g X.here.top) hg₁]
  rw [W.popN, if_neg (by decide)]
  refine ⟨g, State.topJava?_setTop' (s := T.setVm vm₁) g X.here.top, [.int 3, .int 6], rest, rfl, hstack, ?_⟩
  simp only [List.mapM_cons, List.mapM_nil, wp_bind', wp_pure']
  refine mm_make (k := kA₁) (kc := kI₁) (comp := cI) (cc := cc) hkA₁ hkindA₁ hkI₁ hkindI₁ (Launch.admits_arrayLengthLimit X.admits) (Launch.admits_maxHeapBytes X.admits) (by show T.heap.size + 4 ≤ _; omega) (by show T.slotsUsed + 21 ≤ _; omega) (fun d' acts' => ?_)
  have eS : ((T.setTop g).setVm vm₁).setTop { g with stack := rest } = (T.setVm vm₁).setTop { g with stack := rest } := by
    show ((T.setVm vm₁).setTop g).setTop _ = _
    rw [State.setTop_setTop]
  rw [eS, mmS_top]
  simp only [wp_bind', W.mark, W.pushRef, State.topJava?_setTop' _ XF.here.top, Option.some.injEq, exists_eq_left', State.setTop_setTop, State.heap_setTop]
  intro acts
  simp [jvm, XF.here.top]
  exact hrest
def gridW (cy : Nat → ClassId) (u : Nat → Nat) : va_W := [(u 0, .inl (cy 17, 3, .inr (.inr (.inr (.inr (fun i => ([some (u 1), some (u 2), some (u 3)] : List (Option Nat)).getD i none)))))), (u 1, .inl (cy 11, 6, .inl (fun _ => 0))), (u 2, .inl (cy 11, 6, .inl (fun _ => 0))), (u 3, .inl (cy 11, 6, .inl (fun _ => 0)))]
theorem n_multi {l : Launch} {cy : Nat → ClassId} {D : va_G} {A : Nat → Prop} {N : NPd} {cc : ByteArray} {own : String} {nL n mc ms : Nat} {ini : Prop} {pc : Nat} {lv : LV} {st : List Value} {ws : va_W} {ce sl idx : Nat} (hX : CN l cy D A N cc own nL n mc ms ini) (hw : Cond.classLink own idx "[[I" ∈ TB) (hw2 : Cond.arrayClass .int ∈ TB) (hce : ce + 4 ≤ mc) (hsl : sl + 21 ≤ ms) (hd : decode cc pc = .ok (.multianewarray idx 2, 4)) (k : ∀ u : Nat → Nat, N (pc + 4) lv (.ref (u 0) :: st) (ws ++ gridW cy u) (ce + 4) (sl + 21)) : N pc lv (.int 6 :: .int 3 :: st) ws ce sl := by
  obtain ⟨p, e, R, s, m, args, below, meth, c, Q, rfl, hx, hb, hml, hown, hts, hK, hE, hA, hn1, hn2, hn3, hn4, hin2⟩ := hX
  intro H locs ls hP hD hS hl T hT X
  obtain ⟨kA, hkA, hkindA⟩ := hE.2.2.2
  have hnm : s.vm.findClass "[[I" = some (cy 17) := (hK.2 6 (cy 17, .array .int) rfl).2
  obtain ⟨-, kI, hkI, ccI, hkindI⟩ := (hK.2 0 (cy 11, .int) rfl).1 0 (fun _ => .null)
  obtain ⟨vm₁, L, hL, XF, step⟩ := mm_step X hx (own := own) (idx := idx) (cA := cy 17) (cI := cy 11) hown (hts _ hw) hnm hkA hkindA hkI hkindI (g := F0 m pc ls (.int 6 :: .int 3 :: st)) rfl (by rw [hb]; exact hd) (rest := st) rfl (by omega) (by omega)
  obtain ⟨g1, g2, g3, g4, g5, g6⟩ := mmS_known (T.setVm vm₁) (cy 17) (cy 11) 3
  have hTh : (T.setVm vm₁).heap = H := hT
  rw [hTh] at g1 g2 g5 g6
  have hPo : va_P D clX ws (mmS (T.setVm vm₁) (cy 17) (cy 11) 3).heap := hP.kept (fun k9 x hx9 => g5 x.1 (hP k9 x hx9).lt)
  have hu : ∀ (k9 : Nat) (x : Nat × va_E), (gridW cy (fun j => H.size + j))[k9]? = some x → va_at D clX x (mmS (T.setVm vm₁) (cy 17) (cy 11) 3).heap ∧ x.1 = H.size + k9 := by
    intro k9 x hx9
    match k9, hx9 with
    | 0, h => cases h; exact ⟨by
        show (mmS (T.setVm vm₁) (cy 17) (cy 11) 3).heap[H.size + 0]? = some (vp_cell _ _)
        rw [Nat.add_zero, g2, vp_cell_q]
        unfold mmO
        refine congrArg some (congrArg (arrV (cy 17) 3) (funext fun j => ?_))
        match j with
        | 0 => rfl
        | 1 => rfl
        | 2 => rfl
        | j + 3 => rw [if_neg (by omega)]; rfl, rfl⟩
    | 1, h => cases h; exact ⟨g6 0 (by decide), rfl⟩
    | 2, h => cases h; exact ⟨g6 1 (by decide), rfl⟩
    | 3, h => cases h; exact ⟨g6 2 (by decide), rfl⟩
    | k9 + 4, h => simp [gridW] at h
  have hP2 : va_P D clX (ws ++ gridW cy (fun j => H.size + j)) (mmS (T.setVm vm₁) (cy 17) (cy 11) 3).heap := hPo.app (fun k9 x hx9 => (hu k9 x hx9).1)
  have hD2 : va_D A (ws ++ gridW cy (fun j => H.size + j)) := by
    refine hD.app ⟨fun i j x y hi hj hxy => ?_, fun k9 x hx9 => hA _ (by rw [(hu k9 x hx9).2]; have := hS.1; omega)⟩ (fun i j x y hi hj hxy => ?_)
    · have h1 := (hu i x hi).2
      have h2 := (hu j y hj).2
      omega
    · have h1 := (hP i x hi).lt
      have h2 := (hu j y hj).2
      omega
  have hS2 : va_S A s.heap (mmS (T.setVm vm₁) (cy 17) (cy 11) 3).heap (locs ++ L) := by
    refine ⟨by rw [g1]; have := hS.1; omega, fun q h1 h2 => by rw [g5 q (Nat.lt_of_lt_of_le h1 hS.1)]; exact hS.2.1 q h1 h2, fun q hq => ?_⟩
    rcases List.mem_append.mp hq with h | h
    · exact hS.2.2 q h
    · rw [hL q h]
      exact hA _ (by rw [hT]; exact hS.1)
  obtain ⟨t, a1, b1⟩ := k (fun j => H.size + j) _ (locs ++ L) ls hP2 hD2 hS2 hl _ rfl XF
  refine ⟨t, step t ?_, b1⟩
  rw [hT]
  exact a1
