theorem kw_obj : Cond.instanceMethod objectInit ∈ TB ∧ Cond.code objectInit ⟨#[0xb1]⟩ 1 none ∈ TB := ⟨tb 26 (by decide +kernel) (by decide), tb 27 (by decide +kernel) (by decide)⟩
def nestL : List (String × Nat × MethodName × String) := [(RX10, 9, yX0_init, "DragonTithe"), (RX0, 11, yX3_init, "DragonTithe"), (RX0, 20, yX7_init, "DragonTithe"), (RX0, 27, yX6_init, "DragonTithe"), (RX10, 26, yX8_init, "DragonTithe"), (RX10, 36, yX3_init, "DragonTithe"), (RX10, 43, yX9_init, "DragonTithe"), (RX10, 50, yX5_init, "DragonTithe"), (RX5, 11, yX3_init, "DragonTithe"), (RX10, 57, yX2_init, "DragonTithe"), (RX1, 29, yX3_init, "DragonTithe")]
def EX (cy : Nat → ClassId) (U : State) : Prop := (∀ q ∈ nestL, va_Nw (.methodLinkNest q.1 q.2.1 q.2.2.1 q.2.2.2) U) ∧ va_AO "DragonTithe$County" U ∧ va_AO "DragonTithe$Herd" U ∧ ∃ k : Class, U.vm.classes[cy 17]? = some k ∧ k.kind = .array (cy 11) (.array .int)
theorem EX.warm {cy : Nat → ClassId} {s U : State} (hW : s.WarmedH U.vm) (h : EX cy s) : EX cy U := by
  obtain ⟨h1, h2, h3, k, h4, h5⟩ := h
  obtain ⟨k', hk', he⟩ := hW.alike.2.2 _ _ h4
  exact ⟨fun q hq => (h1 q hq).warmM hW, h2.moved hW.alike, h3.moved hW.alike, k', hk', by rw [he]; exact h5⟩
theorem EX.same {cy : Nat → ClassId} {u U : State} (hv : u.vm = U.vm) (h : EX cy u) : EX cy U := by
  obtain ⟨h1, h2, h3, k, h4, h5⟩ := h
  have ha : u.vm.Alike U.vm := by rw [hv]; exact Vm.Alike.refl _
  exact ⟨fun q hq => (h1 q hq).same rfl hv, h2.moved ha, h3.moved ha, k, by rw [← hv]; exact h4, h5⟩
theorem joinL {A0 : Nat → Prop} {D : va_G} {cl : List vw_C} {L w1 : va_W} {q : Nat} {e : va_E} {H H1 : Heap} (hP : va_P D cl (L ++ [(q, e)]) H) (hD : va_D A0 (L ++ [(q, e)])) (hk : ∀ a, a < H.size → ¬ va_A [(q, e)] H.size a → H1[a]? = H[a]?) (hP1 : va_P D cl w1 H1) (hD1 : va_D (va_A [(q, e)] H.size) w1) (hF : ∀ a, va_A [(q, e)] H.size a → A0 a) : va_P D cl (L ++ w1) H1 ∧ va_D A0 (L ++ w1) := by
  have hq : (L ++ [(q, e)])[L.length]? = some (q, e) := by simp
  have hL : ∀ (k : Nat) (x : Nat × va_E), L[k]? = some x → (L ++ [(q, e)])[k]? = some x := fun k x hx => by
    rw [List.getElem?_append_left (List.getElem?_eq_some_iff.mp hx).1]; exact hx
  have hout : ∀ (k : Nat) (x : Nat × va_E), L[k]? = some x → x.1 < H.size ∧ ¬ va_A [(q, e)] H.size x.1 := by
    intro k x hx
    have hlt := (hP k x (hL k x hx)).lt
    refine ⟨hlt, fun h => ?_⟩
    rcases h with ⟨k2, e2, h⟩ | h
    · have h0 : k2 < 1 := (List.getElem?_eq_some_iff.mp h).1
      rw [show k2 = 0 by omega] at h
      have h1 : (q, e) = (x.1, e2) := Option.some.inj h
      have := hD.1 k L.length x (q, e) (hL k x hx) hq (congrArg Prod.fst h1).symm
      have := (List.getElem?_eq_some_iff.mp hx).1
      omega
    · omega
  refine ⟨va_P.app (fun k x hx => ?_) hP1, va_D.app ⟨fun i j x y hi hj hxy => hD.1 i j x y (hL i x hi) (hL j y hj) hxy, fun k x hx => hD.2 k x (hL k x hx)⟩ (hD1.weaken (fun k x _ h => hF x.1 h)) (fun i j x y hx hy hxy => (hout i x hx).2 (by rw [hxy]; exact hD1.2 j y hy))⟩
  obtain ⟨h1, h2⟩ := hout k x hx
  exact (hP k x (hL k x hx)).kept (hk x.1 h1 h2)
abbrev NPd : Type := Nat → LV → List Value → va_W → Nat → Nat → Prop
def WN (l : Launch) (D : va_G) (A : Nat → Prop) (p : Program) (e : Env) (R : Room) (s : State) (m : MethodId) (args : Array Value) (below : List Frame) (meth : Method) (c : Code) (nL : Nat) (Q : State → Prop) : NPd := fun pc lv st ws ce sl => ∀ (H : Heap) (locs : List Loc) (ls : Array Slot), va_P D clX ws H → va_D A ws → va_S A s.heap H locs → lv_has ls nL lv → W p l e R s m args below meth c H locs ce sl Q (F0 m pc ls st)
def CN (l : Launch) (cy : Nat → ClassId) (D : va_G) (A : Nat → Prop) (N : NPd) (cc : ByteArray) (own : String) (nL n mc ms : Nat) (ini : Prop) : Prop := ∃ (p : Program) (e : Env) (R : Room) (s : State) (m : MethodId) (args : Array Value) (below : List Frame) (meth : Method) (c : Code) (Q : State → Prop), N = WN l D A p e R s m args below meth c nL Q ∧ p.tables.exec = Jvm.exec ∧ c.code = cc ∧ c.maxLocals = nL ∧ s.vm.findClass own = some m.cls ∧ (∀ w ∈ TB, w.before args s = true) ∧ va_K D clX (tysX cy) s ∧ EX cy s ∧ (∀ q, s.heap.size ≤ q → A q) ∧ n ≤ R.frames ∧ 64 * n ≤ R.locals ∧ mc ≤ R.cells ∧ ms ≤ R.slots ∧ (ini → meth.name = "<init>")
def RN (n mc ms : Nat) : Room := { frames := n, cells := mc, slots := ms, locals := 64 * n }
def CPre (cy : Nat → ClassId) (D : va_G) (h sz : Nat) (e0 : va_E) (U : State) : Prop := U.heap.size = sz ∧ va_P D clX [(h, e0)] U.heap ∧ va_K D clX (tysX cy) U ∧ EX cy U
def CC (l : Launch) (cy : Nat → ClassId) (D : va_G) (y : MethodName) (yc : ByteArray) (maxL n mc ms : Nat) (e0 : va_E) (Wf : (Nat → Nat) → va_W) : Prop := ∀ h sz, Met l y (Cond.code y yc maxL none :: TB) (RN n mc ms) (va_Pc [.ref h] (CPre cy D h sz e0)) (va_Qv (fun u : Nat → Nat => u 0 = h) (fun u t => va_P D clX (Wf u) t.heap ∧ va_D (va_A [(h, e0)] sz) (Wf u)) (va_A [(h, e0)] sz)) mc ms (va_A [(h, e0)] sz)
theorem CPre.blind {cy : Nat → ClassId} {D : va_G} {h sz : Nat} {e0 : va_E} {av : List Value} : FrameBlind (va_Pc av (CPre cy D h sz e0)) := by
  intro a U gg mk q
  obtain ⟨q0, q1, q2, q3, q4⟩ := q
  exact ⟨q0, q1, q2, va_K.moved (u := U) (U := U.calling gg mk a) (Vm.Alike.refl U.vm) q3, EX.same (u := U) (U := U.calling gg mk a) rfl q4⟩
section NR
variable {l : Launch} {cy : Nat → ClassId} {D : va_G} {A : Nat → Prop} {N : NPd} {cc : ByteArray} {own : String} {nL n mc ms : Nat} {ini : Prop} {pc : Nat} {lv : LV} {st : List Value} {ws : va_W} {ce sl : Nat}
theorem n_iconst (hX : CN l cy D A N cc own nL n mc ms ini) {i : Int} {v : Int32} (hd : decode cc pc = .ok (.iconst i, 1)) (hv : Int32.ofInt i = v) (k : N (pc + 1) lv (.int v :: st) ws ce sl) : N pc lv (st) ws ce sl := by
  obtain ⟨p, e, R, s, m, args, below, meth, c, Q, rfl, hx, hb, hml, hown, hts, hK, hE, hA, hn1, hn2, hn3, hn4, hin2⟩ := hX
  exact fun H locs ls hP hD hS hl => lv_iconst hx hb hd hv (k H locs ls hP hD hS hl)
theorem n_bipush (hX : CN l cy D A N cc own nL n mc ms ini) {i : Int} {v : Int32} (hd : decode cc pc = .ok (.bipush i, 2)) (hv : (Int8.ofInt i).toInt32 = v) (k : N (pc + 2) lv (.int v :: st) ws ce sl) : N pc lv (st) ws ce sl := by
  obtain ⟨p, e, R, s, m, args, below, meth, c, Q, rfl, hx, hb, hml, hown, hts, hK, hE, hA, hn1, hn2, hn3, hn4, hin2⟩ := hX
  exact fun H locs ls hP hD hS hl => lv_bipush hx hb hd hv (k H locs ls hP hD hS hl)
theorem n_sipush (hX : CN l cy D A N cc own nL n mc ms ini) {i : Int} {v : Int32} (hd : decode cc pc = .ok (.sipush i, 3)) (hv : (Int16.ofInt i).toInt32 = v) (k : N (pc + 3) lv (.int v :: st) ws ce sl) : N pc lv (st) ws ce sl := by
  obtain ⟨p, e, R, s, m, args, below, meth, c, Q, rfl, hx, hb, hml, hown, hts, hK, hE, hA, hn1, hn2, hn3, hn4, hin2⟩ := hX
  exact fun H locs ls hP hD hS hl => lv_sipush hx hb hd hv (k H locs ls hP hD hS hl)
theorem n_lconst (hX : CN l cy D A N cc own nL n mc ms ini) {i : Fin 2} {v : Int64} (hd : decode cc pc = .ok (.lconst i, 1)) (hv : Int64.ofNat (i : Nat) = v) (k : N (pc + 1) lv (.long v :: st) ws ce sl) : N pc lv (st) ws ce sl := by
  obtain ⟨p, e, R, s, m, args, below, meth, c, Q, rfl, hx, hb, hml, hown, hts, hK, hE, hA, hn1, hn2, hn3, hn4, hin2⟩ := hX
  exact fun H locs ls hP hD hS hl => lv_lconst hx hb hd hv (k H locs ls hP hD hS hl)
theorem n_aload_n (hX : CN l cy D A N cc own nL n mc ms ini) {q : Fin 4} {i x : Nat} (hd : decode cc pc = .ok (.aload_n q, 1)) (hi : (q : Nat) = i) (k0 : Nat) (h0 : lv[k0]? = some (i, .ref x)) (k : N (pc + 1) lv (.ref x :: st) ws ce sl) : N pc lv (st) ws ce sl := by
  obtain ⟨p, e, R, s, m, args, below, meth, c, Q, rfl, hx, hb, hml, hown, hts, hK, hE, hA, hn1, hn2, hn3, hn4, hin2⟩ := hX
  exact fun H locs ls hP hD hS hl => lv_aload_n hx hb hd hi (lv_at hl k0 h0) (k H locs ls hP hD hS hl)
theorem n_iload_n (hX : CN l cy D A N cc own nL n mc ms ini) {q : Fin 4} {i : Nat} {x : Int32} (hd : decode cc pc = .ok (.iload_n q, 1)) (hi : (q : Nat) = i) (k0 : Nat) (h0 : lv[k0]? = some (i, .int x)) (k : N (pc + 1) lv (.int x :: st) ws ce sl) : N pc lv (st) ws ce sl := by
  obtain ⟨p, e, R, s, m, args, below, meth, c, Q, rfl, hx, hb, hml, hown, hts, hK, hE, hA, hn1, hn2, hn3, hn4, hin2⟩ := hX
  exact fun H locs ls hP hD hS hl => lv_iload_n hx hb hd hi (lv_at hl k0 h0) (k H locs ls hP hD hS hl)
theorem n_dup (hX : CN l cy D A N cc own nL n mc ms ini) {va : Value} (hd : decode cc pc = .ok (.dup, 1)) (hc : va.category = 1) (k : N (pc + 1) lv (va :: va :: st) ws ce sl) : N pc lv (va :: st) ws ce sl := by
  obtain ⟨p, e, R, s, m, args, below, meth, c, Q, rfl, hx, hb, hml, hown, hts, hK, hE, hA, hn1, hn2, hn3, hn4, hin2⟩ := hX
  exact fun H locs ls hP hD hS hl => lv_dup hx hb hd hc (k H locs ls hP hD hS hl)
theorem n_istore_n (hX : CN l cy D A N cc own nL n mc ms ini) {q : Fin 4} {i : Nat} {x : Int32} {lv' : LV} (hd : decode cc pc = .ok (.istore_n q, 1)) (hi : (q : Nat) = i) (hn : i < nL) (hl : (i, Value.int x) :: lv.filter (fun q => !(q.1 == i) && !(q.1 + 1 == i && q.2.category == 2)) = lv') (k : N (pc + 1) lv' st ws ce sl) : N pc lv (.int x :: st) ws ce sl := by
  obtain ⟨p, e, R, s, m, args, below, meth, c, Q, rfl, hx, hb, hml, hown, hts, hK, hE, hA, hn1, hn2, hn3, hn4, hin2⟩ := hX
  exact fun H locs ls hP hD hS h => lv_istore_n hx hb hd hi h hn hl (fun ls' hl' => k H locs ls' hP hD hS hl')
theorem n_astore_n (hX : CN l cy D A N cc own nL n mc ms ini) {q : Fin 4} {i : Nat} {x : Nat} {lv' : LV} (hd : decode cc pc = .ok (.astore_n q, 1)) (hi : (q : Nat) = i) (hn : i < nL) (hl : (i, Value.ref x) :: lv.filter (fun q => !(q.1 == i) && !(q.1 + 1 == i && q.2.category == 2)) = lv') (k : N (pc + 1) lv' st ws ce sl) : N pc lv (.ref x :: st) ws ce sl := by
  obtain ⟨p, e, R, s, m, args, below, meth, c, Q, rfl, hx, hb, hml, hown, hts, hK, hE, hA, hn1, hn2, hn3, hn4, hin2⟩ := hX
  exact fun H locs ls hP hD hS h => lv_astore_n hx hb hd hi h hn hl (fun ls' hl' => k H locs ls' hP hD hS hl')
theorem n_iinc (hX : CN l cy D A N cc own nL n mc ms ini) {i : Nat} {z : Int} {x v : Int32} {lv' : LV} (hd : decode cc pc = .ok (.iinc i z, 3)) (k0 : Nat) (h0 : lv[k0]? = some (i, .int x)) (hv : x + Int32.ofInt z = v) (hn : i < nL) (hl : (i, Value.int v) :: lv.filter (fun q => !(q.1 == i) && !(q.1 + 1 == i && q.2.category == 2)) = lv') (k : N (pc + 3) lv' st ws ce sl) : N pc lv st ws ce sl := by
  obtain ⟨p, e, R, s, m, args, below, meth, c, Q, rfl, hx, hb, hml, hown, hts, hK, hE, hA, hn1, hn2, hn3, hn4, hin2⟩ := hX
  exact fun H locs ls hP hD hS h => lv_iinc hx hb hd h h0 hv hn hl (fun ls' hl' => k H locs ls' hP hD hS hl')
theorem n_goto (hX : CN l cy D A N cc own nL n mc ms ini) {off : Int} (tgt : Nat) (hd : decode cc pc = .ok (.goto off, 3)) (ht : (pc : Int) + off = (tgt : Int)) (k : N tgt lv st ws ce sl) : N pc lv st ws ce sl := by
  obtain ⟨p, e, R, s, m, args, below, meth, c, Q, rfl, hx, hb, hml, hown, hts, hK, hE, hA, hn1, hn2, hn3, hn4, hin2⟩ := hX
  exact fun H locs ls hP hD hS hl => lv_goto hx hb hd ht (k H locs ls hP hD hS hl)
theorem n_icge_t (hX : CN l cy D A N cc own nL n mc ms ini) {x y : Int32} {off : Int} (tgt : Nat) (hd : decode cc pc = .ok (.if_icmp .ge off, 3)) (ht : (pc : Int) + off = (tgt : Int)) (h : y ≤ x) (k : N tgt lv st ws ce sl) : N pc lv (.int y :: .int x :: st) ws ce sl := by
  obtain ⟨p, e, R, s, m, args, below, meth, c, Q, rfl, hx, hb, hml, hown, hts, hK, hE, hA, hn1, hn2, hn3, hn4, hin2⟩ := hX
  exact fun H locs ls hP hD hS hl => lv_icmp_ge hx hb hd ht (fun _ => (k H locs ls hP hD hS hl)) (fun q => absurd h q)
theorem n_icge_f (hX : CN l cy D A N cc own nL n mc ms ini) {x y : Int32} {off : Int} (tgt : Nat) (hd : decode cc pc = .ok (.if_icmp .ge off, 3)) (ht : (pc : Int) + off = (tgt : Int)) (h : ¬ y ≤ x) (k : N (pc + 3) lv st ws ce sl) : N pc lv (.int y :: .int x :: st) ws ce sl := by
  obtain ⟨p, e, R, s, m, args, below, meth, c, Q, rfl, hx, hb, hml, hown, hts, hK, hE, hA, hn1, hn2, hn3, hn4, hin2⟩ := hX
  exact fun H locs ls hP hD hS hl => lv_icmp_ge hx hb hd ht (fun q => absurd q h) (fun _ => (k H locs ls hP hD hS hl))
theorem n_icgt_t (hX : CN l cy D A N cc own nL n mc ms ini) {x y : Int32} {off : Int} (tgt : Nat) (hd : decode cc pc = .ok (.if_icmp .gt off, 3)) (ht : (pc : Int) + off = (tgt : Int)) (h : y < x) (k : N tgt lv st ws ce sl) : N pc lv (.int y :: .int x :: st) ws ce sl := by
  obtain ⟨p, e, R, s, m, args, below, meth, c, Q, rfl, hx, hb, hml, hown, hts, hK, hE, hA, hn1, hn2, hn3, hn4, hin2⟩ := hX
  exact fun H locs ls hP hD hS hl => lv_icmp_gt hx hb hd ht (fun _ => (k H locs ls hP hD hS hl)) (fun q => absurd h q)
theorem n_icgt_f (hX : CN l cy D A N cc own nL n mc ms ini) {x y : Int32} {off : Int} (tgt : Nat) (hd : decode cc pc = .ok (.if_icmp .gt off, 3)) (ht : (pc : Int) + off = (tgt : Int)) (h : ¬ y < x) (k : N (pc + 3) lv st ws ce sl) : N pc lv (.int y :: .int x :: st) ws ce sl := by
  obtain ⟨p, e, R, s, m, args, below, meth, c, Q, rfl, hx, hb, hml, hown, hts, hK, hE, hA, hn1, hn2, hn3, hn4, hin2⟩ := hX
  exact fun H locs ls hP hD hS hl => lv_icmp_gt hx hb hd ht (fun q => absurd q h) (fun _ => (k H locs ls hP hD hS hl))
theorem n_obj (hX : CN l cy D A N cc own nL n mc ms ini) {idx a : Nat} (hc : CVx own idx objectInit) (hn : 1 ≤ n) (hs : (st.map fun v => v.category).sum ≤ 8) (hd : decode cc pc = .ok (.invokespecial idx, 3)) (k : N (pc + 3) lv st ws ce sl) : N pc lv (.ref a :: st) ws ce sl := by
  obtain ⟨p, e, R, s, m, args, below, meth, c, Q, rfl, hx, hb, hml, hown, hts, hK, hE, hA, hn1, hn2, hn3, hn4, hin2⟩ := hX
  intro H locs ls hP hD hS hl
  refine W.objInit hx hb hown (hts _ hc) (hts _ kw_obj.1) (hts _ kw_obj.2) rfl (by rw [hml]; exact hl.1) rfl hd (by omega) (by show 2 * 0 + _ + 12 ≤ _; omega) ?_
  exact W.eq (g2 := F0 m (pc + 3) ls st) rfl (k H locs ls hP hD hS hl)
theorem n_put (hX : CN l cy D A N cc own nL n mc ms ini) {idx ci j a c0 : Nat} {t : FieldType} {v : Value} {fs : List Value} {ws' : va_W} (q0 : Nat) (hf : FLk own idx ci j c0 t false) (he : ws[q0]? = some (a, .inr (ci, fs))) (hnf : narrow t v = v ∧ fits t v = true) (hl0 : j < fs.length) (hw : ws.set q0 (a, .inr (ci, fs.set j v)) = ws') (hd : decode cc pc = .ok (.putfield idx, 3)) (k : N (pc + 3) lv st ws' ce sl) : N pc lv (v :: .ref a :: st) ws ce sl := by
  obtain ⟨p, e, R, s, m, args, below, meth, c, Q, rfl, hx, hb, hml, hown, hts, hK, hE, hA, hn1, hn2, hn3, hn4, hin2⟩ := hX
  obtain ⟨C, T, NN, ty, ⟨hc, hin, hty, hnm, hN, h10⟩, hj, hfk, hlk, ht, hfin⟩ := hf
  subst hw
  exact fun H locs ls hP hD hS hl => va_put hx hb hts hin ty hty hnm hown hK hP hD hS q0 he hc j hj (hts _ hlk) (fun _ h => h) hfin (ty := t) (v := v) (by rw [← ht]; exact hty j hj) hnf.1 hnf.2 hl0 hd (fun H1 locs1 hP1 hD1 hS1 => k H1 locs1 ls hP1 hD1 hS1 hl)
theorem n_putF (hX : CN l cy D A N cc own nL n mc ms ini) {idx ci j a c0 : Nat} {t : FieldType} {v : Value} {fs : List Value} {ws' : va_W} (q0 : Nat) (hi : ini) (hf : FLk own idx ci j c0 t true) (hdc : ∀ C T NN, clX[ci]? = some (C, T, NN) → (T j).1 = own) (he : ws[q0]? = some (a, .inr (ci, fs))) (hnf : narrow t v = v ∧ fits t v = true) (hl0 : j < fs.length) (hw : ws.set q0 (a, .inr (ci, fs.set j v)) = ws') (hd : decode cc pc = .ok (.putfield idx, 3)) (k : N (pc + 3) lv st ws' ce sl) : N pc lv (v :: .ref a :: st) ws ce sl := by
  obtain ⟨p, e, R, s, m, args, below, meth, c, Q, rfl, hx, hb, hml, hown, hts, hK, hE, hA, hn1, hn2, hn3, hn4, hin2⟩ := hX
  obtain ⟨C, T, NN, ty, ⟨hc, hin, hty, hnm, hN, h10⟩, hj, hfk, hlk, ht, hfin⟩ := hf
  subst hw
  exact fun H locs ls hP hD hS hl => va_putF hx hb hts hin ty hty hnm hown hK hP hD hS q0 he hc j hj (hts _ hlk) (fun _ h => h) hfin (hin2 hi) (hdc _ _ _ hc) (ty := t) (v := v) (by rw [← ht]; exact hty j hj) hnf.1 hnf.2 hl0 hd (fun H1 locs1 hP1 hD1 hS1 => k H1 locs1 ls hP1 hD1 hS1 hl)
theorem n_get (hX : CN l cy D A N cc own nL n mc ms ini) {idx ci j a c0 : Nat} {t : FieldType} {fin : Bool} {v : Value} {fs : List Value} (q0 : Nat) (hf : FLk own idx ci j c0 t fin) (he : ws[q0]? = some (a, .inr (ci, fs))) (hv : fs[j]? = some v) (hd : decode cc pc = .ok (.getfield idx, 3)) (k : N (pc + 3) lv (v :: st) ws ce sl) : N pc lv (.ref a :: st) ws ce sl := by
  obtain ⟨p, e, R, s, m, args, below, meth, c, Q, rfl, hx, hb, hml, hown, hts, hK, hE, hA, hn1, hn2, hn3, hn4, hin2⟩ := hX
  obtain ⟨C, T, NN, ty, ⟨hc, hin, hty, hnm, hN, h10⟩, hj, hfk, hlk, ht, hfin⟩ := hf
  exact fun H locs ls hP hD hS hl => va_get hx hb hts hin hown hK hP q0 he hc j hj (hts _ hlk) (fun _ h => h) hv hd (k H locs ls hP hD hS hl)
theorem n_new (hX : CN l cy D A N cc own nL n mc ms ini) {idx ci NN : Nat} {C : String} {T : u_T} {ty : Nat → FieldType} {fs : List Value} (hk : CKx ci C T NN ty) (hfs : ∀ j, j < NN → defaultValue (ty j) = vp_V fs j) (hc : Cond.classLink own idx C ∈ TB) (hi : Cond.instantiable C NN ∈ TB) (hii : Cond.initialized C ∈ TB) (hce : ce + 1 ≤ mc) (hsl : sl + NN ≤ ms) (hd : decode cc pc = .ok (.new idx, 3)) (k : ∀ q, N (pc + 3) lv (.ref q :: st) (ws ++ [(q, .inr (ci, fs))]) (ce + 1) (sl + NN)) : N pc lv st ws ce sl := by
  obtain ⟨p, e, R, s, m, args, below, meth, c, Q, rfl, hx, hb, hml, hown, hts, hK, hE, hA, hn1, hn2, hn3, hn4, hin2⟩ := hX
  obtain ⟨hcl, hin, hty, hnm, hN, h10⟩ := hk
  exact fun H locs ls hP hD hS hl => va_new hx hb hts hin ty hty hown (hts _ hc) (hts _ hi) (hts _ hii) hK hP hD hS hA hcl hfs (by omega) (by omega) hd (fun q H1 hP1 hD1 hS1 => k q H1 locs ls hP1 hD1 hS1 hl)
theorem n_newI (hX : CN l cy D A N cc own nL n mc ms ini) {z : Int32} {M : Nat} (hw : Cond.arrayClass .int ∈ TB) (hz : ¬ z < 0) (hM : z.toNatClampNeg = M) (hbd : M ≤ 1000) (hce : ce + 1 ≤ mc) (hsl : sl + M ≤ ms) (hd : decode cc pc = .ok (.newarray .int, 2)) (k : ∀ q, N (pc + 2) lv (.ref q :: st) (ws ++ [(q, .inl (cy 11, M, .inl (fun _ => 0)))]) (ce + 1) (sl + M)) : N pc lv (.int z :: st) ws ce sl := by
  obtain ⟨p, e, R, s, m, args, below, meth, c, Q, rfl, hx, hb, hml, hown, hts, hK, hE, hA, hn1, hn2, hn3, hn4, hin2⟩ := hX
  intro H locs ls hP hD hS hl
  refine va_newa (atype := .int) (a0 := (M, .inl (fun _ => 0))) hx hb (hts _ hw) (ty := .int) rfl hK hP hD hS hA (fun _ => rfl) hz hM (by show M * _ ≤ _; simp [componentBytes]; omega) (by omega) (by omega) hd (fun q cA H1 hK1 hP1 hD1 hS1 => ?_)
  have e1 : s.vm.findClass _ = some cA := (hK1.2 7 (cA, .int) rfl).2
  have e2 : s.vm.findClass _ = some (cy 11) := (hK.2 0 (cy 11, .int) rfl).2
  have e3 : cA = cy 11 := Option.some.inj (e1.symm.trans e2)
  subst e3
  exact k q H1 locs ls hP1 hD1 hS1 hl
theorem n_newC (hX : CN l cy D A N cc own nL n mc ms ini) {z : Int32} {M : Nat} (hw : Cond.arrayClass .char ∈ TB) (hz : ¬ z < 0) (hM : z.toNatClampNeg = M) (hbd : M ≤ 1000) (hce : ce + 1 ≤ mc) (hsl : sl + M ≤ ms) (hd : decode cc pc = .ok (.newarray .char, 2)) (k : ∀ q, N (pc + 2) lv (.ref q :: st) (ws ++ [(q, .inl (cy 12, M, .inl (fun _ => 0)))]) (ce + 1) (sl + M)) : N pc lv (.int z :: st) ws ce sl := by
  obtain ⟨p, e, R, s, m, args, below, meth, c, Q, rfl, hx, hb, hml, hown, hts, hK, hE, hA, hn1, hn2, hn3, hn4, hin2⟩ := hX
  intro H locs ls hP hD hS hl
  refine va_newa (atype := .char) (a0 := (M, .inl (fun _ => 0))) hx hb (hts _ hw) (ty := .char) rfl hK hP hD hS hA (fun _ => rfl) hz hM (by show M * _ ≤ _; simp [componentBytes]; omega) (by omega) (by omega) hd (fun q cA H1 hK1 hP1 hD1 hS1 => ?_)
  have e1 : s.vm.findClass _ = some cA := (hK1.2 7 (cA, .char) rfl).2
  have e2 : s.vm.findClass _ = some (cy 12) := (hK.2 1 (cy 12, .char) rfl).2
  have e3 : cA = cy 12 := Option.some.inj (e1.symm.trans e2)
  subst e3
  exact k q H1 locs ls hP1 hD1 hS1 hl
theorem n_newZ (hX : CN l cy D A N cc own nL n mc ms ini) {z : Int32} {M : Nat} (hw : Cond.arrayClass .boolean ∈ TB) (hz : ¬ z < 0) (hM : z.toNatClampNeg = M) (hbd : M ≤ 1000) (hce : ce + 1 ≤ mc) (hsl : sl + M ≤ ms) (hd : decode cc pc = .ok (.newarray .boolean, 2)) (k : ∀ q, N (pc + 2) lv (.ref q :: st) (ws ++ [(q, .inl (cy 13, M, .inl (fun _ => 0)))]) (ce + 1) (sl + M)) : N pc lv (.int z :: st) ws ce sl := by
  obtain ⟨p, e, R, s, m, args, below, meth, c, Q, rfl, hx, hb, hml, hown, hts, hK, hE, hA, hn1, hn2, hn3, hn4, hin2⟩ := hX
  intro H locs ls hP hD hS hl
  refine va_newa (atype := .boolean) (a0 := (M, .inl (fun _ => 0))) hx hb (hts _ hw) (ty := .boolean) rfl hK hP hD hS hA (fun _ => rfl) hz hM (by show M * _ ≤ _; simp [componentBytes]; omega) (by omega) (by omega) hd (fun q cA H1 hK1 hP1 hD1 hS1 => ?_)
  have e1 : s.vm.findClass _ = some cA := (hK1.2 7 (cA, .boolean) rfl).2
  have e2 : s.vm.findClass _ = some (cy 13) := (hK.2 2 (cy 13, .boolean) rfl).2
  have e3 : cA = cy 13 := Option.some.inj (e1.symm.trans e2)
  subst e3
  exact k q H1 locs ls hP1 hD1 hS1 hl
theorem n_newL (hX : CN l cy D A N cc own nL n mc ms ini) {z : Int32} {M : Nat} (hw : Cond.arrayClass .long ∈ TB) (hz : ¬ z < 0) (hM : z.toNatClampNeg = M) (hbd : M ≤ 1000) (hce : ce + 1 ≤ mc) (hsl : sl + M ≤ ms) (hd : decode cc pc = .ok (.newarray .long, 2)) (k : ∀ q, N (pc + 2) lv (.ref q :: st) (ws ++ [(q, .inl (cy 14, M, .inr (.inl (fun _ => 0))))]) (ce + 1) (sl + M)) : N pc lv (.int z :: st) ws ce sl := by
  obtain ⟨p, e, R, s, m, args, below, meth, c, Q, rfl, hx, hb, hml, hown, hts, hK, hE, hA, hn1, hn2, hn3, hn4, hin2⟩ := hX
  intro H locs ls hP hD hS hl
  refine va_newa (atype := .long) (a0 := (M, .inr (.inl (fun _ => 0)))) hx hb (hts _ hw) (ty := .long) rfl hK hP hD hS hA (fun _ => rfl) hz hM (by show M * _ ≤ _; simp [componentBytes]; omega) (by omega) (by omega) hd (fun q cA H1 hK1 hP1 hD1 hS1 => ?_)
  have e1 : s.vm.findClass _ = some cA := (hK1.2 7 (cA, .long) rfl).2
  have e2 : s.vm.findClass _ = some (cy 14) := (hK.2 3 (cy 14, .long) rfl).2
  have e3 : cA = cy 14 := Option.some.inj (e1.symm.trans e2)
  subst e3
  exact k q H1 locs ls hP1 hD1 hS1 hl
theorem n_newq15 (hX : CN l cy D A N cc own nL n mc ms ini) {z : Int32} {M idx : Nat} (hw : Cond.classLink own idx "DragonTithe$County" ∈ TB) (hz : ¬ z < 0) (hM : z.toNatClampNeg = M) (hbd : M ≤ 1000) (hce : ce + 1 ≤ mc) (hsl : sl + M ≤ ms) (hd : decode cc pc = .ok (.anewarray idx, 3)) (k : ∀ q, N (pc + 3) lv (.ref q :: st) (ws ++ [(q, .inl (cy 15, M, .inr (.inr (.inr (.inr (fun _ => none))))))]) (ce + 1) (sl + M)) : N pc lv (.int z :: st) ws ce sl := by
  obtain ⟨p, e, R, s, m, args, below, meth, c, Q, rfl, hx, hb, hml, hown, hts, hK, hE, hA, hn1, hn2, hn3, hn4, hin2⟩ := hX
  intro H locs ls hP hD hS hl
  refine va_newq hx hb hown (hts _ hw) hE.2.1 hK hP hD hS hA hz hM (by omega) (by omega) (by omega) hd (fun q cA H1 hK1 hP1 hD1 hS1 => ?_)
  obtain ⟨kA, comp, -, -, -, e1⟩ : va_RA s cA (.object "DragonTithe$County") := (hK1.2 7 (cA, .object "DragonTithe$County") rfl).2
  obtain ⟨kB, comp2, -, -, -, e2⟩ : va_RA s (cy 15) (.object "DragonTithe$County") := (hK.2 4 (cy 15, .object "DragonTithe$County") rfl).2
  have e3 : cA = cy 15 := Option.some.inj (e1.symm.trans e2)
  subst e3
  exact k q H1 locs ls hP1 hD1 hS1 hl
theorem n_aast15 (hX : CN l cy D A N cc own nL n mc ms ini) {i : Int32} {M a v j ci : Nat} {vs : List Value} {f : Nat → Option Nat} {ws' : va_W} (q0 qk : Nat) (ha : ws[q0]? = some (a, .inl (cy 15, M, .inr (.inr (.inr (.inr f)))))) (hv : ws[qk]? = some (v, .inr (ci, vs))) (hc : ∃ T NN, clX[ci]? = some ("DragonTithe$County", T, NN)) (hin : vp_in i M) (hj : i.toNatClampNeg = j) (hw : ws.set q0 (a, .inl (cy 15, M, .inr (.inr (.inr (.inr (va_up f j (some v))))))) = ws') (hd : decode cc pc = .ok (.aastore, 1)) (k : N (pc + 1) lv st ws' ce sl) : N pc lv (.ref v :: .int i :: .ref a :: st) ws ce sl := by
  obtain ⟨p, e, R, s, m, args, below, meth, c, Q, rfl, hx, hb, hml, hown, hts, hK, hE, hA, hn1, hn2, hn3, hn4, hin2⟩ := hX
  obtain ⟨T, NN, hc⟩ := hc
  subst hw
  subst hj
  exact fun H locs ls hP hD hS hl => va_astq hx hb hK hP hD hS q0 4 qk ci (r := ("DragonTithe$County", T, NN)) ha rfl hv hc hin hd (fun H1 locs1 hP1 hD1 hS1 => k H1 locs1 ls hP1 hD1 hS1 hl)
theorem n_newq16 (hX : CN l cy D A N cc own nL n mc ms ini) {z : Int32} {M idx : Nat} (hw : Cond.classLink own idx "DragonTithe$Herd" ∈ TB) (hz : ¬ z < 0) (hM : z.toNatClampNeg = M) (hbd : M ≤ 1000) (hce : ce + 1 ≤ mc) (hsl : sl + M ≤ ms) (hd : decode cc pc = .ok (.anewarray idx, 3)) (k : ∀ q, N (pc + 3) lv (.ref q :: st) (ws ++ [(q, .inl (cy 16, M, .inr (.inr (.inr (.inr (fun _ => none))))))]) (ce + 1) (sl + M)) : N pc lv (.int z :: st) ws ce sl := by
  obtain ⟨p, e, R, s, m, args, below, meth, c, Q, rfl, hx, hb, hml, hown, hts, hK, hE, hA, hn1, hn2, hn3, hn4, hin2⟩ := hX
  intro H locs ls hP hD hS hl
  refine va_newq hx hb hown (hts _ hw) hE.2.2.1 hK hP hD hS hA hz hM (by omega) (by omega) (by omega) hd (fun q cA H1 hK1 hP1 hD1 hS1 => ?_)
  obtain ⟨kA, comp, -, -, -, e1⟩ : va_RA s cA (.object "DragonTithe$Herd") := (hK1.2 7 (cA, .object "DragonTithe$Herd") rfl).2
  obtain ⟨kB, comp2, -, -, -, e2⟩ : va_RA s (cy 16) (.object "DragonTithe$Herd") := (hK.2 5 (cy 16, .object "DragonTithe$Herd") rfl).2
  have e3 : cA = cy 16 := Option.some.inj (e1.symm.trans e2)
  subst e3
  exact k q H1 locs ls hP1 hD1 hS1 hl
theorem n_aast16 (hX : CN l cy D A N cc own nL n mc ms ini) {i : Int32} {M a v j ci : Nat} {vs : List Value} {f : Nat → Option Nat} {ws' : va_W} (q0 qk : Nat) (ha : ws[q0]? = some (a, .inl (cy 16, M, .inr (.inr (.inr (.inr f)))))) (hv : ws[qk]? = some (v, .inr (ci, vs))) (hc : ∃ T NN, clX[ci]? = some ("DragonTithe$Herd", T, NN)) (hin : vp_in i M) (hj : i.toNatClampNeg = j) (hw : ws.set q0 (a, .inl (cy 16, M, .inr (.inr (.inr (.inr (va_up f j (some v))))))) = ws') (hd : decode cc pc = .ok (.aastore, 1)) (k : N (pc + 1) lv st ws' ce sl) : N pc lv (.ref v :: .int i :: .ref a :: st) ws ce sl := by
  obtain ⟨p, e, R, s, m, args, below, meth, c, Q, rfl, hx, hb, hml, hown, hts, hK, hE, hA, hn1, hn2, hn3, hn4, hin2⟩ := hX
  obtain ⟨T, NN, hc⟩ := hc
  subst hw
  subst hj
  exact fun H locs ls hP hD hS hl => va_astq hx hb hK hP hD hS q0 5 qk ci (r := ("DragonTithe$Herd", T, NN)) ha rfl hv hc hin hd (fun H1 locs1 hP1 hD1 hS1 => k H1 locs1 ls hP1 hD1 hS1 hl)
theorem n_ctorN (hX : CN l cy D A N cc own nL n mc ms ini) {y : MethodName} {yc : ByteArray} {maxL n' mc' ms' idx q : Nat} {host : String} {e0 : va_E} {Wf : (Nat → Nat) → va_W} {L : va_W} (hM : CC l cy D y yc maxL n' mc' ms' e0 Wf) (hy : MKx y yc maxL none 0) (hi : y.name = "<init>" ∧ Cond.instanceMethod y ∈ TB) (hq : (own, idx, y, host) ∈ nestL) (hrm : n' + 1 ≤ n ∧ maxL ≤ 45 ∧ (st.map fun v => v.category).sum ≤ 8) (hce : ce + mc' ≤ mc) (hsl : sl + ms' ≤ ms) (hd : decode cc pc = .ok (.invokespecial idx, 3)) (k : ∀ u : Nat → Nat, u 0 = q → N (pc + 3) lv st (L ++ Wf u) (ce + mc') (sl + ms')) : N pc lv (.ref q :: st) (L ++ [(q, e0)]) ce sl := by
  obtain ⟨p, e, R, s, m, args, below, meth, c, Q, rfl, hx, hb, hml, hown, hts, hK, hE, hA, hn1, hn2, hn3, hn4, hin2⟩ := hX
  intro H locs ls hP hD hS hl
  have hF : ∀ a, va_A [(q, e0)] H.size a → A a := by
    intro a h
    rcases h with ⟨k2, e2, h⟩ | h
    · have h0 : k2 < 1 := (List.getElem?_eq_some_iff.mp h).1
      rw [show k2 = 0 by omega] at h
      have h1 : (q, e0) = (a, e2) := Option.some.inj h
      have h2 : q = a := congrArg Prod.fst h1
      rw [← h2]
      exact hD.2 L.length (q, e0) (by simp)
    · exact hA a (Nat.le_trans hS.1 h)
  have hP1 : va_P D clX [(q, e0)] H := fun k9 x hx9 => hP (L.length + k9) x (by rw [List.getElem?_append_right (Nat.le_add_right _ _)]; simpa using hx9)
  have hrun := va_runIN (As := []) (rest := st) (b := q) (g := F0 m pc ls (.ref q :: st)) (locs := locs) (cells := ce) (slots := sl) (below := below) (e := e) (meth := meth) ⟨hx, hb, hml, hown, hts⟩ (hM q H.size) ⟨va_cnB (R := R) (rm := RN n' mc' ms') (mc := mc') (ms := ms') 0 hts (goodTB hy.1) rfl rfl rfl (hE.1 _ hq) (hts _ hy.2.1) ⟨hy.2.2.1.1, hy.2.2.1.2, hy.2.2.2⟩ ⟨by show n' + 1 ≤ R.frames; omega, by show 8 + (maxL + 11) + 64 * n' ≤ R.locals; omega⟩, hi.1, hts _ hi.2⟩ ⟨CPre.blind, fun U hU hW => ⟨rfl, by rw [hU], by rw [hU]; exact hP1, va_K.moved hW.alike hK, EX.warm hW hE⟩⟩ rfl rfl hl.1 rfl (lv_room hrm.2.2) hd ⟨by omega, by omega⟩
  refine va_callv hrun hS (fun a _ h => hF a h) (fun a h => hF a h) (fun u t H1 locs1 ht hvm hw hB hz hk1 hS1 => ?_)
  subst ht
  obtain ⟨hP2, hD2⟩ := joinL hP hD hk1 hB.1 hB.2 hF
  exact k u hw _ locs1 ls hP2 hD2 hS1 hl
theorem n_ctor (hX : CN l cy D A N cc own nL n mc ms ini) {y : MethodName} {yc : ByteArray} {maxL n' mc' ms' idx q : Nat} {e0 : va_E} {Wf : (Nat → Nat) → va_W} {L : va_W} (hM : CC l cy D y yc maxL n' mc' ms' e0 Wf) (hy : MKx y yc maxL none 0) (hi : y.name = "<init>" ∧ Cond.instanceMethod y ∈ TB) (hq : CVx own idx y) (hrm : n' + 1 ≤ n ∧ maxL ≤ 45 ∧ (st.map fun v => v.category).sum ≤ 8) (hce : ce + mc' ≤ mc) (hsl : sl + ms' ≤ ms) (hd : decode cc pc = .ok (.invokespecial idx, 3)) (k : ∀ u : Nat → Nat, u 0 = q → N (pc + 3) lv st (L ++ Wf u) (ce + mc') (sl + ms')) : N pc lv (.ref q :: st) (L ++ [(q, e0)]) ce sl := by
  obtain ⟨p, e, R, s, m, args, below, meth, c, Q, rfl, hx, hb, hml, hown, hts, hK, hE, hA, hn1, hn2, hn3, hn4, hin2⟩ := hX
  intro H locs ls hP hD hS hl
  have hF : ∀ a, va_A [(q, e0)] H.size a → A a := by
    intro a h
    rcases h with ⟨k2, e2, h⟩ | h
    · have h0 : k2 < 1 := (List.getElem?_eq_some_iff.mp h).1
      rw [show k2 = 0 by omega] at h
      have h1 : (q, e0) = (a, e2) := Option.some.inj h
      have h2 : q = a := congrArg Prod.fst h1
      rw [← h2]
      exact hD.2 L.length (q, e0) (by simp)
    · exact hA a (Nat.le_trans hS.1 h)
  have hP1 : va_P D clX [(q, e0)] H := fun k9 x hx9 => hP (L.length + k9) x (by rw [List.getElem?_append_right (Nat.le_add_right _ _)]; simpa using hx9)
  have hrun := va_runI (As := []) (rest := st) (b := q) (g := F0 m pc ls (.ref q :: st)) (locs := locs) (cells := ce) (slots := sl) (below := below) (e := e) (meth := meth) ⟨hx, hb, hml, hown, hts⟩ (hM q H.size) ⟨callB_of (R := R) (rm := RN n' mc' ms') (mc := mc') (ms := ms') 0 hts (goodTB hy.1) rfl rfl rfl (hts _ hy.2.1) (hts _ hq) ⟨hy.2.2.1.1, hy.2.2.1.2, hy.2.2.2⟩ ⟨by show n' + 1 ≤ R.frames; omega, by show 8 + (maxL + 11) + 64 * n' ≤ R.locals; omega⟩, hi.1, hts _ hi.2⟩ ⟨CPre.blind, fun U hU hW => ⟨rfl, by rw [hU], by rw [hU]; exact hP1, va_K.moved hW.alike hK, EX.warm hW hE⟩⟩ rfl rfl hl.1 rfl (lv_room hrm.2.2) hd ⟨by omega, by omega⟩
  refine va_callv hrun hS (fun a _ h => hF a h) (fun a h => hF a h) (fun u t H1 locs1 ht hvm hw hB hz hk1 hS1 => ?_)
  subst ht
  obtain ⟨hP2, hD2⟩ := joinL hP hD hk1 hB.1 hB.2 hF
  exact k u hw _ locs1 ls hP2 hD2 hS1 hl
theorem mk_c {y : MethodName} {yc : ByteArray} {maxL n mc ms : Nat} {e0 : va_E} {Wf : (Nat → Nat) → va_W} (hy : plainName y.cls = true) (hi : y.name = "<init>") (hav : 1 ≤ maxL) (body : ∀ (h : Nat) (A : Nat → Prop) (N : NPd), CN l cy D A N yc y.cls maxL n mc ms True → (∀ pc lv ws, decode yc pc = .ok (.return_, 1) → (∃ u : Nat → Nat, u 0 = h ∧ Wf u = ws) → N pc lv [] ws mc ms) → N 0 [(0, .ref h)] [] [(h, e0)] 0 0) : CC l cy D y yc maxL n mc ms e0 Wf := by
  intro h sz
  refine Met.ofW (cc := yc) (maxL := maxL) (ret := none) hy rfl ?_
  intro p e s m args below meth c s₁ B hml hv
  obtain ⟨rfl, hsz, hP0, hK, hE⟩ := hv
  have hx := B.exec
  have hb := B.bytes
  have hr := B.returns
  have hts := atoms_spec (ws := Cond.code y yc maxL none :: TB) B.pre
  have hown : s.vm.findClass y.cls = some m.cls := findClass_of_methodNamed B.named
  have hlocks := B.notSynchronized
  have hin : meth.name = "<init>" := (name_of_methodNamed B.named B.method).1.trans hi
  have hl := lv_entry [.ref h] (n := maxL) (by show (lg_sl [Value.ref h]).length ≤ maxL; exact hav)
  rw [lg_entry_eq]
  subst hsz
  have hD0 : va_D (va_A [(h, e0)] s.heap.size) [(h, e0)] := ⟨fun i j a b ha hb2 _ => by
    have h1 := (List.getElem?_eq_some_iff.mp ha).1
    have h2 := (List.getElem?_eq_some_iff.mp hb2).1
    simp at h1 h2
    omega, fun k q hk => va_A.in hk⟩
  refine body h (va_A [(h, e0)] s.heap.size) _ ⟨p, e, RN n mc ms, s, m, _, below, meth, c, _, rfl, hx, hb, hml, hown, fun w hw => hts w (List.mem_cons_of_mem _ hw), hK, hE, fun q hq => Or.inr hq, Nat.le_refl _, Nat.le_refl _, Nat.le_refl _, Nat.le_refl _, fun _ => hin⟩ ?_ s.heap [] _ hP0 hD0 va_S.rf hl
  intro pc lv ws hd hu H locs ls hP hD hS _
  obtain ⟨u, hu0, rfl⟩ := hu
  exact W.vret hx hb hr (fun t ht hW => ⟨⟨u, rfl, hu0, by rw [ht]; exact hP, hD⟩, hS.F ht⟩) hS.2.2 hd
end NR
