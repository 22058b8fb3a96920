/-! Constructors: a world that grows. -/
abbrev tyN (I : Nat → ClassId) : List (ClassId × FieldType) := [(I 0, .int), (I 1, .object "StairCourt$Judge"), (I 2, .object "StairCourt$Person"), (I 3, .object "StairCourt$Sheet")]
def ZN (ad : Nat) (U : State) : Prop := va_Nw (.methodLinkNest RX0 32 yX6_init "StairCourt") U ∧ va_Nw (.methodLinkNest RX0 62 yX3_init "StairCourt") U ∧ va_Nw (.methodLinkNest RX4 11 yX6_init "StairCourt") U ∧ va_Nw (.methodLinkNest RX8 37 yX7_init "StairCourt") U ∧ va_Nw (.methodLinkNest RX8 44 yX1_init "StairCourt") U ∧ va_Nw (.methodLinkNest RX8 62 yX5_init "StairCourt") U ∧ va_AO "StairCourt$Judge" U ∧ va_AO "StairCourt$Person" U ∧ va_AO "StairCourt$Sheet" U ∧ vk_R RX4 25 "wsm" ad U
theorem ZN.calling {ad : Nat} {U : State} {g : JFrame} {mk : MethodId} {a : Array Value} (h : ZN ad U) : ZN ad (U.calling g mk a) := by
  obtain ⟨h1, h2, h3, h4, h5, h6, h7, h8, h9, h0⟩ := h
  have hvm : U.vm.Alike (U.calling g mk a).vm := Vm.Alike.refl U.vm
  exact ⟨va_Nw.same (u := U) (U := U.calling g mk a) rfl rfl h1, va_Nw.same (u := U) (U := U.calling g mk a) rfl rfl h2, va_Nw.same (u := U) (U := U.calling g mk a) rfl rfl h3, va_Nw.same (u := U) (U := U.calling g mk a) rfl rfl h4, va_Nw.same (u := U) (U := U.calling g mk a) rfl rfl h5, va_Nw.same (u := U) (U := U.calling g mk a) rfl rfl h6, va_AO.moved (u := U) (U := U.calling g mk a) hvm h7, va_AO.moved (u := U) (U := U.calling g mk a) hvm h8, va_AO.moved (u := U) (U := U.calling g mk a) hvm h9, vk_R.same (u := U) (U := U.calling g mk a) rfl h0⟩
theorem ZN.warm {ad : Nat} {s U : State} (hW : s.WarmedH U.vm) (h : ZN ad s) : ZN ad U := by
  obtain ⟨h1, h2, h3, h4, h5, h6, h7, h8, h9, h0⟩ := h
  exact ⟨h1.warmM hW, h2.warmM hW, h3.warmM hW, h4.warmM hW, h5.warmM hW, h6.warmM hW, va_AO.moved hW.alike h7, va_AO.moved hW.alike h8, va_AO.moved hW.alike h9, h0.warm hW⟩
def RN (n cs ss : Nat) : Room := { frames := n, cells := cs, slots := ss, locals := 40 * n }
def VN (l : Launch) (D : va_G) (R : Room) (A : Nat → Prop) (K : KX) (nL pc : Nat) (lv : List (Nat × Value)) (st : List Value) (ws : va_W) (cs ss : Nat) : Prop := match K with
  | (p, e, s, m, args, below, meth, c, Q) => ∀ (H : Heap) (locs : List Loc) (ls : Array Slot), va_P D vwCl ws H → va_D A ws → va_S A s.heap H locs → lv_has ls nL lv → W p l e R s m args below meth c H locs cs ss Q (F0 m pc ls st)
def FN (D : va_G) (I : Nat → ClassId) (ad : Nat) (A : Nat → Prop) (K : KX) (cc : ByteArray) (own : String) (rt : Option FieldType) (Ts : List Cond) (nL : Nat) : Prop := match K with
  | (p, _, s, m, args, _, meth, c, _) => p.tables.exec = Jvm.exec ∧ c.code = cc ∧ meth.sig.returnType = rt ∧ c.maxLocals = nL ∧ s.vm.findClass own = some m.cls ∧ (∀ w ∈ Ts, w.before args s = true) ∧ meth.locks = false ∧ va_K D vwCl (tyN I) s ∧ ZN ad s ∧ (∀ q, s.heap.size ≤ q → A q)
def nmK (K : KX) : Prop := match K with
  | (_, _, _, _, _, _, meth, _, _) => meth.name = "<init>"
theorem n_iconst {l : Launch} {D : va_G} {I : Nat → ClassId} {ad : Nat} {R : Room} {A : Nat → Prop} {K : KX} {cc : ByteArray} {own : String} {rt : Option FieldType} {Ts : List Cond} {nL : Nat} {pc : Nat} {lv : List (Nat × Value)} {st : List Value} {ws : va_W} {cs ss : Nat} (X : FN D I ad A K cc own rt Ts nL) {i : Int} {v : Int32} (hdg : decode cc pc = .ok (.iconst i, 1)) (hv : Int32.ofInt i = v) (k : VN l D R A K nL (pc+1) lv (.int v :: st) ws cs ss) : VN l D R A K nL pc lv st ws cs ss := by
  obtain ⟨p, e, s, m, args, below, meth, c, Q⟩ := K
  obtain ⟨hx, hb, hr, hml, hown, hts, hlk, hK, hZ, hA⟩ := X
  intro H locs ls hP hD hS hl
  exact lv_iconst hx hb hdg hv (k H locs ls hP hD hS hl)
theorem n_bipush {l : Launch} {D : va_G} {I : Nat → ClassId} {ad : Nat} {R : Room} {A : Nat → Prop} {K : KX} {cc : ByteArray} {own : String} {rt : Option FieldType} {Ts : List Cond} {nL : Nat} {pc : Nat} {lv : List (Nat × Value)} {st : List Value} {ws : va_W} {cs ss : Nat} (X : FN D I ad A K cc own rt Ts nL) {i : Int} {v : Int32} (hdg : decode cc pc = .ok (.bipush i, 2)) (hv : (Int8.ofInt i).toInt32 = v) (k : VN l D R A K nL (pc+2) lv (.int v :: st) ws cs ss) : VN l D R A K nL pc lv st ws cs ss := by
  obtain ⟨p, e, s, m, args, below, meth, c, Q⟩ := K
  obtain ⟨hx, hb, hr, hml, hown, hts, hlk, hK, hZ, hA⟩ := X
  intro H locs ls hP hD hS hl
  exact lv_bipush hx hb hdg hv (k H locs ls hP hD hS hl)
theorem n_sipush {l : Launch} {D : va_G} {I : Nat → ClassId} {ad : Nat} {R : Room} {A : Nat → Prop} {K : KX} {cc : ByteArray} {own : String} {rt : Option FieldType} {Ts : List Cond} {nL : Nat} {pc : Nat} {lv : List (Nat × Value)} {st : List Value} {ws : va_W} {cs ss : Nat} (X : FN D I ad A K cc own rt Ts nL) {i : Int} {v : Int32} (hdg : decode cc pc = .ok (.sipush i, 3)) (hv : (Int16.ofInt i).toInt32 = v) (k : VN l D R A K nL (pc+3) lv (.int v :: st) ws cs ss) : VN l D R A K nL pc lv st ws cs ss := by
  obtain ⟨p, e, s, m, args, below, meth, c, Q⟩ := K
  obtain ⟨hx, hb, hr, hml, hown, hts, hlk, hK, hZ, hA⟩ := X
  intro H locs ls hP hD hS hl
  exact lv_sipush hx hb hdg hv (k H locs ls hP hD hS hl)
theorem n_iload_n {l : Launch} {D : va_G} {I : Nat → ClassId} {ad : Nat} {R : Room} {A : Nat → Prop} {K : KX} {cc : ByteArray} {own : String} {rt : Option FieldType} {Ts : List Cond} {nL : Nat} {pc : Nat} {lv : List (Nat × Value)} {st : List Value} {ws : va_W} {cs ss : Nat} (X : FN D I ad A K cc own rt Ts nL) {k : Fin 4} {x : Int32} (hdg : decode cc pc = .ok (.iload_n k, 1)) (j : Nat) (hj : lv[j]? = some ((k : Nat), .int x)) (k : VN l D R A K nL (pc+1) lv (.int x :: st) ws cs ss) : VN l D R A K nL pc lv st ws cs ss := by
  obtain ⟨p, e, s, m, args, below, meth, c, Q⟩ := K
  obtain ⟨hx, hb, hr, hml, hown, hts, hlk, hK, hZ, hA⟩ := X
  intro H locs ls hP hD hS hl
  exact lv_iload_n hx hb hdg rfl (lv_at hl j hj) (k H locs ls hP hD hS hl)
theorem n_aload_n {l : Launch} {D : va_G} {I : Nat → ClassId} {ad : Nat} {R : Room} {A : Nat → Prop} {K : KX} {cc : ByteArray} {own : String} {rt : Option FieldType} {Ts : List Cond} {nL : Nat} {pc : Nat} {lv : List (Nat × Value)} {st : List Value} {ws : va_W} {cs ss : Nat} (X : FN D I ad A K cc own rt Ts nL) {k : Fin 4} {x : Value} (hdg : decode cc pc = .ok (.aload_n k, 1)) (j : Nat) (hj : lv[j]? = some ((k : Nat), x)) (hv : IsR x) (k : VN l D R A K nL (pc+1) lv (x :: st) ws cs ss) : VN l D R A K nL pc lv st ws cs ss := by
  obtain ⟨p, e, s, m, args, below, meth, c, Q⟩ := K
  obtain ⟨hx, hb, hr, hml, hown, hts, hlk, hK, hZ, hA⟩ := X
  intro H locs ls hP hD hS hl
  rcases hv with rfl | ⟨a, rfl⟩
  · exact lv_aload_nN hx hb hdg rfl (lv_at hl j hj) (k H locs ls hP hD hS hl)
  · exact lv_aload_n hx hb hdg rfl (lv_at hl j hj) (k H locs ls hP hD hS hl)
theorem n_istore_n {l : Launch} {D : va_G} {I : Nat → ClassId} {ad : Nat} {R : Room} {A : Nat → Prop} {K : KX} {cc : ByteArray} {own : String} {rt : Option FieldType} {Ts : List Cond} {nL : Nat} {pc : Nat} {lv lv' : List (Nat × Value)} {st : List Value} {ws : va_W} {cs ss : Nat} (X : FN D I ad A K cc own rt Ts nL) {k : Fin 4} {i : Nat} {x : Int32} (hdg : decode cc pc = .ok (.istore_n k, 1)) (hi : (k : Nat) = i) (hn : i < nL) (hl' : (i, Value.int x) :: lv.filter (fun q => !(q.1 == i) && !(q.1 + 1 == i && q.2.category == 2)) = lv') (k : VN l D R A K nL (pc+1) lv' st ws cs ss) : VN l D R A K nL pc lv (.int x :: st) ws cs ss := by
  obtain ⟨p, e, s, m, args, below, meth, c, Q⟩ := K
  obtain ⟨hx, hb, hr, hml, hown, hts, hlk, hK, hZ, hA⟩ := X
  intro H locs ls hP hD hS hl
  exact lv_istore_n hx hb hdg hi hl hn hl' (fun ls hl => k H locs ls hP hD hS hl)
theorem n_astore_n {l : Launch} {D : va_G} {I : Nat → ClassId} {ad : Nat} {R : Room} {A : Nat → Prop} {K : KX} {cc : ByteArray} {own : String} {rt : Option FieldType} {Ts : List Cond} {nL : Nat} {pc : Nat} {lv lv' : List (Nat × Value)} {st : List Value} {ws : va_W} {cs ss : Nat} (X : FN D I ad A K cc own rt Ts nL) {k : Fin 4} {i : Nat} {x : Value} (hdg : decode cc pc = .ok (.astore_n k, 1)) (hi : (k : Nat) = i) (hn : i < nL) (hv : IsR x) (hl' : (i, x) :: lv.filter (fun q => !(q.1 == i) && !(q.1 + 1 == i && q.2.category == 2)) = lv') (k : VN l D R A K nL (pc+1) lv' st ws cs ss) : VN l D R A K nL pc lv (x :: st) ws cs ss := by
  obtain ⟨p, e, s, m, args, below, meth, c, Q⟩ := K
  obtain ⟨hx, hb, hr, hml, hown, hts, hlk, hK, hZ, hA⟩ := X
  intro H locs ls hP hD hS hl
  rcases hv with rfl | ⟨a, rfl⟩
  · exact lv_astore_nN hx hb hdg hi hl hn hl' (fun ls hl => k H locs ls hP hD hS hl)
  · exact lv_astore_n hx hb hdg hi hl hn hl' (fun ls hl => k H locs ls hP hD hS hl)
theorem n_iinc {l : Launch} {D : va_G} {I : Nat → ClassId} {ad : Nat} {R : Room} {A : Nat → Prop} {K : KX} {cc : ByteArray} {own : String} {rt : Option FieldType} {Ts : List Cond} {nL : Nat} {pc : Nat} {lv lv' : List (Nat × Value)} {st : List Value} {ws : va_W} {cs ss : Nat} (X : FN D I ad A K cc own rt Ts nL) {i : Nat} {d : Int} {x v : Int32} (hdg : decode cc pc = .ok (.iinc i d, 3)) (j : Nat) (hj : lv[j]? = some (i, .int x)) (hv : x + Int32.ofInt d = v) (hn : i < nL) (hl' : (i, Value.int v) :: lv.filter (fun q => !(q.1 == i) && !(q.1 + 1 == i && q.2.category == 2)) = lv') (k : VN l D R A K nL (pc+3) lv' st ws cs ss) : VN l D R A K nL pc lv st ws cs ss := by
  obtain ⟨p, e, s, m, args, below, meth, c, Q⟩ := K
  obtain ⟨hx, hb, hr, hml, hown, hts, hlk, hK, hZ, hA⟩ := X
  intro H locs ls hP hD hS hl
  exact lv_iinc hx hb hdg hl hj hv hn hl' (fun ls hl => k H locs ls hP hD hS hl)
theorem n_goto {l : Launch} {D : va_G} {I : Nat → ClassId} {ad : Nat} {R : Room} {A : Nat → Prop} {K : KX} {cc : ByteArray} {own : String} {rt : Option FieldType} {Ts : List Cond} {nL : Nat} {pc : Nat} {lv : List (Nat × Value)} {st : List Value} {ws : va_W} {cs ss : Nat} (X : FN D I ad A K cc own rt Ts nL) {off : Int} {tgt : Nat} (hdg : decode cc pc = .ok (.goto off, 3)) (ht : (pc : Int) + off = (tgt : Int)) (k : VN l D R A K nL tgt lv st ws cs ss) : VN l D R A K nL pc lv st ws cs ss := by
  obtain ⟨p, e, s, m, args, below, meth, c, Q⟩ := K
  obtain ⟨hx, hb, hr, hml, hown, hts, hlk, hK, hZ, hA⟩ := X
  intro H locs ls hP hD hS hl
  exact lv_goto hx hb hdg ht (k H locs ls hP hD hS hl)
theorem n_icmp_ge {l : Launch} {D : va_G} {I : Nat → ClassId} {ad : Nat} {R : Room} {A : Nat → Prop} {K : KX} {cc : ByteArray} {own : String} {rt : Option FieldType} {Ts : List Cond} {nL : Nat} {pc : Nat} {lv : List (Nat × Value)} {st : List Value} {ws : va_W} {cs ss : Nat} (X : FN D I ad A K cc own rt Ts nL) {x y : Int32} {off : Int} {tgt : Nat} (hdg : decode cc pc = .ok (.if_icmp .ge off, 3)) (ht : (pc : Int) + off = (tgt : Int)) (kt : y ≤ x → VN l D R A K nL tgt lv st ws cs ss) (kf : ¬ y ≤ x → VN l D R A K nL (pc+3) lv st ws cs ss) : VN l D R A K nL pc lv (.int y :: .int x :: st) ws cs ss := by
  obtain ⟨p, e, s, m, args, below, meth, c, Q⟩ := K
  obtain ⟨hx, hb, hr, hml, hown, hts, hlk, hK, hZ, hA⟩ := X
  intro H locs ls hP hD hS hl
  exact lv_icmp_ge hx hb hdg ht (fun q => kt q H locs ls hP hD hS hl) (fun q => kf q H locs ls hP hD hS hl)
theorem n_dup {l : Launch} {D : va_G} {I : Nat → ClassId} {ad : Nat} {R : Room} {A : Nat → Prop} {K : KX} {cc : ByteArray} {own : String} {rt : Option FieldType} {Ts : List Cond} {nL : Nat} {pc : Nat} {lv : List (Nat × Value)} {st : List Value} {ws : va_W} {cs ss : Nat} (X : FN D I ad A K cc own rt Ts nL) {v : Value} (hdg : decode cc pc = .ok (.dup, 1)) (hv : v.category = 1) (k : VN l D R A K nL (pc+1) lv (v :: v :: st) ws cs ss) : VN l D R A K nL pc lv (v :: st) ws cs ss := by
  obtain ⟨p, e, s, m, args, below, meth, c, Q⟩ := K
  obtain ⟨hx, hb, hr, hml, hown, hts, hlk, hK, hZ, hA⟩ := X
  intro H locs ls hP hD hS hl
  exact lv_dup hx hb hdg hv (k H locs ls hP hD hS hl)
theorem n_sub {l : Launch} {D : va_G} {R : Room} {A : Nat → Prop} {K : KX} {nL pc : Nat} {lv lv' : List (Nat × Value)} {st : List Value} {ws : va_W} {cs ss : Nat} (ks : List Nat) (h : lv_pick lv ks = lv') (k : VN l D R A K nL pc lv' st ws cs ss) : VN l D R A K nL pc lv st ws cs ss := by
  obtain ⟨p, e, s, m, args, below, meth, c, Q⟩ := K
  intro H locs ls hP hD hS hl
  exact k H locs ls hP hD hS (lv_sub hl ks h)
theorem n_obj {l : Launch} {D : va_G} {I : Nat → ClassId} {ad : Nat} {R : Room} {A : Nat → Prop} {K : KX} {cc : ByteArray} {own : String} {rt : Option FieldType} {Ts : List Cond} {nL : Nat} {pc : Nat} {lv : List (Nat × Value)} {st : List Value} {ws : va_W} {cs ss : Nat} (X : FN D I ad A K cc own rt Ts nL) {ix a : Nat} (h1 : Cond.methodLink own ix objectInit ∈ Ts) (h2 : Cond.instanceMethod objectInit ∈ Ts) (h3 : Cond.code objectInit ⟨#[0xb1]⟩ 1 none ∈ Ts) (hdg : decode cc pc = .ok (.invokespecial ix, 3)) (hf : 1 ≤ R.frames) (hlo : 12 ≤ R.locals) (k : VN l D R A K nL (pc+3) lv [] ws cs ss) : VN l D R A K nL pc lv [.ref a] ws cs ss := by
  obtain ⟨p, e, s, m, args, below, meth, c, Q⟩ := K
  obtain ⟨hx, hb, hr, hml, hown, hts, hlk, hK, hZ, hA⟩ := X
  intro H locs ls hP hD hS hl
  refine W.objInit hx hb hown (hts _ h1) (hts _ h2) (hts _ h3) rfl (by rw [hml]; exact hl.1) rfl hdg hf hlo ?_
  exact W.eq (g2 := F0 m (pc+3) ls []) rfl (k H locs ls hP hD hS hl)
theorem n_put {l : Launch} {D : va_G} {I : Nat → ClassId} {ad : Nat} {R : Room} {A : Nat → Prop} {K : KX} {cc : ByteArray} {own : String} {rt : Option FieldType} {Ts : List Cond} {nL : Nat} {pc : Nat} {lv : List (Nat × Value)} {st : List Value} {ws : va_W} {cs ss : Nat} (X : FN D I ad A K cc own rt Ts nL) {C : String} {T : u_T} {N ci ix q0 a : Nat} {fs : List Value} (hin : ∀ w ∈ u_ws C T N, w ∈ Ts) (ty0 : Nat → FieldType) (hty : ∀ k, k < N → parseFieldDescriptor (T k).2.2.1 = some (ty0 k)) (hnm : ∀ a, a < N → ∀ b, b < N → a ≠ b → (T a).2.1 ≠ (T b).2.1) (hc : vwCl[ci]? = some (C, T, N)) (k : Nat) (hk : k < N) (he : ws[q0]? = some (a, .inr (ci, fs))) {v : Value} {ws' : va_W} (hset : ws.set q0 (a, .inr (ci, fs.set k v)) = ws') (hl0 : k < fs.length) (hlink : Cond.fieldLink own ix (T k).1 (T k).2.1 (T k).2.2.1 ∈ Ts) (hfin : (T k).2.2.2 = false) {ty : FieldType} (hd : parseFieldDescriptor (T k).2.2.1 = some ty) (hn : narrow ty v = v) (hfit : fits ty v = true) (hdg : decode cc pc = .ok (.putfield ix, 3)) (kk : VN l D R A K nL (pc+3) lv st ws' cs ss) : VN l D R A K nL pc lv (v :: .ref a :: st) ws cs ss := by
  obtain ⟨p, e, s, m, args, below, meth, c, Q⟩ := K
  obtain ⟨hx, hb, hr, hml, hown, hts, hlk, hK, hZ, hA⟩ := X
  intro H locs ls hP hD hS hl
  refine va_put hx hb hts hin ty0 hty hnm hown hK hP hD hS q0 he hc k hk (hts _ hlink) (fun _ h => h) hfin hd hn hfit hl0 hdg (fun H1 locs1 hP1 hD1 hS1 => ?_)
  rw [hset] at hP1 hD1
  exact kk H1 locs1 ls hP1 hD1 hS1 hl
theorem n_putF {l : Launch} {D : va_G} {I : Nat → ClassId} {ad : Nat} {R : Room} {A : Nat → Prop} {K : KX} {cc : ByteArray} {own : String} {rt : Option FieldType} {Ts : List Cond} {nL : Nat} {pc : Nat} {lv : List (Nat × Value)} {st : List Value} {ws : va_W} {cs ss : Nat} (X : FN D I ad A K cc own rt Ts nL) {C : String} {T : u_T} {N ci ix q0 a : Nat} {fs : List Value} (hin : ∀ w ∈ u_ws C T N, w ∈ Ts) (ty0 : Nat → FieldType) (hty : ∀ k, k < N → parseFieldDescriptor (T k).2.2.1 = some (ty0 k)) (hnm : ∀ a, a < N → ∀ b, b < N → a ≠ b → (T a).2.1 ≠ (T b).2.1) (hc : vwCl[ci]? = some (C, T, N)) (k : Nat) (hk : k < N) (he : ws[q0]? = some (a, .inr (ci, fs))) {v : Value} {ws' : va_W} (hset : ws.set q0 (a, .inr (ci, fs.set k v)) = ws') (hl0 : k < fs.length) (hlink : Cond.fieldLink own ix (T k).1 (T k).2.1 (T k).2.2.1 ∈ Ts) (hfin : (T k).2.2.2 = true) (hnk : nmK K) (hdecl : (T k).1 = own) {ty : FieldType} (hd : parseFieldDescriptor (T k).2.2.1 = some ty) (hn : narrow ty v = v) (hfit : fits ty v = true) (hdg : decode cc pc = .ok (.putfield ix, 3)) (kk : VN l D R A K nL (pc+3) lv st ws' cs ss) : VN l D R A K nL pc lv (v :: .ref a :: st) ws cs ss := by
  obtain ⟨p, e, s, m, args, below, meth, c, Q⟩ := K
  obtain ⟨hx, hb, hr, hml, hown, hts, hlk, hK, hZ, hA⟩ := X
  intro H locs ls hP hD hS hl
  refine va_putF hx hb hts hin ty0 hty hnm hown hK hP hD hS q0 he hc k hk (hts _ hlink) (fun _ h => h) hfin hnk hdecl hd hn hfit hl0 hdg (fun H1 locs1 hP1 hD1 hS1 => ?_)
  rw [hset] at hP1 hD1
  exact kk H1 locs1 ls hP1 hD1 hS1 hl
theorem n_get {l : Launch} {D : va_G} {I : Nat → ClassId} {ad : Nat} {R : Room} {A : Nat → Prop} {K : KX} {cc : ByteArray} {own : String} {rt : Option FieldType} {Ts : List Cond} {nL : Nat} {pc : Nat} {lv : List (Nat × Value)} {st : List Value} {ws : va_W} {cs ss : Nat} (X : FN D I ad A K cc own rt Ts nL) {C : String} {T : u_T} {N ci ix q0 a : Nat} {fs : List Value} {v : Value} (hin : ∀ w ∈ u_ws C T N, w ∈ Ts) (hc : vwCl[ci]? = some (C, T, N)) (k : Nat) (hk : k < N) (he : ws[q0]? = some (a, .inr (ci, fs))) (hv : fs[k]? = some v) (hlink : Cond.fieldLink own ix (T k).1 (T k).2.1 (T k).2.2.1 ∈ Ts) (hdg : decode cc pc = .ok (.getfield ix, 3)) (kk : VN l D R A K nL (pc+3) lv (v :: st) ws cs ss) : VN l D R A K nL pc lv (.ref a :: st) ws cs ss := by
  obtain ⟨p, e, s, m, args, below, meth, c, Q⟩ := K
  obtain ⟨hx, hb, hr, hml, hown, hts, hlk, hK, hZ, hA⟩ := X
  intro H locs ls hP hD hS hl
  exact va_get hx hb hts hin hown hK hP q0 he hc k hk (hts _ hlink) (fun _ h => h) hv hdg (kk H locs ls hP hD hS hl)
theorem n_new {l : Launch} {D : va_G} {I : Nat → ClassId} {ad : Nat} {R : Room} {A : Nat → Prop} {K : KX} {cc : ByteArray} {own : String} {rt : Option FieldType} {Ts : List Cond} {nL : Nat} {pc : Nat} {lv : List (Nat × Value)} {st : List Value} {ws : va_W} {cs ss : Nat} (X : FN D I ad A K cc own rt Ts nL) {C : String} {T : u_T} {N ci ix : Nat} {fs : List Value} (hin : ∀ w ∈ u_ws C T N, w ∈ Ts) (ty0 : Nat → FieldType) (hty : ∀ k, k < N → parseFieldDescriptor (T k).2.2.1 = some (ty0 k)) (hc : vwCl[ci]? = some (C, T, N)) (hfs : ∀ j, j < N → defaultValue (ty0 j) = vp_V fs j) (h1 : Cond.classLink own ix C ∈ Ts) (h2 : Cond.instantiable C N ∈ Ts) (h3 : Cond.initialized C ∈ Ts) (hcs : cs + 1 ≤ R.cells) (hss : ss + N ≤ R.slots) (hdg : decode cc pc = .ok (.new ix, 3)) (kk : ∀ q, VN l D R A K nL (pc+3) lv (.ref q :: st) (ws ++ [(q, .inr (ci, fs))]) (cs + 1) (ss + N)) : VN l D R A K nL pc lv st ws cs ss := by
  obtain ⟨p, e, s, m, args, below, meth, c, Q⟩ := K
  obtain ⟨hx, hb, hr, hml, hown, hts, hlk, hK, hZ, hA⟩ := X
  intro H locs ls hP hD hS hl
  exact va_new hx hb hts hin ty0 hty hown (hts _ h1) (hts _ h2) (hts _ h3) hK hP hD hS hA hc hfs hcs hss hdg (fun q H1 hP1 hD1 hS1 => kk q H1 locs ls hP1 hD1 hS1 hl)
theorem n_newa {l : Launch} {D : va_G} {I : Nat → ClassId} {ad : Nat} {R : Room} {A : Nat → Prop} {K : KX} {cc : ByteArray} {own : String} {rt : Option FieldType} {Ts : List Cond} {nL : Nat} {pc : Nat} {lv : List (Nat × Value)} {st : List Value} {ws : va_W} {cs ss : Nat} (X : FN D I ad A K cc own rt Ts nL) {n : Int32} {N : Nat} (h1 : Cond.arrayClass .int ∈ Ts) (hn : ¬ n < 0) (hN : n.toNatClampNeg = N) (hby : N * 4 ≤ 536870912) (hcs : cs + 1 ≤ R.cells) (hss : ss + N ≤ R.slots) (hdg : decode cc pc = .ok (.newarray .int, 2)) (kk : ∀ q, VN l D R A K nL (pc+2) lv (.ref q :: st) (ws ++ [(q, .inl (I 0, N, .inl (fun _ => 0)))]) (cs + 1) (ss + N)) : VN l D R A K nL pc lv (.int n :: st) ws cs ss := by
  obtain ⟨p, e, s, m, args, below, meth, c, Q⟩ := K
  obtain ⟨hx, hb, hr, hml, hown, hts, hlk, hK, hZ, hA⟩ := X
  intro H locs ls hP hD hS hl
  refine va_newa (atype := .int) (ty := .int) (a0 := (N, .inl (fun _ => 0))) hx hb (hts _ h1) rfl hK hP hD hS hA (fun _ => rfl) hn hN hby hcs hss hdg (fun q cA H1 hK1 hP1 hD1 hS1 => ?_)
  have u1 : s.vm.findClass ("[" ++ (FieldType.int).toString) = some cA := (hK1.2 4 (cA, .int) rfl).2
  have u2 : s.vm.findClass ("[" ++ (FieldType.int).toString) = some (I 0) := (hK.2 0 (I 0, .int) rfl).2
  have e : cA = I 0 := Option.some.inj (u1.symm.trans u2)
  subst e
  exact kk q H1 locs ls hP1 hD1 hS1 hl
theorem n_newq {l : Launch} {D : va_G} {I : Nat → ClassId} {ad : Nat} {R : Room} {A : Nat → Prop} {K : KX} {cc : ByteArray} {own : String} {rt : Option FieldType} {Ts : List Cond} {nL : Nat} {pc : Nat} {lv : List (Nat × Value)} {st : List Value} {ws : va_W} {cs ss : Nat} (X : FN D I ad A K cc own rt Ts nL) {C : String} {ix j : Nat} {n : Int32} {N : Nat} (h1 : Cond.classLink own ix C ∈ Ts) (hj : (tyN I)[j]? = some (I j, .object C)) (hov : ∀ U, ZN ad U → va_AO C U) (hn : ¬ n < 0) (hN : n.toNatClampNeg = N) (hby : N * 4 ≤ 536870912) (hcs : cs + 1 ≤ R.cells) (hss : ss + N ≤ R.slots) (hdg : decode cc pc = .ok (.anewarray ix, 3)) (kk : ∀ q, VN l D R A K nL (pc+3) lv (.ref q :: st) (ws ++ [(q, .inl (I j, N, .inr (.inr (.inr (.inr (fun _ => none))))))]) (cs + 1) (ss + N)) : VN l D R A K nL pc lv (.int n :: st) ws cs ss := by
  obtain ⟨p, e, s, m, args, below, meth, c, Q⟩ := K
  obtain ⟨hx, hb, hr, hml, hown, hts, hlk, hK, hZ, hA⟩ := X
  intro H locs ls hP hD hS hl
  refine va_newq hx hb hown (hts _ h1) (hov s hZ) hK hP hD hS hA hn hN hby hcs hss hdg (fun q cA H1 hK1 hP1 hD1 hS1 => ?_)
  obtain ⟨_, _, _, _, _, u1⟩ := (hK1.2 4 (cA, .object C) rfl).2
  obtain ⟨_, _, _, _, _, u2⟩ := (hK.2 j (I j, .object C) hj).2
  have e : cA = I j := Option.some.inj (u1.symm.trans u2)
  subst e
  exact kk q H1 locs ls hP1 hD1 hS1 hl
theorem n_astq {l : Launch} {D : va_G} {I : Nat → ClassId} {ad : Nat} {R : Room} {A : Nat → Prop} {K : KX} {cc : ByteArray} {own : String} {rt : Option FieldType} {Ts : List Cond} {nL : Nat} {pc : Nat} {lv : List (Nat × Value)} {st : List Value} {ws : va_W} {cs ss : Nat} (X : FN D I ad A K cc own rt Ts nL) {q0 t0 qk ci a v n : Nat} {C : String} {T : u_T} {N : Nat} {cA : ClassId} {vs : List Value} {f : Nat → Option Nat} (ha : ws[q0]? = some (a, .inl (cA, n, .inr (.inr (.inr (.inr f)))))) (ht : (tyN I)[t0]? = some (cA, .object C)) (hv : ws[qk]? = some (v, .inr (ci, vs))) (hc : vwCl[ci]? = some (C, T, N)) {i : Int32} (hin : vp_in i n) {ws' : va_W} (hset : ws.set q0 (a, .inl (cA, n, .inr (.inr (.inr (.inr (va_up f i.toNatClampNeg (some v))))))) = ws') (hdg : decode cc pc = .ok (.aastore, 1)) (kk : VN l D R A K nL (pc+1) lv st ws' cs ss) : VN l D R A K nL pc lv (.ref v :: .int i :: .ref a :: st) ws cs ss := by
  obtain ⟨p, e, s, m, args, below, meth, c, Q⟩ := K
  obtain ⟨hx, hb, hr, hml, hown, hts, hlk, hK, hZ, hA⟩ := X
  intro H locs ls hP hD hS hl
  refine va_astq hx hb hK hP hD hS q0 t0 qk ci ha ht hv hc hin hdg (fun H1 locs1 hP1 hD1 hS1 => ?_)
  rw [hset] at hP1 hD1
  exact kk H1 locs1 ls hP1 hD1 hS1 hl
theorem n_iast {l : Launch} {D : va_G} {I : Nat → ClassId} {ad : Nat} {R : Room} {A : Nat → Prop} {K : KX} {cc : ByteArray} {own : String} {rt : Option FieldType} {Ts : List Cond} {nL : Nat} {pc : Nat} {lv : List (Nat × Value)} {st : List Value} {ws : va_W} {cs ss : Nat} (X : FN D I ad A K cc own rt Ts nL) {q0 a n : Nat} {f : Nat → Int32} (ha : ws[q0]? = some (a, .inl (I 0, n, .inl f))) {i x : Int32} (hin : vp_in i n) {ws' : va_W} (hset : ws.set q0 (a, .inl (I 0, n, .inl (upd f i.toNatClampNeg x))) = ws') (hdg : decode cc pc = .ok (.iastore, 1)) (kk : VN l D R A K nL (pc+1) lv st ws' cs ss) : VN l D R A K nL pc lv (.int x :: .int i :: .ref a :: st) ws cs ss := by
  obtain ⟨p, e, s, m, args, below, meth, c, Q⟩ := K
  obtain ⟨hx, hb, hr, hml, hown, hts, hlk, hK, hZ, hA⟩ := X
  intro H locs ls hP hD hS hl
  refine va_iast hx hb hK hP hD hS q0 0 ha rfl hin hdg (fun H1 locs1 hP1 hD1 hS1 => ?_)
  rw [hset] at hP1 hD1
  exact kk H1 locs1 ls hP1 hD1 hS1 hl
theorem n_alen {l : Launch} {D : va_G} {I : Nat → ClassId} {ad : Nat} {R : Room} {A : Nat → Prop} {K : KX} {cc : ByteArray} {own : String} {rt : Option FieldType} {Ts : List Cond} {nL : Nat} {pc : Nat} {lv : List (Nat × Value)} {st : List Value} {ws : va_W} {cs ss : Nat} (X : FN D I ad A K cc own rt Ts nL) {q0 t0 a : Nat} {cA : ClassId} {x : vp_A} {ty : FieldType} (ha : ws[q0]? = some (a, .inl (cA, x))) (ht : (tyN I)[t0]? = some (cA, ty)) {v : Int32} (hv : Int32.ofNat x.1 = v) (hdg : decode cc pc = .ok (.arraylength, 1)) (kk : VN l D R A K nL (pc+1) lv (.int v :: st) ws cs ss) : VN l D R A K nL pc lv (.ref a :: st) ws cs ss := by
  obtain ⟨p, e, s, m, args, below, meth, c, Q⟩ := K
  obtain ⟨hx, hb, hr, hml, hown, hts, hlk, hK, hZ, hA⟩ := X
  intro H locs ls hP hD hS hl
  exact va_alen hx hb hK hP q0 t0 ha ht hv hdg (kk H locs ls hP hD hS hl)
theorem n_wsm {l : Launch} {D : va_G} {I : Nat → ClassId} {ad : Nat} {R : Room} {A : Nat → Prop} {K : KX} {cc : ByteArray} {own : String} {rt : Option FieldType} {Ts : List Cond} {nL : Nat} {pc : Nat} {lv : List (Nat × Value)} {st : List Value} {ws : va_W} {cs ss : Nat} (X : FN D I ad A K cc own rt Ts nL) (how : own = RX4) (hdg : decode cc pc = .ok (.ldc 25, 2)) (kk : VN l D R A K nL (pc+2) lv (.ref ad :: st) ws cs ss) : VN l D R A K nL pc lv st ws cs ss := by
  obtain ⟨p, e, s, m, args, below, meth, c, Q⟩ := K
  obtain ⟨hx, hb, hr, hml, hown, hts, hlk, hK, hZ, hA⟩ := X
  intro H locs ls hP hD hS hl
  subst how
  obtain ⟨-, -, -, -, -, -, -, -, -, h0⟩ := hZ
  exact va_ldcS hx hb hown h0 hdg (kk H locs ls hP hD hS hl)
/-- a constructor's contract, over whatever world -/
def CN (l : Launch) (D : va_G) (I : Nat → ClassId) (ad : Nat) (y : MethodName) (wy : List Cond) (n mcs mss : Nat) (ws : va_W) (as : List Value) (Post : va_W → Prop) : Prop := ∀ sz, Met l y wy (RN n mcs mss) (va_Pc as (fun U => U.heap.size = sz ∧ va_P D vwCl ws U.heap ∧ va_K D vwCl (tyN I) U ∧ ZN ad U ∧ va_D (fun _ => True) ws)) (va_Qv Post (fun u t => va_P D vwCl u t.heap ∧ va_D (va_A ws sz) u) (va_A ws sz)) mcs mss (va_A ws sz)
theorem CN_blind {D : va_G} {I : Nat → ClassId} {ad sz : Nat} {ws : va_W} {as : List Value} : FrameBlind (va_Pc as (fun U => U.heap.size = sz ∧ va_P D vwCl ws U.heap ∧ va_K D vwCl (tyN I) U ∧ ZN ad U ∧ va_D (fun _ => True) ws)) := fun a U g mk h => ⟨h.1, h.2.1, h.2.2.1, va_K.moved (u := U) (U := U.calling g mk a) (Vm.Alike.refl U.vm) h.2.2.2.1, h.2.2.2.2.1.calling, h.2.2.2.2.2⟩
theorem n_callI {l : Launch} {D : va_G} {I : Nat → ClassId} {ad : Nat} {R : Room} {A : Nat → Prop} {K : KX} {cc : ByteArray} {own : String} {rt : Option FieldType} {Ts : List Cond} {nL : Nat} {pc : Nat} {lv : List (Nat × Value)} {st : List Value} {ws : va_W} {cs ss : Nat} (X : FN D I ad A K cc own rt Ts nL) {ix : Nat} {y : MethodName} {wy : List Cond} {bytes : ByteArray} {maxL k n' mcs mss b : Nat} {As rest : List Value} {Post : va_W → Prop} (hM : CN l D I ad y wy n' mcs mss ws (.ref b :: As) Post) (hmd : MD y wy bytes maxL k none) (hG : GoodIn Ts wy) (hlink : Cond.methodLink own ix y ∈ Ts) (hini : Cond.initialized y.cls ∈ Ts) (hinst : Cond.instanceMethod y ∈ Ts) (hy : y.name = "<init>") (hf : n' + 1 ≤ R.frames) (hlo : 8 + (maxL + 11) + 40 * n' ≤ R.locals) (hk : As.length = k) (hst : st = As.reverse ++ .ref b :: rest) (hcat : (rest.map fun v => v.category).sum ≤ 8) (hcs : cs + mcs ≤ R.cells) (hss : ss + mss ≤ R.slots) (hdg : decode cc pc = .ok (.invokespecial ix, 3)) (kk : ∀ u, Post u → VN l D R A K nL (pc+3) lv rest u (cs + mcs) (ss + mss)) : VN l D R A K nL pc lv st ws cs ss := by
  obtain ⟨p, e, s, m, args, below, meth, c, Q⟩ := K
  obtain ⟨hx, hb, hr, hml, hown, hts, hlk, hK, hZ, hA⟩ := X
  intro H locs ls hP hD hS hl
  subst hst
  obtain ⟨⟨ws', hws⟩, hmd, -, hmx⟩ := hmd
  have hAA : ∀ q, va_A ws H.size q → A q := fun q hq => hq.elim (fun ⟨j, e, h⟩ => hD.2 j (q, e) h) (fun h => hA q (Nat.le_trans hS.1 h))
  refine va_callv (va_runI (As := As) (rest := rest) ⟨hx, hb, hml, hown, hts⟩ (hM H.size) (cwI k hts hG hws rfl rfl (hts _ hini) (hts _ hlink) (hts _ hinst) hy hmd ⟨hf, hlo⟩) ⟨CN_blind, fun U hU hW => ⟨rfl, by rw [hU], by rw [hU]; exact hP, va_K.moved hW.alike hK, hZ.warm hW, hD.weaken (fun _ _ _ _ => trivial)⟩⟩ rfl hk hl.1 rfl (lv_room hcat) hdg ⟨hcs, hss⟩) hS (fun q _ h => hAA q h) hAA (fun u t H1 locs1 ht hvm hw hB hz1 hk1 hS1 => ?_)
  have hP1 : va_P D vwCl u H1 := by rw [← ht]; exact hB.1
  exact kk u hw H1 locs1 ls hP1 (hB.2.weaken (fun _ q _ h => hAA q.1 h)) hS1 hl
theorem n_callN {l : Launch} {D : va_G} {I : Nat → ClassId} {ad : Nat} {R : Room} {A : Nat → Prop} {K : KX} {cc : ByteArray} {own : String} {rt : Option FieldType} {Ts : List Cond} {nL : Nat} {pc : Nat} {lv : List (Nat × Value)} {st : List Value} {ws : va_W} {cs ss : Nat} (X : FN D I ad A K cc own rt Ts nL) {ix : Nat} {y : MethodName} {wy : List Cond} {bytes : ByteArray} {maxL k n' mcs mss b : Nat} {As rest : List Value} {Post : va_W → Prop} (hM : CN l D I ad y wy n' mcs mss ws (.ref b :: As) Post) (hmd : MD y wy bytes maxL k none) (hG : GoodIn Ts wy) (hlink : ∀ U, ZN ad U → va_Nw (.methodLinkNest own ix y "StairCourt") U) (hini : Cond.initialized y.cls ∈ Ts) (hinst : Cond.instanceMethod y ∈ Ts) (hy : y.name = "<init>") (hf : n' + 1 ≤ R.frames) (hlo : 8 + (maxL + 11) + 40 * n' ≤ R.locals) (hk : As.length = k) (hst : st = As.reverse ++ .ref b :: rest) (hcat : (rest.map fun v => v.category).sum ≤ 8) (hcs : cs + mcs ≤ R.cells) (hss : ss + mss ≤ R.slots) (hdg : decode cc pc = .ok (.invokespecial ix, 3)) (kk : ∀ u, Post u → VN l D R A K nL (pc+3) lv rest u (cs + mcs) (ss + mss)) : VN l D R A K nL pc lv st ws cs ss := by
  obtain ⟨p, e, s, m, args, below, meth, c, Q⟩ := K
  obtain ⟨hx, hb, hr, hml, hown, hts, hlk, hK, hZ, hA⟩ := X
  intro H locs ls hP hD hS hl
  subst hst
  obtain ⟨⟨ws', hws⟩, hmd, -, hmx⟩ := hmd
  have hAA : ∀ q, va_A ws H.size q → A q := fun q hq => hq.elim (fun ⟨j, e, h⟩ => hD.2 j (q, e) h) (fun h => hA q (Nat.le_trans hS.1 h))
  refine va_callv (va_runIN (As := As) (rest := rest) ⟨hx, hb, hml, hown, hts⟩ (hM H.size) ⟨va_cnB k hts hG hws rfl rfl (hlink s hZ) (hts _ hini) hmd ⟨hf, hlo⟩, hy, hts _ hinst⟩ ⟨CN_blind, fun U hU hW => ⟨rfl, by rw [hU], by rw [hU]; exact hP, va_K.moved hW.alike hK, hZ.warm hW, hD.weaken (fun _ _ _ _ => trivial)⟩⟩ rfl hk hl.1 rfl (lv_room hcat) hdg ⟨hcs, hss⟩) hS (fun q _ h => hAA q h) hAA (fun u t H1 locs1 ht hvm hw hB hz1 hk1 hS1 => ?_)
  have hP1 : va_P D vwCl u H1 := by rw [← ht]; exact hB.1
  exact kk u hw H1 locs1 ls hP1 (hB.2.weaken (fun _ q _ h => hAA q.1 h)) hS1 hl
def RvN (D : va_G) (A : Nat → Prop) (K : KX) (mcs mss : Nat) (Post : va_W → Prop) : Prop := match K with
  | (_, _, s, _, args, below, _, _, Q) => Q = MQ below (va_Qv Post (fun u t => va_P D vwCl u t.heap ∧ va_D A u) A) args s mcs mss A
theorem n_ret {l : Launch} {D : va_G} {I : Nat → ClassId} {ad : Nat} {R : Room} {A : Nat → Prop} {K : KX} {cc : ByteArray} {own : String} {rt : Option FieldType} {Ts : List Cond} {nL : Nat} {pc : Nat} {lv : List (Nat × Value)} {st : List Value} {ws : va_W} {cs ss : Nat} (X : FN D I ad A K cc own rt Ts nL) (hrt : rt = none) {Post : va_W → Prop} (hR : RvN D A K cs ss Post) (h : Post ws) (hdg : decode cc pc = .ok (.return_, 1)) : VN l D R A K nL pc lv [] ws cs ss := by
  obtain ⟨p, e, s, m, args, below, meth, c, Q⟩ := K
  obtain ⟨hx, hb, hr, hml, hown, hts, hlk, hK, hZ, hA⟩ := X
  subst hR
  intro H locs ls hP hD hS hl
  exact W.vret hx hb (hr.trans hrt) (fun t ht hW => ⟨⟨ws, rfl, h, by show va_P _ _ _ _; rw [ht]; exact hP, hD⟩, hS.F ht⟩) hS.2.2 hdg
theorem CN_of {l : Launch} {D : va_G} {I : Nat → ClassId} {ad : Nat} {y : MethodName} {wy : List Cond} {n mcs mss : Nat} {ws : va_W} {as : List Value} {Post : va_W → Prop} {cc : ByteArray} {maxL k : Nat} (hmd : MD y wy cc maxL k none) (hy : y.name = "<init>") (hlen : (lg_sl as).length ≤ maxL) (body : ∀ (K : KX) (A : Nat → Prop), FN D I ad A K cc y.cls none wy maxL → nmK K → RvN D A K mcs mss Post → VN l D (RN n mcs mss) A K maxL 0 (lv_args 0 as) [] ws 0 0) : CN l D I ad y wy n mcs mss ws as Post := by
  intro sz
  obtain ⟨⟨ws', hws⟩, hd, hpl, hmx⟩ := hmd
  refine Met.ofW (cc := cc) (maxL := maxL) (ret := none) hpl hws ?_
  intro p e s m args below meth c s₁ B hml hv
  obtain ⟨rfl, hsz, hP, hK, hZ, hD0⟩ := hv
  subst hsz
  have hts := atoms_spec (ws := wy) B.pre
  have hin : meth.name = "<init>" := ((name_of_methodNamed B.named B.method).1).trans hy
  have hown : s.vm.findClass y.cls = some m.cls := findClass_of_methodNamed B.named
  have hl := lv_entry as (n := maxL) hlen
  rw [lg_entry_eq]
  exact body (p, e, s, m, as.toArray, below, meth, c, MQ below (va_Qv Post (fun u t => va_P D vwCl u t.heap ∧ va_D (va_A ws s.heap.size) u) (va_A ws s.heap.size)) as.toArray s mcs mss (va_A ws s.heap.size)) (va_A ws s.heap.size) ⟨B.exec, B.bytes, B.returns, hml, hown, hts, B.notSynchronized, hK, hZ, fun q hq => Or.inr hq⟩ hin rfl s.heap [] _ hP hD0.self va_S.rf hl
