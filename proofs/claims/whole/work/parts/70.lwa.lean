/-! THE CLAIM OUT OF ONE WALK OF THE LAW'S BODY. Your part is whole_start (and what it stands on); all else here is the same for every law, but numbers. -/
def R_law : String := "StairCourtLaw"
def lw_P (b : Addr) (xs : List Int32) (args : Array Value) (s : State) : Prop := args = #[.ref b] ∧ s.IntsAt b xs ∧ xs.length ≤ 3072 ∧ (Jvm.Cond.and given_1 narrow_1).before args s = true
def lw_Q (_ : Array Value) (s : State) (o : Outcome) (t : State) : Prop := o = .returned (some (.int 1)) ∧ Framed s o t [] 600000 7302250
def lw_Z (below : List Frame) (a : Array Value) (s : State) : State → Prop := fun t => ∃ o, t.status = .running ∧ Ended t below o ∧ lw_Q a s o t
/-- the law's own end, with 1 on the stack, nothing written that was there before, its room as the claim has it -/
theorem lw_ret {p : Program} {l : Launch} {e : Env} {s : State} {m : MethodId} {below : List Frame} {meth : Method} {c : Code} {b : Nat} (hx : p.tables.exec = Jvm.exec) (hb : c.code = code) (hr : meth.sig.returnType = ret) (hlocks : meth.locks = false) {pc : Nat} {H : Heap} {ls : Array Slot} (hdg : decode code pc = .ok (.ireturn, 1)) : W p l e room_1 s m #[Value.ref b] below meth c H [] 600000 7302250 (lw_Z below #[Value.ref b] s) (F0 m pc ls [.int 1]) := by
  intro T hT X
  obtain ⟨fs, hret, hrun, hended, hW, hframe⟩ := X.leave (v := some (.int 1)) (hlocks := hlocks) (fun h => by rw [hr] at h; cases h)
  have hmeth' : T.vm.method? m = some meth := X.method'
  refine ⟨T.setFrames fs, ?_, .returned (some (.int 1)), hrun, hended, rfl, ⟨_, rfl⟩, hW, hframe⟩
  jvm_step X.here [X.here.top, hx, hb, hdg, hmeth', hr, ret, narrow_b1]
  (try refine ⟨rfl, ?_⟩); (try refine ⟨rfl, ?_⟩)
  first | (intro acts; rw [hret _ acts rfl rfl rfl]) | rw [hret _ _ rfl rfl rfl]
  exact Steps.refl _
/-- what holds at the law's entry: the machine, the code, the tables' words (any of lw_tbl by 'hts w (by decide +kernel)'), the script of L ints xs at the cell b, what the Statement gives of the start (any of its parts by flat_of_before) -/
def lw_At (p : Program) (s : State) (m : MethodId) (meth : Method) (c : Code) (b L : Nat) (xs : Nat → Int32) : Prop :=
  p.tables.exec = Jvm.exec ∧ c.code = code ∧ meth.sig.returnType = ret ∧ c.maxLocals = 4 ∧ s.vm.findClass R_law = some m.cls ∧ (∀ w ∈ lw_tbl, w.before #[Value.ref b] s = true) ∧ va_X b L xs s s.heap ∧ b < s.heap.size ∧ meth.locks = false ∧ (Jvm.Cond.and given_1 narrow_1).before #[Value.ref b] s = true
def LA (s : State) : Nat → Prop := fun q => s.heap.size ≤ q
def VL (l : Launch) (G : GX) (K : KX) (pc : Nat) (lv : List (Nat × Value)) (st : List Value) (σ : MM) : Prop := match K with
  | (p, e, s, m, args, below, meth, c, Q) => ∀ (H : Heap) (locs : List Loc) (ls : Array Slot), va_P G.2.1 vwCl (wl G σ) H → va_S (LA s) s.heap H locs → lv_has ls 4 lv → W p l e room_1 s m args below meth c H locs 143 3581 Q (F0 m pc ls st)
def FL (G : GX) (K : KX) (b L : Nat) (xs : Nat → Int32) : Prop := match K with
  | (p, _, s, m, args, _, meth, c, _) => p.tables.exec = Jvm.exec ∧ c.code = cL_law ∧ meth.sig.returnType = ret ∧ c.maxLocals = 4 ∧ s.vm.findClass RL = some m.cls ∧ (∀ w ∈ wsL_law, w.before args s = true) ∧ meth.locks = false ∧ (va_K G.2.1 vwCl (tyl G) s ∧ gI G ∧ EV0 G (LA s) s s.heap ∧ EVr G s ∧ ∀ i, i < 143 → s.heap.size ≤ G.1 i) ∧ va_X b L xs s s.heap ∧ b < s.heap.size
theorem EVL {G : GX} {s U : State} {H : Heap} {locs : List Loc} (h : va_K G.2.1 vwCl (tyl G) s ∧ gI G ∧ EV0 G (LA s) s s.heap ∧ EVr G s ∧ ∀ i, i < 143 → s.heap.size ≤ G.1 i) (hS : va_S (LA s) s.heap H locs) (hU : U.heap = H) (hW : s.WarmedH U.vm) : EV G U := by
  subst hU
  obtain ⟨hK, hG, h0, hr, hn⟩ := h
  refine ⟨va_K.moved hW.alike hK, hG, ?_, hr.1.warm hW, hr.2.1.warm hW, hr.2.2.1.warmF hW, hr.2.2.2.1.warmM hW, hr.2.2.2.2.warmM hW⟩
  refine ((h0.kept hS.2.1).moved hW.alike).narrow ?_
  intro q hq
  rcases hq with ⟨i, h1, h2⟩ | h2
  · rw [h2]; exact hn i h1
  · exact Nat.le_trans hS.1 h2
theorem l_iconst {l : Launch} {G : GX} {K : KX} {b L : Nat} {xs : Nat → Int32} {pc : Nat} {lv : List (Nat × Value)} {st : List Value} {σ : MM} (X : FL G K b L xs) {i : Int} {v : Int32} (hdg : decode cL_law pc = .ok (.iconst i, 1)) (hv : Int32.ofInt i = v) (k : VL l G K (pc+1) lv (.int v :: st) σ) : VL l G K pc lv st σ := by
  obtain ⟨p, e, s, m, args, below, meth, c, Q⟩ := K
  obtain ⟨hx, hb, hr, hml, hown, hts, hlk, hE, hX, hbl⟩ := X
  intro H locs ls hP hS hl
  exact lv_iconst hx hb hdg hv (k H locs ls hP hS hl)
theorem l_bipush {l : Launch} {G : GX} {K : KX} {b L : Nat} {xs : Nat → Int32} {pc : Nat} {lv : List (Nat × Value)} {st : List Value} {σ : MM} (X : FL G K b L xs) {i : Int} {v : Int32} (hdg : decode cL_law pc = .ok (.bipush i, 2)) (hv : (Int8.ofInt i).toInt32 = v) (k : VL l G K (pc+2) lv (.int v :: st) σ) : VL l G K pc lv st σ := by
  obtain ⟨p, e, s, m, args, below, meth, c, Q⟩ := K
  obtain ⟨hx, hb, hr, hml, hown, hts, hlk, hE, hX, hbl⟩ := X
  intro H locs ls hP hS hl
  exact lv_bipush hx hb hdg hv (k H locs ls hP hS hl)
theorem l_iload_n {l : Launch} {G : GX} {K : KX} {b L : Nat} {xs : Nat → Int32} {pc : Nat} {lv : List (Nat × Value)} {st : List Value} {σ : MM} (X : FL G K b L xs) {k : Fin 4} {x : Int32} (hdg : decode cL_law pc = .ok (.iload_n k, 1)) (j : Nat) (hj : lv[j]? = some ((k : Nat), .int x)) (k : VL l G K (pc+1) lv (.int x :: st) σ) : VL l G K pc lv st σ := by
  obtain ⟨p, e, s, m, args, below, meth, c, Q⟩ := K
  obtain ⟨hx, hb, hr, hml, hown, hts, hlk, hE, hX, hbl⟩ := X
  intro H locs ls hP hS hl
  exact lv_iload_n hx hb hdg rfl (lv_at hl j hj) (k H locs ls hP hS hl)
theorem l_aload_n {l : Launch} {G : GX} {K : KX} {b L : Nat} {xs : Nat → Int32} {pc : Nat} {lv : List (Nat × Value)} {st : List Value} {σ : MM} (X : FL G K b L xs) {k : Fin 4} {x : Value} (hdg : decode cL_law pc = .ok (.aload_n k, 1)) (j : Nat) (hj : lv[j]? = some ((k : Nat), x)) (hv : IsR x) (k : VL l G K (pc+1) lv (x :: st) σ) : VL l G K pc lv st σ := by
  obtain ⟨p, e, s, m, args, below, meth, c, Q⟩ := K
  obtain ⟨hx, hb, hr, hml, hown, hts, hlk, hE, hX, hbl⟩ := X
  intro H locs ls hP hS hl
  rcases hv with rfl | ⟨a, rfl⟩
  · exact lv_aload_nN hx hb hdg rfl (lv_at hl j hj) (k H locs ls hP hS hl)
  · exact lv_aload_n hx hb hdg rfl (lv_at hl j hj) (k H locs ls hP hS hl)
theorem l_iadd {l : Launch} {G : GX} {K : KX} {b L : Nat} {xs : Nat → Int32} {pc : Nat} {lv : List (Nat × Value)} {st : List Value} {σ : MM} (X : FL G K b L xs) {x y : Int32} (hdg : decode cL_law pc = .ok (.iadd, 1)) (k : VL l G K (pc+1) lv (.int (x + y) :: st) σ) : VL l G K pc lv (.int y :: .int x :: st) σ := by
  obtain ⟨p, e, s, m, args, below, meth, c, Q⟩ := K
  obtain ⟨hx, hb, hr, hml, hown, hts, hlk, hE, hX, hbl⟩ := X
  intro H locs ls hP hS hl
  exact lv_iadd hx hb hdg (k H locs ls hP hS hl)
theorem l_isub {l : Launch} {G : GX} {K : KX} {b L : Nat} {xs : Nat → Int32} {pc : Nat} {lv : List (Nat × Value)} {st : List Value} {σ : MM} (X : FL G K b L xs) {x y : Int32} (hdg : decode cL_law pc = .ok (.isub, 1)) (k : VL l G K (pc+1) lv (.int (x - y) :: st) σ) : VL l G K pc lv (.int y :: .int x :: st) σ := by
  obtain ⟨p, e, s, m, args, below, meth, c, Q⟩ := K
  obtain ⟨hx, hb, hr, hml, hown, hts, hlk, hE, hX, hbl⟩ := X
  intro H locs ls hP hS hl
  exact lv_isub hx hb hdg (k H locs ls hP hS hl)
theorem l_iand {l : Launch} {G : GX} {K : KX} {b L : Nat} {xs : Nat → Int32} {pc : Nat} {lv : List (Nat × Value)} {st : List Value} {σ : MM} (X : FL G K b L xs) {x y : Int32} (hdg : decode cL_law pc = .ok (.iand, 1)) (k : VL l G K (pc+1) lv (.int (x &&& y) :: st) σ) : VL l G K pc lv (.int y :: .int x :: st) σ := by
  obtain ⟨p, e, s, m, args, below, meth, c, Q⟩ := K
  obtain ⟨hx, hb, hr, hml, hown, hts, hlk, hE, hX, hbl⟩ := X
  intro H locs ls hP hS hl
  exact lv_iand hx hb hdg (k H locs ls hP hS hl)
theorem l_iinc {l : Launch} {G : GX} {K : KX} {b L : Nat} {xs : Nat → Int32} {pc : Nat} {lv lv' : List (Nat × Value)} {st : List Value} {σ : MM} (X : FL G K b L xs) {i : Nat} {d : Int} {x v : Int32} (hdg : decode cL_law pc = .ok (.iinc i d, 3)) (j : Nat) (hj : lv[j]? = some (i, .int x)) (hv : x + Int32.ofInt d = v) (hn : i < 4) (hl' : (i, Value.int v) :: lv.filter (fun q => !(q.1 == i) && !(q.1 + 1 == i && q.2.category == 2)) = lv') (k : VL l G K (pc+3) lv' st σ) : VL l G K pc lv st σ := by
  obtain ⟨p, e, s, m, args, below, meth, c, Q⟩ := K
  obtain ⟨hx, hb, hr, hml, hown, hts, hlk, hE, hX, hbl⟩ := X
  intro H locs ls hP hS hl
  exact lv_iinc hx hb hdg hl hj hv hn hl' (fun ls hl => k H locs ls hP hS hl)
theorem l_goto {l : Launch} {G : GX} {K : KX} {b L : Nat} {xs : Nat → Int32} {pc : Nat} {lv : List (Nat × Value)} {st : List Value} {σ : MM} (X : FL G K b L xs) {off : Int} {tgt : Nat} (hdg : decode cL_law pc = .ok (.goto off, 3)) (ht : (pc : Int) + off = (tgt : Int)) (k : VL l G K tgt lv st σ) : VL l G K pc lv st σ := by
  obtain ⟨p, e, s, m, args, below, meth, c, Q⟩ := K
  obtain ⟨hx, hb, hr, hml, hown, hts, hlk, hE, hX, hbl⟩ := X
  intro H locs ls hP hS hl
  exact lv_goto hx hb hdg ht (k H locs ls hP hS hl)
theorem l_icmp_eq {l : Launch} {G : GX} {K : KX} {b L : Nat} {xs : Nat → Int32} {pc : Nat} {lv : List (Nat × Value)} {st : List Value} {σ : MM} (X : FL G K b L xs) {x y : Int32} {off : Int} {tgt : Nat} (hdg : decode cL_law pc = .ok (.if_icmp .eq off, 3)) (ht : (pc : Int) + off = (tgt : Int)) (kt : x = y → VL l G K tgt lv st σ) (kf : ¬ x = y → VL l G K (pc+3) lv st σ) : VL l G K pc lv (.int y :: .int x :: st) σ := by
  obtain ⟨p, e, s, m, args, below, meth, c, Q⟩ := K
  obtain ⟨hx, hb, hr, hml, hown, hts, hlk, hE, hX, hbl⟩ := X
  intro H locs ls hP hS hl
  exact lv_icmp_eq hx hb hdg ht (fun q => kt q H locs ls hP hS hl) (fun q => kf q H locs ls hP hS hl)
theorem l_icmp_gt {l : Launch} {G : GX} {K : KX} {b L : Nat} {xs : Nat → Int32} {pc : Nat} {lv : List (Nat × Value)} {st : List Value} {σ : MM} (X : FL G K b L xs) {x y : Int32} {off : Int} {tgt : Nat} (hdg : decode cL_law pc = .ok (.if_icmp .gt off, 3)) (ht : (pc : Int) + off = (tgt : Int)) (kt : y < x → VL l G K tgt lv st σ) (kf : ¬ y < x → VL l G K (pc+3) lv st σ) : VL l G K pc lv (.int y :: .int x :: st) σ := by
  obtain ⟨p, e, s, m, args, below, meth, c, Q⟩ := K
  obtain ⟨hx, hb, hr, hml, hown, hts, hlk, hE, hX, hbl⟩ := X
  intro H locs ls hP hS hl
  exact lv_icmp_gt hx hb hdg ht (fun q => kt q H locs ls hP hS hl) (fun q => kf q H locs ls hP hS hl)
theorem l_if_eq {l : Launch} {G : GX} {K : KX} {b L : Nat} {xs : Nat → Int32} {pc : Nat} {lv : List (Nat × Value)} {st : List Value} {σ : MM} (X : FL G K b L xs) {x : Int32} {off : Int} {tgt : Nat} (hdg : decode cL_law pc = .ok (.ifCond .eq off, 3)) (ht : (pc : Int) + off = (tgt : Int)) (kt : x = 0 → VL l G K tgt lv st σ) (kf : ¬ x = 0 → VL l G K (pc+3) lv st σ) : VL l G K pc lv (.int x :: st) σ := by
  obtain ⟨p, e, s, m, args, below, meth, c, Q⟩ := K
  obtain ⟨hx, hb, hr, hml, hown, hts, hlk, hE, hX, hbl⟩ := X
  intro H locs ls hP hS hl
  exact lv_if_eq hx hb hdg ht (fun q => kt q H locs ls hP hS hl) (fun q => kf q H locs ls hP hS hl)
theorem l_tableIn {l : Launch} {G : GX} {K : KX} {b L : Nat} {xs : Nat → Int32} {pc : Nat} {lv : List (Nat × Value)} {st : List Value} {σ : MM} (X : FL G K b L xs) {dflt lo hi : Int} {offs : Array Int} {len : Nat} {x : Int32} {off : Int} {tgt : Nat} (hdg : decode cL_law pc = .ok (.tableswitch dflt lo hi offs, len)) (h1 : ¬ x.toInt < lo) (h2 : ¬ hi < x.toInt) (ho : offs[(x.toInt - lo).toNat]? = some off) (ht : (pc : Int) + off = (tgt : Int)) (k : VL l G K tgt lv st σ) : VL l G K pc lv (.int x :: st) σ := by
  obtain ⟨p, e, s, m, args, below, meth, c, Q⟩ := K
  obtain ⟨hx, hb, hr, hml, hown, hts, hlk, hE, hX, hbl⟩ := X
  intro H locs ls hP hS hl
  exact lv_tableIn hx hb hdg h1 h2 ho ht (k H locs ls hP hS hl)
theorem l_tableOut {l : Launch} {G : GX} {K : KX} {b L : Nat} {xs : Nat → Int32} {pc : Nat} {lv : List (Nat × Value)} {st : List Value} {σ : MM} (X : FL G K b L xs) {dflt lo hi : Int} {offs : Array Int} {len : Nat} {x : Int32} {tgt : Nat} (hdg : decode cL_law pc = .ok (.tableswitch dflt lo hi offs, len)) (h : x.toInt < lo ∨ hi < x.toInt) (ht : (pc : Int) + dflt = (tgt : Int)) (k : VL l G K tgt lv st σ) : VL l G K pc lv (.int x :: st) σ := by
  obtain ⟨p, e, s, m, args, below, meth, c, Q⟩ := K
  obtain ⟨hx, hb, hr, hml, hown, hts, hlk, hE, hX, hbl⟩ := X
  intro H locs ls hP hS hl
  exact lv_tableOut hx hb hdg h ht (k H locs ls hP hS hl)
theorem l_i2l {l : Launch} {G : GX} {K : KX} {b L : Nat} {xs : Nat → Int32} {pc : Nat} {lv : List (Nat × Value)} {st : List Value} {σ : MM} (X : FL G K b L xs) {x : Int32} (hdg : decode cL_law pc = .ok (.i2l, 1)) (k : VL l G K (pc+1) lv (.long x.toInt64 :: st) σ) : VL l G K pc lv (.int x :: st) σ := by
  obtain ⟨p, e, s, m, args, below, meth, c, Q⟩ := K
  obtain ⟨hx, hb, hr, hml, hown, hts, hlk, hE, hX, hbl⟩ := X
  intro H locs ls hP hS hl
  exact lv_i2l hx hb hdg rfl (k H locs ls hP hS hl)
theorem l_ldc2 {l : Launch} {G : GX} {K : KX} {b L : Nat} {xs : Nat → Int32} {pc : Nat} {lv : List (Nat × Value)} {st : List Value} {σ : MM} (X : FL G K b L xs) {ix : Nat} {v : Int64} (hc : Cond.constantLong RL ix v ∈ wsL_law) (hdg : decode cL_law pc = .ok (.ldc2_w ix, 3)) (k : VL l G K (pc+3) lv (.long v :: st) σ) : VL l G K pc lv st σ := by
  obtain ⟨p, e, s, m, args, below, meth, c, Q⟩ := K
  obtain ⟨hx, hb, hr, hml, hown, hts, hlk, hE, hX, hbl⟩ := X
  intro H locs ls hP hS hl
  exact lv_ldc2 hx hb hown (hts _ hc) hdg (k H locs ls hP hS hl)
theorem l_land {l : Launch} {G : GX} {K : KX} {b L : Nat} {xs : Nat → Int32} {pc : Nat} {lv : List (Nat × Value)} {st : List Value} {σ : MM} (X : FL G K b L xs) {x y : Int64} (hdg : decode cL_law pc = .ok (.land, 1)) (k : VL l G K (pc+1) lv (.long (x &&& y) :: st) σ) : VL l G K pc lv (.long y :: .long x :: st) σ := by
  obtain ⟨p, e, s, m, args, below, meth, c, Q⟩ := K
  obtain ⟨hx, hb, hr, hml, hown, hts, hlk, hE, hX, hbl⟩ := X
  intro H locs ls hP hS hl
  exact lv_land hx hb hdg (k H locs ls hP hS hl)
theorem l_lcmp {l : Launch} {G : GX} {K : KX} {b L : Nat} {xs : Nat → Int32} {pc : Nat} {lv : List (Nat × Value)} {st : List Value} {σ : MM} (X : FL G K b L xs) {x y : Int64} (hdg : decode cL_law pc = .ok (.lcmp, 1)) (k : VL l G K (pc+1) lv (.int (lg_cmp x y) :: st) σ) : VL l G K pc lv (.long y :: .long x :: st) σ := by
  obtain ⟨p, e, s, m, args, below, meth, c, Q⟩ := K
  obtain ⟨hx, hb, hr, hml, hown, hts, hlk, hE, hX, hbl⟩ := X
  intro H locs ls hP hS hl
  exact W.lcmp hx hb hdg (k H locs ls hP hS hl)
theorem l_lshl {l : Launch} {G : GX} {K : KX} {b L : Nat} {xs : Nat → Int32} {pc : Nat} {lv : List (Nat × Value)} {st : List Value} {σ : MM} (X : FL G K b L xs) {x : Int64} {y : Int32} (hdg : decode cL_law pc = .ok (.lshl, 1)) (k : VL l G K (pc+1) lv (.long (x <<< (y.toInt64 &&& 63)) :: st) σ) : VL l G K pc lv (.int y :: .long x :: st) σ := by
  obtain ⟨p, e, s, m, args, below, meth, c, Q⟩ := K
  obtain ⟨hx, hb, hr, hml, hown, hts, hlk, hE, hX, hbl⟩ := X
  intro H locs ls hP hS hl
  exact lv_lshl hx hb hdg rfl (k H locs ls hP hS hl)
theorem l_lor {l : Launch} {G : GX} {K : KX} {b L : Nat} {xs : Nat → Int32} {pc : Nat} {lv : List (Nat × Value)} {st : List Value} {σ : MM} (X : FL G K b L xs) {x y : Int64} (hdg : decode cL_law pc = .ok (.lor, 1)) (k : VL l G K (pc+1) lv (.long (x ||| y) :: st) σ) : VL l G K pc lv (.long y :: .long x :: st) σ := by
  obtain ⟨p, e, s, m, args, below, meth, c, Q⟩ := K
  obtain ⟨hx, hb, hr, hml, hown, hts, hlk, hE, hX, hbl⟩ := X
  intro H locs ls hP hS hl
  exact lv_lor hx hb hdg (k H locs ls hP hS hl)
theorem l_slen {l : Launch} {G : GX} {K : KX} {b L : Nat} {xs : Nat → Int32} {pc : Nat} {lv : List (Nat × Value)} {st : List Value} {σ : MM} (X : FL G K b L xs) (hdg : decode cL_law pc = .ok (.arraylength, 1)) (k : VL l G K (pc+1) lv (.int (nI L) :: st) σ) : VL l G K pc lv (.ref b :: st) σ := by
  obtain ⟨p, e, s, m, args, below, meth, c, Q⟩ := K
  obtain ⟨hx, hb, hr, hml, hown, hts, hlk, hE, hX, hbl⟩ := X
  intro H locs ls hP hS hl
  exact va_slen hx hb hX hbl (fun h => absurd hbl (Nat.not_lt.mpr h)) hS hdg (k H locs ls hP hS hl)
theorem l_sld {l : Launch} {G : GX} {K : KX} {b L : Nat} {xs : Nat → Int32} {pc : Nat} {lv : List (Nat × Value)} {st : List Value} {σ : MM} (X : FL G K b L xs) {i : Int32} (q : Nat) (hi : i = nI q) (hq : q < L) (hL : L ≤ 3072) (hdg : decode cL_law pc = .ok (.iaload, 1)) (k : VL l G K (pc+1) lv (.int (xs q) :: st) σ) : VL l G K pc lv (.int i :: .ref b :: st) σ := by
  obtain ⟨p, e, s, m, args, below, meth, c, Q⟩ := K
  obtain ⟨hx, hb, hr, hml, hown, hts, hlk, hE, hX, hbl⟩ := X
  subst hi
  intro H locs ls hP hS hl
  refine va_sld hx hb hX hbl (fun h => absurd hbl (Nat.not_lt.mpr h)) hS (ixN hq (by omega)) hdg ?_
  rw [nI_cl (by omega)]
  exact k H locs ls hP hS hl
theorem l_callVi {l : Launch} {G : GX} {K : KX} {b L : Nat} {xs : Nat → Int32} {pc : Nat} {lv : List (Nat × Value)} {st : List Value} {σ : MM} (X : FL G K b L xs) {C : String} {T : u_T} {N ci i : Nat} {fs : List Value} {ix : Nat} {y : MethodName} {ws : List Cond} {bytes : ByteArray} {maxL k n' : Nat} {rty : Option FieldType} {As rest : List Value} {o : Option (Int32 × MM)} (hM : CTi l G y ws n' (.ref (G.1 i) :: As) σ o) (hmd : MD y ws bytes maxL k rty) (hT : GoodIn wsL_law (wsV RL ix C y ws)) (hn : n' ≤ 2000) (hC : y.cls = C) (hc : vwCl[ci]? = some (C, T, N)) (hi : i < 143) (hE2 : EE G i (σ i) = .inr (ci, fs)) (hk : As.length = k) (hst : st = As.reverse ++ .ref (G.1 i) :: rest) (hcat : (rest.map fun v => v.category).sum ≤ 8) (hdg : decode cL_law pc = .ok (.invokevirtual ix, 3)) (kk : ∀ (r : Int32) (u : MM), o = some (r, u) → VL l G K (pc + 3) lv (.int r :: rest) u) : VL l G K pc lv st σ := by
  obtain ⟨p, e, s, m, args, below, meth, c, Q⟩ := K
  obtain ⟨hx, hb, hr, hml, hown, hts, hlk, hE, hX, hbl⟩ := X
  subst hst
  intro H locs ls hP hS hl
  obtain ⟨⟨ws', hws⟩, hmd, -, hmx⟩ := hmd
  have hg := wl_get (G := G) (σ := σ) hi
  rw [hE2] at hg
  have hA : ∀ q, FA G H.size q → LA s q := fun q hq => hq.elim (fun ⟨j, h1, h2⟩ => by rw [h2]; exact hE.2.2.2.2 j h1) (fun h => Nat.le_trans hS.1 h)
  refine va_calli (va_runV (As := As) (rest := rest) ⟨hx, hb, hml, hown, hts⟩ (hM H.size) (cwV k hts hT hws rfl rfl ⟨hC, hmd⟩ ⟨(show n' + 1 ≤ 2048 by omega), (show 8 + (maxL + 11) + 40 * n' ≤ 84000 by omega)⟩) ⟨CP_blind, va_recv hE.1 hP (ci := ci) (q0 := i) hc hg, fun U hU hW => ⟨rfl, by rw [hU], by rw [hU]; exact hP, EVL hE hS hU hW⟩⟩ rfl hk hl.1 rfl (lv_room hcat) hdg ⟨Nat.le_of_ble_eq_true rfl, Nat.le_of_ble_eq_true rfl⟩) hS (fun q _ h => hA q h) hA (fun r u t H1 locs1 ht hvm hw hB hz1 hk1 hS1 => ?_)
  have hP1 : va_P G.2.1 vwCl (wl G u) H1 := by rw [← ht]; exact hB
  exact kk r u hw H1 locs1 ls hP1 hS1 hl
theorem l_callVl {l : Launch} {G : GX} {K : KX} {b L : Nat} {xs : Nat → Int32} {pc : Nat} {lv : List (Nat × Value)} {st : List Value} {σ : MM} (X : FL G K b L xs) {C : String} {T : u_T} {N ci i : Nat} {fs : List Value} {ix : Nat} {y : MethodName} {ws : List Cond} {bytes : ByteArray} {maxL k n' : Nat} {rty : Option FieldType} {As rest : List Value} {o : Option (Int64 × MM)} (hM : CTl l G y ws n' (.ref (G.1 i) :: As) σ o) (hmd : MD y ws bytes maxL k rty) (hT : GoodIn wsL_law (wsV RL ix C y ws)) (hn : n' ≤ 2000) (hC : y.cls = C) (hc : vwCl[ci]? = some (C, T, N)) (hi : i < 143) (hE2 : EE G i (σ i) = .inr (ci, fs)) (hk : As.length = k) (hst : st = As.reverse ++ .ref (G.1 i) :: rest) (hcat : (rest.map fun v => v.category).sum ≤ 8) (hdg : decode cL_law pc = .ok (.invokevirtual ix, 3)) (kk : ∀ (r : Int64) (u : MM), o = some (r, u) → VL l G K (pc + 3) lv (.long r :: rest) u) : VL l G K pc lv st σ := by
  obtain ⟨p, e, s, m, args, below, meth, c, Q⟩ := K
  obtain ⟨hx, hb, hr, hml, hown, hts, hlk, hE, hX, hbl⟩ := X
  subst hst
  intro H locs ls hP hS hl
  obtain ⟨⟨ws', hws⟩, hmd, -, hmx⟩ := hmd
  have hg := wl_get (G := G) (σ := σ) hi
  rw [hE2] at hg
  have hA : ∀ q, FA G H.size q → LA s q := fun q hq => hq.elim (fun ⟨j, h1, h2⟩ => by rw [h2]; exact hE.2.2.2.2 j h1) (fun h => Nat.le_trans hS.1 h)
  refine va_calll (va_runV (As := As) (rest := rest) ⟨hx, hb, hml, hown, hts⟩ (hM H.size) (cwV k hts hT hws rfl rfl ⟨hC, hmd⟩ ⟨(show n' + 1 ≤ 2048 by omega), (show 8 + (maxL + 11) + 40 * n' ≤ 84000 by omega)⟩) ⟨CP_blind, va_recv hE.1 hP (ci := ci) (q0 := i) hc hg, fun U hU hW => ⟨rfl, by rw [hU], by rw [hU]; exact hP, EVL hE hS hU hW⟩⟩ rfl hk hl.1 rfl (lv_room hcat) hdg ⟨Nat.le_of_ble_eq_true rfl, Nat.le_of_ble_eq_true rfl⟩) hS (fun q _ h => hA q h) hA (fun r u t H1 locs1 ht hvm hw hB hz1 hk1 hS1 => ?_)
  have hP1 : va_P G.2.1 vwCl (wl G u) H1 := by rw [← ht]; exact hB
  exact kk r u hw H1 locs1 ls hP1 hS1 hl
theorem l_lcmp_eq {l : Launch} {G : GX} {K : KX} {b L : Nat} {xs : Nat → Int32} {pc : Nat} {lv : List (Nat × Value)} {st : List Value} {σ : MM} (X : FL G K b L xs) {x y : Int64} {off : Int} {tgt : Nat} (hdg : decode cL_law pc = .ok (.lcmp, 1)) (hdg2 : decode cL_law (pc+1) = .ok (.ifCond .eq off, 3)) (ht : ((pc+1 : Nat) : Int) + off = (tgt : Int)) (kt : x = y → VL l G K tgt lv st σ) (kf : ¬ x = y → VL l G K (pc+1+3) lv st σ) : VL l G K pc lv (.long y :: .long x :: st) σ := l_lcmp X hdg (l_if_eq X hdg2 ht (fun h => kt (lg0.mp h)) (fun h => kf (fun e => h (lg0.mpr e))))
