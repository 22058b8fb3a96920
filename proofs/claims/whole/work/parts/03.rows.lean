theorem r_get {l : Launch} {G : GX} {n : Nat} {K : KX} {cc : ByteArray} {own : String} {rt : Option FieldType} {Ts : List Cond} {nL : Nat} {pc : Nat} {lv : List (Nat × Value)} {st : List Value} {σ : MM} (X : FX G K cc own rt Ts nL) {C : String} {T : u_T} {N ci ix i : Nat} {fs : List Value} {v : Value} (hin : ∀ w ∈ u_ws C T N, w ∈ Ts) (hc : vwCl[ci]? = some (C, T, N)) (k : Nat) (hk : k < N) (hi : i < 143) (hE : EE G i (σ i) = .inr (ci, fs)) (hv : fs[k]? = some v) (hlink : Cond.fieldLink own ix (T k).1 (T k).2.1 (T k).2.2.1 ∈ Ts) (hdg : decode cc pc = .ok (.getfield ix, 3)) (kk : V l G n K nL (pc+3) lv (v :: st) σ) : V l G n K nL pc lv (.ref (G.1 i) :: st) σ := by
  obtain ⟨p, e, s, m, args, below, meth, c, Q⟩ := K
  obtain ⟨hx, hb, hr, hml, hown, hts, hlk, hEV⟩ := X
  intro H locs ls hP hS hl
  have hg := wl_get (G := G) (σ := σ) hi
  rw [hE] at hg
  exact va_get hx hb hts hin hown hEV.1 hP i hg hc k hk (hts _ hlink) (fun _ h => h) hv hdg (kk H locs ls hP hS hl)
theorem r_put {l : Launch} {G : GX} {n : Nat} {K : KX} {cc : ByteArray} {own : String} {rt : Option FieldType} {Ts : List Cond} {nL : Nat} {pc : Nat} {lv : List (Nat × Value)} {st : List Value} {σ : MM} (X : FX G K cc own rt Ts nL) {C : String} {T : u_T} {N ci ix i : Nat} {fs : List Value} {f : Nat → Int32} (hin : ∀ w ∈ u_ws C T N, w ∈ Ts) (ty0 : Nat → FieldType) (hty : ∀ k, k < N → parseFieldDescriptor (T k).2.2.1 = some (ty0 k)) (hnm : ∀ a, a < N → ∀ b, b < N → a ≠ b → (T a).2.1 ≠ (T b).2.1) (hc : vwCl[ci]? = some (C, T, N)) (k : Nat) (hk : k < N) (hi : i < 143) (hE : EE G i (σ i) = .inr (ci, fs)) {v : Value} (hE2 : EE G i f = .inr (ci, fs.set k v)) (hl0 : fs.length = N) (hlink : Cond.fieldLink own ix (T k).1 (T k).2.1 (T k).2.2.1 ∈ Ts) (hfin : (T k).2.2.2 = false) {ty : FieldType} (hd : parseFieldDescriptor (T k).2.2.1 = some ty) (hn : narrow ty v = v) (hfit : fits ty v = true) (hdg : decode cc pc = .ok (.putfield ix, 3)) (kk : V l G n K nL (pc+3) lv st (ma σ i f)) : V l G n K nL pc lv (v :: .ref (G.1 i) :: st) σ := by
  obtain ⟨p, e, s, m, args, below, meth, c, Q⟩ := K
  obtain ⟨hx, hb, hr, hml, hown, hts, hlk, hEV⟩ := X
  intro H locs ls hP hS hl
  have hg := wl_get (G := G) (σ := σ) hi
  rw [hE] at hg
  refine va_put hx hb hts hin ty0 hty hnm hown hEV.1 hP (wl_D hEV.2.1 σ s.heap.size) hS i hg hc k hk (hts _ hlink) (fun _ h => h) hfin hd hn hfit (by rw [hl0]; exact hk) hdg (fun H1 locs1 hP1 _ hS1 => ?_)
  rw [← hE2, wl_set f hi] at hP1
  exact kk H1 locs1 ls hP1 hS1 hl
theorem r_iald {l : Launch} {G : GX} {n : Nat} {K : KX} {cc : ByteArray} {own : String} {rt : Option FieldType} {Ts : List Cond} {nL : Nat} {pc : Nat} {lv : List (Nat × Value)} {st : List Value} {σ : MM} (X : FX G K cc own rt Ts nL) {i N jn : Nat} {j : Int32} (hi : i < 143) (hE : EE G i (σ i) = .inl (G.2.2.1 0, N, .inl (σ i))) (hjn : j.toNatClampNeg = jn) (hin : ¬ (j < 0 ∨ N ≤ j.toNatClampNeg)) (hdg : decode cc pc = .ok (.iaload, 1)) (kk : V l G n K nL (pc+1) lv (.int (σ i jn) :: st) σ) : V l G n K nL pc lv (.int j :: .ref (G.1 i) :: st) σ := by
  obtain ⟨p, e, s, m, args, below, meth, c, Q⟩ := K
  obtain ⟨hx, hb, hr, hml, hown, hts, hlk, hEV⟩ := X
  subst hjn
  intro H locs ls hP hS hl
  have hg := wl_get (G := G) (σ := σ) hi
  rw [hE] at hg
  exact va_iald hx hb hEV.1 hP i 0 hg rfl hin hdg (kk H locs ls hP hS hl)
theorem r_iast {l : Launch} {G : GX} {n : Nat} {K : KX} {cc : ByteArray} {own : String} {rt : Option FieldType} {Ts : List Cond} {nL : Nat} {pc : Nat} {lv : List (Nat × Value)} {st : List Value} {σ : MM} (X : FX G K cc own rt Ts nL) {i N jn : Nat} {j v : Int32} (hi : i < 143) (hE : ∀ f, EE G i f = .inl (G.2.2.1 0, N, .inl f)) (hjn : j.toNatClampNeg = jn) (hin : ¬ (j < 0 ∨ N ≤ j.toNatClampNeg)) (hdg : decode cc pc = .ok (.iastore, 1)) (kk : V l G n K nL (pc+1) lv st (mu σ i jn v)) : V l G n K nL pc lv (.int v :: .int j :: .ref (G.1 i) :: st) σ := by
  obtain ⟨p, e, s, m, args, below, meth, c, Q⟩ := K
  obtain ⟨hx, hb, hr, hml, hown, hts, hlk, hEV⟩ := X
  subst hjn
  intro H locs ls hP hS hl
  have hg := wl_get (G := G) (σ := σ) hi
  rw [hE] at hg
  refine va_iast hx hb hEV.1 hP (wl_D hEV.2.1 σ s.heap.size) hS i 0 hg rfl hin hdg (fun H1 locs1 hP1 _ hS1 => ?_)
  rw [← hE, wl_set _ hi] at hP1
  exact kk H1 locs1 ls hP1 hS1 hl
theorem r_alen {l : Launch} {G : GX} {n : Nat} {K : KX} {cc : ByteArray} {own : String} {rt : Option FieldType} {Ts : List Cond} {nL : Nat} {pc : Nat} {lv : List (Nat × Value)} {st : List Value} {σ : MM} (X : FX G K cc own rt Ts nL) {i N t : Nat} {cA : ClassId} {ty : FieldType} {x : (Nat → Int32) ⊕ (Nat → Int64) ⊕ (Nat → UInt32) ⊕ (Nat → UInt64) ⊕ (Nat → Option Nat)} (hi : i < 143) (hE : EE G i (σ i) = .inl (cA, N, x)) (ht : (tyl G)[t]? = some (cA, ty)) {v : Int32} (hv : Int32.ofNat N = v) (hdg : decode cc pc = .ok (.arraylength, 1)) (kk : V l G n K nL (pc+1) lv (.int v :: st) σ) : V l G n K nL pc lv (.ref (G.1 i) :: st) σ := by
  obtain ⟨p, e, s, m, args, below, meth, c, Q⟩ := K
  obtain ⟨hx, hb, hr, hml, hown, hts, hlk, hEV⟩ := X
  intro H locs ls hP hS hl
  have hg := wl_get (G := G) (σ := σ) hi
  rw [hE] at hg
  exact va_alen hx hb hEV.1 hP i t hg ht hv hdg (kk H locs ls hP hS hl)
theorem r_aald {l : Launch} {G : GX} {n : Nat} {K : KX} {cc : ByteArray} {own : String} {rt : Option FieldType} {Ts : List Cond} {nL : Nat} {pc : Nat} {lv : List (Nat × Value)} {st : List Value} {σ : MM} (X : FX G K cc own rt Ts nL) {i N t d jn : Nat} {cA : ClassId} {C : String} {j : Int32} (hi : i < 143) (hE : EE G i (σ i) = .inl (cA, N, .inr (.inr (.inr (.inr (fun j => some (G.1 (i + d + j)))))))) (ht : (tyl G)[t]? = some (cA, .object C)) (hjn : j.toNatClampNeg = jn) (hin : ¬ (j < 0 ∨ N ≤ j.toNatClampNeg)) (hdg : decode cc pc = .ok (.aaload, 1)) (kk : V l G n K nL (pc+1) lv (.ref (G.1 (i + d + jn)) :: st) σ) : V l G n K nL pc lv (.int j :: .ref (G.1 i) :: st) σ := by
  obtain ⟨p, e, s, m, args, below, meth, c, Q⟩ := K
  obtain ⟨hx, hb, hr, hml, hown, hts, hlk, hEV⟩ := X
  subst hjn
  intro H locs ls hP hS hl
  have hg := wl_get (G := G) (σ := σ) hi
  rw [hE] at hg
  exact va_aldq hx hb hEV.1 hP i t hg ht hin hdg (kk H locs ls hP hS hl)
theorem r_copy {l : Launch} {G : GX} {n : Nat} {K : KX} {cc : ByteArray} {own : String} {rt : Option FieldType} {Ts : List Cond} {nL : Nat} {pc : Nat} {lv : List (Nat × Value)} {st : List Value} {σ : MM} (X : FX G K cc own rt Ts nL) {ix i i2 N N2 spn dpn nnn : Nat} {sp dp nn : Int32} (hw1 : Cond.methodLink own ix arraycopyName ∈ Ts) (hw2 : Cond.native arraycopyName ∈ Ts) (hw3 : Cond.static arraycopyName ∈ Ts) (hw4 : Cond.initialized "java/lang/System" ∈ Ts) (hi : i < 143) (hi2 : i2 < 143) (hE : EE G i (σ i) = .inl (G.2.2.1 0, N, .inl (σ i))) (hE2 : ∀ f, EE G i2 f = .inl (G.2.2.1 0, N2, .inl f)) (es : sp.toNatClampNeg = spn) (ed : dp.toNatClampNeg = dpn) (en : nn.toNatClampNeg = nnn) (h1 : ¬ sp < 0) (h2 : ¬ dp < 0) (h3 : ¬ nn < 0) (h4 : ¬ N < spn + nnn) (h5 : ¬ N2 < dpn + nnn) (hcat : (st.map fun v => v.category).sum ≤ 8) (hnn : 2 ≤ n) (hdg : decode cc pc = .ok (.invokestatic ix, 3)) (kk : V l G n K nL (pc+3) lv st (ma σ i2 (va_cpy (σ i) (σ i2) spn dpn nnn))) : V l G n K nL pc lv (.int nn :: .int dp :: .ref (G.1 i2) :: .int sp :: .ref (G.1 i) :: st) σ := by
  obtain ⟨p, e, s, m, args, below, meth, c, Q⟩ := K
  obtain ⟨hx, hb, hr, hml, hown, hts, hlk, hEV⟩ := X
  subst es ed en
  intro H locs ls hP hS hl
  have hg := wl_get (G := G) (σ := σ) hi
  rw [hE] at hg
  have hg2 := wl_get (G := G) (σ := σ) hi2
  rw [hE2] at hg2
  have hnat : nativeFrameWords "java/lang/System" "arraycopy" 5 + 11 ≤ 60 := by decide
  refine va_copyi hx hb (by rw [hml]; exact hl.1.symm) hown (hts _ hw1) (hts _ hw2) (hts _ hw3) (hts _ hw4) hEV.1 hP (wl_D hEV.2.1 σ s.heap.size) hS i i2 0 0 hg hg2 rfl rfl rfl h1 h2 h3 (Nat.not_lt.mp h4) (Nat.not_lt.mp h5) (fun _ _ => rfl) (show 1 ≤ (RM n).frames from Nat.le_trans (by decide) hnn) (show _ ≤ (RM n).locals from (show _ ≤ 40 * n by omega)) hdg (fun H1 locs1 hP1 _ hS1 => ?_)
  rw [← hE2, wl_set _ hi2] at hP1
  exact kk H1 locs1 ls hP1 hS1 hl
theorem r_mmax {l : Launch} {G : GX} {n : Nat} {K : KX} {cc : ByteArray} {own : String} {rt : Option FieldType} {Ts : List Cond} {nL : Nat} {pc : Nat} {lv : List (Nat × Value)} {st : List Value} {σ : MM} (X : FX G K cc own rt Ts nL) {ix : Nat} {x y : Int32} (hw1 : Cond.methodLink own ix Lib.Math.max.name ∈ Ts) (hw2 : Cond.static Lib.Math.max.name ∈ Ts) (hw3 : Cond.initialized "java/lang/Math" ∈ Ts) (hw4 : Cond.code Lib.Math.max.name Lib.Math.max.code 2 (some .int) ∈ Ts) (hcat : (st.map fun v => v.category).sum ≤ 8) (hnn : 1 ≤ n) (hdg : decode cc pc = .ok (.invokestatic ix, 3)) (kk : V l G n K nL (pc+3) lv (.int (if x < y then y else x) :: st) σ) : V l G n K nL pc lv (.int y :: .int x :: st) σ := by
  obtain ⟨p, e, s, m, args, below, meth, c, Q⟩ := K
  obtain ⟨hx, hb, hr, hml, hown, hts, hlk, hEV⟩ := X
  intro H locs ls hP hS hl
  exact va_mmax hx hb (by rw [hml]; exact hl.1.symm) hown (hts _ hw1) (hts _ hw2) (hts _ hw3) (hts _ hw4) (show 1 ≤ (RM n).frames from hnn) (show _ ≤ (RM n).locals from (show _ ≤ 40 * n by omega)) (Nat.zero_le _) (Nat.zero_le _) hdg (kk H locs ls hP hS hl)
theorem r_mmin {l : Launch} {G : GX} {n : Nat} {K : KX} {cc : ByteArray} {own : String} {rt : Option FieldType} {Ts : List Cond} {nL : Nat} {pc : Nat} {lv : List (Nat × Value)} {st : List Value} {σ : MM} (X : FX G K cc own rt Ts nL) {ix : Nat} {x y : Int32} (hw1 : Cond.methodLink own ix Lib.Math.min.name ∈ Ts) (hw2 : Cond.static Lib.Math.min.name ∈ Ts) (hw3 : Cond.initialized "java/lang/Math" ∈ Ts) (hw4 : Cond.code Lib.Math.min.name Lib.Math.min.code 2 (some .int) ∈ Ts) (hcat : (st.map fun v => v.category).sum ≤ 8) (hnn : 1 ≤ n) (hdg : decode cc pc = .ok (.invokestatic ix, 3)) (kk : V l G n K nL (pc+3) lv (.int (if y < x then y else x) :: st) σ) : V l G n K nL pc lv (.int y :: .int x :: st) σ := by
  obtain ⟨p, e, s, m, args, below, meth, c, Q⟩ := K
  obtain ⟨hx, hb, hr, hml, hown, hts, hlk, hEV⟩ := X
  intro H locs ls hP hS hl
  exact va_mmin hx hb (by rw [hml]; exact hl.1.symm) hown (hts _ hw1) (hts _ hw2) (hts _ hw3) (hts _ hw4) (show 1 ≤ (RM n).frames from hnn) (show _ ≤ (RM n).locals from (show _ ≤ 40 * n by omega)) (Nat.zero_le _) (Nat.zero_le _) hdg (kk H locs ls hP hS hl)
theorem r_above {l : Launch} {G : GX} {n : Nat} {K : KX} {cc : ByteArray} {own : String} {rt : Option FieldType} {Ts : List Cond} {nL : Nat} {pc : Nat} {lv : List (Nat × Value)} {st : List Value} {σ : MM} (X : FX G K cc own rt Ts nL) {ix : Nat} (hlink : Cond.fieldLink own ix "StairCourt" "ABOVE" "[I" ∈ Ts) (hdg : decode cc pc = .ok (.getstatic ix, 3)) (kk : V l G n K nL (pc+3) lv (.ref (G.2.2.2 0) :: st) σ) : V l G n K nL pc lv st σ := by
  obtain ⟨p, e, s, m, args, below, meth, c, Q⟩ := K
  obtain ⟨hx, hb, hr, hml, hown, hts, hlk, hEV⟩ := X
  intro H locs ls hP hS hl
  exact va_gets hx hb hEV.2.2.1.1 hS hown (hts _ hlink) (fun _ h => h) hdg (kk H locs ls hP hS hl)
theorem r_bodies {l : Launch} {G : GX} {n : Nat} {K : KX} {cc : ByteArray} {own : String} {rt : Option FieldType} {Ts : List Cond} {nL : Nat} {pc : Nat} {lv : List (Nat × Value)} {st : List Value} {σ : MM} (X : FX G K cc own rt Ts nL) (how : own = RX7) (hdg : decode cc pc = .ok (.getstatic 55, 3)) (kk : V l G n K nL (pc+3) lv (.ref (G.2.2.2 1) :: st) σ) : V l G n K nL pc lv st σ := by
  obtain ⟨p, e, s, m, args, below, meth, c, Q⟩ := K
  obtain ⟨hx, hb, hr, hml, hown, hts, hlk, hEV⟩ := X
  subst how
  intro H locs ls hP hS hl
  exact va_getsN hx hb hEV.2.2.1.2.2.1 hS hown (va_Nw.use rfl hEV.2.2.2.2.2.1) (fun _ h => h) hdg (kk H locs ls hP hS hl)
theorem r_above_ld {l : Launch} {G : GX} {n : Nat} {K : KX} {cc : ByteArray} {own : String} {rt : Option FieldType} {Ts : List Cond} {nL : Nat} {pc : Nat} {lv : List (Nat × Value)} {st : List Value} {σ : MM} (X : FX G K cc own rt Ts nL) {j : Int32} (hin : ¬ (j < 0 ∨ 7 ≤ j.toNatClampNeg)) (hdg : decode cc pc = .ok (.iaload, 1)) (kk : V l G n K nL (pc+1) lv (.int (ab_l.getD j.toNatClampNeg 0) :: st) σ) : V l G n K nL pc lv (.int j :: .ref (G.2.2.2 0) :: st) σ := by
  obtain ⟨p, e, s, m, args, below, meth, c, Q⟩ := K
  obtain ⟨hx, hb, hr, hml, hown, hts, hlk, hEV⟩ := X
  intro H locs ls hP hS hl
  exact va_ti hx hb hEV.2.2.1.2.1 hS hin rfl hdg (kk H locs ls hP hS hl)
theorem r_above_len {l : Launch} {G : GX} {n : Nat} {K : KX} {cc : ByteArray} {own : String} {rt : Option FieldType} {Ts : List Cond} {nL : Nat} {pc : Nat} {lv : List (Nat × Value)} {st : List Value} {σ : MM} (X : FX G K cc own rt Ts nL) {v : Int32} (hv : Int32.ofNat 7 = v) (hdg : decode cc pc = .ok (.arraylength, 1)) (kk : V l G n K nL (pc+1) lv (.int v :: st) σ) : V l G n K nL pc lv (.ref (G.2.2.2 0) :: st) σ := by
  obtain ⟨p, e, s, m, args, below, meth, c, Q⟩ := K
  obtain ⟨hx, hb, hr, hml, hown, hts, hlk, hEV⟩ := X
  intro H locs ls hP hS hl
  exact va_tlen hx hb hEV.2.2.1.2.1 hS hv hdg (kk H locs ls hP hS hl)
theorem r_bodies_ld {l : Launch} {G : GX} {n : Nat} {K : KX} {cc : ByteArray} {own : String} {rt : Option FieldType} {Ts : List Cond} {nL : Nat} {pc : Nat} {lv : List (Nat × Value)} {st : List Value} {σ : MM} (X : FX G K cc own rt Ts nL) {j : Int32} (hin : ¬ (j < 0 ∨ 28 ≤ j.toNatClampNeg)) (hdg : decode cc pc = .ok (.iaload, 1)) (kk : V l G n K nL (pc+1) lv (.int (bo_l.getD j.toNatClampNeg 0) :: st) σ) : V l G n K nL pc lv (.int j :: .ref (G.2.2.2 1) :: st) σ := by
  obtain ⟨p, e, s, m, args, below, meth, c, Q⟩ := K
  obtain ⟨hx, hb, hr, hml, hown, hts, hlk, hEV⟩ := X
  intro H locs ls hP hS hl
  exact va_ti hx hb hEV.2.2.1.2.2.2.1 hS hin rfl hdg (kk H locs ls hP hS hl)
theorem r_bodies_len {l : Launch} {G : GX} {n : Nat} {K : KX} {cc : ByteArray} {own : String} {rt : Option FieldType} {Ts : List Cond} {nL : Nat} {pc : Nat} {lv : List (Nat × Value)} {st : List Value} {σ : MM} (X : FX G K cc own rt Ts nL) {v : Int32} (hv : Int32.ofNat 28 = v) (hdg : decode cc pc = .ok (.arraylength, 1)) (kk : V l G n K nL (pc+1) lv (.int v :: st) σ) : V l G n K nL pc lv (.ref (G.2.2.2 1) :: st) σ := by
  obtain ⟨p, e, s, m, args, below, meth, c, Q⟩ := K
  obtain ⟨hx, hb, hr, hml, hown, hts, hlk, hEV⟩ := X
  intro H locs ls hP hS hl
  exact va_tlen hx hb hEV.2.2.1.2.2.2.1 hS hv hdg (kk H locs ls hP hS hl)
/-- a method's contract: what it answers and leaves is told by o -/
def CP (G : GX) (sz : Nat) (as : List Value) (σ : MM) : Array Value → State → Prop := va_Pc as (fun U => U.heap.size = sz ∧ va_P G.2.1 vwCl (wl G σ) U.heap ∧ EV G U)
theorem CP_blind {G : GX} {sz : Nat} {as : List Value} {σ : MM} : FrameBlind (CP G sz as σ) := fun _ _ _ _ h => ⟨h.1, h.2.1, h.2.2.1, h.2.2.2.calling⟩
def CTi (l : Launch) (G : GX) (y : MethodName) (ws : List Cond) (n : Nat) (as : List Value) (σ : MM) (o : Option (Int32 × MM)) : Prop := ∀ sz, Met l y ws (RM n) (CP G sz as σ) (va_Qi (fun r u => o = some (r, u)) (BW G) (FA G sz)) 0 0 (FA G sz)
def CTl (l : Launch) (G : GX) (y : MethodName) (ws : List Cond) (n : Nat) (as : List Value) (σ : MM) (o : Option (Int64 × MM)) : Prop := ∀ sz, Met l y ws (RM n) (CP G sz as σ) (va_Ql (fun r u => o = some (r, u)) (BW G) (FA G sz)) 0 0 (FA G sz)
def CTv (l : Launch) (G : GX) (y : MethodName) (ws : List Cond) (n : Nat) (as : List Value) (σ : MM) (o : Option (Unit × MM)) : Prop := ∀ sz, Met l y ws (RM n) (CP G sz as σ) (va_Qv (fun u => o = some ((), u)) (BW G) (FA G sz)) 0 0 (FA G sz)
def CTq (l : Launch) (G : GX) (y : MethodName) (ws : List Cond) (n : Nat) (as : List Value) (σ : MM) (o : Option (Option Nat × MM)) : Prop := ∀ sz, Met l y ws (RM n) (CP G sz as σ) (va_Qe G.1 (fun r u => o = some (r, u)) (BW G) (FA G sz)) 0 0 (FA G sz)
/-- a method's own numbers: its code, its room for locals, how many arguments, its kind of answer -/
def MD (y : MethodName) (ws : List Cond) (bytes : ByteArray) (maxL k : Nat) (rt : Option FieldType) : Prop := (∃ ws', ws = Cond.code y bytes maxL rt :: ws') ∧ (y.cls ≠ "java/lang/invoke/MethodHandle" ∧ y.cls ≠ "java/lang/invoke/VarHandle" ∧ (parseMethodDescriptor y.desc).map (fun d => d.parameters.length) = some k) ∧ plainName y.cls = true ∧ maxL ≤ 21

theorem r_callVi {l : Launch} {G : GX} {n : Nat} {K : KX} {cc : ByteArray} {own : String} {rt : Option FieldType} {Ts : List Cond} {nL : Nat} {pc : Nat} {lv : List (Nat × Value)} {st : List Value} {σ : MM} (X : FX G K cc own rt Ts nL) {C : String} {T : u_T} {N ci i : Nat} {fs : List Value} {ix : Nat} {y : MethodName} {ws : List Cond} {bytes : ByteArray} {maxL k n' : Nat} {rty : Option FieldType} {As rest : List Value} {o : Option (Int32 × MM)} (hM : CTi l G y ws n' (.ref (G.1 i) :: As) σ o) (hmd : MD y ws bytes maxL k rty) (hT : GoodIn Ts (wsV own ix C y ws)) (hn : n' + 1 ≤ n) (hC : y.cls = C) (hc : vwCl[ci]? = some (C, T, N)) (hi : i < 143) (hE : EE G i (σ i) = .inr (ci, fs)) (hk : As.length = k) (hst : st = As.reverse ++ .ref (G.1 i) :: rest) (hcat : (rest.map fun v => v.category).sum ≤ 8) (hdg : decode cc pc = .ok (.invokevirtual ix, 3)) (kk : ∀ (r : Int32) (u : MM), o = some (r, u) → V l G n K nL (pc + 3) lv (.int r :: rest) u) : V l G n K nL pc lv st σ := by
  obtain ⟨p, e, s, m, args, below, meth, c, Q⟩ := K
  obtain ⟨hx, hb, hr, hml, hown, hts, hlk, hEV⟩ := X
  subst hst
  intro H locs ls hP hS hl
  obtain ⟨⟨ws', hws⟩, hmd, -, hmx⟩ := hmd
  have hg := wl_get (G := G) (σ := σ) hi
  rw [hE] at hg
  have hA : ∀ q, FA G H.size q → FA G s.heap.size q := fun q hq => hq.elim (fun h => Or.inl h) (fun h => Or.inr (Nat.le_trans hS.1 h))
  refine va_calli (va_runV (As := As) (rest := rest) ⟨hx, hb, hml, hown, hts⟩ (hM H.size) (cwV k hts hT hws rfl rfl ⟨hC, hmd⟩ (RM_le hn hmx)) ⟨CP_blind, va_recv hEV.1 hP (ci := ci) (q0 := i) hc hg, fun U hU hW => ⟨rfl, by rw [hU], by rw [hU]; exact hP, hEV.call hS hU hW⟩⟩ rfl hk hl.1 rfl (lv_room hcat) hdg ⟨Nat.le_refl _, Nat.le_refl _⟩) hS (fun q _ h => hA q h) hA (fun r u t H1 locs1 ht hvm hw hB hz1 hk1 hS1 => ?_)
  have hP1 : va_P G.2.1 vwCl (wl G u) H1 := by rw [← ht]; exact hB
  exact kk r u hw H1 locs1 ls hP1 hS1 hl
theorem r_callSi {l : Launch} {G : GX} {n : Nat} {K : KX} {cc : ByteArray} {own : String} {rt : Option FieldType} {Ts : List Cond} {nL : Nat} {pc : Nat} {lv : List (Nat × Value)} {st : List Value} {σ : MM} (X : FX G K cc own rt Ts nL) {ix : Nat} {y : MethodName} {ws : List Cond} {bytes : ByteArray} {maxL k n' : Nat} {rty : Option FieldType} {As rest : List Value} {o : Option (Int32 × MM)} (hM : CTi l G y ws n' (As) σ o) (hmd : MD y ws bytes maxL k rty) (hT : GoodIn Ts (va_wsS own ix y ws)) (hn : n' + 1 ≤ n)  (hk : As.length = k) (hst : st = As.reverse ++ rest) (hcat : (rest.map fun v => v.category).sum ≤ 8) (hdg : decode cc pc = .ok (.invokestatic ix, 3)) (kk : ∀ (r : Int32) (u : MM), o = some (r, u) → V l G n K nL (pc + 3) lv (.int r :: rest) u) : V l G n K nL pc lv st σ := by
  obtain ⟨p, e, s, m, args, below, meth, c, Q⟩ := K
  obtain ⟨hx, hb, hr, hml, hown, hts, hlk, hEV⟩ := X
  subst hst
  intro H locs ls hP hS hl
  obtain ⟨⟨ws', hws⟩, hmd, -, hmx⟩ := hmd
  have hA : ∀ q, FA G H.size q → FA G s.heap.size q := fun q hq => hq.elim (fun h => Or.inl h) (fun h => Or.inr (Nat.le_trans hS.1 h))
  refine va_calli (va_runS (As := As) (rest := rest) ⟨hx, hb, hml, hown, hts⟩ (hM H.size) (va_cwS k hts hT hws rfl rfl hmd (RM_le hn hmx)) ⟨CP_blind, fun U hU hW => ⟨rfl, by rw [hU], by rw [hU]; exact hP, hEV.call hS hU hW⟩⟩ rfl hk hl.1 rfl (lv_room hcat) hdg ⟨Nat.le_refl _, Nat.le_refl _⟩) hS (fun q _ h => hA q h) hA (fun r u t H1 locs1 ht hvm hw hB hz1 hk1 hS1 => ?_)
  have hP1 : va_P G.2.1 vwCl (wl G u) H1 := by rw [← ht]; exact hB
  exact kk r u hw H1 locs1 ls hP1 hS1 hl
theorem r_callVl {l : Launch} {G : GX} {n : Nat} {K : KX} {cc : ByteArray} {own : String} {rt : Option FieldType} {Ts : List Cond} {nL : Nat} {pc : Nat} {lv : List (Nat × Value)} {st : List Value} {σ : MM} (X : FX G K cc own rt Ts nL) {C : String} {T : u_T} {N ci i : Nat} {fs : List Value} {ix : Nat} {y : MethodName} {ws : List Cond} {bytes : ByteArray} {maxL k n' : Nat} {rty : Option FieldType} {As rest : List Value} {o : Option (Int64 × MM)} (hM : CTl l G y ws n' (.ref (G.1 i) :: As) σ o) (hmd : MD y ws bytes maxL k rty) (hT : GoodIn Ts (wsV own ix C y ws)) (hn : n' + 1 ≤ n) (hC : y.cls = C) (hc : vwCl[ci]? = some (C, T, N)) (hi : i < 143) (hE : EE G i (σ i) = .inr (ci, fs)) (hk : As.length = k) (hst : st = As.reverse ++ .ref (G.1 i) :: rest) (hcat : (rest.map fun v => v.category).sum ≤ 8) (hdg : decode cc pc = .ok (.invokevirtual ix, 3)) (kk : ∀ (r : Int64) (u : MM), o = some (r, u) → V l G n K nL (pc + 3) lv (.long r :: rest) u) : V l G n K nL pc lv st σ := by
  obtain ⟨p, e, s, m, args, below, meth, c, Q⟩ := K
  obtain ⟨hx, hb, hr, hml, hown, hts, hlk, hEV⟩ := X
  subst hst
  intro H locs ls hP hS hl
  obtain ⟨⟨ws', hws⟩, hmd, -, hmx⟩ := hmd
  have hg := wl_get (G := G) (σ := σ) hi
  rw [hE] at hg
  have hA : ∀ q, FA G H.size q → FA G s.heap.size q := fun q hq => hq.elim (fun h => Or.inl h) (fun h => Or.inr (Nat.le_trans hS.1 h))
  refine va_calll (va_runV (As := As) (rest := rest) ⟨hx, hb, hml, hown, hts⟩ (hM H.size) (cwV k hts hT hws rfl rfl ⟨hC, hmd⟩ (RM_le hn hmx)) ⟨CP_blind, va_recv hEV.1 hP (ci := ci) (q0 := i) hc hg, fun U hU hW => ⟨rfl, by rw [hU], by rw [hU]; exact hP, hEV.call hS hU hW⟩⟩ rfl hk hl.1 rfl (lv_room hcat) hdg ⟨Nat.le_refl _, Nat.le_refl _⟩) hS (fun q _ h => hA q h) hA (fun r u t H1 locs1 ht hvm hw hB hz1 hk1 hS1 => ?_)
  have hP1 : va_P G.2.1 vwCl (wl G u) H1 := by rw [← ht]; exact hB
  exact kk r u hw H1 locs1 ls hP1 hS1 hl
theorem r_callSl {l : Launch} {G : GX} {n : Nat} {K : KX} {cc : ByteArray} {own : String} {rt : Option FieldType} {Ts : List Cond} {nL : Nat} {pc : Nat} {lv : List (Nat × Value)} {st : List Value} {σ : MM} (X : FX G K cc own rt Ts nL) {ix : Nat} {y : MethodName} {ws : List Cond} {bytes : ByteArray} {maxL k n' : Nat} {rty : Option FieldType} {As rest : List Value} {o : Option (Int64 × MM)} (hM : CTl l G y ws n' (As) σ o) (hmd : MD y ws bytes maxL k rty) (hT : GoodIn Ts (va_wsS own ix y ws)) (hn : n' + 1 ≤ n)  (hk : As.length = k) (hst : st = As.reverse ++ rest) (hcat : (rest.map fun v => v.category).sum ≤ 8) (hdg : decode cc pc = .ok (.invokestatic ix, 3)) (kk : ∀ (r : Int64) (u : MM), o = some (r, u) → V l G n K nL (pc + 3) lv (.long r :: rest) u) : V l G n K nL pc lv st σ := by
  obtain ⟨p, e, s, m, args, below, meth, c, Q⟩ := K
  obtain ⟨hx, hb, hr, hml, hown, hts, hlk, hEV⟩ := X
  subst hst
  intro H locs ls hP hS hl
  obtain ⟨⟨ws', hws⟩, hmd, -, hmx⟩ := hmd
  have hA : ∀ q, FA G H.size q → FA G s.heap.size q := fun q hq => hq.elim (fun h => Or.inl h) (fun h => Or.inr (Nat.le_trans hS.1 h))
  refine va_calll (va_runS (As := As) (rest := rest) ⟨hx, hb, hml, hown, hts⟩ (hM H.size) (va_cwS k hts hT hws rfl rfl hmd (RM_le hn hmx)) ⟨CP_blind, fun U hU hW => ⟨rfl, by rw [hU], by rw [hU]; exact hP, hEV.call hS hU hW⟩⟩ rfl hk hl.1 rfl (lv_room hcat) hdg ⟨Nat.le_refl _, Nat.le_refl _⟩) hS (fun q _ h => hA q h) hA (fun r u t H1 locs1 ht hvm hw hB hz1 hk1 hS1 => ?_)
  have hP1 : va_P G.2.1 vwCl (wl G u) H1 := by rw [← ht]; exact hB
  exact kk r u hw H1 locs1 ls hP1 hS1 hl
theorem r_callVv {l : Launch} {G : GX} {n : Nat} {K : KX} {cc : ByteArray} {own : String} {rt : Option FieldType} {Ts : List Cond} {nL : Nat} {pc : Nat} {lv : List (Nat × Value)} {st : List Value} {σ : MM} (X : FX G K cc own rt Ts nL) {C : String} {T : u_T} {N ci i : Nat} {fs : List Value} {ix : Nat} {y : MethodName} {ws : List Cond} {bytes : ByteArray} {maxL k n' : Nat} {rty : Option FieldType} {As rest : List Value} {o : Option (Unit × MM)} (hM : CTv l G y ws n' (.ref (G.1 i) :: As) σ o) (hmd : MD y ws bytes maxL k rty) (hT : GoodIn Ts (wsV own ix C y ws)) (hn : n' + 1 ≤ n) (hC : y.cls = C) (hc : vwCl[ci]? = some (C, T, N)) (hi : i < 143) (hE : EE G i (σ i) = .inr (ci, fs)) (hk : As.length = k) (hst : st = As.reverse ++ .ref (G.1 i) :: rest) (hcat : (rest.map fun v => v.category).sum ≤ 8) (hdg : decode cc pc = .ok (.invokevirtual ix, 3)) (kk : ∀ (r : Unit) (u : MM), o = some (r, u) → V l G n K nL (pc + 3) lv (rest) u) : V l G n K nL pc lv st σ := by
  obtain ⟨p, e, s, m, args, below, meth, c, Q⟩ := K
  obtain ⟨hx, hb, hr, hml, hown, hts, hlk, hEV⟩ := X
  subst hst
  intro H locs ls hP hS hl
  obtain ⟨⟨ws', hws⟩, hmd, -, hmx⟩ := hmd
  have hg := wl_get (G := G) (σ := σ) hi
  rw [hE] at hg
  have hA : ∀ q, FA G H.size q → FA G s.heap.size q := fun q hq => hq.elim (fun h => Or.inl h) (fun h => Or.inr (Nat.le_trans hS.1 h))
  refine va_callv (va_runV (As := As) (rest := rest) ⟨hx, hb, hml, hown, hts⟩ (hM H.size) (cwV k hts hT hws rfl rfl ⟨hC, hmd⟩ (RM_le hn hmx)) ⟨CP_blind, va_recv hEV.1 hP (ci := ci) (q0 := i) hc hg, fun U hU hW => ⟨rfl, by rw [hU], by rw [hU]; exact hP, hEV.call hS hU hW⟩⟩ rfl hk hl.1 rfl (lv_room hcat) hdg ⟨Nat.le_refl _, Nat.le_refl _⟩) hS (fun q _ h => hA q h) hA (fun u t H1 locs1 ht hvm hw hB hz1 hk1 hS1 => ?_)
  have hP1 : va_P G.2.1 vwCl (wl G u) H1 := by rw [← ht]; exact hB
  exact kk () u hw H1 locs1 ls hP1 hS1 hl
theorem r_callSv {l : Launch} {G : GX} {n : Nat} {K : KX} {cc : ByteArray} {own : String} {rt : Option FieldType} {Ts : List Cond} {nL : Nat} {pc : Nat} {lv : List (Nat × Value)} {st : List Value} {σ : MM} (X : FX G K cc own rt Ts nL) {ix : Nat} {y : MethodName} {ws : List Cond} {bytes : ByteArray} {maxL k n' : Nat} {rty : Option FieldType} {As rest : List Value} {o : Option (Unit × MM)} (hM : CTv l G y ws n' (As) σ o) (hmd : MD y ws bytes maxL k rty) (hT : GoodIn Ts (va_wsS own ix y ws)) (hn : n' + 1 ≤ n)  (hk : As.length = k) (hst : st = As.reverse ++ rest) (hcat : (rest.map fun v => v.category).sum ≤ 8) (hdg : decode cc pc = .ok (.invokestatic ix, 3)) (kk : ∀ (r : Unit) (u : MM), o = some (r, u) → V l G n K nL (pc + 3) lv (rest) u) : V l G n K nL pc lv st σ := by
  obtain ⟨p, e, s, m, args, below, meth, c, Q⟩ := K
  obtain ⟨hx, hb, hr, hml, hown, hts, hlk, hEV⟩ := X
  subst hst
  intro H locs ls hP hS hl
  obtain ⟨⟨ws', hws⟩, hmd, -, hmx⟩ := hmd
  have hA : ∀ q, FA G H.size q → FA G s.heap.size q := fun q hq => hq.elim (fun h => Or.inl h) (fun h => Or.inr (Nat.le_trans hS.1 h))
  refine va_callv (va_runS (As := As) (rest := rest) ⟨hx, hb, hml, hown, hts⟩ (hM H.size) (va_cwS k hts hT hws rfl rfl hmd (RM_le hn hmx)) ⟨CP_blind, fun U hU hW => ⟨rfl, by rw [hU], by rw [hU]; exact hP, hEV.call hS hU hW⟩⟩ rfl hk hl.1 rfl (lv_room hcat) hdg ⟨Nat.le_refl _, Nat.le_refl _⟩) hS (fun q _ h => hA q h) hA (fun u t H1 locs1 ht hvm hw hB hz1 hk1 hS1 => ?_)
  have hP1 : va_P G.2.1 vwCl (wl G u) H1 := by rw [← ht]; exact hB
  exact kk () u hw H1 locs1 ls hP1 hS1 hl
theorem r_callVq {l : Launch} {G : GX} {n : Nat} {K : KX} {cc : ByteArray} {own : String} {rt : Option FieldType} {Ts : List Cond} {nL : Nat} {pc : Nat} {lv : List (Nat × Value)} {st : List Value} {σ : MM} (X : FX G K cc own rt Ts nL) {C : String} {T : u_T} {N ci i : Nat} {fs : List Value} {ix : Nat} {y : MethodName} {ws : List Cond} {bytes : ByteArray} {maxL k n' : Nat} {rty : Option FieldType} {As rest : List Value} {o : Option (Option Nat × MM)} (hM : CTq l G y ws n' (.ref (G.1 i) :: As) σ o) (hmd : MD y ws bytes maxL k rty) (hT : GoodIn Ts (wsV own ix C y ws)) (hn : n' + 1 ≤ n) (hC : y.cls = C) (hc : vwCl[ci]? = some (C, T, N)) (hi : i < 143) (hE : EE G i (σ i) = .inr (ci, fs)) (hk : As.length = k) (hst : st = As.reverse ++ .ref (G.1 i) :: rest) (hcat : (rest.map fun v => v.category).sum ≤ 8) (hdg : decode cc pc = .ok (.invokevirtual ix, 3)) (kk : ∀ (r : Option Nat) (u : MM), o = some (r, u) → V l G n K nL (pc + 3) lv (va_re G.1 r :: rest) u) : V l G n K nL pc lv st σ := by
  obtain ⟨p, e, s, m, args, below, meth, c, Q⟩ := K
  obtain ⟨hx, hb, hr, hml, hown, hts, hlk, hEV⟩ := X
  subst hst
  intro H locs ls hP hS hl
  obtain ⟨⟨ws', hws⟩, hmd, -, hmx⟩ := hmd
  have hg := wl_get (G := G) (σ := σ) hi
  rw [hE] at hg
  have hA : ∀ q, FA G H.size q → FA G s.heap.size q := fun q hq => hq.elim (fun h => Or.inl h) (fun h => Or.inr (Nat.le_trans hS.1 h))
  refine va_calle (va_runV (As := As) (rest := rest) ⟨hx, hb, hml, hown, hts⟩ (hM H.size) (cwV k hts hT hws rfl rfl ⟨hC, hmd⟩ (RM_le hn hmx)) ⟨CP_blind, va_recv hEV.1 hP (ci := ci) (q0 := i) hc hg, fun U hU hW => ⟨rfl, by rw [hU], by rw [hU]; exact hP, hEV.call hS hU hW⟩⟩ rfl hk hl.1 rfl (lv_room hcat) hdg ⟨Nat.le_refl _, Nat.le_refl _⟩) hS (fun q _ h => hA q h) hA (fun r u t H1 locs1 ht hvm hw hB hz1 hk1 hS1 => ?_)
  have hP1 : va_P G.2.1 vwCl (wl G u) H1 := by rw [← ht]; exact hB
  exact kk r u hw H1 locs1 ls hP1 hS1 hl
theorem r_callSq {l : Launch} {G : GX} {n : Nat} {K : KX} {cc : ByteArray} {own : String} {rt : Option FieldType} {Ts : List Cond} {nL : Nat} {pc : Nat} {lv : List (Nat × Value)} {st : List Value} {σ : MM} (X : FX G K cc own rt Ts nL) {ix : Nat} {y : MethodName} {ws : List Cond} {bytes : ByteArray} {maxL k n' : Nat} {rty : Option FieldType} {As rest : List Value} {o : Option (Option Nat × MM)} (hM : CTq l G y ws n' (As) σ o) (hmd : MD y ws bytes maxL k rty) (hT : GoodIn Ts (va_wsS own ix y ws)) (hn : n' + 1 ≤ n)  (hk : As.length = k) (hst : st = As.reverse ++ rest) (hcat : (rest.map fun v => v.category).sum ≤ 8) (hdg : decode cc pc = .ok (.invokestatic ix, 3)) (kk : ∀ (r : Option Nat) (u : MM), o = some (r, u) → V l G n K nL (pc + 3) lv (va_re G.1 r :: rest) u) : V l G n K nL pc lv st σ := by
  obtain ⟨p, e, s, m, args, below, meth, c, Q⟩ := K
  obtain ⟨hx, hb, hr, hml, hown, hts, hlk, hEV⟩ := X
  subst hst
  intro H locs ls hP hS hl
  obtain ⟨⟨ws', hws⟩, hmd, -, hmx⟩ := hmd
  have hA : ∀ q, FA G H.size q → FA G s.heap.size q := fun q hq => hq.elim (fun h => Or.inl h) (fun h => Or.inr (Nat.le_trans hS.1 h))
  refine va_calle (va_runS (As := As) (rest := rest) ⟨hx, hb, hml, hown, hts⟩ (hM H.size) (va_cwS k hts hT hws rfl rfl hmd (RM_le hn hmx)) ⟨CP_blind, fun U hU hW => ⟨rfl, by rw [hU], by rw [hU]; exact hP, hEV.call hS hU hW⟩⟩ rfl hk hl.1 rfl (lv_room hcat) hdg ⟨Nat.le_refl _, Nat.le_refl _⟩) hS (fun q _ h => hA q h) hA (fun r u t H1 locs1 ht hvm hw hB hz1 hk1 hS1 => ?_)
  have hP1 : va_P G.2.1 vwCl (wl G u) H1 := by rw [← ht]; exact hB
  exact kk r u hw H1 locs1 ls hP1 hS1 hl
theorem r_n_isWord {l : Launch} {G : GX} {n : Nat} {K : KX} {cc : ByteArray} {own : String} {rt : Option FieldType} {Ts : List Cond} {nL : Nat} {pc : Nat} {lv : List (Nat × Value)} {st : List Value} {σ : MM} (X : FX G K cc own rt Ts nL) (how : own = RX5) {ws : List Cond} {bytes : ByteArray} {maxL k n' : Nat} {rty : Option FieldType} {As rest : List Value} {o : Option (Int32 × MM)} (hM : CTi l G yX8_isWord ws n' As σ o) (hmd : MD yX8_isWord ws bytes maxL k rty) (hG : GoodIn Ts ws) (hini : Cond.initialized yX8_isWord.cls ∈ Ts) (hstc : Cond.static yX8_isWord ∈ Ts) (hn : n' + 1 ≤ n) (hk : As.length = k) (hst : st = As.reverse ++ rest) (hcat : (rest.map fun v => v.category).sum ≤ 8) (hdg : decode cc pc = .ok (.invokestatic 45, 3)) (kk : ∀ (r : Int32) (u : MM), o = some (r, u) → V l G n K nL (pc + 3) lv (.int r :: rest) u) : V l G n K nL pc lv st σ := by
  obtain ⟨p, e, s, m, args, below, meth, c, Q⟩ := K
  obtain ⟨hx, hb, hr, hml, hown, hts, hlk, hEV⟩ := X
  subst how
  subst hst
  intro H locs ls hP hS hl
  obtain ⟨⟨ws', hws⟩, hmd, -, hmx⟩ := hmd
  have hA : ∀ q, FA G H.size q → FA G s.heap.size q := fun q hq => hq.elim (fun h => Or.inl h) (fun h => Or.inr (Nat.le_trans hS.1 h))
  refine va_calli (va_runSN (As := As) (rest := rest) ⟨hx, hb, hml, hown, hts⟩ (hM H.size) ⟨va_cnB k hts hG hws rfl rfl hEV.2.2.2.2.2.2.1 (hts _ hini) hmd (RM_le hn hmx), hts _ hstc, trivial⟩ ⟨CP_blind, fun U hU hW => ⟨rfl, by rw [hU], by rw [hU]; exact hP, hEV.call hS hU hW⟩⟩ rfl hk hl.1 rfl (lv_room hcat) hdg ⟨Nat.le_refl _, Nat.le_refl _⟩) hS (fun q _ h => hA q h) hA (fun r u t H1 locs1 ht hvm hw hB hz1 hk1 hS1 => ?_)
  have hP1 : va_P G.2.1 vwCl (wl G u) H1 := by rw [← ht]; exact hB
  exact kk r u hw H1 locs1 ls hP1 hS1 hl
theorem r_n_kindAbove {l : Launch} {G : GX} {n : Nat} {K : KX} {cc : ByteArray} {own : String} {rt : Option FieldType} {Ts : List Cond} {nL : Nat} {pc : Nat} {lv : List (Nat × Value)} {st : List Value} {σ : MM} (X : FX G K cc own rt Ts nL) (how : own = RX7) {ws : List Cond} {bytes : ByteArray} {maxL k n' : Nat} {rty : Option FieldType} {As rest : List Value} {o : Option (Int32 × MM)} (hM : CTi l G yX8_kindAbove ws n' As σ o) (hmd : MD yX8_kindAbove ws bytes maxL k rty) (hG : GoodIn Ts ws) (hini : Cond.initialized yX8_kindAbove.cls ∈ Ts) (hstc : Cond.static yX8_kindAbove ∈ Ts) (hn : n' + 1 ≤ n) (hk : As.length = k) (hst : st = As.reverse ++ rest) (hcat : (rest.map fun v => v.category).sum ≤ 8) (hdg : decode cc pc = .ok (.invokestatic 48, 3)) (kk : ∀ (r : Int32) (u : MM), o = some (r, u) → V l G n K nL (pc + 3) lv (.int r :: rest) u) : V l G n K nL pc lv st σ := by
  obtain ⟨p, e, s, m, args, below, meth, c, Q⟩ := K
  obtain ⟨hx, hb, hr, hml, hown, hts, hlk, hEV⟩ := X
  subst how
  subst hst
  intro H locs ls hP hS hl
  obtain ⟨⟨ws', hws⟩, hmd, -, hmx⟩ := hmd
  have hA : ∀ q, FA G H.size q → FA G s.heap.size q := fun q hq => hq.elim (fun h => Or.inl h) (fun h => Or.inr (Nat.le_trans hS.1 h))
  refine va_calli (va_runSN (As := As) (rest := rest) ⟨hx, hb, hml, hown, hts⟩ (hM H.size) ⟨va_cnB k hts hG hws rfl rfl hEV.2.2.2.2.2.2.2 (hts _ hini) hmd (RM_le hn hmx), hts _ hstc, trivial⟩ ⟨CP_blind, fun U hU hW => ⟨rfl, by rw [hU], by rw [hU]; exact hP, hEV.call hS hU hW⟩⟩ rfl hk hl.1 rfl (lv_room hcat) hdg ⟨Nat.le_refl _, Nat.le_refl _⟩) hS (fun q _ h => hA q h) hA (fun r u t H1 locs1 ht hvm hw hB hz1 hk1 hS1 => ?_)
  have hP1 : va_P G.2.1 vwCl (wl G u) H1 := by rw [← ht]; exact hB
  exact kk r u hw H1 locs1 ls hP1 hS1 hl
theorem r_iret {l : Launch} {G : GX} {n : Nat} {K : KX} {cc : ByteArray} {own : String} {rt : Option FieldType} {Ts : List Cond} {nL : Nat} {pc : Nat} {lv : List (Nat × Value)} {σ : MM} (X : FX G K cc own rt Ts nL) (hrt : rt = some .int) {Φ : Int32 → MM → Prop} (hR : Ri G K Φ) {v : Int32} (h : Φ v σ) (hdg : decode cc pc = .ok (.ireturn, 1)) : V l G n K nL pc lv [.int v] σ := by
  obtain ⟨p, e, s, m, args, below, meth, c, Q⟩ := K
  obtain ⟨hx, hb, hr, hml, hown, hts, hlk, hEV⟩ := X
  subst hR
  intro H locs ls hP hS hl
  exact W.iret hx hb (hr.trans hrt) (fun t ht hW => ⟨⟨v, σ, rfl, h, by show va_P _ _ _ _; rw [ht]; exact hP⟩, hS.F ht⟩) hS.2.2 hdg
theorem r_zret {l : Launch} {G : GX} {n : Nat} {K : KX} {cc : ByteArray} {own : String} {rt : Option FieldType} {Ts : List Cond} {nL : Nat} {pc : Nat} {lv : List (Nat × Value)} {σ : MM} (X : FX G K cc own rt Ts nL) (hrt : rt = some .boolean) {Φ : Int32 → MM → Prop} (hR : Ri G K Φ) {v : Int32} (hv : v = 0 ∨ v = 1) (h : Φ v σ) (hdg : decode cc pc = .ok (.ireturn, 1)) : V l G n K nL pc lv [.int v] σ := by
  obtain ⟨p, e, s, m, args, below, meth, c, Q⟩ := K
  obtain ⟨hx, hb, hr, hml, hown, hts, hlk, hEV⟩ := X
  subst hR
  intro H locs ls hP hS hl
  exact W.zret hx hb (hr.trans hrt) (by rcases hv with rfl | rfl <;> rfl) (fun t ht hW => ⟨⟨v, σ, rfl, h, by show va_P _ _ _ _; rw [ht]; exact hP⟩, hS.F ht⟩) hS.2.2 hdg
theorem r_lret {l : Launch} {G : GX} {n : Nat} {K : KX} {cc : ByteArray} {own : String} {rt : Option FieldType} {Ts : List Cond} {nL : Nat} {pc : Nat} {lv : List (Nat × Value)} {σ : MM} (X : FX G K cc own rt Ts nL) (hrt : rt = some .long) {Φ : Int64 → MM → Prop} (hR : Rl G K Φ) {v : Int64} (h : Φ v σ) (hdg : decode cc pc = .ok (.lreturn, 1)) : V l G n K nL pc lv [.long v] σ := by
  obtain ⟨p, e, s, m, args, below, meth, c, Q⟩ := K
  obtain ⟨hx, hb, hr, hml, hown, hts, hlk, hEV⟩ := X
  subst hR
  intro H locs ls hP hS hl
  exact W.lret hx hb (hr.trans hrt) (fun t ht hW => ⟨⟨v, σ, rfl, h, by show va_P _ _ _ _; rw [ht]; exact hP⟩, hS.F ht⟩) hS.2.2 hdg
theorem r_vret {l : Launch} {G : GX} {n : Nat} {K : KX} {cc : ByteArray} {own : String} {rt : Option FieldType} {Ts : List Cond} {nL : Nat} {pc : Nat} {lv : List (Nat × Value)} {σ : MM} (X : FX G K cc own rt Ts nL) (hrt : rt = none) {Φ : Unit → MM → Prop} (hR : Rv G K Φ) (h : Φ () σ) (hdg : decode cc pc = .ok (.return_, 1)) : V l G n K nL pc lv [] σ := by
  obtain ⟨p, e, s, m, args, below, meth, c, Q⟩ := K
  obtain ⟨hx, hb, hr, hml, hown, hts, hlk, hEV⟩ := X
  subst hR
  intro H locs ls hP hS hl
  exact W.vret hx hb (hr.trans hrt) (fun t ht hW => ⟨⟨σ, rfl, h, by show va_P _ _ _ _; rw [ht]; exact hP⟩, hS.F ht⟩) hS.2.2 hdg
theorem r_qret {l : Launch} {G : GX} {n : Nat} {K : KX} {cc : ByteArray} {own : String} {rt : Option FieldType} {Ts : List Cond} {nL : Nat} {pc : Nat} {lv : List (Nat × Value)} {σ : MM} (X : FX G K cc own rt Ts nL) {C : String} (hrt : rt = some (.object C)) {Φ : Option Nat → MM → Prop} (hR : Rq G K Φ) {r : Option Nat} {v : Value} (hv : va_re G.1 r = v) (h : Φ r σ) (hdg : decode cc pc = .ok (.areturn, 1)) : V l G n K nL pc lv [v] σ := by
  obtain ⟨p, e, s, m, args, below, meth, c, Q⟩ := K
  obtain ⟨hx, hb, hr, hml, hown, hts, hlk, hEV⟩ := X
  subst hR
  subst hv
  intro H locs ls hP hS hl
  exact W.aret hx hb (hr.trans hrt) (Or.inl ⟨C, rfl⟩) (va_re_or _ _) (fun t ht hW => ⟨⟨r, σ, rfl, h, by show va_P _ _ _ _; rw [ht]; exact hP⟩, hS.F ht⟩) hS.2.2 hdg
theorem CTi_of {l : Launch} {G : GX} {y : MethodName} {ws : List Cond} {n : Nat} {as : List Value} {σ : MM} {o : Option (Int32 × MM)} {cc : ByteArray} {maxL k : Nat} {rt : Option FieldType} (hmd : MD y ws cc maxL k rt) (hlen : (lg_sl as).length ≤ maxL) (body : ∀ K : KX, FX G K cc y.cls rt ws maxL → Ri G K (fun r u => o = some (r, u)) → V l G n K maxL 0 (lv_args 0 as) [] σ) : CTi l G y ws n as σ o := by
  intro sz
  obtain ⟨⟨ws', hws⟩, hd, hpl, hmx⟩ := hmd
  refine Met.ofW (cc := cc) (maxL := maxL) (ret := rt) hpl hws ?_
  intro p e s m args below meth c s₁ B hml hv
  obtain ⟨rfl, hsz, hP, hEV⟩ := hv
  subst hsz
  have hts := atoms_spec (ws := ws) B.pre
  have hown : s.vm.findClass y.cls = some m.cls := findClass_of_methodNamed B.named
  have hl := lv_entry as (n := maxL) hlen
  rw [lg_entry_eq]
  exact body (p, e, s, m, as.toArray, below, meth, c, MQ below (va_Qi (fun r u => o = some (r, u)) (BW G) (FA G s.heap.size)) as.toArray s 0 0 (FA G s.heap.size)) ⟨B.exec, B.bytes, B.returns, hml, hown, hts, B.notSynchronized, hEV⟩ rfl s.heap [] _ hP va_S.rf hl
theorem CTl_of {l : Launch} {G : GX} {y : MethodName} {ws : List Cond} {n : Nat} {as : List Value} {σ : MM} {o : Option (Int64 × MM)} {cc : ByteArray} {maxL k : Nat} {rt : Option FieldType} (hmd : MD y ws cc maxL k rt) (hlen : (lg_sl as).length ≤ maxL) (body : ∀ K : KX, FX G K cc y.cls rt ws maxL → Rl G K (fun r u => o = some (r, u)) → V l G n K maxL 0 (lv_args 0 as) [] σ) : CTl l G y ws n as σ o := by
  intro sz
  obtain ⟨⟨ws', hws⟩, hd, hpl, hmx⟩ := hmd
  refine Met.ofW (cc := cc) (maxL := maxL) (ret := rt) hpl hws ?_
  intro p e s m args below meth c s₁ B hml hv
  obtain ⟨rfl, hsz, hP, hEV⟩ := hv
  subst hsz
  have hts := atoms_spec (ws := ws) B.pre
  have hown : s.vm.findClass y.cls = some m.cls := findClass_of_methodNamed B.named
  have hl := lv_entry as (n := maxL) hlen
  rw [lg_entry_eq]
  exact body (p, e, s, m, as.toArray, below, meth, c, MQ below (va_Ql (fun r u => o = some (r, u)) (BW G) (FA G s.heap.size)) as.toArray s 0 0 (FA G s.heap.size)) ⟨B.exec, B.bytes, B.returns, hml, hown, hts, B.notSynchronized, hEV⟩ rfl s.heap [] _ hP va_S.rf hl
theorem CTv_of {l : Launch} {G : GX} {y : MethodName} {ws : List Cond} {n : Nat} {as : List Value} {σ : MM} {o : Option (Unit × MM)} {cc : ByteArray} {maxL k : Nat} {rt : Option FieldType} (hmd : MD y ws cc maxL k rt) (hlen : (lg_sl as).length ≤ maxL) (body : ∀ K : KX, FX G K cc y.cls rt ws maxL → Rv G K (fun r u => o = some (r, u)) → V l G n K maxL 0 (lv_args 0 as) [] σ) : CTv l G y ws n as σ o := by
  intro sz
  obtain ⟨⟨ws', hws⟩, hd, hpl, hmx⟩ := hmd
  refine Met.ofW (cc := cc) (maxL := maxL) (ret := rt) hpl hws ?_
  intro p e s m args below meth c s₁ B hml hv
  obtain ⟨rfl, hsz, hP, hEV⟩ := hv
  subst hsz
  have hts := atoms_spec (ws := ws) B.pre
  have hown : s.vm.findClass y.cls = some m.cls := findClass_of_methodNamed B.named
  have hl := lv_entry as (n := maxL) hlen
  rw [lg_entry_eq]
  exact body (p, e, s, m, as.toArray, below, meth, c, MQ below (va_Qv (fun u => o = some ((), u)) (BW G) (FA G s.heap.size)) as.toArray s 0 0 (FA G s.heap.size)) ⟨B.exec, B.bytes, B.returns, hml, hown, hts, B.notSynchronized, hEV⟩ rfl s.heap [] _ hP va_S.rf hl
theorem CTq_of {l : Launch} {G : GX} {y : MethodName} {ws : List Cond} {n : Nat} {as : List Value} {σ : MM} {o : Option (Option Nat × MM)} {cc : ByteArray} {maxL k : Nat} {rt : Option FieldType} (hmd : MD y ws cc maxL k rt) (hlen : (lg_sl as).length ≤ maxL) (body : ∀ K : KX, FX G K cc y.cls rt ws maxL → Rq G K (fun r u => o = some (r, u)) → V l G n K maxL 0 (lv_args 0 as) [] σ) : CTq l G y ws n as σ o := by
  intro sz
  obtain ⟨⟨ws', hws⟩, hd, hpl, hmx⟩ := hmd
  refine Met.ofW (cc := cc) (maxL := maxL) (ret := rt) hpl hws ?_
  intro p e s m args below meth c s₁ B hml hv
  obtain ⟨rfl, hsz, hP, hEV⟩ := hv
  subst hsz
  have hts := atoms_spec (ws := ws) B.pre
  have hown : s.vm.findClass y.cls = some m.cls := findClass_of_methodNamed B.named
  have hl := lv_entry as (n := maxL) hlen
  rw [lg_entry_eq]
  exact body (p, e, s, m, as.toArray, below, meth, c, MQ below (va_Qe G.1 (fun r u => o = some (r, u)) (BW G) (FA G s.heap.size)) as.toArray s 0 0 (FA G s.heap.size)) ⟨B.exec, B.bytes, B.returns, hml, hown, hts, B.notSynchronized, hEV⟩ rfl s.heap [] _ hP va_S.rf hl
theorem mem_ix {α : Type} {l : List α} {a : α} (i : Nat) (h : l[i]? = some a) : a ∈ l := List.mem_of_getElem? h
theorem inr_lt {j : Int32} {N x : Nat} (h : ¬ (j < 0 ∨ N ≤ x)) : x < N := Nat.not_le.mp (fun q => h (Or.inr q))
theorem kso {t k : Nat} (h : kd t = k) : ∀ i, some t = some i → kd i = k := fun i e => by cases e; exact h
theorem fit_z {v : Int32} (h : v = 0 ∨ v = 1) : fits .boolean (.int v) = true := by rcases h with rfl | rfl <;> rfl
theorem nar_z {v : Int32} (h : v = 0 ∨ v = 1) : narrow .boolean (.int v) = .int v := by rcases h with rfl | rfl <;> rfl
def onO {β : Type} (t : Option Nat) (a : β) (b : Nat → β) : β := match t with
  | none => a
  | some i => b i
theorem okz {α : Type} {Φ : α → MM → Prop} {a : Option (α × MM)} {b : Nat → Option (α × MM)} (h : Ok Φ (onO none a b)) : Ok Φ a := h
theorem oky {α : Type} {Φ : α → MM → Prop} {a : Option (α × MM)} {b : Nat → Option (α × MM)} {i : Nat} (h : Ok Φ (onO (some i) a b)) : Ok Φ (b i) := h
def lt {α β : Type} (a : α) (k : α → Option β) : Option β := k a
theorem okl {α β : Type} {Φ : β → MM → Prop} {a : α} {k : α → Option (β × MM)} (h : Ok Φ (lt a k)) : ∃ y, y = a ∧ Ok Φ (k y) := ⟨a, rfl, h⟩
def itr {α : Type} (z : α) (f : α → α) : Nat → α
  | 0 => z
  | n + 1 => f (itr z f n)
theorem lk_n {x k32 : Int32} {a o d off : Int} {r : List (Int × Int)} (h : ¬ x = k32) (hk : k32.toInt = a) (hr : Op.lookupswitch.offset r d x.toInt = off) : Op.lookupswitch.offset ((a, o) :: r) d x.toInt = off := by
  rw [Op.lookupswitch.offset_cons, if_neg (fun e => h (Int32.toInt_inj.mp (e.symm.trans hk.symm)))]
  exact hr
theorem lk_out {d v : Int} : ∀ (ps : List (Int × Int)), (∀ q ∈ ps, q.1 ≠ v) → Op.lookupswitch.offset ps d v = d
  | [], _ => rfl
  | (a, o) :: r, h => by
    rw [Op.lookupswitch.offset_cons, if_neg (h (a, o) List.mem_cons_self)]
    exact lk_out r (fun q hq => h q (List.mem_cons_of_mem _ hq))
theorem r_table {l : Launch} {G : GX} {n : Nat} {K : KX} {cc : ByteArray} {own : String} {rt : Option FieldType} {Ts : List Cond} {nL : Nat} {pc : Nat} {lv : List (Nat × Value)} {st : List Value} {σ : MM} (X : FX G K cc own rt Ts nL) {dflt lo hi : Int} {offs : Array Int} {len : Nat} {x : Int32} {off : Int} {tgt : Nat} (ps : List (Int × Int)) (N : Nat) (hdg : decode cc pc = .ok (.tableswitch dflt lo hi offs, len)) (hN : lo + (N : Int) = hi + 1) (hps : (List.range N).all (fun k => offs[k]? == some (Op.lookupswitch.offset ps dflt (lo + (k : Int)))) = true) (hkeys : ps.all (fun q => decide (lo ≤ q.1) && decide (q.1 ≤ hi)) = true) (ho : Op.lookupswitch.offset ps dflt x.toInt = off) (ht : (pc : Int) + off = (tgt : Int)) (k : V l G n K nL tgt lv st σ) : V l G n K nL pc lv (.int x :: st) σ := by
  by_cases h : x.toInt < lo ∨ hi < x.toInt
  · have e : off = dflt := by
      rw [← ho]
      refine lk_out ps (fun q hq e => ?_)
      have h1 := List.all_eq_true.mp hkeys q hq
      simp only [Bool.and_eq_true, decide_eq_true_eq] at h1
      omega
    rw [e] at ht
    exact r_tableOut X hdg h ht k
  · have h1 : ¬ x.toInt < lo := fun q => h (Or.inl q)
    have h2 : ¬ hi < x.toInt := fun q => h (Or.inr q)
    have h3 := List.all_eq_true.mp hps (x.toInt - lo).toNat (List.mem_range.mpr (by omega))
    have h4 : lo + (((x.toInt - lo).toNat : Nat) : Int) = x.toInt := by omega
    rw [h4, ho] at h3
    exact r_tableIn X hdg h1 h2 (by simpa using h3) ht k
theorem r_topi {l : Launch} {G : GX} {n : Nat} {K : KX} {nL pc : Nat} {lv : List (Nat × Value)} {st : List Value} {σ : MM} {x y : Int32} (e : y = x) (k : V l G n K nL pc lv (.int y :: st) σ) : V l G n K nL pc lv (.int x :: st) σ := by subst e; exact k
theorem r_topl {l : Launch} {G : GX} {n : Nat} {K : KX} {nL pc : Nat} {lv : List (Nat × Value)} {st : List Value} {σ : MM} {x y : Int64} (e : y = x) (k : V l G n K nL pc lv (.long y :: st) σ) : V l G n K nL pc lv (.long x :: st) σ := by subst e; exact k
theorem r_sg {l : Launch} {G : GX} {n : Nat} {K : KX} {nL pc : Nat} {lv : List (Nat × Value)} {st : List Value} {σ σ' : MM} (e : σ' = σ) (k : V l G n K nL pc lv st σ') : V l G n K nL pc lv st σ := by subst e; exact k
theorem r_lds0 {l : Launch} {G : GX} {n : Nat} {K : KX} {cc : ByteArray} {own : String} {rt : Option FieldType} {Ts : List Cond} {nL : Nat} {pc : Nat} {lv : List (Nat × Value)} {st : List Value} {σ : MM} (X : FX G K cc own rt Ts nL) (how : own = RX8) (hdg : decode cc pc = .ok (.ldc 161, 2)) (kk : V l G n K nL (pc+2) lv (.ref (G.2.2.2 (2 + (0 : Int32).toNatClampNeg)) :: st) σ) : V l G n K nL pc lv st σ := by
  obtain ⟨p, e, s, m, args, below, meth, c, Q⟩ := K
  obtain ⟨hx, hb, hr, hml, hown, hts, hlk, hEV⟩ := X
  subst how
  intro H locs ls hP hS hl
  exact va_ldcS hx hb hown hEV.2.2.2.1 hdg (kk H locs ls hP hS hl)
theorem r_lds1 {l : Launch} {G : GX} {n : Nat} {K : KX} {cc : ByteArray} {own : String} {rt : Option FieldType} {Ts : List Cond} {nL : Nat} {pc : Nat} {lv : List (Nat × Value)} {st : List Value} {σ : MM} (X : FX G K cc own rt Ts nL) (how : own = RX8) (hdg : decode cc pc = .ok (.ldc 163, 2)) (kk : V l G n K nL (pc+2) lv (.ref (G.2.2.2 (2 + (1 : Int32).toNatClampNeg)) :: st) σ) : V l G n K nL pc lv st σ := by
  obtain ⟨p, e, s, m, args, below, meth, c, Q⟩ := K
  obtain ⟨hx, hb, hr, hml, hown, hts, hlk, hEV⟩ := X
  subst how
  intro H locs ls hP hS hl
  exact va_ldcS hx hb hown hEV.2.2.2.2.1 hdg (kk H locs ls hP hS hl)
theorem lg0 {x y : Int64} : lg_cmp x y = 0 ↔ x = y := by
  unfold lg_cmp
  by_cases h : x > y
  · rw [if_pos h]
    constructor
    · intro q; exact absurd q (by decide)
    · intro q; subst q; exact absurd h (Int64.lt_irrefl)
  · rw [if_neg h]
    by_cases h2 : x = y
    · simp [h2]
    · rw [if_neg h2]
      constructor
      · intro q; exact absurd q (by decide)
      · intro q; exact absurd q h2
theorem r_lcmp {l : Launch} {G : GX} {n : Nat} {K : KX} {cc : ByteArray} {own : String} {rt : Option FieldType} {Ts : List Cond} {nL : Nat} {pc : Nat} {lv : List (Nat × Value)} {st : List Value} {σ : MM} (X : FX G K cc own rt Ts nL) {x y : Int64} (hdg : decode cc pc = .ok (.lcmp, 1)) (k : V l G n K nL (pc+1) lv (.int (lg_cmp x y) :: st) σ) : V l G n K nL pc lv (.long y :: .long x :: st) σ := by
  obtain ⟨p, e, s, m, args, below, meth, c, Q⟩ := K
  obtain ⟨hx, hb, hr, hml, hown, hts, hlk, hEV⟩ := X
  intro H locs ls hP hS hl
  exact W.lcmp hx hb hdg (k H locs ls hP hS hl)
theorem r_lcmp_eq {l : Launch} {G : GX} {n : Nat} {K : KX} {cc : ByteArray} {own : String} {rt : Option FieldType} {Ts : List Cond} {nL : Nat} {pc : Nat} {lv : List (Nat × Value)} {st : List Value} {σ : MM} (X : FX G K cc own rt Ts nL) {x y : Int64} {off : Int} {tgt : Nat} (hdg : decode cc pc = .ok (.lcmp, 1)) (hdg2 : decode cc (pc+1) = .ok (.ifCond .eq off, 3)) (ht : ((pc+1 : Nat) : Int) + off = (tgt : Int)) (kt : x = y → V l G n K nL tgt lv st σ) (kf : ¬ x = y → V l G n K nL (pc+1+3) lv st σ) : V l G n K nL pc lv (.long y :: .long x :: st) σ := r_lcmp X hdg (r_if_eq X hdg2 ht (fun h => kt (lg0.mp h)) (fun h => kf (fun e => h (lg0.mpr e))))
theorem r_lcmp_ne {l : Launch} {G : GX} {n : Nat} {K : KX} {cc : ByteArray} {own : String} {rt : Option FieldType} {Ts : List Cond} {nL : Nat} {pc : Nat} {lv : List (Nat × Value)} {st : List Value} {σ : MM} (X : FX G K cc own rt Ts nL) {x y : Int64} {off : Int} {tgt : Nat} (hdg : decode cc pc = .ok (.lcmp, 1)) (hdg2 : decode cc (pc+1) = .ok (.ifCond .ne off, 3)) (ht : ((pc+1 : Nat) : Int) + off = (tgt : Int)) (kt : ¬ x = y → V l G n K nL tgt lv st σ) (kf : x = y → V l G n K nL (pc+1+3) lv st σ) : V l G n K nL pc lv (.long y :: .long x :: st) σ := r_lcmp X hdg (r_if_ne X hdg2 ht (fun h => kt (fun e => h (lg0.mpr e))) (fun h => kf (lg0.mp h)))
theorem r_lcmp_lt {l : Launch} {G : GX} {n : Nat} {K : KX} {cc : ByteArray} {own : String} {rt : Option FieldType} {Ts : List Cond} {nL : Nat} {pc : Nat} {lv : List (Nat × Value)} {st : List Value} {σ : MM} (X : FX G K cc own rt Ts nL) {x y : Int64} {off : Int} {tgt : Nat} (hdg : decode cc pc = .ok (.lcmp, 1)) (hdg2 : decode cc (pc+1) = .ok (.ifCond .lt off, 3)) (ht : ((pc+1 : Nat) : Int) + off = (tgt : Int)) (kt : x < y → V l G n K nL tgt lv st σ) (kf : ¬ x < y → V l G n K nL (pc+1+3) lv st σ) : V l G n K nL pc lv (.long y :: .long x :: st) σ := r_lcmp X hdg (r_if_lt X hdg2 ht (fun h => kt ((lg_cmp_lt _ _).mp h)) (fun h => kf (fun e => h ((lg_cmp_lt _ _).mpr e))))
theorem r_lcmp_ge {l : Launch} {G : GX} {n : Nat} {K : KX} {cc : ByteArray} {own : String} {rt : Option FieldType} {Ts : List Cond} {nL : Nat} {pc : Nat} {lv : List (Nat × Value)} {st : List Value} {σ : MM} (X : FX G K cc own rt Ts nL) {x y : Int64} {off : Int} {tgt : Nat} (hdg : decode cc pc = .ok (.lcmp, 1)) (hdg2 : decode cc (pc+1) = .ok (.ifCond .ge off, 3)) (ht : ((pc+1 : Nat) : Int) + off = (tgt : Int)) (kt : y ≤ x → V l G n K nL tgt lv st σ) (kf : ¬ y ≤ x → V l G n K nL (pc+1+3) lv st σ) : V l G n K nL pc lv (.long y :: .long x :: st) σ := r_lcmp X hdg (r_if_ge X hdg2 ht (fun h => kt ((lg_cmp_ge _ _).mp h)) (fun h => kf (fun e => h ((lg_cmp_ge _ _).mpr e))))
theorem r_lcmp_gt {l : Launch} {G : GX} {n : Nat} {K : KX} {cc : ByteArray} {own : String} {rt : Option FieldType} {Ts : List Cond} {nL : Nat} {pc : Nat} {lv : List (Nat × Value)} {st : List Value} {σ : MM} (X : FX G K cc own rt Ts nL) {x y : Int64} {off : Int} {tgt : Nat} (hdg : decode cc pc = .ok (.lcmp, 1)) (hdg2 : decode cc (pc+1) = .ok (.ifCond .gt off, 3)) (ht : ((pc+1 : Nat) : Int) + off = (tgt : Int)) (kt : y < x → V l G n K nL tgt lv st σ) (kf : ¬ y < x → V l G n K nL (pc+1+3) lv st σ) : V l G n K nL pc lv (.long y :: .long x :: st) σ := r_lcmp X hdg (r_if_gt X hdg2 ht (fun h => kt ((lg_cmp_gt _ _).mp h)) (fun h => kf (fun e => h ((lg_cmp_gt _ _).mpr e))))
theorem r_lcmp_le {l : Launch} {G : GX} {n : Nat} {K : KX} {cc : ByteArray} {own : String} {rt : Option FieldType} {Ts : List Cond} {nL : Nat} {pc : Nat} {lv : List (Nat × Value)} {st : List Value} {σ : MM} (X : FX G K cc own rt Ts nL) {x y : Int64} {off : Int} {tgt : Nat} (hdg : decode cc pc = .ok (.lcmp, 1)) (hdg2 : decode cc (pc+1) = .ok (.ifCond .le off, 3)) (ht : ((pc+1 : Nat) : Int) + off = (tgt : Int)) (kt : x ≤ y → V l G n K nL tgt lv st σ) (kf : ¬ x ≤ y → V l G n K nL (pc+1+3) lv st σ) : V l G n K nL pc lv (.long y :: .long x :: st) σ := r_lcmp X hdg (r_if_le X hdg2 ht (fun h => kt ((lg_cmp_le _ _).mp h)) (fun h => kf (fun e => h ((lg_cmp_le _ _).mpr e))))
def sbyt (s : Int32) (j : Nat) : Int32 := if s = 0 then ([119, 115, 109] : List Int32).getD j 0 else ([98, 115, 107] : List Int32).getD j 0
theorem sbyt_at {s : Int32} (hs : s = 0 ∨ s = 1) : ∃ i : Nat, i < 2 ∧ s.toNatClampNeg = i ∧ ([3, 3] : List Nat).getD i 0 = 3 ∧ ∀ j, sbyt s j = ((([[119, 115, 109], [98, 115, 107]] : List (List Int32)).getD i []).getD j 0) := by
  rcases hs with rfl | rfl
  · exact ⟨0, by decide, by decide, rfl, fun j => rfl⟩
  · exact ⟨1, by decide, by decide, rfl, fun j => rfl⟩
theorem r_ishr {l : Launch} {G : GX} {n : Nat} {K : KX} {cc : ByteArray} {own : String} {rt : Option FieldType} {Ts : List Cond} {nL : Nat} {pc : Nat} {lv : List (Nat × Value)} {st : List Value} {σ : MM} (X : FX G K cc own rt Ts nL) {x y : Int32} (hdg : decode cc pc = .ok (.ishr, 1)) (k : V l G n K nL (pc+1) lv (.int (x >>> (y &&& 31)) :: st) σ) : V l G n K nL pc lv (.int y :: .int x :: st) σ := by
  obtain ⟨p, e, s, m, args, below, meth, c, Q⟩ := K
  obtain ⟨hx, hb, hr, hml, hown, hts, hlk, hEV⟩ := X
  intro H locs ls hP hS hl
  exact lv_ishr hx hb hdg (k H locs ls hP hS hl)
theorem r_compact {l : Launch} {G : GX} {n : Nat} {K : KX} {cc : ByteArray} {own : String} {rt : Option FieldType} {Ts : List Cond} {nL : Nat} {pc : Nat} {lv : List (Nat × Value)} {st : List Value} {σ : MM} (X : FX G K cc own rt Ts nL) {ix : Nat} (hlink : Cond.fieldLink own ix "java/lang/String" "COMPACT_STRINGS" "Z" ∈ Ts) (hdg : decode cc pc = .ok (.getstatic ix, 3)) (kk : V l G n K nL (pc+3) lv (.int (1 : Int32) :: st) σ) : V l G n K nL pc lv st σ := by
  obtain ⟨p, e, s, m, args, below, meth, c, Q⟩ := K
  obtain ⟨hx, hb, hr, hml, hown, hts, hlk, hEV⟩ := X
  intro H locs ls hP hS hl
  exact va_gets hx hb hEV.2.2.1.2.2.2.2.1 hS hown (hts _ hlink) (fun _ h => h) hdg (kk H locs ls hP hS hl)
theorem r_scoder {l : Launch} {G : GX} {n : Nat} {K : KX} {cc : ByteArray} {own : String} {rt : Option FieldType} {Ts : List Cond} {nL : Nat} {pc : Nat} {lv : List (Nat × Value)} {st : List Value} {σ : MM} (X : FX G K cc own rt Ts nL) {ix : Nat} {sc : Int32} (hs : sc = 0 ∨ sc = 1) (hlink : Cond.fieldLink own ix "java/lang/String" "coder" "B" ∈ Ts) (hdg : decode cc pc = .ok (.getfield ix, 3)) (kk : V l G n K nL (pc+3) lv (.int (0 : Int32) :: st) σ) : V l G n K nL pc lv (.ref (G.2.2.2 (2 + sc.toNatClampNeg)) :: st) σ := by
  obtain ⟨p, e, s, m, args, below, meth, c, Q⟩ := K
  obtain ⟨hx, hb, hr, hml, hown, hts, hlk, hEV⟩ := X
  intro H locs ls hP hS hl
  obtain ⟨i, hi, e, -, -⟩ := sbyt_at hs
  have k1 := kk H locs ls hP hS hl
  rw [e]
  exact vk_getf hx hb (hEV.2.2.1.2.2.2.2.2.1 i hi).2.1 hS hown (hts _ hlink) (fun _ h => h) hdg k1
theorem r_svalue {l : Launch} {G : GX} {n : Nat} {K : KX} {cc : ByteArray} {own : String} {rt : Option FieldType} {Ts : List Cond} {nL : Nat} {pc : Nat} {lv : List (Nat × Value)} {st : List Value} {σ : MM} (X : FX G K cc own rt Ts nL) {ix : Nat} {sc : Int32} (hs : sc = 0 ∨ sc = 1) (hlink : Cond.fieldLink own ix "java/lang/String" "value" "[B" ∈ Ts) (hdg : decode cc pc = .ok (.getfield ix, 3)) (kk : V l G n K nL (pc+3) lv (.ref (G.2.2.2 (4 + sc.toNatClampNeg)) :: st) σ) : V l G n K nL pc lv (.ref (G.2.2.2 (2 + sc.toNatClampNeg)) :: st) σ := by
  obtain ⟨p, e, s, m, args, below, meth, c, Q⟩ := K
  obtain ⟨hx, hb, hr, hml, hown, hts, hlk, hEV⟩ := X
  intro H locs ls hP hS hl
  obtain ⟨i, hi, e, -, -⟩ := sbyt_at hs
  have k1 := kk H locs ls hP hS hl
  rw [e] at k1 ⊢
  exact vk_getf hx hb (hEV.2.2.1.2.2.2.2.2.1 i hi).2.2.1 hS hown (hts _ hlink) (fun _ h => h) hdg k1
theorem r_bald {l : Launch} {G : GX} {n : Nat} {K : KX} {cc : ByteArray} {own : String} {rt : Option FieldType} {Ts : List Cond} {nL : Nat} {pc : Nat} {lv : List (Nat × Value)} {st : List Value} {σ : MM} (X : FX G K cc own rt Ts nL) {sc j : Int32} (hs : sc = 0 ∨ sc = 1) (hin : ¬ (j < 0 ∨ 3 ≤ j.toNatClampNeg)) (hdg : decode cc pc = .ok (.baload, 1)) (kk : V l G n K nL (pc+1) lv (.int (sbyt sc j.toNatClampNeg) :: st) σ) : V l G n K nL pc lv (.int j :: .ref (G.2.2.2 (4 + sc.toNatClampNeg)) :: st) σ := by
  obtain ⟨p, e, s, m, args, below, meth, c, Q⟩ := K
  obtain ⟨hx, hb, hr, hml, hown, hts, hlk, hEV⟩ := X
  intro H locs ls hP hS hl
  obtain ⟨i, hi, e, e3, eb⟩ := sbyt_at hs
  have k1 := kk H locs ls hP hS hl
  rw [eb] at k1
  rw [e]
  exact va_tb hx hb (hEV.2.2.1.2.2.2.2.2.1 i hi).2.2.2 hS (by rw [e3]; exact hin) rfl hdg k1
theorem r_btlen {l : Launch} {G : GX} {n : Nat} {K : KX} {cc : ByteArray} {own : String} {rt : Option FieldType} {Ts : List Cond} {nL : Nat} {pc : Nat} {lv : List (Nat × Value)} {st : List Value} {σ : MM} (X : FX G K cc own rt Ts nL) {sc v : Int32} (hs : sc = 0 ∨ sc = 1) (hv : Int32.ofNat 3 = v) (hdg : decode cc pc = .ok (.arraylength, 1)) (kk : V l G n K nL (pc+1) lv (.int v :: st) σ) : V l G n K nL pc lv (.ref (G.2.2.2 (4 + sc.toNatClampNeg)) :: st) σ := by
  obtain ⟨p, e, s, m, args, below, meth, c, Q⟩ := K
  obtain ⟨hx, hb, hr, hml, hown, hts, hlk, hEV⟩ := X
  intro H locs ls hP hS hl
  obtain ⟨i, hi, e, e3, eb⟩ := sbyt_at hs
  have k1 := kk H locs ls hP hS hl
  rw [e]
  exact va_tlen hx hb (hEV.2.2.1.2.2.2.2.2.1 i hi).2.2.2 hS (by rw [e3]; exact hv) hdg k1
theorem r_bret {l : Launch} {G : GX} {n : Nat} {K : KX} {cc : ByteArray} {own : String} {rt : Option FieldType} {Ts : List Cond} {nL : Nat} {pc : Nat} {lv : List (Nat × Value)} {σ : MM} (X : FX G K cc own rt Ts nL) {ty : FieldType} (hrt : rt = some ty) {Φ : Int32 → MM → Prop} (hR : Ri G K Φ) {v : Int32} (hv : narrow ty (.int v) = .int v) (h : Φ v σ) (hdg : decode cc pc = .ok (.ireturn, 1)) : V l G n K nL pc lv [.int v] σ := by
  obtain ⟨p, e, s, m, args, below, meth, c, Q⟩ := K
  obtain ⟨hx, hb, hr, hml, hown, hts, hlk, hEV⟩ := X
  subst hR
  intro H locs ls hP hS hl
  exact W.zret hx hb (hr.trans hrt) hv (fun t ht hW => ⟨⟨v, σ, rfl, h, by show va_P _ _ _ _; rw [ht]; exact hP⟩, hS.F ht⟩) hS.2.2 hdg
theorem r_callSVi {l : Launch} {G : GX} {n : Nat} {K : KX} {cc : ByteArray} {own : String} {rt : Option FieldType} {Ts : List Cond} {nL : Nat} {pc : Nat} {lv : List (Nat × Value)} {st : List Value} {σ : MM} (X : FX G K cc own rt Ts nL) {ix : Nat} {y : MethodName} {ws : List Cond} {bytes : ByteArray} {maxL k n' : Nat} {rty : Option FieldType} {As rest : List Value} {sc : Int32} {o : Option (Int32 × MM)} (hM : CTi l G y ws n' (.ref (G.2.2.2 (2 + sc.toNatClampNeg)) :: As) σ o) (hmd : MD y ws bytes maxL k rty) (hT : GoodIn Ts (wsV own ix RJ0 y ws)) (hn : n' + 1 ≤ n) (hC : y.cls = RJ0) (hs : sc = 0 ∨ sc = 1) (hk : As.length = k) (hst : st = As.reverse ++ .ref (G.2.2.2 (2 + sc.toNatClampNeg)) :: rest) (hcat : (rest.map fun v => v.category).sum ≤ 8) (hdg : decode cc pc = .ok (.invokevirtual ix, 3)) (kk : ∀ (r : Int32) (u : MM), o = some (r, u) → V l G n K nL (pc + 3) lv (.int r :: rest) u) : V l G n K nL pc lv st σ := by
  obtain ⟨p, e, s, m, args, below, meth, c, Q⟩ := K
  obtain ⟨hx, hb, hr, hml, hown, hts, hlk, hEV⟩ := X
  subst hst
  intro H locs ls hP hS hl
  obtain ⟨⟨ws', hws⟩, hmd, -, hmx⟩ := hmd
  have hA : ∀ q, FA G H.size q → FA G s.heap.size q := fun q hq => hq.elim (fun h => Or.inl h) (fun h => Or.inr (Nat.le_trans hS.1 h))
  have hrc : ∃ cell : Cell, H[G.2.2.2 (2 + sc.toNatClampNeg)]? = some cell ∧ cell.vm.isStatics = false ∧ s.vm.findClass RJ0 = some cell.cls := by
    obtain ⟨i, hi, e, -, -⟩ := sbyt_at hs
    rw [e]
    exact vk_recv (i := i) hEV.2.2.1.2.2.2.2.2 hi hS
  refine va_calli (va_runV (As := As) (rest := rest) ⟨hx, hb, hml, hown, hts⟩ (hM H.size) (cwV k hts hT hws rfl rfl ⟨hC, hmd⟩ (RM_le hn hmx)) ⟨CP_blind, hrc, fun U hU hW => ⟨rfl, by rw [hU], by rw [hU]; exact hP, hEV.call hS hU hW⟩⟩ rfl hk hl.1 rfl (lv_room hcat) hdg ⟨Nat.le_refl _, Nat.le_refl _⟩) hS (fun q _ h => hA q h) hA (fun r u t H1 locs1 ht hvm hw hB hz1 hk1 hS1 => ?_)
  have hP1 : va_P G.2.1 vwCl (wl G u) H1 := by rw [← ht]; exact hB
  exact kk r u hw H1 locs1 ls hP1 hS1 hl
def FU : Nat := 1000
