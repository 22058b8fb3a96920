/-! The memory of the two systems: cells 0 .. 142, a function from cells and places to ints; the references between the cells never change. -/
abbrev MM : Type := Nat → Nat → Int32
abbrev GX : Type := (Nat → Nat) × va_G × (Nat → ClassId) × (Nat → Nat)
abbrev KX : Type := Program × Env × State × MethodId × Array Value × List Frame × Method × Code × (State → Prop)
def ma (σ : MM) (i : Nat) (f : Nat → Int32) : MM := fun j => if j = i then f else σ j
def mu (σ : MM) (i k : Nat) (v : Int32) : MM := ma σ i (upd (σ i) k v)
def kdl : List Nat := [0, 30, 31, 6, 20, 20, 6, 20, 20, 20, 21, 2, 2, 2, 2, 2, 2, 2, 2, 2, 2, 2, 2, 2, 2, 2, 2, 2, 2, 2, 2, 3, 3, 3, 3, 3, 0, 30, 31, 6, 20, 20, 6, 20, 20, 20, 21, 2, 2, 2, 2, 2, 2, 2, 2, 2, 2, 2, 2, 2, 2, 2, 2, 2, 2, 2, 2, 3, 3, 3, 3, 3, 0, 30, 31, 6, 20, 20, 6, 20, 20, 20, 21, 2, 2, 2, 2, 2, 2, 2, 2, 2, 2, 2, 2, 2, 2, 2, 2, 2, 2, 2, 2, 3, 3, 3, 3, 3, 8, 4, 6, 20, 20, 7, 22, 1, 23, 23, 24, 32, 5, 5, 5, 5, 21, 21, 21, 21, 25, 9, 26, 26, 26, 25, 27, 27, 28, 20, 20, 24, 20, 23, 22]
def kd (i : Nat) : Nat := kdl.getD i 99
def kl (k : Nat) : Nat := match k with
  | 20 => 60
  | 21 => 24
  | 22 => 30
  | 23 => 100
  | 24 => 3
  | 25 => 7
  | 26 => 412
  | 27 => 4
  | 28 => 96
  | _ => 0
def EE (G : GX) (i : Nat) (f : Nat → Int32) : va_E := match kd i with
  | 0 => .inr (0, [.ref (G.1 (i+1)), .int (f 1), .ref (G.1 (i+2)), .int (f 3), .ref (G.1 (i+3)), .ref (G.1 (i+6)), .ref (G.1 (i+9)), .int (f 7), .ref (G.1 (i+10)), .int (f 9), .int (f 10), .int (f 11)])
  | 1 => .inr (1, [.ref (G.1 (i+1)), .ref (G.1 (i+2)), .ref (G.1 (i+3)), .int (f 3)])
  | 2 => .inr (2, [.int (f 0), .int (f 1), .int (f 2), .int (f 3)])
  | 3 => .inr (3, [.int (f 0), .int (f 1), .int (f 2), .int (f 3)])
  | 4 => .inr (4, [.ref (G.1 110), .int (f 1), .ref (G.1 9), .int (f 3), .ref (G.2.2.2 (2 + (f 4).toNatClampNeg))])
  | 5 => .inr (5, [.ref (G.1 (i+4)), .int (f 1), .int (f 2)])
  | 6 => .inr (6, [.ref (G.1 (i+1)), .ref (G.1 (i+2)), .int (f 2)])
  | 7 => .inr (7, [.int (f 0), .int (f 1), .ref (G.1 114), .int (f 3), .int (f 4), .int (f 5)])
  | 8 => .inr (8, [.ref (G.1 0), .ref (G.1 36), .ref (G.1 72), .ref (G.1 109), .ref (G.1 113), .ref (G.1 115), .ref (G.1 119), .ref (G.1 128), .int (f 8)])
  | 9 => .inr (9, [.ref (G.1 130), .ref (G.1 131), .ref (G.1 132), .int (f 3), .ref (G.1 133), .ref (G.1 134), .ref (G.1 135), .ref (G.1 136), .ref (G.1 137), .ref (G.1 138), .ref (G.1 139), .ref (G.1 140), .int (f 12), .int (f 13), .int (f 14), .int (f 15), .int (f 16), .ref (G.1 141), .ref (G.1 142), .int (f 19), .int (f 20)])
  | 30 => .inl (G.2.2.1 1, 20, .inr (.inr (.inr (.inr (fun j => some (G.1 (i+10+j)))))))
  | 31 => .inl (G.2.2.1 2, 5, .inr (.inr (.inr (.inr (fun j => some (G.1 (i+29+j)))))))
  | 32 => .inl (G.2.2.1 3, 4, .inr (.inr (.inr (.inr (fun j => some (G.1 (i+1+j)))))))
  | k => .inl (G.2.2.1 0, kl k, .inl f)
def wl (G : GX) (σ : MM) : va_W := (List.range 143).map (fun i => (G.1 i, EE G i (σ i)))
theorem wl_get {G : GX} {σ : MM} {i : Nat} (h : i < 143) : (wl G σ)[i]? = some (G.1 i, EE G i (σ i)) := by
  simp [wl, h]
theorem wl_set {G : GX} {σ : MM} {i : Nat} (f : Nat → Int32) (h : i < 143) : (wl G σ).set i (G.1 i, EE G i f) = wl G (ma σ i f) := by
  apply List.ext_getElem?
  intro j
  rw [List.getElem?_set]
  by_cases hj : i = j
  · subst hj
    have hl : i < (wl G σ).length := by simp [wl, h]
    simp only [if_pos hl, if_true]
    rw [wl_get h]
    simp [ma]
  · rw [if_neg hj]
    by_cases hj2 : j < 143
    · rw [wl_get hj2, wl_get hj2]
      simp [ma, Ne.symm hj]
    · simp [wl, hj2]
theorem kd_lt {i : Nat} (h : kd i ≠ 99) : i < 143 := by
  rcases Nat.lt_or_ge i 143 with q | q
  · exact q
  · refine absurd ?_ h
    unfold kd
    rw [List.getD_eq_getElem?_getD, List.getElem?_eq_none (by exact q)]
    rfl
theorem kd_in {i k : Nat} (h : kd i = k) (hk : k ≠ 99) : i < 143 := kd_lt (by rw [h]; exact hk)

theorem EE_0 {G : GX} {i : Nat} (f : Nat → Int32) (h : kd i = 0) : EE G i f = .inr (0, [.ref (G.1 (i+1)), .int (f 1), .ref (G.1 (i+2)), .int (f 3), .ref (G.1 (i+3)), .ref (G.1 (i+6)), .ref (G.1 (i+9)), .int (f 7), .ref (G.1 (i+10)), .int (f 9), .int (f 10), .int (f 11)]) := by unfold EE; rw [h]; rfl
theorem EE_1 {G : GX} {i : Nat} (f : Nat → Int32) (h : kd i = 1) : EE G i f = .inr (1, [.ref (G.1 (i+1)), .ref (G.1 (i+2)), .ref (G.1 (i+3)), .int (f 3)]) := by unfold EE; rw [h]; rfl
theorem EE_2 {G : GX} {i : Nat} (f : Nat → Int32) (h : kd i = 2) : EE G i f = .inr (2, [.int (f 0), .int (f 1), .int (f 2), .int (f 3)]) := by unfold EE; rw [h]; rfl
theorem EE_3 {G : GX} {i : Nat} (f : Nat → Int32) (h : kd i = 3) : EE G i f = .inr (3, [.int (f 0), .int (f 1), .int (f 2), .int (f 3)]) := by unfold EE; rw [h]; rfl
theorem EE_4 {G : GX} {i : Nat} (f : Nat → Int32) (h : kd i = 4) : EE G i f = .inr (4, [.ref (G.1 110), .int (f 1), .ref (G.1 9), .int (f 3), .ref (G.2.2.2 (2 + (f 4).toNatClampNeg))]) := by unfold EE; rw [h]; rfl
theorem EE_5 {G : GX} {i : Nat} (f : Nat → Int32) (h : kd i = 5) : EE G i f = .inr (5, [.ref (G.1 (i+4)), .int (f 1), .int (f 2)]) := by unfold EE; rw [h]; rfl
theorem EE_6 {G : GX} {i : Nat} (f : Nat → Int32) (h : kd i = 6) : EE G i f = .inr (6, [.ref (G.1 (i+1)), .ref (G.1 (i+2)), .int (f 2)]) := by unfold EE; rw [h]; rfl
theorem EE_7 {G : GX} {i : Nat} (f : Nat → Int32) (h : kd i = 7) : EE G i f = .inr (7, [.int (f 0), .int (f 1), .ref (G.1 114), .int (f 3), .int (f 4), .int (f 5)]) := by unfold EE; rw [h]; rfl
theorem EE_8 {G : GX} {i : Nat} (f : Nat → Int32) (h : kd i = 8) : EE G i f = .inr (8, [.ref (G.1 0), .ref (G.1 36), .ref (G.1 72), .ref (G.1 109), .ref (G.1 113), .ref (G.1 115), .ref (G.1 119), .ref (G.1 128), .int (f 8)]) := by unfold EE; rw [h]; rfl
theorem EE_9 {G : GX} {i : Nat} (f : Nat → Int32) (h : kd i = 9) : EE G i f = .inr (9, [.ref (G.1 130), .ref (G.1 131), .ref (G.1 132), .int (f 3), .ref (G.1 133), .ref (G.1 134), .ref (G.1 135), .ref (G.1 136), .ref (G.1 137), .ref (G.1 138), .ref (G.1 139), .ref (G.1 140), .int (f 12), .int (f 13), .int (f 14), .int (f 15), .int (f 16), .ref (G.1 141), .ref (G.1 142), .int (f 19), .int (f 20)]) := by unfold EE; rw [h]; rfl
theorem EE_20 {G : GX} {i : Nat} (f : Nat → Int32) (h : kd i = 20) : EE G i f = .inl (G.2.2.1 0, 60, .inl f) := by unfold EE; rw [h]; rfl
theorem EE_21 {G : GX} {i : Nat} (f : Nat → Int32) (h : kd i = 21) : EE G i f = .inl (G.2.2.1 0, 24, .inl f) := by unfold EE; rw [h]; rfl
theorem EE_22 {G : GX} {i : Nat} (f : Nat → Int32) (h : kd i = 22) : EE G i f = .inl (G.2.2.1 0, 30, .inl f) := by unfold EE; rw [h]; rfl
theorem EE_23 {G : GX} {i : Nat} (f : Nat → Int32) (h : kd i = 23) : EE G i f = .inl (G.2.2.1 0, 100, .inl f) := by unfold EE; rw [h]; rfl
theorem EE_24 {G : GX} {i : Nat} (f : Nat → Int32) (h : kd i = 24) : EE G i f = .inl (G.2.2.1 0, 3, .inl f) := by unfold EE; rw [h]; rfl
theorem EE_25 {G : GX} {i : Nat} (f : Nat → Int32) (h : kd i = 25) : EE G i f = .inl (G.2.2.1 0, 7, .inl f) := by unfold EE; rw [h]; rfl
theorem EE_26 {G : GX} {i : Nat} (f : Nat → Int32) (h : kd i = 26) : EE G i f = .inl (G.2.2.1 0, 412, .inl f) := by unfold EE; rw [h]; rfl
theorem EE_27 {G : GX} {i : Nat} (f : Nat → Int32) (h : kd i = 27) : EE G i f = .inl (G.2.2.1 0, 4, .inl f) := by unfold EE; rw [h]; rfl
theorem EE_28 {G : GX} {i : Nat} (f : Nat → Int32) (h : kd i = 28) : EE G i f = .inl (G.2.2.1 0, 96, .inl f) := by unfold EE; rw [h]; rfl
theorem EE_30 {G : GX} {i : Nat} (f : Nat → Int32) (h : kd i = 30) : EE G i f = .inl (G.2.2.1 1, 20, .inr (.inr (.inr (.inr (fun j => some (G.1 (i+10+j))))))) := by unfold EE; rw [h]; rfl
theorem EE_31 {G : GX} {i : Nat} (f : Nat → Int32) (h : kd i = 31) : EE G i f = .inl (G.2.2.1 2, 5, .inr (.inr (.inr (.inr (fun j => some (G.1 (i+29+j))))))) := by unfold EE; rw [h]; rfl
theorem EE_32 {G : GX} {i : Nat} (f : Nat → Int32) (h : kd i = 32) : EE G i f = .inl (G.2.2.1 3, 4, .inr (.inr (.inr (.inr (fun j => some (G.1 (i+1+j))))))) := by unfold EE; rw [h]; rfl
theorem kd_by (k : Nat) (P : Nat → Bool) (hk : k ≠ 99) (h : (List.range 143).all (fun i => !(kd i == k) || P i) = true) {i : Nat} (hi : kd i = k) : P i = true := by
  have h1 := List.all_eq_true.mp h i (List.mem_range.mpr (kd_in hi hk))
  rw [hi] at h1
  simpa using h1
theorem kf_0_1 {i : Nat} (h : kd i = 0) : kd (i + 1) = 30 := by
  have h1 := kd_by 0 (fun i => kd (i + 1) == 30) (by decide) (by decide +kernel) h
  simpa using h1
theorem kf_0_2 {i : Nat} (h : kd i = 0) : kd (i + 2) = 31 := by
  have h1 := kd_by 0 (fun i => kd (i + 2) == 31) (by decide) (by decide +kernel) h
  simpa using h1
theorem kf_0_3 {i : Nat} (h : kd i = 0) : kd (i + 3) = 6 := by
  have h1 := kd_by 0 (fun i => kd (i + 3) == 6) (by decide) (by decide +kernel) h
  simpa using h1
theorem kf_0_6 {i : Nat} (h : kd i = 0) : kd (i + 6) = 6 := by
  have h1 := kd_by 0 (fun i => kd (i + 6) == 6) (by decide) (by decide +kernel) h
  simpa using h1
theorem kf_0_9 {i : Nat} (h : kd i = 0) : kd (i + 9) = 20 := by
  have h1 := kd_by 0 (fun i => kd (i + 9) == 20) (by decide) (by decide +kernel) h
  simpa using h1
theorem kf_0_10 {i : Nat} (h : kd i = 0) : kd (i + 10) = 21 := by
  have h1 := kd_by 0 (fun i => kd (i + 10) == 21) (by decide) (by decide +kernel) h
  simpa using h1
theorem kf_1_1 {i : Nat} (h : kd i = 1) : kd (i + 1) = 23 := by
  have h1 := kd_by 1 (fun i => kd (i + 1) == 23) (by decide) (by decide +kernel) h
  simpa using h1
theorem kf_1_2 {i : Nat} (h : kd i = 1) : kd (i + 2) = 23 := by
  have h1 := kd_by 1 (fun i => kd (i + 2) == 23) (by decide) (by decide +kernel) h
  simpa using h1
theorem kf_1_3 {i : Nat} (h : kd i = 1) : kd (i + 3) = 24 := by
  have h1 := kd_by 1 (fun i => kd (i + 3) == 24) (by decide) (by decide +kernel) h
  simpa using h1
theorem kf_5_4 {i : Nat} (h : kd i = 5) : kd (i + 4) = 21 := by
  have h1 := kd_by 5 (fun i => kd (i + 4) == 21) (by decide) (by decide +kernel) h
  simpa using h1
theorem kf_6_1 {i : Nat} (h : kd i = 6) : kd (i + 1) = 20 := by
  have h1 := kd_by 6 (fun i => kd (i + 1) == 20) (by decide) (by decide +kernel) h
  simpa using h1
theorem kf_6_2 {i : Nat} (h : kd i = 6) : kd (i + 2) = 20 := by
  have h1 := kd_by 6 (fun i => kd (i + 2) == 20) (by decide) (by decide +kernel) h
  simpa using h1
theorem ke_30 {i j : Nat} (h : kd i = 30) (hj : j < 20) : kd (i + 10 + j) = 2 := by
  have h1 := kd_by 30 (fun i => (List.range 20).all (fun j => kd (i + 10 + j) == 2)) (by decide) (by decide +kernel) h
  have h2 := List.all_eq_true.mp h1 j (List.mem_range.mpr hj)
  simpa using h2
theorem ke_31 {i j : Nat} (h : kd i = 31) (hj : j < 5) : kd (i + 29 + j) = 3 := by
  have h1 := kd_by 31 (fun i => (List.range 5).all (fun j => kd (i + 29 + j) == 3)) (by decide) (by decide +kernel) h
  have h2 := List.all_eq_true.mp h1 j (List.mem_range.mpr hj)
  simpa using h2
theorem ke_32 {i j : Nat} (h : kd i = 32) (hj : j < 4) : kd (i + 1 + j) = 5 := by
  have h1 := kd_by 32 (fun i => (List.range 4).all (fun j => kd (i + 1 + j) == 5)) (by decide) (by decide +kernel) h
  have h2 := List.all_eq_true.mp h1 j (List.mem_range.mpr hj)
  simpa using h2
theorem EU_0_1 {G : GX} {i : Nat} (f : Nat → Int32) (v : Int32) (h : kd i = 0) : EE G i (upd f 1 v) = .inr (0, ([.ref (G.1 (i+1)), .int (f 1), .ref (G.1 (i+2)), .int (f 3), .ref (G.1 (i+3)), .ref (G.1 (i+6)), .ref (G.1 (i+9)), .int (f 7), .ref (G.1 (i+10)), .int (f 9), .int (f 10), .int (f 11)] : List Value).set 1 (.int v)) := by rw [EE_0 _ h]; rfl
theorem EU_0_3 {G : GX} {i : Nat} (f : Nat → Int32) (v : Int32) (h : kd i = 0) : EE G i (upd f 3 v) = .inr (0, ([.ref (G.1 (i+1)), .int (f 1), .ref (G.1 (i+2)), .int (f 3), .ref (G.1 (i+3)), .ref (G.1 (i+6)), .ref (G.1 (i+9)), .int (f 7), .ref (G.1 (i+10)), .int (f 9), .int (f 10), .int (f 11)] : List Value).set 3 (.int v)) := by rw [EE_0 _ h]; rfl
theorem EU_0_7 {G : GX} {i : Nat} (f : Nat → Int32) (v : Int32) (h : kd i = 0) : EE G i (upd f 7 v) = .inr (0, ([.ref (G.1 (i+1)), .int (f 1), .ref (G.1 (i+2)), .int (f 3), .ref (G.1 (i+3)), .ref (G.1 (i+6)), .ref (G.1 (i+9)), .int (f 7), .ref (G.1 (i+10)), .int (f 9), .int (f 10), .int (f 11)] : List Value).set 7 (.int v)) := by rw [EE_0 _ h]; rfl
theorem EU_0_9 {G : GX} {i : Nat} (f : Nat → Int32) (v : Int32) (h : kd i = 0) : EE G i (upd f 9 v) = .inr (0, ([.ref (G.1 (i+1)), .int (f 1), .ref (G.1 (i+2)), .int (f 3), .ref (G.1 (i+3)), .ref (G.1 (i+6)), .ref (G.1 (i+9)), .int (f 7), .ref (G.1 (i+10)), .int (f 9), .int (f 10), .int (f 11)] : List Value).set 9 (.int v)) := by rw [EE_0 _ h]; rfl
theorem EU_0_10 {G : GX} {i : Nat} (f : Nat → Int32) (v : Int32) (h : kd i = 0) : EE G i (upd f 10 v) = .inr (0, ([.ref (G.1 (i+1)), .int (f 1), .ref (G.1 (i+2)), .int (f 3), .ref (G.1 (i+3)), .ref (G.1 (i+6)), .ref (G.1 (i+9)), .int (f 7), .ref (G.1 (i+10)), .int (f 9), .int (f 10), .int (f 11)] : List Value).set 10 (.int v)) := by rw [EE_0 _ h]; rfl
theorem EU_0_11 {G : GX} {i : Nat} (f : Nat → Int32) (v : Int32) (h : kd i = 0) : EE G i (upd f 11 v) = .inr (0, ([.ref (G.1 (i+1)), .int (f 1), .ref (G.1 (i+2)), .int (f 3), .ref (G.1 (i+3)), .ref (G.1 (i+6)), .ref (G.1 (i+9)), .int (f 7), .ref (G.1 (i+10)), .int (f 9), .int (f 10), .int (f 11)] : List Value).set 11 (.int v)) := by rw [EE_0 _ h]; rfl
theorem EU_1_3 {G : GX} {i : Nat} (f : Nat → Int32) (v : Int32) (h : kd i = 1) : EE G i (upd f 3 v) = .inr (1, ([.ref (G.1 (i+1)), .ref (G.1 (i+2)), .ref (G.1 (i+3)), .int (f 3)] : List Value).set 3 (.int v)) := by rw [EE_1 _ h]; rfl
theorem EU_2_0 {G : GX} {i : Nat} (f : Nat → Int32) (v : Int32) (h : kd i = 2) : EE G i (upd f 0 v) = .inr (2, ([.int (f 0), .int (f 1), .int (f 2), .int (f 3)] : List Value).set 0 (.int v)) := by rw [EE_2 _ h]; rfl
theorem EU_2_1 {G : GX} {i : Nat} (f : Nat → Int32) (v : Int32) (h : kd i = 2) : EE G i (upd f 1 v) = .inr (2, ([.int (f 0), .int (f 1), .int (f 2), .int (f 3)] : List Value).set 1 (.int v)) := by rw [EE_2 _ h]; rfl
theorem EU_2_2 {G : GX} {i : Nat} (f : Nat → Int32) (v : Int32) (h : kd i = 2) : EE G i (upd f 2 v) = .inr (2, ([.int (f 0), .int (f 1), .int (f 2), .int (f 3)] : List Value).set 2 (.int v)) := by rw [EE_2 _ h]; rfl
theorem EU_2_3 {G : GX} {i : Nat} (f : Nat → Int32) (v : Int32) (h : kd i = 2) : EE G i (upd f 3 v) = .inr (2, ([.int (f 0), .int (f 1), .int (f 2), .int (f 3)] : List Value).set 3 (.int v)) := by rw [EE_2 _ h]; rfl
theorem EU_3_0 {G : GX} {i : Nat} (f : Nat → Int32) (v : Int32) (h : kd i = 3) : EE G i (upd f 0 v) = .inr (3, ([.int (f 0), .int (f 1), .int (f 2), .int (f 3)] : List Value).set 0 (.int v)) := by rw [EE_3 _ h]; rfl
theorem EU_3_1 {G : GX} {i : Nat} (f : Nat → Int32) (v : Int32) (h : kd i = 3) : EE G i (upd f 1 v) = .inr (3, ([.int (f 0), .int (f 1), .int (f 2), .int (f 3)] : List Value).set 1 (.int v)) := by rw [EE_3 _ h]; rfl
theorem EU_3_2 {G : GX} {i : Nat} (f : Nat → Int32) (v : Int32) (h : kd i = 3) : EE G i (upd f 2 v) = .inr (3, ([.int (f 0), .int (f 1), .int (f 2), .int (f 3)] : List Value).set 2 (.int v)) := by rw [EE_3 _ h]; rfl
theorem EU_3_3 {G : GX} {i : Nat} (f : Nat → Int32) (v : Int32) (h : kd i = 3) : EE G i (upd f 3 v) = .inr (3, ([.int (f 0), .int (f 1), .int (f 2), .int (f 3)] : List Value).set 3 (.int v)) := by rw [EE_3 _ h]; rfl
theorem EU_4_1 {G : GX} {i : Nat} (f : Nat → Int32) (v : Int32) (h : kd i = 4) : EE G i (upd f 1 v) = .inr (4, ([.ref (G.1 110), .int (f 1), .ref (G.1 9), .int (f 3), .ref (G.2.2.2 (2 + (f 4).toNatClampNeg))] : List Value).set 1 (.int v)) := by rw [EE_4 _ h]; rfl
theorem EU_4_3 {G : GX} {i : Nat} (f : Nat → Int32) (v : Int32) (h : kd i = 4) : EE G i (upd f 3 v) = .inr (4, ([.ref (G.1 110), .int (f 1), .ref (G.1 9), .int (f 3), .ref (G.2.2.2 (2 + (f 4).toNatClampNeg))] : List Value).set 3 (.int v)) := by rw [EE_4 _ h]; rfl
theorem EU_5_1 {G : GX} {i : Nat} (f : Nat → Int32) (v : Int32) (h : kd i = 5) : EE G i (upd f 1 v) = .inr (5, ([.ref (G.1 (i+4)), .int (f 1), .int (f 2)] : List Value).set 1 (.int v)) := by rw [EE_5 _ h]; rfl
theorem EU_5_2 {G : GX} {i : Nat} (f : Nat → Int32) (v : Int32) (h : kd i = 5) : EE G i (upd f 2 v) = .inr (5, ([.ref (G.1 (i+4)), .int (f 1), .int (f 2)] : List Value).set 2 (.int v)) := by rw [EE_5 _ h]; rfl
theorem EU_6_2 {G : GX} {i : Nat} (f : Nat → Int32) (v : Int32) (h : kd i = 6) : EE G i (upd f 2 v) = .inr (6, ([.ref (G.1 (i+1)), .ref (G.1 (i+2)), .int (f 2)] : List Value).set 2 (.int v)) := by rw [EE_6 _ h]; rfl
theorem EU_7_0 {G : GX} {i : Nat} (f : Nat → Int32) (v : Int32) (h : kd i = 7) : EE G i (upd f 0 v) = .inr (7, ([.int (f 0), .int (f 1), .ref (G.1 114), .int (f 3), .int (f 4), .int (f 5)] : List Value).set 0 (.int v)) := by rw [EE_7 _ h]; rfl
theorem EU_7_1 {G : GX} {i : Nat} (f : Nat → Int32) (v : Int32) (h : kd i = 7) : EE G i (upd f 1 v) = .inr (7, ([.int (f 0), .int (f 1), .ref (G.1 114), .int (f 3), .int (f 4), .int (f 5)] : List Value).set 1 (.int v)) := by rw [EE_7 _ h]; rfl
theorem EU_7_3 {G : GX} {i : Nat} (f : Nat → Int32) (v : Int32) (h : kd i = 7) : EE G i (upd f 3 v) = .inr (7, ([.int (f 0), .int (f 1), .ref (G.1 114), .int (f 3), .int (f 4), .int (f 5)] : List Value).set 3 (.int v)) := by rw [EE_7 _ h]; rfl
theorem EU_7_4 {G : GX} {i : Nat} (f : Nat → Int32) (v : Int32) (h : kd i = 7) : EE G i (upd f 4 v) = .inr (7, ([.int (f 0), .int (f 1), .ref (G.1 114), .int (f 3), .int (f 4), .int (f 5)] : List Value).set 4 (.int v)) := by rw [EE_7 _ h]; rfl
theorem EU_7_5 {G : GX} {i : Nat} (f : Nat → Int32) (v : Int32) (h : kd i = 7) : EE G i (upd f 5 v) = .inr (7, ([.int (f 0), .int (f 1), .ref (G.1 114), .int (f 3), .int (f 4), .int (f 5)] : List Value).set 5 (.int v)) := by rw [EE_7 _ h]; rfl
theorem EU_8_8 {G : GX} {i : Nat} (f : Nat → Int32) (v : Int32) (h : kd i = 8) : EE G i (upd f 8 v) = .inr (8, ([.ref (G.1 0), .ref (G.1 36), .ref (G.1 72), .ref (G.1 109), .ref (G.1 113), .ref (G.1 115), .ref (G.1 119), .ref (G.1 128), .int (f 8)] : List Value).set 8 (.int v)) := by rw [EE_8 _ h]; rfl
theorem EU_9_3 {G : GX} {i : Nat} (f : Nat → Int32) (v : Int32) (h : kd i = 9) : EE G i (upd f 3 v) = .inr (9, ([.ref (G.1 130), .ref (G.1 131), .ref (G.1 132), .int (f 3), .ref (G.1 133), .ref (G.1 134), .ref (G.1 135), .ref (G.1 136), .ref (G.1 137), .ref (G.1 138), .ref (G.1 139), .ref (G.1 140), .int (f 12), .int (f 13), .int (f 14), .int (f 15), .int (f 16), .ref (G.1 141), .ref (G.1 142), .int (f 19), .int (f 20)] : List Value).set 3 (.int v)) := by rw [EE_9 _ h]; rfl
theorem EU_9_12 {G : GX} {i : Nat} (f : Nat → Int32) (v : Int32) (h : kd i = 9) : EE G i (upd f 12 v) = .inr (9, ([.ref (G.1 130), .ref (G.1 131), .ref (G.1 132), .int (f 3), .ref (G.1 133), .ref (G.1 134), .ref (G.1 135), .ref (G.1 136), .ref (G.1 137), .ref (G.1 138), .ref (G.1 139), .ref (G.1 140), .int (f 12), .int (f 13), .int (f 14), .int (f 15), .int (f 16), .ref (G.1 141), .ref (G.1 142), .int (f 19), .int (f 20)] : List Value).set 12 (.int v)) := by rw [EE_9 _ h]; rfl
theorem EU_9_13 {G : GX} {i : Nat} (f : Nat → Int32) (v : Int32) (h : kd i = 9) : EE G i (upd f 13 v) = .inr (9, ([.ref (G.1 130), .ref (G.1 131), .ref (G.1 132), .int (f 3), .ref (G.1 133), .ref (G.1 134), .ref (G.1 135), .ref (G.1 136), .ref (G.1 137), .ref (G.1 138), .ref (G.1 139), .ref (G.1 140), .int (f 12), .int (f 13), .int (f 14), .int (f 15), .int (f 16), .ref (G.1 141), .ref (G.1 142), .int (f 19), .int (f 20)] : List Value).set 13 (.int v)) := by rw [EE_9 _ h]; rfl
theorem EU_9_14 {G : GX} {i : Nat} (f : Nat → Int32) (v : Int32) (h : kd i = 9) : EE G i (upd f 14 v) = .inr (9, ([.ref (G.1 130), .ref (G.1 131), .ref (G.1 132), .int (f 3), .ref (G.1 133), .ref (G.1 134), .ref (G.1 135), .ref (G.1 136), .ref (G.1 137), .ref (G.1 138), .ref (G.1 139), .ref (G.1 140), .int (f 12), .int (f 13), .int (f 14), .int (f 15), .int (f 16), .ref (G.1 141), .ref (G.1 142), .int (f 19), .int (f 20)] : List Value).set 14 (.int v)) := by rw [EE_9 _ h]; rfl
theorem EU_9_15 {G : GX} {i : Nat} (f : Nat → Int32) (v : Int32) (h : kd i = 9) : EE G i (upd f 15 v) = .inr (9, ([.ref (G.1 130), .ref (G.1 131), .ref (G.1 132), .int (f 3), .ref (G.1 133), .ref (G.1 134), .ref (G.1 135), .ref (G.1 136), .ref (G.1 137), .ref (G.1 138), .ref (G.1 139), .ref (G.1 140), .int (f 12), .int (f 13), .int (f 14), .int (f 15), .int (f 16), .ref (G.1 141), .ref (G.1 142), .int (f 19), .int (f 20)] : List Value).set 15 (.int v)) := by rw [EE_9 _ h]; rfl
theorem EU_9_16 {G : GX} {i : Nat} (f : Nat → Int32) (v : Int32) (h : kd i = 9) : EE G i (upd f 16 v) = .inr (9, ([.ref (G.1 130), .ref (G.1 131), .ref (G.1 132), .int (f 3), .ref (G.1 133), .ref (G.1 134), .ref (G.1 135), .ref (G.1 136), .ref (G.1 137), .ref (G.1 138), .ref (G.1 139), .ref (G.1 140), .int (f 12), .int (f 13), .int (f 14), .int (f 15), .int (f 16), .ref (G.1 141), .ref (G.1 142), .int (f 19), .int (f 20)] : List Value).set 16 (.int v)) := by rw [EE_9 _ h]; rfl
theorem EU_9_19 {G : GX} {i : Nat} (f : Nat → Int32) (v : Int32) (h : kd i = 9) : EE G i (upd f 19 v) = .inr (9, ([.ref (G.1 130), .ref (G.1 131), .ref (G.1 132), .int (f 3), .ref (G.1 133), .ref (G.1 134), .ref (G.1 135), .ref (G.1 136), .ref (G.1 137), .ref (G.1 138), .ref (G.1 139), .ref (G.1 140), .int (f 12), .int (f 13), .int (f 14), .int (f 15), .int (f 16), .ref (G.1 141), .ref (G.1 142), .int (f 19), .int (f 20)] : List Value).set 19 (.int v)) := by rw [EE_9 _ h]; rfl
theorem EU_9_20 {G : GX} {i : Nat} (f : Nat → Int32) (v : Int32) (h : kd i = 9) : EE G i (upd f 20 v) = .inr (9, ([.ref (G.1 130), .ref (G.1 131), .ref (G.1 132), .int (f 3), .ref (G.1 133), .ref (G.1 134), .ref (G.1 135), .ref (G.1 136), .ref (G.1 137), .ref (G.1 138), .ref (G.1 139), .ref (G.1 140), .int (f 12), .int (f 13), .int (f 14), .int (f 15), .int (f 16), .ref (G.1 141), .ref (G.1 142), .int (f 19), .int (f 20)] : List Value).set 20 (.int v)) := by rw [EE_9 _ h]; rfl
theorem EU_4_4 {G : GX} {i : Nat} (f : Nat → Int32) (v : Int32) (h : kd i = 4) : EE G i (upd f 4 v) = .inr (4, ([.ref (G.1 110), .int (f 1), .ref (G.1 9), .int (f 3), .ref (G.2.2.2 (2 + (f 4).toNatClampNeg))] : List Value).set 4 (.ref (G.2.2.2 (2 + v.toNatClampNeg)))) := by rw [EE_4 _ h]; rfl

def gI (G : GX) : Prop := ∀ i j : Nat, i < 143 → j < 143 → G.1 i = G.1 j → i = j
def FA (G : GX) (sz : Nat) : Nat → Prop := fun a => (∃ i, i < 143 ∧ a = G.1 i) ∨ sz ≤ a
theorem wl_at {G : GX} {σ : MM} {k : Nat} {q : Nat × va_E} (h : (wl G σ)[k]? = some q) : k < 143 ∧ q = (G.1 k, EE G k (σ k)) := by
  have hk : k < 143 := by
    have := (List.getElem?_eq_some_iff.mp h).1
    simpa [wl] using this
  rw [wl_get hk] at h
  exact ⟨hk, (Option.some.inj h).symm⟩
theorem wl_D {G : GX} (h : gI G) (σ : MM) (sz : Nat) : va_D (FA G sz) (wl G σ) := by
  refine ⟨fun i j p q hp hq e => ?_, fun k q hq => ?_⟩
  · obtain ⟨h1, rfl⟩ := wl_at hp
    obtain ⟨h2, rfl⟩ := wl_at hq
    exact h i j h1 h2 e
  · obtain ⟨h1, rfl⟩ := wl_at hq
    exact Or.inl ⟨k, h1, rfl⟩
abbrev tyl (G : GX) : List (ClassId × FieldType) := [(G.2.2.1 0, .int), (G.2.2.1 1, .object "StairCourt$Judge"), (G.2.2.1 2, .object "StairCourt$Person"), (G.2.2.1 3, .object "StairCourt$Sheet")]
def ab_l : List Int32 := [0, 0, 0, 0, 1, 2, 0]
def bo_l : List Int32 := [10, 11, 12, 13, 20, 0, 0, 21, 0, 30, 0, 0, 0, 0, 40, 0, 50, 0, 51, 0, 0, 60, 0, 0, 70, 71, 0, 0]
/-- what never changes: the classes, the cells' places, the static rows, the two texts -/
def EV0 (G : GX) (A : Nat → Prop) (U : State) (H : Heap) : Prop :=
  va_Z "StairCourt" "ABOVE" "[I" (.ref (G.2.2.2 0)) A U H ∧ va_T .int (G.2.2.2 0) 7 (fun j => .int (ab_l.getD j 0)) A U H ∧
  va_Z "StairCourt" "BODIES" "[I" (.ref (G.2.2.2 1)) A U H ∧ va_T .int (G.2.2.2 1) 28 (fun j => .int (bo_l.getD j 0)) A U H ∧
  va_Z "java/lang/String" "COMPACT_STRINGS" "Z" (.int 1) A U H ∧
  vk_S 2 [3, 3] [[119, 115, 109], [98, 115, 107]] (fun i => G.2.2.2 (2 + i)) (fun i => G.2.2.2 (4 + i)) A U H
def EVr (G : GX) (U : State) : Prop := vk_R RX8 161 "wsm" (G.2.2.2 2) U ∧ vk_R RX8 163 "bsk" (G.2.2.2 3) U ∧ va_Nw (.fieldLinkNest RX7 55 "StairCourt" "BODIES" "[I" "StairCourt") U ∧ va_Nw (.methodLinkNest RX5 45 yX8_isWord "StairCourt") U ∧ va_Nw (.methodLinkNest RX7 48 yX8_kindAbove "StairCourt") U
def EV (G : GX) (U : State) : Prop := va_K G.2.1 vwCl (tyl G) U ∧ gI G ∧ EV0 G (FA G U.heap.size) U U.heap ∧ EVr G U
theorem EV0.moved {G : GX} {A : Nat → Prop} {u U : State} {H : Heap} (hvm : u.vm.Alike U.vm) (h : EV0 G A u H) : EV0 G A U H :=
  ⟨h.1.moved hvm, h.2.1.moved hvm, h.2.2.1.moved hvm, h.2.2.2.1.moved hvm, h.2.2.2.2.1.moved hvm, h.2.2.2.2.2.moved hvm⟩
theorem EV0.kept {G : GX} {A : Nat → Prop} {U : State} {H H1 : Heap} (h : EV0 G A U H) (hq : ∀ a : Nat, a < H.size → ¬ A a → H1[a]? = H[a]?) : EV0 G A U H1 :=
  ⟨h.1.kept hq, h.2.1.kept hq, h.2.2.1.kept hq, h.2.2.2.1.kept hq, h.2.2.2.2.1.kept hq, h.2.2.2.2.2.kept hq⟩
theorem EV0.narrow {G : GX} {A B : Nat → Prop} {U : State} {H : Heap} (h : EV0 G A U H) (hAB : ∀ q, B q → A q) : EV0 G B U H :=
  ⟨h.1.narrow hAB, h.2.1.narrow hAB, h.2.2.1.narrow hAB, h.2.2.2.1.narrow hAB, h.2.2.2.2.1.narrow hAB, h.2.2.2.2.2.narrow hAB⟩
theorem EV.call {G : GX} {s U : State} {H : Heap} {locs : List Loc} (h : EV G s) (hS : va_S (FA G s.heap.size) s.heap H locs) (hU : U.heap = H) (hW : s.WarmedH U.vm) : EV G U := by
  subst hU
  refine ⟨va_K.moved hW.alike h.1, h.2.1, ?_, h.2.2.2.1.warm hW, h.2.2.2.2.1.warm hW, h.2.2.2.2.2.1.warmF hW, h.2.2.2.2.2.2.1.warmM hW, h.2.2.2.2.2.2.2.warmM hW⟩
  refine ((h.2.2.1.kept hS.2.1).moved hW.alike).narrow ?_
  intro q hq
  rcases hq with ⟨i, h1, h2⟩ | h2
  · exact Or.inl ⟨i, h1, h2⟩
  · exact Or.inr (Nat.le_trans hS.1 h2)
theorem EV.calling {G : GX} {a : Array Value} {U : State} {g : JFrame} {mk : MethodId} (h : EV G U) : EV G (U.calling g mk a) := by
  have hvm : U.vm.Alike (U.calling g mk a).vm := Vm.Alike.refl U.vm
  exact ⟨va_K.moved (u := U) (U := U.calling g mk a) hvm h.1, h.2.1, EV0.moved (u := U) (U := U.calling g mk a) hvm h.2.2.1, vk_R.same (u := U) (U := U.calling g mk a) rfl h.2.2.2.1, vk_R.same (u := U) (U := U.calling g mk a) rfl h.2.2.2.2.1, va_Nw.same (u := U) (U := U.calling g mk a) rfl rfl h.2.2.2.2.2.1, va_Nw.same (u := U) (U := U.calling g mk a) rfl rfl h.2.2.2.2.2.2.1, va_Nw.same (u := U) (U := U.calling g mk a) rfl rfl h.2.2.2.2.2.2.2⟩
def RM (n : Nat) : Room := { frames := n, cells := 0, slots := 0, locals := 40 * n }
theorem RM_le {n k x : Nat} (h : k + 1 ≤ n) (hx : x ≤ 21) : (RM k).frames + 1 ≤ (RM n).frames ∧ 8 + (x + 11) + (RM k).locals ≤ (RM n).locals := by
  refine ⟨h, ?_⟩
  show 8 + (x + 11) + 40 * k ≤ 40 * n
  omega
def V (l : Launch) (G : GX) (n : Nat) (K : KX) (nL pc : Nat) (lv : List (Nat × Value)) (st : List Value) (σ : MM) : Prop := match K with
  | (p, e, s, m, args, below, meth, c, Q) => ∀ (H : Heap) (locs : List Loc) (ls : Array Slot), va_P G.2.1 vwCl (wl G σ) H → va_S (FA G s.heap.size) s.heap H locs → lv_has ls nL lv → W p l e (RM n) s m args below meth c H locs 0 0 Q (F0 m pc ls st)
def FX (G : GX) (K : KX) (cc : ByteArray) (own : String) (rt : Option FieldType) (Ts : List Cond) (nL : Nat) : Prop := match K with
  | (p, _, s, m, args, _, meth, c, _) => p.tables.exec = Jvm.exec ∧ c.code = cc ∧ meth.sig.returnType = rt ∧ c.maxLocals = nL ∧ s.vm.findClass own = some m.cls ∧ (∀ w ∈ Ts, w.before args s = true) ∧ meth.locks = false ∧ EV G s
def BW (G : GX) : MM → State → Prop := fun u t => va_P G.2.1 vwCl (wl G u) t.heap
def Ri (G : GX) (K : KX) (Φ : Int32 → MM → Prop) : Prop := match K with
  | (_, _, s, _, args, below, _, _, Q) => Q = MQ below (va_Qi Φ (BW G) (FA G s.heap.size)) args s 0 0 (FA G s.heap.size)
def Rl (G : GX) (K : KX) (Φ : Int64 → MM → Prop) : Prop := match K with
  | (_, _, s, _, args, below, _, _, Q) => Q = MQ below (va_Ql Φ (BW G) (FA G s.heap.size)) args s 0 0 (FA G s.heap.size)
def Rv (G : GX) (K : KX) (Φ : Unit → MM → Prop) : Prop := match K with
  | (_, _, s, _, args, below, _, _, Q) => Q = MQ below (va_Qv (Φ ()) (BW G) (FA G s.heap.size)) args s 0 0 (FA G s.heap.size)
def Rq (G : GX) (K : KX) (Φ : Option Nat → MM → Prop) : Prop := match K with
  | (_, _, s, _, args, below, _, _, Q) => Q = MQ below (va_Qe G.1 Φ (BW G) (FA G s.heap.size)) args s 0 0 (FA G s.heap.size)
def Ok {α : Type} (Φ : α → MM → Prop) (o : Option (α × MM)) : Prop := ∃ (a : α) (s : MM), o = some (a, s) ∧ Φ a s
theorem okx {α : Type} {Φ : α → MM → Prop} (h : Ok Φ none) : False := by
  obtain ⟨a, s, e, -⟩ := h
  cases e
def bd {α β : Type} (o : Option (α × MM)) (k : α → MM → Option β) : Option β := match o with
  | some (a, s) => k a s
  | none => none
theorem okn {α β : Type} {Φ : β → MM → Prop} {o : Option (α × MM)} {a : α} {s : MM} {k : α → MM → Option (β × MM)} (e : o = some (a, s)) (h : Ok Φ (bd o k)) : Ok Φ (k a s) := by subst e; exact h
theorem oks {α β : Type} {Φ : β → MM → Prop} {o : Option (α × MM)} {k : α → MM → Option (β × MM)} (h : Ok Φ (bd o k)) : o.isSome = true := by
  cases o with
  | none => exact (okx h).elim
  | some _ => rfl
theorem okt {α : Type} {Φ : α → MM → Prop} {c : Prop} {a b : Option (α × MM)} {dc : Decidable c} (h : c) (hf : Ok Φ (@ite _ c dc a b)) : Ok Φ a := by rw [if_pos h] at hf; exact hf
theorem okf {α : Type} {Φ : α → MM → Prop} {c : Prop} {a b : Option (α × MM)} {dc : Decidable c} (h : ¬ c) (hf : Ok Φ (@ite _ c dc a b)) : Ok Φ b := by rw [if_neg h] at hf; exact hf
theorem okg {α : Type} {Φ : α → MM → Prop} {c : Prop} {b : Option (α × MM)} {dc : Decidable c} (hf : Ok Φ (@ite _ c dc none b)) : ¬ c ∧ Ok Φ b := by
  by_cases h : c
  · rw [if_pos h] at hf; exact (okx hf).elim
  · exact ⟨h, okf h hf⟩
theorem okp {α : Type} {Φ : α → MM → Prop} {c : Prop} {b : Option (α × MM)} {dc : Decidable c} (hf : Ok Φ (@ite _ c dc b none)) : c ∧ Ok Φ b := by
  by_cases h : c
  · exact ⟨h, okt h hf⟩
  · rw [if_neg h] at hf; exact (okx hf).elim
theorem ok0 {α : Type} {Φ : α → MM → Prop} {a : α} {s : MM} (h : Ok Φ (some (a, s))) : Φ a s := by
  obtain ⟨a', s', e, h2⟩ := h
  cases e
  exact h2
theorem ok_is {α : Type} {o : Option (α × MM)} (h : o.isSome = true) : Ok (fun a s => o = some (a, s)) o := by
  cases o with
  | none => cases h
  | some x => exact ⟨x.1, x.2, rfl, rfl⟩
def IsR (v : Value) : Prop := v = .null ∨ ∃ a, v = .ref a
theorem isr_ref {a : Nat} : IsR (.ref a) := Or.inr ⟨a, rfl⟩
theorem isr_null : IsR .null := Or.inl rfl
theorem isr_re {ad : Nat → Nat} {r : Option Nat} : IsR (va_re ad r) := by
  cases r with
  | none => exact Or.inl rfl
  | some a => exact Or.inr ⟨_, rfl⟩

theorem r_iconst {l : Launch} {G : GX} {n : Nat} {K : KX} {cc : ByteArray} {own : String} {rt : Option FieldType} {Ts : List Cond} {nL : Nat} {pc : Nat} {lv : List (Nat × Value)} {st : List Value} {σ : MM} (X : FX G K cc own rt Ts nL) {i : Int} {v : Int32} (hdg : decode cc pc = .ok (.iconst i, 1)) (hv : Int32.ofInt i = v) (k : V l G n K nL (pc+1) lv (.int v :: st) σ) : V l G n K nL pc lv st σ := by
  obtain ⟨p, e, s, m, args, below, meth, c, Q⟩ := K
  obtain ⟨hx, hb, hr, hml, hown, hts, hlk, hEV⟩ := X
  intro H locs ls hP hS hl
  exact lv_iconst hx hb hdg hv (k H locs ls hP hS hl)
theorem r_bipush {l : Launch} {G : GX} {n : Nat} {K : KX} {cc : ByteArray} {own : String} {rt : Option FieldType} {Ts : List Cond} {nL : Nat} {pc : Nat} {lv : List (Nat × Value)} {st : List Value} {σ : MM} (X : FX G K cc own rt Ts nL) {i : Int} {v : Int32} (hdg : decode cc pc = .ok (.bipush i, 2)) (hv : (Int8.ofInt i).toInt32 = v) (k : V l G n K nL (pc+2) lv (.int v :: st) σ) : V l G n K nL pc lv st σ := by
  obtain ⟨p, e, s, m, args, below, meth, c, Q⟩ := K
  obtain ⟨hx, hb, hr, hml, hown, hts, hlk, hEV⟩ := X
  intro H locs ls hP hS hl
  exact lv_bipush hx hb hdg hv (k H locs ls hP hS hl)
theorem r_sipush {l : Launch} {G : GX} {n : Nat} {K : KX} {cc : ByteArray} {own : String} {rt : Option FieldType} {Ts : List Cond} {nL : Nat} {pc : Nat} {lv : List (Nat × Value)} {st : List Value} {σ : MM} (X : FX G K cc own rt Ts nL) {i : Int} {v : Int32} (hdg : decode cc pc = .ok (.sipush i, 3)) (hv : (Int16.ofInt i).toInt32 = v) (k : V l G n K nL (pc+3) lv (.int v :: st) σ) : V l G n K nL pc lv st σ := by
  obtain ⟨p, e, s, m, args, below, meth, c, Q⟩ := K
  obtain ⟨hx, hb, hr, hml, hown, hts, hlk, hEV⟩ := X
  intro H locs ls hP hS hl
  exact lv_sipush hx hb hdg hv (k H locs ls hP hS hl)
theorem r_lconst {l : Launch} {G : GX} {n : Nat} {K : KX} {cc : ByteArray} {own : String} {rt : Option FieldType} {Ts : List Cond} {nL : Nat} {pc : Nat} {lv : List (Nat × Value)} {st : List Value} {σ : MM} (X : FX G K cc own rt Ts nL) {i : Fin 2} {v : Int64} (hdg : decode cc pc = .ok (.lconst i, 1)) (hv : Int64.ofNat (i : Nat) = v) (k : V l G n K nL (pc+1) lv (.long v :: st) σ) : V l G n K nL pc lv st σ := by
  obtain ⟨p, e, s, m, args, below, meth, c, Q⟩ := K
  obtain ⟨hx, hb, hr, hml, hown, hts, hlk, hEV⟩ := X
  intro H locs ls hP hS hl
  exact lv_lconst hx hb hdg hv (k H locs ls hP hS hl)
theorem r_ldc {l : Launch} {G : GX} {n : Nat} {K : KX} {cc : ByteArray} {own : String} {rt : Option FieldType} {Ts : List Cond} {nL : Nat} {pc : Nat} {lv : List (Nat × Value)} {st : List Value} {σ : MM} (X : FX G K cc own rt Ts nL) {ix : Nat} {v : Int32} (hc : Cond.constant own ix v ∈ Ts) (hdg : decode cc pc = .ok (.ldc ix, 2)) (k : V l G n K nL (pc+2) lv (.int v :: st) σ) : V l G n K nL pc lv st σ := by
  obtain ⟨p, e, s, m, args, below, meth, c, Q⟩ := K
  obtain ⟨hx, hb, hr, hml, hown, hts, hlk, hEV⟩ := X
  intro H locs ls hP hS hl
  exact lv_ldc hx hb hown (hts _ hc) hdg (k H locs ls hP hS hl)
theorem r_ldcw {l : Launch} {G : GX} {n : Nat} {K : KX} {cc : ByteArray} {own : String} {rt : Option FieldType} {Ts : List Cond} {nL : Nat} {pc : Nat} {lv : List (Nat × Value)} {st : List Value} {σ : MM} (X : FX G K cc own rt Ts nL) {ix : Nat} {v : Int32} (hc : Cond.constant own ix v ∈ Ts) (hdg : decode cc pc = .ok (.ldc_w ix, 3)) (k : V l G n K nL (pc+3) lv (.int v :: st) σ) : V l G n K nL pc lv st σ := by
  obtain ⟨p, e, s, m, args, below, meth, c, Q⟩ := K
  obtain ⟨hx, hb, hr, hml, hown, hts, hlk, hEV⟩ := X
  intro H locs ls hP hS hl
  exact lv_ldcw hx hb hown (hts _ hc) hdg (k H locs ls hP hS hl)
theorem r_ldc2 {l : Launch} {G : GX} {n : Nat} {K : KX} {cc : ByteArray} {own : String} {rt : Option FieldType} {Ts : List Cond} {nL : Nat} {pc : Nat} {lv : List (Nat × Value)} {st : List Value} {σ : MM} (X : FX G K cc own rt Ts nL) {ix : Nat} {v : Int64} (hc : Cond.constantLong own ix v ∈ Ts) (hdg : decode cc pc = .ok (.ldc2_w ix, 3)) (k : V l G n K nL (pc+3) lv (.long v :: st) σ) : V l G n K nL pc lv st σ := by
  obtain ⟨p, e, s, m, args, below, meth, c, Q⟩ := K
  obtain ⟨hx, hb, hr, hml, hown, hts, hlk, hEV⟩ := X
  intro H locs ls hP hS hl
  exact lv_ldc2 hx hb hown (hts _ hc) hdg (k H locs ls hP hS hl)
theorem r_iload_n {l : Launch} {G : GX} {n : Nat} {K : KX} {cc : ByteArray} {own : String} {rt : Option FieldType} {Ts : List Cond} {nL : Nat} {pc : Nat} {lv : List (Nat × Value)} {st : List Value} {σ : MM} (X : FX G K cc own rt Ts nL) {k : Fin 4} {x : Int32} (hdg : decode cc pc = .ok (.iload_n k, 1)) (j : Nat) (hj : lv[j]? = some ((k : Nat), .int x)) (k : V l G n K nL (pc+1) lv (.int x :: st) σ) : V l G n K nL pc lv st σ := by
  obtain ⟨p, e, s, m, args, below, meth, c, Q⟩ := K
  obtain ⟨hx, hb, hr, hml, hown, hts, hlk, hEV⟩ := X
  intro H locs ls hP hS hl
  exact lv_iload_n hx hb hdg rfl (lv_at hl j hj) (k H locs ls hP hS hl)
theorem r_iload {l : Launch} {G : GX} {n : Nat} {K : KX} {cc : ByteArray} {own : String} {rt : Option FieldType} {Ts : List Cond} {nL : Nat} {pc : Nat} {lv : List (Nat × Value)} {st : List Value} {σ : MM} (X : FX G K cc own rt Ts nL) {i : Nat} {x : Int32} (hdg : decode cc pc = .ok (.iload i, 2)) (j : Nat) (hj : lv[j]? = some (i, .int x)) (k : V l G n K nL (pc+2) lv (.int x :: st) σ) : V l G n K nL pc lv st σ := by
  obtain ⟨p, e, s, m, args, below, meth, c, Q⟩ := K
  obtain ⟨hx, hb, hr, hml, hown, hts, hlk, hEV⟩ := X
  intro H locs ls hP hS hl
  exact lv_iload hx hb hdg (lv_at hl j hj) (k H locs ls hP hS hl)
theorem r_lload_n {l : Launch} {G : GX} {n : Nat} {K : KX} {cc : ByteArray} {own : String} {rt : Option FieldType} {Ts : List Cond} {nL : Nat} {pc : Nat} {lv : List (Nat × Value)} {st : List Value} {σ : MM} (X : FX G K cc own rt Ts nL) {k : Fin 4} {x : Int64} (hdg : decode cc pc = .ok (.lload_n k, 1)) (j : Nat) (hj : lv[j]? = some ((k : Nat), .long x)) (k : V l G n K nL (pc+1) lv (.long x :: st) σ) : V l G n K nL pc lv st σ := by
  obtain ⟨p, e, s, m, args, below, meth, c, Q⟩ := K
  obtain ⟨hx, hb, hr, hml, hown, hts, hlk, hEV⟩ := X
  intro H locs ls hP hS hl
  exact lv_lload_n hx hb hdg rfl (lv_at hl j hj) (k H locs ls hP hS hl)
theorem r_lload {l : Launch} {G : GX} {n : Nat} {K : KX} {cc : ByteArray} {own : String} {rt : Option FieldType} {Ts : List Cond} {nL : Nat} {pc : Nat} {lv : List (Nat × Value)} {st : List Value} {σ : MM} (X : FX G K cc own rt Ts nL) {i : Nat} {x : Int64} (hdg : decode cc pc = .ok (.lload i, 2)) (j : Nat) (hj : lv[j]? = some (i, .long x)) (k : V l G n K nL (pc+2) lv (.long x :: st) σ) : V l G n K nL pc lv st σ := by
  obtain ⟨p, e, s, m, args, below, meth, c, Q⟩ := K
  obtain ⟨hx, hb, hr, hml, hown, hts, hlk, hEV⟩ := X
  intro H locs ls hP hS hl
  exact lv_lload hx hb hdg (lv_at hl j hj) (k H locs ls hP hS hl)
theorem r_aload_n {l : Launch} {G : GX} {n : Nat} {K : KX} {cc : ByteArray} {own : String} {rt : Option FieldType} {Ts : List Cond} {nL : Nat} {pc : Nat} {lv : List (Nat × Value)} {st : List Value} {σ : MM} (X : FX G K cc own rt Ts nL) {k : Fin 4} {x : Value} (hdg : decode cc pc = .ok (.aload_n k, 1)) (j : Nat) (hj : lv[j]? = some ((k : Nat), x)) (hv : IsR x) (k : V l G n K nL (pc+1) lv (x :: st) σ) : V l G n K nL pc lv st σ := by
  obtain ⟨p, e, s, m, args, below, meth, c, Q⟩ := K
  obtain ⟨hx, hb, hr, hml, hown, hts, hlk, hEV⟩ := X
  intro H locs ls hP hS hl
  rcases hv with rfl | ⟨a, rfl⟩
  · exact lv_aload_nN hx hb hdg rfl (lv_at hl j hj) (k H locs ls hP hS hl)
  · exact lv_aload_n hx hb hdg rfl (lv_at hl j hj) (k H locs ls hP hS hl)
theorem r_aload {l : Launch} {G : GX} {n : Nat} {K : KX} {cc : ByteArray} {own : String} {rt : Option FieldType} {Ts : List Cond} {nL : Nat} {pc : Nat} {lv : List (Nat × Value)} {st : List Value} {σ : MM} (X : FX G K cc own rt Ts nL) {i : Nat} {x : Value} (hdg : decode cc pc = .ok (.aload i, 2)) (j : Nat) (hj : lv[j]? = some (i, x)) (hv : IsR x) (k : V l G n K nL (pc+2) lv (x :: st) σ) : V l G n K nL pc lv st σ := by
  obtain ⟨p, e, s, m, args, below, meth, c, Q⟩ := K
  obtain ⟨hx, hb, hr, hml, hown, hts, hlk, hEV⟩ := X
  intro H locs ls hP hS hl
  rcases hv with rfl | ⟨a, rfl⟩
  · exact lv_aloadN hx hb hdg (lv_at hl j hj) (k H locs ls hP hS hl)
  · exact lv_aload hx hb hdg (lv_at hl j hj) (k H locs ls hP hS hl)
theorem r_istore_n {l : Launch} {G : GX} {n : Nat} {K : KX} {cc : ByteArray} {own : String} {rt : Option FieldType} {Ts : List Cond} {nL : Nat} {pc : Nat} {lv lv' : List (Nat × Value)} {st : List Value} {σ : MM} (X : FX G K cc own rt Ts nL) {k : Fin 4} {i : Nat} {x : Int32} (hdg : decode cc pc = .ok (.istore_n k, 1)) (hi : (k : Nat) = i) (hn : i < nL) (hl' : (i, Value.int x) :: lv.filter (fun q => !(q.1 == i) && !(q.1 + 1 == i && q.2.category == 2)) = lv') (k : V l G n K nL (pc+1) lv' st σ) : V l G n K nL pc lv (.int x :: st) σ := by
  obtain ⟨p, e, s, m, args, below, meth, c, Q⟩ := K
  obtain ⟨hx, hb, hr, hml, hown, hts, hlk, hEV⟩ := X
  intro H locs ls hP hS hl
  exact lv_istore_n hx hb hdg hi hl hn hl' (fun ls hl => k H locs ls hP hS hl)
theorem r_istore {l : Launch} {G : GX} {n : Nat} {K : KX} {cc : ByteArray} {own : String} {rt : Option FieldType} {Ts : List Cond} {nL : Nat} {pc : Nat} {lv lv' : List (Nat × Value)} {st : List Value} {σ : MM} (X : FX G K cc own rt Ts nL) {i : Nat} {x : Int32} (hdg : decode cc pc = .ok (.istore i, 2)) (hn : i < nL) (hl' : (i, Value.int x) :: lv.filter (fun q => !(q.1 == i) && !(q.1 + 1 == i && q.2.category == 2)) = lv') (k : V l G n K nL (pc+2) lv' st σ) : V l G n K nL pc lv (.int x :: st) σ := by
  obtain ⟨p, e, s, m, args, below, meth, c, Q⟩ := K
  obtain ⟨hx, hb, hr, hml, hown, hts, hlk, hEV⟩ := X
  intro H locs ls hP hS hl
  exact lv_istore hx hb hdg hl hn hl' (fun ls hl => k H locs ls hP hS hl)
theorem r_lstore_n {l : Launch} {G : GX} {n : Nat} {K : KX} {cc : ByteArray} {own : String} {rt : Option FieldType} {Ts : List Cond} {nL : Nat} {pc : Nat} {lv lv' : List (Nat × Value)} {st : List Value} {σ : MM} (X : FX G K cc own rt Ts nL) {k : Fin 4} {i : Nat} {x : Int64} (hdg : decode cc pc = .ok (.lstore_n k, 1)) (hi : (k : Nat) = i) (hn : i + 1 < nL) (hl' : (i, Value.long x) :: lv.filter (fun q => !(q.1 == i) && (!(q.1 == i + 1) && !(q.1 + 1 == i && q.2.category == 2))) = lv') (k : V l G n K nL (pc+1) lv' st σ) : V l G n K nL pc lv (.long x :: st) σ := by
  obtain ⟨p, e, s, m, args, below, meth, c, Q⟩ := K
  obtain ⟨hx, hb, hr, hml, hown, hts, hlk, hEV⟩ := X
  intro H locs ls hP hS hl
  exact lv_lstore_n hx hb hdg hi hl hn hl' (fun ls hl => k H locs ls hP hS hl)
theorem r_lstore {l : Launch} {G : GX} {n : Nat} {K : KX} {cc : ByteArray} {own : String} {rt : Option FieldType} {Ts : List Cond} {nL : Nat} {pc : Nat} {lv lv' : List (Nat × Value)} {st : List Value} {σ : MM} (X : FX G K cc own rt Ts nL) {i : Nat} {x : Int64} (hdg : decode cc pc = .ok (.lstore i, 2)) (hn : i + 1 < nL) (hl' : (i, Value.long x) :: lv.filter (fun q => !(q.1 == i) && (!(q.1 == i + 1) && !(q.1 + 1 == i && q.2.category == 2))) = lv') (k : V l G n K nL (pc+2) lv' st σ) : V l G n K nL pc lv (.long x :: st) σ := by
  obtain ⟨p, e, s, m, args, below, meth, c, Q⟩ := K
  obtain ⟨hx, hb, hr, hml, hown, hts, hlk, hEV⟩ := X
  intro H locs ls hP hS hl
  exact lv_lstore hx hb hdg hl hn hl' (fun ls hl => k H locs ls hP hS hl)
theorem r_astore_n {l : Launch} {G : GX} {n : Nat} {K : KX} {cc : ByteArray} {own : String} {rt : Option FieldType} {Ts : List Cond} {nL : Nat} {pc : Nat} {lv lv' : List (Nat × Value)} {st : List Value} {σ : MM} (X : FX G K cc own rt Ts nL) {k : Fin 4} {i : Nat} {x : Value} (hdg : decode cc pc = .ok (.astore_n k, 1)) (hi : (k : Nat) = i) (hn : i < nL) (hv : IsR x) (hl' : (i, x) :: lv.filter (fun q => !(q.1 == i) && !(q.1 + 1 == i && q.2.category == 2)) = lv') (k : V l G n K nL (pc+1) lv' st σ) : V l G n K nL pc lv (x :: st) σ := by
  obtain ⟨p, e, s, m, args, below, meth, c, Q⟩ := K
  obtain ⟨hx, hb, hr, hml, hown, hts, hlk, hEV⟩ := X
  intro H locs ls hP hS hl
  rcases hv with rfl | ⟨a, rfl⟩
  · exact lv_astore_nN hx hb hdg hi hl hn hl' (fun ls hl => k H locs ls hP hS hl)
  · exact lv_astore_n hx hb hdg hi hl hn hl' (fun ls hl => k H locs ls hP hS hl)
theorem r_astore {l : Launch} {G : GX} {n : Nat} {K : KX} {cc : ByteArray} {own : String} {rt : Option FieldType} {Ts : List Cond} {nL : Nat} {pc : Nat} {lv lv' : List (Nat × Value)} {st : List Value} {σ : MM} (X : FX G K cc own rt Ts nL) {i : Nat} {x : Value} (hdg : decode cc pc = .ok (.astore i, 2)) (hn : i < nL) (hv : IsR x) (hl' : (i, x) :: lv.filter (fun q => !(q.1 == i) && !(q.1 + 1 == i && q.2.category == 2)) = lv') (k : V l G n K nL (pc+2) lv' st σ) : V l G n K nL pc lv (x :: st) σ := by
  obtain ⟨p, e, s, m, args, below, meth, c, Q⟩ := K
  obtain ⟨hx, hb, hr, hml, hown, hts, hlk, hEV⟩ := X
  intro H locs ls hP hS hl
  rcases hv with rfl | ⟨a, rfl⟩
  · exact lv_astoreN hx hb hdg hl hn hl' (fun ls hl => k H locs ls hP hS hl)
  · exact lv_astore hx hb hdg hl hn hl' (fun ls hl => k H locs ls hP hS hl)
theorem r_iinc {l : Launch} {G : GX} {n : Nat} {K : KX} {cc : ByteArray} {own : String} {rt : Option FieldType} {Ts : List Cond} {nL : Nat} {pc : Nat} {lv lv' : List (Nat × Value)} {st : List Value} {σ : MM} (X : FX G K cc own rt Ts nL) {i : Nat} {d : Int} {x v : Int32} (hdg : decode cc pc = .ok (.iinc i d, 3)) (j : Nat) (hj : lv[j]? = some (i, .int x)) (hv : x + Int32.ofInt d = v) (hn : i < nL) (hl' : (i, Value.int v) :: lv.filter (fun q => !(q.1 == i) && !(q.1 + 1 == i && q.2.category == 2)) = lv') (k : V l G n K nL (pc+3) lv' st σ) : V l G n K nL pc lv st σ := by
  obtain ⟨p, e, s, m, args, below, meth, c, Q⟩ := K
  obtain ⟨hx, hb, hr, hml, hown, hts, hlk, hEV⟩ := X
  intro H locs ls hP hS hl
  exact lv_iinc hx hb hdg hl hj hv hn hl' (fun ls hl => k H locs ls hP hS hl)
theorem r_sub {l : Launch} {G : GX} {n : Nat} {K : KX} {nL pc : Nat} {lv lv' : List (Nat × Value)} {st : List Value} {σ : MM} (ks : List Nat) (h : lv_pick lv ks = lv') (k : V l G n K nL pc lv' st σ) : V l G n K nL pc lv st σ := by
  obtain ⟨p, e, s, m, args, below, meth, c, Q⟩ := K
  intro H locs ls hP hS hl
  exact k H locs ls hP hS (lv_sub hl ks h)
theorem r_iadd {l : Launch} {G : GX} {n : Nat} {K : KX} {cc : ByteArray} {own : String} {rt : Option FieldType} {Ts : List Cond} {nL : Nat} {pc : Nat} {lv : List (Nat × Value)} {st : List Value} {σ : MM} (X : FX G K cc own rt Ts nL) {x y : Int32} (hdg : decode cc pc = .ok (.iadd, 1)) (k : V l G n K nL (pc+1) lv (.int (x + y) :: st) σ) : V l G n K nL pc lv (.int y :: .int x :: st) σ := by
  obtain ⟨p, e, s, m, args, below, meth, c, Q⟩ := K
  obtain ⟨hx, hb, hr, hml, hown, hts, hlk, hEV⟩ := X
  intro H locs ls hP hS hl
  exact lv_iadd hx hb hdg (k H locs ls hP hS hl)
theorem r_isub {l : Launch} {G : GX} {n : Nat} {K : KX} {cc : ByteArray} {own : String} {rt : Option FieldType} {Ts : List Cond} {nL : Nat} {pc : Nat} {lv : List (Nat × Value)} {st : List Value} {σ : MM} (X : FX G K cc own rt Ts nL) {x y : Int32} (hdg : decode cc pc = .ok (.isub, 1)) (k : V l G n K nL (pc+1) lv (.int (x - y) :: st) σ) : V l G n K nL pc lv (.int y :: .int x :: st) σ := by
  obtain ⟨p, e, s, m, args, below, meth, c, Q⟩ := K
  obtain ⟨hx, hb, hr, hml, hown, hts, hlk, hEV⟩ := X
  intro H locs ls hP hS hl
  exact lv_isub hx hb hdg (k H locs ls hP hS hl)
theorem r_imul {l : Launch} {G : GX} {n : Nat} {K : KX} {cc : ByteArray} {own : String} {rt : Option FieldType} {Ts : List Cond} {nL : Nat} {pc : Nat} {lv : List (Nat × Value)} {st : List Value} {σ : MM} (X : FX G K cc own rt Ts nL) {x y : Int32} (hdg : decode cc pc = .ok (.imul, 1)) (k : V l G n K nL (pc+1) lv (.int (x * y) :: st) σ) : V l G n K nL pc lv (.int y :: .int x :: st) σ := by
  obtain ⟨p, e, s, m, args, below, meth, c, Q⟩ := K
  obtain ⟨hx, hb, hr, hml, hown, hts, hlk, hEV⟩ := X
  intro H locs ls hP hS hl
  exact lv_imul hx hb hdg (k H locs ls hP hS hl)
theorem r_iand {l : Launch} {G : GX} {n : Nat} {K : KX} {cc : ByteArray} {own : String} {rt : Option FieldType} {Ts : List Cond} {nL : Nat} {pc : Nat} {lv : List (Nat × Value)} {st : List Value} {σ : MM} (X : FX G K cc own rt Ts nL) {x y : Int32} (hdg : decode cc pc = .ok (.iand, 1)) (k : V l G n K nL (pc+1) lv (.int (x &&& y) :: st) σ) : V l G n K nL pc lv (.int y :: .int x :: st) σ := by
  obtain ⟨p, e, s, m, args, below, meth, c, Q⟩ := K
  obtain ⟨hx, hb, hr, hml, hown, hts, hlk, hEV⟩ := X
  intro H locs ls hP hS hl
  exact lv_iand hx hb hdg (k H locs ls hP hS hl)
theorem r_ior {l : Launch} {G : GX} {n : Nat} {K : KX} {cc : ByteArray} {own : String} {rt : Option FieldType} {Ts : List Cond} {nL : Nat} {pc : Nat} {lv : List (Nat × Value)} {st : List Value} {σ : MM} (X : FX G K cc own rt Ts nL) {x y : Int32} (hdg : decode cc pc = .ok (.ior, 1)) (k : V l G n K nL (pc+1) lv (.int (x ||| y) :: st) σ) : V l G n K nL pc lv (.int y :: .int x :: st) σ := by
  obtain ⟨p, e, s, m, args, below, meth, c, Q⟩ := K
  obtain ⟨hx, hb, hr, hml, hown, hts, hlk, hEV⟩ := X
  intro H locs ls hP hS hl
  exact lv_ior hx hb hdg (k H locs ls hP hS hl)
theorem r_ixor {l : Launch} {G : GX} {n : Nat} {K : KX} {cc : ByteArray} {own : String} {rt : Option FieldType} {Ts : List Cond} {nL : Nat} {pc : Nat} {lv : List (Nat × Value)} {st : List Value} {σ : MM} (X : FX G K cc own rt Ts nL) {x y : Int32} (hdg : decode cc pc = .ok (.ixor, 1)) (k : V l G n K nL (pc+1) lv (.int (x ^^^ y) :: st) σ) : V l G n K nL pc lv (.int y :: .int x :: st) σ := by
  obtain ⟨p, e, s, m, args, below, meth, c, Q⟩ := K
  obtain ⟨hx, hb, hr, hml, hown, hts, hlk, hEV⟩ := X
  intro H locs ls hP hS hl
  exact lv_ixor hx hb hdg (k H locs ls hP hS hl)
theorem r_ishl {l : Launch} {G : GX} {n : Nat} {K : KX} {cc : ByteArray} {own : String} {rt : Option FieldType} {Ts : List Cond} {nL : Nat} {pc : Nat} {lv : List (Nat × Value)} {st : List Value} {σ : MM} (X : FX G K cc own rt Ts nL) {x y : Int32} (hdg : decode cc pc = .ok (.ishl, 1)) (k : V l G n K nL (pc+1) lv (.int (x <<< (y &&& 31)) :: st) σ) : V l G n K nL pc lv (.int y :: .int x :: st) σ := by
  obtain ⟨p, e, s, m, args, below, meth, c, Q⟩ := K
  obtain ⟨hx, hb, hr, hml, hown, hts, hlk, hEV⟩ := X
  intro H locs ls hP hS hl
  exact lv_ishl hx hb hdg (k H locs ls hP hS hl)
theorem r_idiv {l : Launch} {G : GX} {n : Nat} {K : KX} {cc : ByteArray} {own : String} {rt : Option FieldType} {Ts : List Cond} {nL : Nat} {pc : Nat} {lv : List (Nat × Value)} {st : List Value} {σ : MM} (X : FX G K cc own rt Ts nL) {x y : Int32} (hdg : decode cc pc = .ok (.idiv, 1)) (hne : ¬ y = 0) (k : V l G n K nL (pc+1) lv (.int (x / y) :: st) σ) : V l G n K nL pc lv (.int y :: .int x :: st) σ := by
  obtain ⟨p, e, s, m, args, below, meth, c, Q⟩ := K
  obtain ⟨hx, hb, hr, hml, hown, hts, hlk, hEV⟩ := X
  intro H locs ls hP hS hl
  exact lv_idiv hx hb hdg hne (k H locs ls hP hS hl)
theorem r_irem {l : Launch} {G : GX} {n : Nat} {K : KX} {cc : ByteArray} {own : String} {rt : Option FieldType} {Ts : List Cond} {nL : Nat} {pc : Nat} {lv : List (Nat × Value)} {st : List Value} {σ : MM} (X : FX G K cc own rt Ts nL) {x y : Int32} (hdg : decode cc pc = .ok (.irem, 1)) (hne : ¬ y = 0) (k : V l G n K nL (pc+1) lv (.int (x - x / y * y) :: st) σ) : V l G n K nL pc lv (.int y :: .int x :: st) σ := by
  obtain ⟨p, e, s, m, args, below, meth, c, Q⟩ := K
  obtain ⟨hx, hb, hr, hml, hown, hts, hlk, hEV⟩ := X
  intro H locs ls hP hS hl
  exact lv_irem hx hb hdg hne (k H locs ls hP hS hl)
theorem r_ldiv {l : Launch} {G : GX} {n : Nat} {K : KX} {cc : ByteArray} {own : String} {rt : Option FieldType} {Ts : List Cond} {nL : Nat} {pc : Nat} {lv : List (Nat × Value)} {st : List Value} {σ : MM} (X : FX G K cc own rt Ts nL) {x y : Int64} (hdg : decode cc pc = .ok (.ldiv, 1)) (hne : ¬ y = 0) (k : V l G n K nL (pc+1) lv (.long (x / y) :: st) σ) : V l G n K nL pc lv (.long y :: .long x :: st) σ := by
  obtain ⟨p, e, s, m, args, below, meth, c, Q⟩ := K
  obtain ⟨hx, hb, hr, hml, hown, hts, hlk, hEV⟩ := X
  intro H locs ls hP hS hl
  exact lv_ldiv hx hb hdg hne (k H locs ls hP hS hl)
theorem r_lrem {l : Launch} {G : GX} {n : Nat} {K : KX} {cc : ByteArray} {own : String} {rt : Option FieldType} {Ts : List Cond} {nL : Nat} {pc : Nat} {lv : List (Nat × Value)} {st : List Value} {σ : MM} (X : FX G K cc own rt Ts nL) {x y : Int64} (hdg : decode cc pc = .ok (.lrem, 1)) (hne : ¬ y = 0) (k : V l G n K nL (pc+1) lv (.long (x - x / y * y) :: st) σ) : V l G n K nL pc lv (.long y :: .long x :: st) σ := by
  obtain ⟨p, e, s, m, args, below, meth, c, Q⟩ := K
  obtain ⟨hx, hb, hr, hml, hown, hts, hlk, hEV⟩ := X
  intro H locs ls hP hS hl
  exact lv_lrem hx hb hdg hne (k H locs ls hP hS hl)
theorem r_lmul {l : Launch} {G : GX} {n : Nat} {K : KX} {cc : ByteArray} {own : String} {rt : Option FieldType} {Ts : List Cond} {nL : Nat} {pc : Nat} {lv : List (Nat × Value)} {st : List Value} {σ : MM} (X : FX G K cc own rt Ts nL) {x y : Int64} (hdg : decode cc pc = .ok (.lmul, 1)) (k : V l G n K nL (pc+1) lv (.long (x * y) :: st) σ) : V l G n K nL pc lv (.long y :: .long x :: st) σ := by
  obtain ⟨p, e, s, m, args, below, meth, c, Q⟩ := K
  obtain ⟨hx, hb, hr, hml, hown, hts, hlk, hEV⟩ := X
  intro H locs ls hP hS hl
  exact lv_lmul hx hb hdg (k H locs ls hP hS hl)
theorem r_land {l : Launch} {G : GX} {n : Nat} {K : KX} {cc : ByteArray} {own : String} {rt : Option FieldType} {Ts : List Cond} {nL : Nat} {pc : Nat} {lv : List (Nat × Value)} {st : List Value} {σ : MM} (X : FX G K cc own rt Ts nL) {x y : Int64} (hdg : decode cc pc = .ok (.land, 1)) (k : V l G n K nL (pc+1) lv (.long (x &&& y) :: st) σ) : V l G n K nL pc lv (.long y :: .long x :: st) σ := by
  obtain ⟨p, e, s, m, args, below, meth, c, Q⟩ := K
  obtain ⟨hx, hb, hr, hml, hown, hts, hlk, hEV⟩ := X
  intro H locs ls hP hS hl
  exact lv_land hx hb hdg (k H locs ls hP hS hl)
theorem r_ineg {l : Launch} {G : GX} {n : Nat} {K : KX} {cc : ByteArray} {own : String} {rt : Option FieldType} {Ts : List Cond} {nL : Nat} {pc : Nat} {lv : List (Nat × Value)} {st : List Value} {σ : MM} (X : FX G K cc own rt Ts nL) {x : Int32} (hdg : decode cc pc = .ok (.ineg, 1)) (k : V l G n K nL (pc+1) lv (.int (-x) :: st) σ) : V l G n K nL pc lv (.int x :: st) σ := by
  obtain ⟨p, e, s, m, args, below, meth, c, Q⟩ := K
  obtain ⟨hx, hb, hr, hml, hown, hts, hlk, hEV⟩ := X
  intro H locs ls hP hS hl
  exact lv_ineg hx hb hdg (k H locs ls hP hS hl)
theorem r_i2l {l : Launch} {G : GX} {n : Nat} {K : KX} {cc : ByteArray} {own : String} {rt : Option FieldType} {Ts : List Cond} {nL : Nat} {pc : Nat} {lv : List (Nat × Value)} {st : List Value} {σ : MM} (X : FX G K cc own rt Ts nL) {x : Int32} (hdg : decode cc pc = .ok (.i2l, 1)) (k : V l G n K nL (pc+1) lv (.long x.toInt64 :: st) σ) : V l G n K nL pc lv (.int x :: st) σ := by
  obtain ⟨p, e, s, m, args, below, meth, c, Q⟩ := K
  obtain ⟨hx, hb, hr, hml, hown, hts, hlk, hEV⟩ := X
  intro H locs ls hP hS hl
  exact lv_i2l hx hb hdg rfl (k H locs ls hP hS hl)
theorem r_l2i {l : Launch} {G : GX} {n : Nat} {K : KX} {cc : ByteArray} {own : String} {rt : Option FieldType} {Ts : List Cond} {nL : Nat} {pc : Nat} {lv : List (Nat × Value)} {st : List Value} {σ : MM} (X : FX G K cc own rt Ts nL) {x : Int64} (hdg : decode cc pc = .ok (.l2i, 1)) (k : V l G n K nL (pc+1) lv (.int x.toInt32 :: st) σ) : V l G n K nL pc lv (.long x :: st) σ := by
  obtain ⟨p, e, s, m, args, below, meth, c, Q⟩ := K
  obtain ⟨hx, hb, hr, hml, hown, hts, hlk, hEV⟩ := X
  intro H locs ls hP hS hl
  exact lv_l2i hx hb hdg rfl (k H locs ls hP hS hl)
theorem r_i2b {l : Launch} {G : GX} {n : Nat} {K : KX} {cc : ByteArray} {own : String} {rt : Option FieldType} {Ts : List Cond} {nL : Nat} {pc : Nat} {lv : List (Nat × Value)} {st : List Value} {σ : MM} (X : FX G K cc own rt Ts nL) {x : Int32} (hdg : decode cc pc = .ok (.i2b, 1)) (k : V l G n K nL (pc+1) lv (.int x.toInt8.toInt32 :: st) σ) : V l G n K nL pc lv (.int x :: st) σ := by
  obtain ⟨p, e, s, m, args, below, meth, c, Q⟩ := K
  obtain ⟨hx, hb, hr, hml, hown, hts, hlk, hEV⟩ := X
  intro H locs ls hP hS hl
  exact lv_i2b hx hb hdg rfl (k H locs ls hP hS hl)
theorem r_i2s {l : Launch} {G : GX} {n : Nat} {K : KX} {cc : ByteArray} {own : String} {rt : Option FieldType} {Ts : List Cond} {nL : Nat} {pc : Nat} {lv : List (Nat × Value)} {st : List Value} {σ : MM} (X : FX G K cc own rt Ts nL) {x : Int32} (hdg : decode cc pc = .ok (.i2s, 1)) (k : V l G n K nL (pc+1) lv (.int x.toInt16.toInt32 :: st) σ) : V l G n K nL pc lv (.int x :: st) σ := by
  obtain ⟨p, e, s, m, args, below, meth, c, Q⟩ := K
  obtain ⟨hx, hb, hr, hml, hown, hts, hlk, hEV⟩ := X
  intro H locs ls hP hS hl
  exact lv_i2s hx hb hdg rfl (k H locs ls hP hS hl)
theorem r_i2c {l : Launch} {G : GX} {n : Nat} {K : KX} {cc : ByteArray} {own : String} {rt : Option FieldType} {Ts : List Cond} {nL : Nat} {pc : Nat} {lv : List (Nat × Value)} {st : List Value} {σ : MM} (X : FX G K cc own rt Ts nL) {x : Int32} (hdg : decode cc pc = .ok (.i2c, 1)) (k : V l G n K nL (pc+1) lv (.int (x.toUInt32 % 65536).toInt32 :: st) σ) : V l G n K nL pc lv (.int x :: st) σ := by
  obtain ⟨p, e, s, m, args, below, meth, c, Q⟩ := K
  obtain ⟨hx, hb, hr, hml, hown, hts, hlk, hEV⟩ := X
  intro H locs ls hP hS hl
  exact lv_i2c hx hb hdg rfl (k H locs ls hP hS hl)
theorem r_iushr {l : Launch} {G : GX} {n : Nat} {K : KX} {cc : ByteArray} {own : String} {rt : Option FieldType} {Ts : List Cond} {nL : Nat} {pc : Nat} {lv : List (Nat × Value)} {st : List Value} {σ : MM} (X : FX G K cc own rt Ts nL) {x y : Int32} (hdg : decode cc pc = .ok (.iushr, 1)) (k : V l G n K nL (pc+1) lv (.int (x.toUInt32 >>> (y.toUInt32 &&& Int32.toUInt32 31)).toInt32 :: st) σ) : V l G n K nL pc lv (.int y :: .int x :: st) σ := by
  obtain ⟨p, e, s, m, args, below, meth, c, Q⟩ := K
  obtain ⟨hx, hb, hr, hml, hown, hts, hlk, hEV⟩ := X
  intro H locs ls hP hS hl
  exact lv_iushr hx hb hdg rfl (k H locs ls hP hS hl)
theorem r_lushr {l : Launch} {G : GX} {n : Nat} {K : KX} {cc : ByteArray} {own : String} {rt : Option FieldType} {Ts : List Cond} {nL : Nat} {pc : Nat} {lv : List (Nat × Value)} {st : List Value} {σ : MM} (X : FX G K cc own rt Ts nL) {x : Int64} {y : Int32} (hdg : decode cc pc = .ok (.lushr, 1)) (k : V l G n K nL (pc+1) lv (.long (x.toUInt64 >>> (y.toInt64.toUInt64 &&& Int64.toUInt64 63)).toInt64 :: st) σ) : V l G n K nL pc lv (.int y :: .long x :: st) σ := by
  obtain ⟨p, e, s, m, args, below, meth, c, Q⟩ := K
  obtain ⟨hx, hb, hr, hml, hown, hts, hlk, hEV⟩ := X
  intro H locs ls hP hS hl
  exact lv_lushr hx hb hdg rfl (k H locs ls hP hS hl)
theorem r_lshr {l : Launch} {G : GX} {n : Nat} {K : KX} {cc : ByteArray} {own : String} {rt : Option FieldType} {Ts : List Cond} {nL : Nat} {pc : Nat} {lv : List (Nat × Value)} {st : List Value} {σ : MM} (X : FX G K cc own rt Ts nL) {x : Int64} {y : Int32} (hdg : decode cc pc = .ok (.lshr, 1)) (k : V l G n K nL (pc+1) lv (.long (x >>> (y.toInt64 &&& 63)) :: st) σ) : V l G n K nL pc lv (.int y :: .long x :: st) σ := by
  obtain ⟨p, e, s, m, args, below, meth, c, Q⟩ := K
  obtain ⟨hx, hb, hr, hml, hown, hts, hlk, hEV⟩ := X
  intro H locs ls hP hS hl
  exact lv_lshr hx hb hdg rfl (k H locs ls hP hS hl)
theorem r_dup {l : Launch} {G : GX} {n : Nat} {K : KX} {cc : ByteArray} {own : String} {rt : Option FieldType} {Ts : List Cond} {nL : Nat} {pc : Nat} {lv : List (Nat × Value)} {st : List Value} {σ : MM} (X : FX G K cc own rt Ts nL) {v : Value} (hdg : decode cc pc = .ok (.dup, 1)) (hv : v.category = 1) (k : V l G n K nL (pc+1) lv (v :: v :: st) σ) : V l G n K nL pc lv (v :: st) σ := by
  obtain ⟨p, e, s, m, args, below, meth, c, Q⟩ := K
  obtain ⟨hx, hb, hr, hml, hown, hts, hlk, hEV⟩ := X
  intro H locs ls hP hS hl
  exact lv_dup hx hb hdg hv (k H locs ls hP hS hl)
theorem r_pop {l : Launch} {G : GX} {n : Nat} {K : KX} {cc : ByteArray} {own : String} {rt : Option FieldType} {Ts : List Cond} {nL : Nat} {pc : Nat} {lv : List (Nat × Value)} {st : List Value} {σ : MM} (X : FX G K cc own rt Ts nL) {v : Value} (hdg : decode cc pc = .ok (.pop, 1)) (hv : v.category = 1) (k : V l G n K nL (pc+1) lv st σ) : V l G n K nL pc lv (v :: st) σ := by
  obtain ⟨p, e, s, m, args, below, meth, c, Q⟩ := K
  obtain ⟨hx, hb, hr, hml, hown, hts, hlk, hEV⟩ := X
  intro H locs ls hP hS hl
  exact lv_pop hx hb hdg hv (k H locs ls hP hS hl)
theorem r_dup2 {l : Launch} {G : GX} {n : Nat} {K : KX} {cc : ByteArray} {own : String} {rt : Option FieldType} {Ts : List Cond} {nL : Nat} {pc : Nat} {lv : List (Nat × Value)} {st : List Value} {σ : MM} (X : FX G K cc own rt Ts nL) {va vb : Value} (hdg : decode cc pc = .ok (.dup2, 1)) (hva : va.category = 1) (hvb : vb.category = 1) (k : V l G n K nL (pc+1) lv (va :: vb :: va :: vb :: st) σ) : V l G n K nL pc lv (va :: vb :: st) σ := by
  obtain ⟨p, e, s, m, args, below, meth, c, Q⟩ := K
  obtain ⟨hx, hb, hr, hml, hown, hts, hlk, hEV⟩ := X
  intro H locs ls hP hS hl
  exact lv_dup2_11 hx hb hdg hva hvb (k H locs ls hP hS hl)
theorem r_null {l : Launch} {G : GX} {n : Nat} {K : KX} {cc : ByteArray} {own : String} {rt : Option FieldType} {Ts : List Cond} {nL : Nat} {pc : Nat} {lv : List (Nat × Value)} {st : List Value} {σ : MM} (X : FX G K cc own rt Ts nL) (hdg : decode cc pc = .ok (.aconst_null, 1)) (k : V l G n K nL (pc+1) lv (.null :: st) σ) : V l G n K nL pc lv st σ := by
  obtain ⟨p, e, s, m, args, below, meth, c, Q⟩ := K
  obtain ⟨hx, hb, hr, hml, hown, hts, hlk, hEV⟩ := X
  intro H locs ls hP hS hl
  exact lv_null hx hb hdg (k H locs ls hP hS hl)
theorem r_ifnull {l : Launch} {G : GX} {n : Nat} {K : KX} {cc : ByteArray} {own : String} {rt : Option FieldType} {Ts : List Cond} {nL : Nat} {pc : Nat} {lv : List (Nat × Value)} {st : List Value} {σ : MM} (X : FX G K cc own rt Ts nL) {x : Nat} {off : Int} (hdg : decode cc pc = .ok (.ifnull off, 3)) (k : V l G n K nL (pc+3) lv st σ) : V l G n K nL pc lv (.ref x :: st) σ := by
  obtain ⟨p, e, s, m, args, below, meth, c, Q⟩ := K
  obtain ⟨hx, hb, hr, hml, hown, hts, hlk, hEV⟩ := X
  intro H locs ls hP hS hl
  exact lv_ifnull hx hb hdg (k H locs ls hP hS hl)
theorem r_ifnullN {l : Launch} {G : GX} {n : Nat} {K : KX} {cc : ByteArray} {own : String} {rt : Option FieldType} {Ts : List Cond} {nL : Nat} {pc : Nat} {lv : List (Nat × Value)} {st : List Value} {σ : MM} (X : FX G K cc own rt Ts nL) {off : Int} {tgt : Nat} (hdg : decode cc pc = .ok (.ifnull off, 3)) (ht : (pc : Int) + off = (tgt : Int)) (k : V l G n K nL tgt lv st σ) : V l G n K nL pc lv (.null :: st) σ := by
  obtain ⟨p, e, s, m, args, below, meth, c, Q⟩ := K
  obtain ⟨hx, hb, hr, hml, hown, hts, hlk, hEV⟩ := X
  intro H locs ls hP hS hl
  exact lv_ifnullN hx hb hdg ht (k H locs ls hP hS hl)
theorem r_ifnonnull {l : Launch} {G : GX} {n : Nat} {K : KX} {cc : ByteArray} {own : String} {rt : Option FieldType} {Ts : List Cond} {nL : Nat} {pc : Nat} {lv : List (Nat × Value)} {st : List Value} {σ : MM} (X : FX G K cc own rt Ts nL) {x : Nat} {off : Int} {tgt : Nat} (hdg : decode cc pc = .ok (.ifnonnull off, 3)) (ht : (pc : Int) + off = (tgt : Int)) (k : V l G n K nL tgt lv st σ) : V l G n K nL pc lv (.ref x :: st) σ := by
  obtain ⟨p, e, s, m, args, below, meth, c, Q⟩ := K
  obtain ⟨hx, hb, hr, hml, hown, hts, hlk, hEV⟩ := X
  intro H locs ls hP hS hl
  exact lv_ifnonnull hx hb hdg ht (k H locs ls hP hS hl)
theorem r_ifnonnullN {l : Launch} {G : GX} {n : Nat} {K : KX} {cc : ByteArray} {own : String} {rt : Option FieldType} {Ts : List Cond} {nL : Nat} {pc : Nat} {lv : List (Nat × Value)} {st : List Value} {σ : MM} (X : FX G K cc own rt Ts nL) {off : Int} (hdg : decode cc pc = .ok (.ifnonnull off, 3)) (k : V l G n K nL (pc+3) lv st σ) : V l G n K nL pc lv (.null :: st) σ := by
  obtain ⟨p, e, s, m, args, below, meth, c, Q⟩ := K
  obtain ⟨hx, hb, hr, hml, hown, hts, hlk, hEV⟩ := X
  intro H locs ls hP hS hl
  exact lv_ifnonnullN hx hb hdg (k H locs ls hP hS hl)
theorem r_goto {l : Launch} {G : GX} {n : Nat} {K : KX} {cc : ByteArray} {own : String} {rt : Option FieldType} {Ts : List Cond} {nL : Nat} {pc : Nat} {lv : List (Nat × Value)} {st : List Value} {σ : MM} (X : FX G K cc own rt Ts nL) {off : Int} {tgt : Nat} (hdg : decode cc pc = .ok (.goto off, 3)) (ht : (pc : Int) + off = (tgt : Int)) (k : V l G n K nL tgt lv st σ) : V l G n K nL pc lv st σ := by
  obtain ⟨p, e, s, m, args, below, meth, c, Q⟩ := K
  obtain ⟨hx, hb, hr, hml, hown, hts, hlk, hEV⟩ := X
  intro H locs ls hP hS hl
  exact lv_goto hx hb hdg ht (k H locs ls hP hS hl)
theorem r_if_eq {l : Launch} {G : GX} {n : Nat} {K : KX} {cc : ByteArray} {own : String} {rt : Option FieldType} {Ts : List Cond} {nL : Nat} {pc : Nat} {lv : List (Nat × Value)} {st : List Value} {σ : MM} (X : FX G K cc own rt Ts nL) {x : Int32} {off : Int} {tgt : Nat} (hdg : decode cc pc = .ok (.ifCond .eq off, 3)) (ht : (pc : Int) + off = (tgt : Int)) (kt : x = 0 → V l G n K nL tgt lv st σ) (kf : ¬ x = 0 → V l G n K nL (pc+3) lv st σ) : V l G n K nL pc lv (.int x :: st) σ := by
  obtain ⟨p, e, s, m, args, below, meth, c, Q⟩ := K
  obtain ⟨hx, hb, hr, hml, hown, hts, hlk, hEV⟩ := X
  intro H locs ls hP hS hl
  exact lv_if_eq hx hb hdg ht (fun q => kt q H locs ls hP hS hl) (fun q => kf q H locs ls hP hS hl)
theorem r_icmp_eq {l : Launch} {G : GX} {n : Nat} {K : KX} {cc : ByteArray} {own : String} {rt : Option FieldType} {Ts : List Cond} {nL : Nat} {pc : Nat} {lv : List (Nat × Value)} {st : List Value} {σ : MM} (X : FX G K cc own rt Ts nL) {x y : Int32} {off : Int} {tgt : Nat} (hdg : decode cc pc = .ok (.if_icmp .eq off, 3)) (ht : (pc : Int) + off = (tgt : Int)) (kt : x = y → V l G n K nL tgt lv st σ) (kf : ¬ x = y → V l G n K nL (pc+3) lv st σ) : V l G n K nL pc lv (.int y :: .int x :: st) σ := by
  obtain ⟨p, e, s, m, args, below, meth, c, Q⟩ := K
  obtain ⟨hx, hb, hr, hml, hown, hts, hlk, hEV⟩ := X
  intro H locs ls hP hS hl
  exact lv_icmp_eq hx hb hdg ht (fun q => kt q H locs ls hP hS hl) (fun q => kf q H locs ls hP hS hl)
theorem r_if_ne {l : Launch} {G : GX} {n : Nat} {K : KX} {cc : ByteArray} {own : String} {rt : Option FieldType} {Ts : List Cond} {nL : Nat} {pc : Nat} {lv : List (Nat × Value)} {st : List Value} {σ : MM} (X : FX G K cc own rt Ts nL) {x : Int32} {off : Int} {tgt : Nat} (hdg : decode cc pc = .ok (.ifCond .ne off, 3)) (ht : (pc : Int) + off = (tgt : Int)) (kt : ¬ x = 0 → V l G n K nL tgt lv st σ) (kf : x = 0 → V l G n K nL (pc+3) lv st σ) : V l G n K nL pc lv (.int x :: st) σ := by
  obtain ⟨p, e, s, m, args, below, meth, c, Q⟩ := K
  obtain ⟨hx, hb, hr, hml, hown, hts, hlk, hEV⟩ := X
  intro H locs ls hP hS hl
  exact lv_if_ne hx hb hdg ht (fun q => kt q H locs ls hP hS hl) (fun q => kf q H locs ls hP hS hl)
theorem r_icmp_ne {l : Launch} {G : GX} {n : Nat} {K : KX} {cc : ByteArray} {own : String} {rt : Option FieldType} {Ts : List Cond} {nL : Nat} {pc : Nat} {lv : List (Nat × Value)} {st : List Value} {σ : MM} (X : FX G K cc own rt Ts nL) {x y : Int32} {off : Int} {tgt : Nat} (hdg : decode cc pc = .ok (.if_icmp .ne off, 3)) (ht : (pc : Int) + off = (tgt : Int)) (kt : ¬ x = y → V l G n K nL tgt lv st σ) (kf : x = y → V l G n K nL (pc+3) lv st σ) : V l G n K nL pc lv (.int y :: .int x :: st) σ := by
  obtain ⟨p, e, s, m, args, below, meth, c, Q⟩ := K
  obtain ⟨hx, hb, hr, hml, hown, hts, hlk, hEV⟩ := X
  intro H locs ls hP hS hl
  exact lv_icmp_ne hx hb hdg ht (fun q => kt q H locs ls hP hS hl) (fun q => kf q H locs ls hP hS hl)
theorem r_if_lt {l : Launch} {G : GX} {n : Nat} {K : KX} {cc : ByteArray} {own : String} {rt : Option FieldType} {Ts : List Cond} {nL : Nat} {pc : Nat} {lv : List (Nat × Value)} {st : List Value} {σ : MM} (X : FX G K cc own rt Ts nL) {x : Int32} {off : Int} {tgt : Nat} (hdg : decode cc pc = .ok (.ifCond .lt off, 3)) (ht : (pc : Int) + off = (tgt : Int)) (kt : x < 0 → V l G n K nL tgt lv st σ) (kf : ¬ x < 0 → V l G n K nL (pc+3) lv st σ) : V l G n K nL pc lv (.int x :: st) σ := by
  obtain ⟨p, e, s, m, args, below, meth, c, Q⟩ := K
  obtain ⟨hx, hb, hr, hml, hown, hts, hlk, hEV⟩ := X
  intro H locs ls hP hS hl
  exact lv_if_lt hx hb hdg ht (fun q => kt q H locs ls hP hS hl) (fun q => kf q H locs ls hP hS hl)
theorem r_icmp_lt {l : Launch} {G : GX} {n : Nat} {K : KX} {cc : ByteArray} {own : String} {rt : Option FieldType} {Ts : List Cond} {nL : Nat} {pc : Nat} {lv : List (Nat × Value)} {st : List Value} {σ : MM} (X : FX G K cc own rt Ts nL) {x y : Int32} {off : Int} {tgt : Nat} (hdg : decode cc pc = .ok (.if_icmp .lt off, 3)) (ht : (pc : Int) + off = (tgt : Int)) (kt : x < y → V l G n K nL tgt lv st σ) (kf : ¬ x < y → V l G n K nL (pc+3) lv st σ) : V l G n K nL pc lv (.int y :: .int x :: st) σ := by
  obtain ⟨p, e, s, m, args, below, meth, c, Q⟩ := K
  obtain ⟨hx, hb, hr, hml, hown, hts, hlk, hEV⟩ := X
  intro H locs ls hP hS hl
  exact lv_icmp_lt hx hb hdg ht (fun q => kt q H locs ls hP hS hl) (fun q => kf q H locs ls hP hS hl)
theorem r_if_ge {l : Launch} {G : GX} {n : Nat} {K : KX} {cc : ByteArray} {own : String} {rt : Option FieldType} {Ts : List Cond} {nL : Nat} {pc : Nat} {lv : List (Nat × Value)} {st : List Value} {σ : MM} (X : FX G K cc own rt Ts nL) {x : Int32} {off : Int} {tgt : Nat} (hdg : decode cc pc = .ok (.ifCond .ge off, 3)) (ht : (pc : Int) + off = (tgt : Int)) (kt : 0 ≤ x → V l G n K nL tgt lv st σ) (kf : ¬ 0 ≤ x → V l G n K nL (pc+3) lv st σ) : V l G n K nL pc lv (.int x :: st) σ := by
  obtain ⟨p, e, s, m, args, below, meth, c, Q⟩ := K
  obtain ⟨hx, hb, hr, hml, hown, hts, hlk, hEV⟩ := X
  intro H locs ls hP hS hl
  exact lv_if_ge hx hb hdg ht (fun q => kt q H locs ls hP hS hl) (fun q => kf q H locs ls hP hS hl)
theorem r_icmp_ge {l : Launch} {G : GX} {n : Nat} {K : KX} {cc : ByteArray} {own : String} {rt : Option FieldType} {Ts : List Cond} {nL : Nat} {pc : Nat} {lv : List (Nat × Value)} {st : List Value} {σ : MM} (X : FX G K cc own rt Ts nL) {x y : Int32} {off : Int} {tgt : Nat} (hdg : decode cc pc = .ok (.if_icmp .ge off, 3)) (ht : (pc : Int) + off = (tgt : Int)) (kt : y ≤ x → V l G n K nL tgt lv st σ) (kf : ¬ y ≤ x → V l G n K nL (pc+3) lv st σ) : V l G n K nL pc lv (.int y :: .int x :: st) σ := by
  obtain ⟨p, e, s, m, args, below, meth, c, Q⟩ := K
  obtain ⟨hx, hb, hr, hml, hown, hts, hlk, hEV⟩ := X
  intro H locs ls hP hS hl
  exact lv_icmp_ge hx hb hdg ht (fun q => kt q H locs ls hP hS hl) (fun q => kf q H locs ls hP hS hl)
theorem r_if_gt {l : Launch} {G : GX} {n : Nat} {K : KX} {cc : ByteArray} {own : String} {rt : Option FieldType} {Ts : List Cond} {nL : Nat} {pc : Nat} {lv : List (Nat × Value)} {st : List Value} {σ : MM} (X : FX G K cc own rt Ts nL) {x : Int32} {off : Int} {tgt : Nat} (hdg : decode cc pc = .ok (.ifCond .gt off, 3)) (ht : (pc : Int) + off = (tgt : Int)) (kt : 0 < x → V l G n K nL tgt lv st σ) (kf : ¬ 0 < x → V l G n K nL (pc+3) lv st σ) : V l G n K nL pc lv (.int x :: st) σ := by
  obtain ⟨p, e, s, m, args, below, meth, c, Q⟩ := K
  obtain ⟨hx, hb, hr, hml, hown, hts, hlk, hEV⟩ := X
  intro H locs ls hP hS hl
  exact lv_if_gt hx hb hdg ht (fun q => kt q H locs ls hP hS hl) (fun q => kf q H locs ls hP hS hl)
theorem r_icmp_gt {l : Launch} {G : GX} {n : Nat} {K : KX} {cc : ByteArray} {own : String} {rt : Option FieldType} {Ts : List Cond} {nL : Nat} {pc : Nat} {lv : List (Nat × Value)} {st : List Value} {σ : MM} (X : FX G K cc own rt Ts nL) {x y : Int32} {off : Int} {tgt : Nat} (hdg : decode cc pc = .ok (.if_icmp .gt off, 3)) (ht : (pc : Int) + off = (tgt : Int)) (kt : y < x → V l G n K nL tgt lv st σ) (kf : ¬ y < x → V l G n K nL (pc+3) lv st σ) : V l G n K nL pc lv (.int y :: .int x :: st) σ := by
  obtain ⟨p, e, s, m, args, below, meth, c, Q⟩ := K
  obtain ⟨hx, hb, hr, hml, hown, hts, hlk, hEV⟩ := X
  intro H locs ls hP hS hl
  exact lv_icmp_gt hx hb hdg ht (fun q => kt q H locs ls hP hS hl) (fun q => kf q H locs ls hP hS hl)
theorem r_if_le {l : Launch} {G : GX} {n : Nat} {K : KX} {cc : ByteArray} {own : String} {rt : Option FieldType} {Ts : List Cond} {nL : Nat} {pc : Nat} {lv : List (Nat × Value)} {st : List Value} {σ : MM} (X : FX G K cc own rt Ts nL) {x : Int32} {off : Int} {tgt : Nat} (hdg : decode cc pc = .ok (.ifCond .le off, 3)) (ht : (pc : Int) + off = (tgt : Int)) (kt : x ≤ 0 → V l G n K nL tgt lv st σ) (kf : ¬ x ≤ 0 → V l G n K nL (pc+3) lv st σ) : V l G n K nL pc lv (.int x :: st) σ := by
  obtain ⟨p, e, s, m, args, below, meth, c, Q⟩ := K
  obtain ⟨hx, hb, hr, hml, hown, hts, hlk, hEV⟩ := X
  intro H locs ls hP hS hl
  exact lv_if_le hx hb hdg ht (fun q => kt q H locs ls hP hS hl) (fun q => kf q H locs ls hP hS hl)
theorem r_icmp_le {l : Launch} {G : GX} {n : Nat} {K : KX} {cc : ByteArray} {own : String} {rt : Option FieldType} {Ts : List Cond} {nL : Nat} {pc : Nat} {lv : List (Nat × Value)} {st : List Value} {σ : MM} (X : FX G K cc own rt Ts nL) {x y : Int32} {off : Int} {tgt : Nat} (hdg : decode cc pc = .ok (.if_icmp .le off, 3)) (ht : (pc : Int) + off = (tgt : Int)) (kt : x ≤ y → V l G n K nL tgt lv st σ) (kf : ¬ x ≤ y → V l G n K nL (pc+3) lv st σ) : V l G n K nL pc lv (.int y :: .int x :: st) σ := by
  obtain ⟨p, e, s, m, args, below, meth, c, Q⟩ := K
  obtain ⟨hx, hb, hr, hml, hown, hts, hlk, hEV⟩ := X
  intro H locs ls hP hS hl
  exact lv_icmp_le hx hb hdg ht (fun q => kt q H locs ls hP hS hl) (fun q => kf q H locs ls hP hS hl)
theorem r_tableIn {l : Launch} {G : GX} {n : Nat} {K : KX} {cc : ByteArray} {own : String} {rt : Option FieldType} {Ts : List Cond} {nL : Nat} {pc : Nat} {lv : List (Nat × Value)} {st : List Value} {σ : MM} (X : FX G K cc own rt Ts nL) {dflt lo hi : Int} {offs : Array Int} {len : Nat} {x : Int32} {off : Int} {tgt : Nat} (hdg : decode cc pc = .ok (.tableswitch dflt lo hi offs, len)) (h1 : ¬ x.toInt < lo) (h2 : ¬ hi < x.toInt) (ho : offs[(x.toInt - lo).toNat]? = some off) (ht : (pc : Int) + off = (tgt : Int)) (k : V l G n K nL tgt lv st σ) : V l G n K nL pc lv (.int x :: st) σ := by
  obtain ⟨p, e, s, m, args, below, meth, c, Q⟩ := K
  obtain ⟨hx, hb, hr, hml, hown, hts, hlk, hEV⟩ := X
  intro H locs ls hP hS hl
  exact lv_tableIn hx hb hdg h1 h2 ho ht (k H locs ls hP hS hl)
theorem r_tableOut {l : Launch} {G : GX} {n : Nat} {K : KX} {cc : ByteArray} {own : String} {rt : Option FieldType} {Ts : List Cond} {nL : Nat} {pc : Nat} {lv : List (Nat × Value)} {st : List Value} {σ : MM} (X : FX G K cc own rt Ts nL) {dflt lo hi : Int} {offs : Array Int} {len : Nat} {x : Int32} {tgt : Nat} (hdg : decode cc pc = .ok (.tableswitch dflt lo hi offs, len)) (h : x.toInt < lo ∨ hi < x.toInt) (ht : (pc : Int) + dflt = (tgt : Int)) (k : V l G n K nL tgt lv st σ) : V l G n K nL pc lv (.int x :: st) σ := by
  obtain ⟨p, e, s, m, args, below, meth, c, Q⟩ := K
  obtain ⟨hx, hb, hr, hml, hown, hts, hlk, hEV⟩ := X
  intro H locs ls hP hS hl
  exact lv_tableOut hx hb hdg h ht (k H locs ls hP hS hl)
theorem r_lookup {l : Launch} {G : GX} {n : Nat} {K : KX} {cc : ByteArray} {own : String} {rt : Option FieldType} {Ts : List Cond} {nL : Nat} {pc : Nat} {lv : List (Nat × Value)} {st : List Value} {σ : MM} (X : FX G K cc own rt Ts nL) {dflt : Int} {ps : Array (Int × Int)} {len : Nat} {x : Int32} {off : Int} {tgt : Nat} (hdg : decode cc pc = .ok (.lookupswitch dflt ps, len)) (hp : (ps.toList.zip (ps.toList.drop 1)).all (fun (a, next) => a.1 < next.1) = true) (ho : Op.lookupswitch.offset ps.toList dflt x.toInt = off) (ht : (pc : Int) + off = (tgt : Int)) (k : V l G n K nL tgt lv st σ) : V l G n K nL pc lv (.int x :: st) σ := by
  obtain ⟨p, e, s, m, args, below, meth, c, Q⟩ := K
  obtain ⟨hx, hb, hr, hml, hown, hts, hlk, hEV⟩ := X
  intro H locs ls hP hS hl
  exact lv_lookup hx hb hdg hp ho ht (k H locs ls hP hS hl)
