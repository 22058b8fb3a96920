/-! What the law's start gives. -/
theorem ar_int {s : State} {args : Array Value} (h : (Cond.arrayClass .int).before args s = true) : ∃ c : ClassId, ArrOfT s c .int ∧ va_RA s c .int := by
  obtain ⟨c, k, comp, h1, h2, h3⟩ := Cond.arrayClass_spec (args := args) (first := s) (s := s) (o := none) (idx := []) (type := .int) h
  exact ⟨c, fun n z => ⟨(fun k h => by cases h), k, h2, comp, h3⟩, h1⟩
theorem ar_obj {C : String} {s : State} {args : Array Value} (h : (Cond.arrayOver (.object C)).before args s = true) : ∃ c : ClassId, ArrOfT s c (.object C) ∧ va_RA s c (.object C) := by
  obtain ⟨comp, c, k, h1, h2, h3, h4, h5⟩ := Cond.arrayOver_spec (args := args) (first := s) (s := s) (o := none) (idx := []) (n := C) h
  exact ⟨c, fun n z => ⟨(fun k h => by cases h), k, h3, comp, h4⟩, k, comp, h3, h4, h1, h5⟩
set_option maxRecDepth 100000 in
set_option maxHeartbeats 4000000 in
theorem st_K {s : State} {args : Array Value} (hts : ∀ w ∈ lw_tbl, w.before args s = true) : ∃ (D : va_G) (I : Nat → ClassId), va_K D vwCl (tyN I) s := by
  have ht : ∀ w ∈ wsL_law, w.before args s = true := fun w hw => hts w (wsL_law_in w hw)
  obtain ⟨c0, i0, k0⟩ := u_known (C := RX0) (T := TX0) (N := 12) (n := 12) ht inlX0 (hts (.instantiable RX0 12) (by decide +kernel))
  obtain ⟨c1, i1, k1⟩ := u_known (C := RX1) (T := TX1) (N := 4) (n := 4) ht inlX1 (hts (.instantiable RX1 4) (by decide +kernel))
  obtain ⟨c2, i2, k2⟩ := u_known (C := RX2) (T := TX2) (N := 4) (n := 4) ht inlX2 (hts (.instantiable RX2 4) (by decide +kernel))
  obtain ⟨c3, i3, k3⟩ := u_known (C := RX3) (T := TX3) (N := 4) (n := 4) ht inlX3 (hts (.instantiable RX3 4) (by decide +kernel))
  obtain ⟨c4, i4, k4⟩ := u_known (C := RX4) (T := TX4) (N := 5) (n := 5) ht inlX4 (hts (.instantiable RX4 5) (by decide +kernel))
  obtain ⟨c5, i5, k5⟩ := u_known (C := RX5) (T := TX5) (N := 3) (n := 3) ht inlX5 (hts (.instantiable RX5 3) (by decide +kernel))
  obtain ⟨c6, i6, k6⟩ := u_known (C := RX6) (T := TX6) (N := 3) (n := 3) ht inlX6 (hts (.instantiable RX6 3) (by decide +kernel))
  obtain ⟨c7, i7, k7⟩ := u_known (C := RX7) (T := TX7) (N := 6) (n := 6) ht inlX7 (hts (.instantiable RX7 6) (by decide +kernel))
  obtain ⟨c8, i8, k8⟩ := u_known (C := RX8) (T := TX8) (N := 9) (n := 9) ht inlX8 (hts (.instantiable RX8 9) (by decide +kernel))
  obtain ⟨c9, i9, k9⟩ := u_known (C := RX9) (T := TX9) (N := 21) (n := 21) ht inlX9 (hts (.instantiable RX9 21) (by decide +kernel))
  obtain ⟨a0, x0⟩ := ar_int (hts (.arrayClass .int) (by decide +kernel))
  obtain ⟨a1, x1⟩ := ar_obj (hts (.arrayOver (.object "StairCourt$Judge")) (by decide +kernel))
  obtain ⟨a2, x2⟩ := ar_obj (hts (.arrayOver (.object "StairCourt$Person")) (by decide +kernel))
  obtain ⟨a3, x3⟩ := ar_obj (hts (.arrayOver (.object "StairCourt$Sheet")) (by decide +kernel))
  refine ⟨(fun k => if k = 0 then c0 else if k = 1 then c1 else if k = 2 then c2 else if k = 3 then c3 else if k = 4 then c4 else if k = 5 then c5 else if k = 6 then c6 else if k = 7 then c7 else if k = 8 then c8 else c9, fun k => if k = 0 then i0 else if k = 1 then i1 else if k = 2 then i2 else if k = 3 then i3 else if k = 4 then i4 else if k = 5 then i5 else if k = 6 then i6 else if k = 7 then i7 else if k = 8 then i8 else i9), fun k => if k = 0 then a0 else if k = 1 then a1 else if k = 2 then a2 else a3, fun k q hq => ?_, fun k q hq => ?_⟩
  · match k, hq with
    | 0, hq => cases hq; exact k0
    | 1, hq => cases hq; exact k1
    | 2, hq => cases hq; exact k2
    | 3, hq => cases hq; exact k3
    | 4, hq => cases hq; exact k4
    | 5, hq => cases hq; exact k5
    | 6, hq => cases hq; exact k6
    | 7, hq => cases hq; exact k7
    | 8, hq => cases hq; exact k8
    | 9, hq => cases hq; exact k9
    | k + 10, hq => simp [vwCl] at hq
  · match k, hq with
    | 0, hq => cases hq; exact x0
    | 1, hq => cases hq; exact x1
    | 2, hq => cases hq; exact x2
    | 3, hq => cases hq; exact x3
    | k + 4, hq => simp [tyN] at hq
theorem lA_free {s : State} : ∀ a : Nat, a < s.heap.size → ¬ LA s a := fun a h z => absurd h (Nat.not_lt.mpr z)
def aT : Term := .static "StairCourt" "ABOVE" "[I"
def bT : Term := .static "StairCourt" "BODIES" "[I"
def sT (i : Nat) : Term := .string "StairCourt" (161 + 2 * i)
abbrev gv : List Cond := flatC (Jvm.Cond.and given_1 narrow_1)
set_option maxRecDepth 100000 in
theorem ga_el : ∀ j, j < 7 → Cond.eq (.elem aT (.int (Int32.ofNat j))) (.int (ab_l.getD j 0)) ∈ gv := by decide +kernel
set_option maxRecDepth 100000 in
theorem gb_el : ∀ j, j < 28 → Cond.eq (.elem bT (.int (Int32.ofNat j))) (.int (bo_l.getD j 0)) ∈ gv := by decide +kernel
set_option maxRecDepth 100000 in
theorem gs_1 : ∀ i, i < 2 → (Cond.exactly (sT i) "java/lang/String" ∈ gv ∧ Cond.eq (.field (sT i) "java/lang/String" "coder" "B") (.int 0) ∈ gv ∧ Cond.arrayOf (.field (sT i) "java/lang/String" "value" "[B") .byte ∈ gv ∧ Cond.eq (.length (.field (sT i) "java/lang/String" "value" "[B")) (.int (Int32.ofNat (([3, 3] : List Nat).getD i 0))) ∈ gv) := by decide +kernel
set_option maxRecDepth 100000 in
theorem gs_2 : ∀ i, i < 2 → ∀ j, j < 3 → Cond.eq (.elem (.field (sT i) "java/lang/String" "value" "[B") (.int (Int32.ofNat j))) (.int ((([[119, 115, 109], [98, 115, 107]] : List (List Int32)).getD i []).getD j 0)) ∈ gv := by decide +kernel
set_option maxRecDepth 100000 in
theorem gs_3 : Cond.not (.eq (sT 0) (sT 1)) ∈ gv ∧ Cond.eq (.string "StairCourt$Reader" 25) (sT 0) ∈ gv ∧ Cond.exactly (.string "StairCourt$Reader" 25) "java/lang/String" ∈ gv := by decide +kernel
set_option maxRecDepth 100000 in
theorem gab_4 : Cond.arrayOf aT .int ∈ gv ∧ Cond.eq (.length aT) (.int (Int32.ofNat 7)) ∈ gv ∧ Cond.arrayOf bT .int ∈ gv ∧ Cond.eq (.length bT) (.int (Int32.ofNat 28)) ∈ gv ∧ Cond.eq (.static "java/lang/String" "COMPACT_STRINGS" "Z") (.int 1) ∈ gv := by decide +kernel
set_option maxHeartbeats 4000000 in
set_option maxRecDepth 100000 in
theorem st_E {s : State} {args : Array Value} (hts : ∀ w ∈ lw_tbl, w.before args s = true) (hgv : (Jvm.Cond.and given_1 narrow_1).before args s = true) : ∃ st : Nat → Nat, (∀ (g : Nat → Nat) (D : va_G) (I : Nat → ClassId), EV0 (g, D, I, st) (LA s) s s.heap ∧ EVr (g, D, I, st) s) ∧ ZN (st 2) s := by
  have hs := flat_of_before _ hgv
  obtain ⟨ta, ea, ha⟩ := va_Tof (tm := aT) (ty := .int) (N := 7) (f := fun j => .int (ab_l.getD j 0)) (A := LA s) (by decide) (hs _ gab_4.1) (va_eqt (hs _ gab_4.2.1)) (fun j hj => va_eqt (hs _ (ga_el j hj))) lA_free
  obtain ⟨tb, eb, hb⟩ := va_Tof (tm := bT) (ty := .int) (N := 28) (f := fun j => .int (bo_l.getD j 0)) (A := LA s) (by decide) (hs _ gab_4.2.2.1) (va_eqt (hs _ gab_4.2.2.2.1)) (fun j hj => va_eqt (hs _ (gb_el j hj))) lA_free
  obtain ⟨adK, adV, hS, eS⟩ := vk_Sof (args := args) (s := s) (N := 2) (tm := sT) (len := [3, 3]) (byt := [[119, 115, 109], [98, 115, 107]]) (A := LA s) (fun i hi => by rcases (show i = 0 ∨ i = 1 by omega) with rfl | rfl <;> decide) (fun i hi => hs _ (gs_1 i hi).1) (fun i hi => hs _ (gs_1 i hi).2.1) (fun i hi => hs _ (gs_1 i hi).2.2.1) (fun i hi => hs _ (gs_1 i hi).2.2.2) (fun i hi j hj => hs _ (gs_2 i hi j (by rcases (show i = 0 ∨ i = 1 by omega) with rfl | rfl <;> exact hj))) (fun i j hi hj hij => by
      rcases (show i = 0 ∨ i = 1 by omega) with rfl | rfl <;> rcases (show j = 0 ∨ j = 1 by omega) with rfl | rfl
      · exact absurd rfl hij
      · exact Or.inl (hs _ gs_3.1)
      · exact Or.inr (hs _ gs_3.1)
      · exact absurd rfl hij) lA_free
  have e4 : (Term.string "StairCourt$Reader" 25).eval args s none [] s = some (.ref (adK 0)) := by
    obtain ⟨a, c, cA, kA, q1, -⟩ := Cond.exactly_spec (args := args) (first := s) (o := none) (s := s) (idx := []) (t := .string "StairCourt$Reader" 25) (cls := "java/lang/String") (hs _ gs_3.2.2)
    have q2 := va_eqR (hs _ gs_3.2.1) q1
    have q3 := eS 0 (by decide)
    rw [q2] at q3
    cases q3
    exact q1
  refine ⟨fun i => ([ta, tb, adK 0, adK 1, adV 0, adV 1] : List Nat).getD i 0, fun g D I => ⟨⟨?_, ha, ?_, hb, ?_, ?_⟩, ?_, ?_, ?_, ?_, ?_⟩, ?_⟩
  · exact va_Zof (args := args) (hts _ (by decide +kernel)) (hts _ (by decide +kernel)) ea lA_free
  · exact va_Zof (args := args) (hts _ (by decide +kernel)) (hts _ (by decide +kernel)) eb lA_free
  · exact va_Zof (args := args) (hts _ (by decide +kernel)) (hts _ (by decide +kernel)) (va_eqi (hs _ gab_4.2.2.2.2)) lA_free
  · refine ⟨fun i hi => ?_, fun i j hi hj e => hS.2 i j hi hj ?_⟩
    · rcases (show i = 0 ∨ i = 1 by omega) with rfl | rfl
      · exact hS.1 0 hi
      · exact hS.1 1 hi
    · rcases (show i = 0 ∨ i = 1 by omega) with rfl | rfl <;> rcases (show j = 0 ∨ j = 1 by omega) with rfl | rfl <;> exact e
  · exact vk_R.of (A := args) (hts _ (by decide +kernel)) (eS 0 (by decide))
  · exact vk_R.of (A := args) (hts _ (by decide +kernel)) (eS 1 (by decide))
  · exact va_Nw.of (A := args) rfl (hts _ (by decide +kernel))
  · exact va_Nw.of (A := args) rfl (hts _ (by decide +kernel))
  · exact va_Nw.of (A := args) rfl (hts _ (by decide +kernel))
  · exact ⟨va_Nw.of (A := args) rfl (hts _ (by decide +kernel)), va_Nw.of (A := args) rfl (hts _ (by decide +kernel)), va_Nw.of (A := args) rfl (hts _ (by decide +kernel)), va_Nw.of (A := args) rfl (hts _ (by decide +kernel)), va_Nw.of (A := args) rfl (hts _ (by decide +kernel)), va_Nw.of (A := args) rfl (hts _ (by decide +kernel)), va_AO.of (A := args) (hts _ (by decide +kernel)), va_AO.of (A := args) (hts _ (by decide +kernel)), va_AO.of (A := args) (hts _ (by decide +kernel)), vk_R.of (A := args) (hts _ (by decide +kernel)) e4⟩
