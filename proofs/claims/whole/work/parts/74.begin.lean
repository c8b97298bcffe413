/-! the law at its start: the classes, the tables, the literals, as the Statement gives them -/
theorem lt_1 (i : Nat) {w : Cond} (h : tables_1_1[i]? = some w) : w ∈ lw_tbl := List.mem_append_right _ (List.mem_append_left _ (List.mem_of_getElem? h))
theorem lt_2 (i : Nat) {w : Cond} (h : tables_1_2[i]? = some w) : w ∈ lw_tbl := List.mem_append_right _ (List.mem_append_right _ (List.mem_append_left _ (List.mem_of_getElem? h)))
theorem lt_3 (i : Nat) {w : Cond} (h : tables_1_3[i]? = some w) : w ∈ lw_tbl := List.mem_append_right _ (List.mem_append_right _ (List.mem_append_right _ (List.mem_append_left _ (List.mem_of_getElem? h))))
theorem lt_4 (i : Nat) {w : Cond} (h : tables_1_4[i]? = some w) : w ∈ lw_tbl := List.mem_append_right _ (List.mem_append_right _ (List.mem_append_right _ (List.mem_append_right _ (List.mem_append_left _ (List.mem_of_getElem? h)))))
theorem lt_5 (i : Nat) {w : Cond} (h : tables_1_5[i]? = some w) : w ∈ lw_tbl := List.mem_append_right _ (List.mem_append_right _ (List.mem_append_right _ (List.mem_append_right _ (List.mem_append_right _ (List.mem_append_left _ (List.mem_of_getElem? h))))))
theorem lt_6 (i : Nat) {w : Cond} (h : tables_1_6[i]? = some w) : w ∈ lw_tbl := List.mem_append_right _ (List.mem_append_right _ (List.mem_append_right _ (List.mem_append_right _ (List.mem_append_right _ (List.mem_append_right _ (List.mem_of_getElem? h))))))
theorem start_arr {s : State} {args : Array Value} {ty : FieldType} (h : (Cond.arrayClass ty).before args s = true) (hp : ∀ c, s.vm.findClass ("[" ++ ty.toString) = some c → va_RA s c ty) : ∃ c, ArrOfT s c ty ∧ va_RA s c ty := by
  obtain ⟨c, k, comp, h1, h2, h3⟩ := Cond.arrayClass_spec h
  exact ⟨c, fun n z => ⟨(fun k h => by cases h), k, h2, comp, h3⟩, hp c h1⟩
theorem start_over {s : State} {args : Array Value} {C : String} (h : (Cond.arrayOver (.object C)).before args s = true) : ∃ c, ArrOfT s c (.object C) ∧ va_RA s c (.object C) := by
  obtain ⟨comp, c, k, h1, h2, h3, h4, h5⟩ := Cond.arrayOver_spec h
  exact ⟨c, fun n z => ⟨(fun k h => by cases h), k, h3, comp, h4⟩, k, comp, h3, h4, h1, h5⟩
theorem start_overA {s : State} {args : Array Value} {t : FieldType} (h : (Cond.arrayOver (.array t)).before args s = true) : ∃ c, ArrOfT s c (.array t) ∧ va_RA s c (.array t) := by
  obtain ⟨comp, c, k, h1, h2, h3, h4, h5⟩ := arrayOverA_spec h
  exact ⟨c, fun n z => ⟨(fun k h => by cases h), k, h3, comp, h4⟩, h5⟩
theorem start_K {s : State} {args : Array Value} (hts : ∀ w ∈ lw_tbl, w.before args s = true) : ∃ (D : va_G) (cy : Nat → ClassId), va_K D vwCl (TY cy) s := by
  have hw : ∀ w ∈ wg, w.before args s = true := fun w h => hts w (wg_tbl h)
  obtain ⟨c0, i0, k0⟩ := u_known (C := RX0) (T := TX0) (N := 13) (n := 13) hw iX0 (hw _ kw_1_95)
  obtain ⟨c1, i1, k1⟩ := u_known (C := RX1) (T := TX1) (N := 12) (n := 12) hw iX1 (hw _ kw_1_25)
  obtain ⟨c2, i2, k2⟩ := u_known (C := RX2) (T := TX2) (N := 3) (n := 3) hw iX2 (hw _ kw_2_8)
  obtain ⟨c3, i3, k3⟩ := u_known (C := RX3) (T := TX3) (N := 2) (n := 2) hw iX3 (hw _ kw_1_214)
  obtain ⟨c4, i4, k4⟩ := u_known (C := RX4) (T := TX4) (N := 5) (n := 5) hw iX4 (hw _ kw_1_208)
  obtain ⟨c5, i5, k5⟩ := u_known (C := RX5) (T := TX5) (N := 11) (n := 11) hw iX5 (hw _ kw_1_154)
  obtain ⟨c6, i6, k6⟩ := u_known (C := RX6) (T := TX6) (N := 9) (n := 9) hw iX6 (hw _ kw_1_17)
  obtain ⟨c7, i7, k7⟩ := u_known (C := RX7) (T := TX7) (N := 23) (n := 23) hw iX7 (hw _ kw_4_59)
  obtain ⟨a0, b0⟩ := start_arr (hts (.arrayClass .int) (lt_1 92 (by decide +kernel))) (fun c h => h)
  obtain ⟨a1, b1⟩ := start_arr (hts (.arrayClass .long) (lt_2 26 (by decide +kernel))) (fun c h => h)
  obtain ⟨a2, b2⟩ := start_arr (hts (.arrayClass .boolean) (lt_1 93 (by decide +kernel))) (fun c h => h)
  obtain ⟨a3, b3⟩ := start_over (hts (.arrayOver (.object "SmokeLeans$Sheet")) (lt_2 7 (by decide +kernel)))
  obtain ⟨a4, b4⟩ := start_overA (hts (.arrayOver (.array .int)) (lt_1 101 (by decide +kernel)))
  refine ⟨(fun k => match k with | 0 => c0 | 1 => c1 | 2 => c2 | 3 => c3 | 4 => c4 | 5 => c5 | 6 => c6 | _ => c7, fun k => match k with | 0 => i0 | 1 => i1 | 2 => i2 | 3 => i3 | 4 => i4 | 5 => i5 | 6 => i6 | _ => i7), (fun k => match k with | 0 => a0 | 1 => a1 | 2 => a2 | 3 => a3 | _ => a4), ?_, ?_⟩
  · intro k q hq
    match k, hq with
    | 0, hq => cases hq; exact k0
    | 1, hq => cases hq; exact k1
    | 2, hq => cases hq; exact k2
    | 3, hq => cases hq; exact k3
    | 4, hq => cases hq; exact k4
    | 5, hq => cases hq; exact k5
    | 6, hq => cases hq; exact k6
    | 7, hq => cases hq; exact k7
    | k + 8, hq => simp [vwCl] at hq
  · intro k q hq
    match k, hq with
    | 0, hq => cases hq; exact b0
    | 1, hq => cases hq; exact b1
    | 2, hq => cases hq; exact b2
    | 3, hq => cases hq; exact b3
    | 4, hq => cases hq; exact b4
    | k + 5, hq => simp [TY] at hq
theorem start_N {s : State} {args : Array Value} (hts : ∀ w ∈ lw_tbl, w.before args s = true) : cxN s := by
  refine ⟨?_, ?_, ?_, ?_, ?_, ?_, ?_, ?_, ?_, ?_, ?_, ?_, ?_, ?_, ?_⟩
  · exact va_Nw.of rfl (hts (.methodLinkNest RX6 9 yX1_init RX6) (lt_1 26 (by decide +kernel)))
  · exact va_Nw.of rfl (hts (.methodLinkNest RX6 28 yX0_init RX6) (lt_1 96 (by decide +kernel)))
  · exact va_Nw.of rfl (hts (.methodLinkNest RX6 35 yX5_init RX6) (lt_1 155 (by decide +kernel)))
  · exact va_Nw.of rfl (hts (.methodLinkNest RX5 11 yX0_init RX6) (lt_1 160 (by decide +kernel)))
  · exact va_Nw.of rfl (hts (.methodLinkNest RX5 49 yX1_init RX6) (lt_1 162 (by decide +kernel)))
  · exact va_Nw.of rfl (hts (.methodLinkNest RX6 42 yX4_init RX6) (lt_1 209 (by decide +kernel)))
  · exact va_Nw.of rfl (hts (.methodLinkNest RX4 11 yX3_init RX6) (lt_1 215 (by decide +kernel)))
  · exact va_Nw.of rfl (hts (.methodLinkNest RX6 57 yX2_init RX6) (lt_2 9 (by decide +kernel)))
  · exact va_Nw.of rfl (hts (.methodLinkNest RX1 67 yX6_isUnder RX6) (lt_3 83 (by decide +kernel)))
  · exact va_Nw.of rfl (hts (.methodLinkNest RX5 71 yX6_leanOf RX6) (lt_3 146 (by decide +kernel)))
  · exact va_Nw.of rfl (hts (.methodLinkNest RX5 91 yX6_isIn RX6) (lt_3 178 (by decide +kernel)))
  · exact va_Nw.of rfl (hts (.fieldLinkNest RX4 69 "SmokeLeans" "NIGHT_MOST" "[I" RX6) (lt_3 46 (by decide +kernel)))
  · exact va_Nw.of rfl (hts (.fieldLinkNest RX5 119 "SmokeLeans" "NIGHT_MOST" "[I" RX6) (lt_3 215 (by decide +kernel)))
  · exact va_AO.of (hts (.arrayOver (.object "SmokeLeans$Sheet")) (lt_2 7 (by decide +kernel)))
  · exact hts (.arrayOver (.array .int)) (lt_1 101 (by decide +kernel))
def nFl : List Cond := flatC (Jvm.Cond.and given_1 narrow_1)
theorem in_tbU : Cond.arrayOf (.static "SmokeLeans" "UNDER" "[I") .int ∈ nFl ∧ Cond.eq (.length (.static "SmokeLeans" "UNDER" "[I")) (.int (Int32.ofNat 6)) ∈ nFl ∧ ∀ j, j < 6 → Cond.eq (.elem (.static "SmokeLeans" "UNDER" "[I") (.int (Int32.ofNat j))) (.int (tbU j)) ∈ nFl := by decide +kernel
theorem start_tbU {s : State} {args : Array Value} {A : Nat → Prop} (hts : ∀ w ∈ lw_tbl, w.before args s = true) (hs : ∀ w ∈ nFl, w.before args s = true) (hA : ∀ a : Nat, a < s.heap.size → ¬ A a) : ∃ t : Nat, va_Z "SmokeLeans" "UNDER" "[I" (.ref t) A s s.heap ∧ va_T .int t 6 (fun j => .int (tbU j)) A s s.heap := by
  obtain ⟨t, ht, hT⟩ := va_Tof (N := 6) (f := fun j => .int (tbU j)) (A := A) (by decide) (hs _ in_tbU.1) (va_eqt (hs _ in_tbU.2.1)) (fun j hj => va_eqt (hs _ (in_tbU.2.2 j hj))) hA
  exact ⟨t, va_Zof (hts (.laysStatic "SmokeLeans" "UNDER" "[I") (lt_2 131 (by decide +kernel))) (hts (.initialized "SmokeLeans") (lt_1 1 (by decide +kernel))) ht hA, hT⟩
theorem in_tbL : Cond.arrayOf (.static "SmokeLeans" "NIGHT_LEAST" "[I") .int ∈ nFl ∧ Cond.eq (.length (.static "SmokeLeans" "NIGHT_LEAST" "[I")) (.int (Int32.ofNat 6)) ∈ nFl ∧ ∀ j, j < 6 → Cond.eq (.elem (.static "SmokeLeans" "NIGHT_LEAST" "[I") (.int (Int32.ofNat j))) (.int (tbL j)) ∈ nFl := by decide +kernel
theorem start_tbL {s : State} {args : Array Value} {A : Nat → Prop} (hts : ∀ w ∈ lw_tbl, w.before args s = true) (hs : ∀ w ∈ nFl, w.before args s = true) (hA : ∀ a : Nat, a < s.heap.size → ¬ A a) : ∃ t : Nat, va_Z "SmokeLeans" "NIGHT_LEAST" "[I" (.ref t) A s s.heap ∧ va_T .int t 6 (fun j => .int (tbL j)) A s s.heap := by
  obtain ⟨t, ht, hT⟩ := va_Tof (N := 6) (f := fun j => .int (tbL j)) (A := A) (by decide) (hs _ in_tbL.1) (va_eqt (hs _ in_tbL.2.1)) (fun j hj => va_eqt (hs _ (in_tbL.2.2 j hj))) hA
  exact ⟨t, va_Zof (hts (.laysStatic "SmokeLeans" "NIGHT_LEAST" "[I") (lt_2 137 (by decide +kernel))) (hts (.initialized "SmokeLeans") (lt_1 1 (by decide +kernel))) ht hA, hT⟩
theorem in_tbM : Cond.arrayOf (.static "SmokeLeans" "NIGHT_MOST" "[I") .int ∈ nFl ∧ Cond.eq (.length (.static "SmokeLeans" "NIGHT_MOST" "[I")) (.int (Int32.ofNat 6)) ∈ nFl ∧ ∀ j, j < 6 → Cond.eq (.elem (.static "SmokeLeans" "NIGHT_MOST" "[I") (.int (Int32.ofNat j))) (.int (tbM j)) ∈ nFl := by decide +kernel
theorem start_tbM {s : State} {args : Array Value} {A : Nat → Prop} (hts : ∀ w ∈ lw_tbl, w.before args s = true) (hs : ∀ w ∈ nFl, w.before args s = true) (hA : ∀ a : Nat, a < s.heap.size → ¬ A a) : ∃ t : Nat, va_Z "SmokeLeans" "NIGHT_MOST" "[I" (.ref t) A s s.heap ∧ va_T .int t 6 (fun j => .int (tbM j)) A s s.heap := by
  obtain ⟨t, ht, hT⟩ := va_Tof (N := 6) (f := fun j => .int (tbM j)) (A := A) (by decide) (hs _ in_tbM.1) (va_eqt (hs _ in_tbM.2.1)) (fun j hj => va_eqt (hs _ (in_tbM.2.2 j hj))) hA
  exact ⟨t, va_Zof (hts (.laysStatic "SmokeLeans" "NIGHT_MOST" "[I") (lt_2 139 (by decide +kernel))) (hts (.initialized "SmokeLeans") (lt_1 1 (by decide +kernel))) ht hA, hT⟩
abbrev stm (i : Nat) : Term := .string "SmokeLeans$Teller" (stI.getD i 0)
theorem in_ex : ∀ i, i < 14 → Cond.exactly (stm i) "java/lang/String" ∈ nFl := by decide +kernel
theorem in_co : ∀ i, i < 14 → Cond.eq (.field (stm i) "java/lang/String" "coder" "B") (.int 0) ∈ nFl := by decide +kernel
theorem in_ar : ∀ i, i < 14 → Cond.arrayOf (.field (stm i) "java/lang/String" "value" "[B") .byte ∈ nFl := by decide +kernel
theorem in_le : ∀ i, i < 14 → Cond.eq (.length (.field (stm i) "java/lang/String" "value" "[B")) (.int (Int32.ofNat (stL.getD i 0))) ∈ nFl := by decide +kernel
theorem in_el : ∀ i, i < 14 → ∀ j, j < stL.getD i 0 → Cond.eq (.elem (.field (stm i) "java/lang/String" "value" "[B") (.int (Int32.ofNat j))) (.int ((stB.getD i []).getD j 0)) ∈ nFl := by decide +kernel
theorem ne_0_1 : Cond.not (Cond.eq (stm 0) (stm 1)) ∈ nFl := List.mem_of_getElem? (i := 51) (by decide +kernel)
theorem ne_0_2 : Cond.not (Cond.eq (stm 0) (stm 2)) ∈ nFl := List.mem_of_getElem? (i := 62) (by decide +kernel)
theorem ne_0_3 : Cond.not (Cond.eq (stm 0) (stm 3)) ∈ nFl := List.mem_of_getElem? (i := 74) (by decide +kernel)
theorem ne_0_4 : Cond.not (Cond.eq (stm 0) (stm 4)) ∈ nFl := List.mem_of_getElem? (i := 86) (by decide +kernel)
theorem ne_0_5 : Cond.not (Cond.eq (stm 0) (stm 5)) ∈ nFl := List.mem_of_getElem? (i := 101) (by decide +kernel)
theorem ne_0_6 : Cond.not (Cond.eq (stm 0) (stm 6)) ∈ nFl := List.mem_of_getElem? (i := 117) (by decide +kernel)
theorem ne_0_7 : Cond.not (Cond.eq (stm 0) (stm 7)) ∈ nFl := List.mem_of_getElem? (i := 130) (by decide +kernel)
theorem ne_0_8 : Cond.not (Cond.eq (stm 0) (stm 8)) ∈ nFl := List.mem_of_getElem? (i := 145) (by decide +kernel)
theorem ne_0_9 : Cond.not (Cond.eq (stm 0) (stm 9)) ∈ nFl := List.mem_of_getElem? (i := 161) (by decide +kernel)
theorem ne_0_10 : Cond.not (Cond.eq (stm 0) (stm 10)) ∈ nFl := List.mem_of_getElem? (i := 178) (by decide +kernel)
theorem ne_0_11 : Cond.not (Cond.eq (stm 0) (stm 11)) ∈ nFl := List.mem_of_getElem? (i := 196) (by decide +kernel)
theorem ne_0_12 : Cond.not (Cond.eq (stm 0) (stm 12)) ∈ nFl := List.mem_of_getElem? (i := 215) (by decide +kernel)
theorem ne_0_13 : Cond.not (Cond.eq (stm 0) (stm 13)) ∈ nFl := List.mem_of_getElem? (i := 236) (by decide +kernel)
theorem ne_1_2 : Cond.not (Cond.eq (stm 1) (stm 2)) ∈ nFl := List.mem_of_getElem? (i := 63) (by decide +kernel)
theorem ne_1_3 : Cond.not (Cond.eq (stm 1) (stm 3)) ∈ nFl := List.mem_of_getElem? (i := 75) (by decide +kernel)
theorem ne_1_4 : Cond.not (Cond.eq (stm 1) (stm 4)) ∈ nFl := List.mem_of_getElem? (i := 87) (by decide +kernel)
theorem ne_1_5 : Cond.not (Cond.eq (stm 1) (stm 5)) ∈ nFl := List.mem_of_getElem? (i := 102) (by decide +kernel)
theorem ne_1_6 : Cond.not (Cond.eq (stm 1) (stm 6)) ∈ nFl := List.mem_of_getElem? (i := 118) (by decide +kernel)
theorem ne_1_7 : Cond.not (Cond.eq (stm 1) (stm 7)) ∈ nFl := List.mem_of_getElem? (i := 131) (by decide +kernel)
theorem ne_1_8 : Cond.not (Cond.eq (stm 1) (stm 8)) ∈ nFl := List.mem_of_getElem? (i := 146) (by decide +kernel)
theorem ne_1_9 : Cond.not (Cond.eq (stm 1) (stm 9)) ∈ nFl := List.mem_of_getElem? (i := 162) (by decide +kernel)
theorem ne_1_10 : Cond.not (Cond.eq (stm 1) (stm 10)) ∈ nFl := List.mem_of_getElem? (i := 179) (by decide +kernel)
theorem ne_1_11 : Cond.not (Cond.eq (stm 1) (stm 11)) ∈ nFl := List.mem_of_getElem? (i := 197) (by decide +kernel)
theorem ne_1_12 : Cond.not (Cond.eq (stm 1) (stm 12)) ∈ nFl := List.mem_of_getElem? (i := 216) (by decide +kernel)
theorem ne_1_13 : Cond.not (Cond.eq (stm 1) (stm 13)) ∈ nFl := List.mem_of_getElem? (i := 237) (by decide +kernel)
theorem ne_2_3 : Cond.not (Cond.eq (stm 2) (stm 3)) ∈ nFl := List.mem_of_getElem? (i := 76) (by decide +kernel)
theorem ne_2_4 : Cond.not (Cond.eq (stm 2) (stm 4)) ∈ nFl := List.mem_of_getElem? (i := 88) (by decide +kernel)
theorem ne_2_5 : Cond.not (Cond.eq (stm 2) (stm 5)) ∈ nFl := List.mem_of_getElem? (i := 103) (by decide +kernel)
theorem ne_2_6 : Cond.not (Cond.eq (stm 2) (stm 6)) ∈ nFl := List.mem_of_getElem? (i := 119) (by decide +kernel)
theorem ne_2_7 : Cond.not (Cond.eq (stm 2) (stm 7)) ∈ nFl := List.mem_of_getElem? (i := 132) (by decide +kernel)
theorem ne_2_8 : Cond.not (Cond.eq (stm 2) (stm 8)) ∈ nFl := List.mem_of_getElem? (i := 147) (by decide +kernel)
theorem ne_2_9 : Cond.not (Cond.eq (stm 2) (stm 9)) ∈ nFl := List.mem_of_getElem? (i := 163) (by decide +kernel)
theorem ne_2_10 : Cond.not (Cond.eq (stm 2) (stm 10)) ∈ nFl := List.mem_of_getElem? (i := 180) (by decide +kernel)
theorem ne_2_11 : Cond.not (Cond.eq (stm 2) (stm 11)) ∈ nFl := List.mem_of_getElem? (i := 198) (by decide +kernel)
theorem ne_2_12 : Cond.not (Cond.eq (stm 2) (stm 12)) ∈ nFl := List.mem_of_getElem? (i := 217) (by decide +kernel)
theorem ne_2_13 : Cond.not (Cond.eq (stm 2) (stm 13)) ∈ nFl := List.mem_of_getElem? (i := 238) (by decide +kernel)
theorem ne_3_4 : Cond.not (Cond.eq (stm 3) (stm 4)) ∈ nFl := List.mem_of_getElem? (i := 89) (by decide +kernel)
theorem ne_3_5 : Cond.not (Cond.eq (stm 3) (stm 5)) ∈ nFl := List.mem_of_getElem? (i := 104) (by decide +kernel)
theorem ne_3_6 : Cond.not (Cond.eq (stm 3) (stm 6)) ∈ nFl := List.mem_of_getElem? (i := 120) (by decide +kernel)
theorem ne_3_7 : Cond.not (Cond.eq (stm 3) (stm 7)) ∈ nFl := List.mem_of_getElem? (i := 133) (by decide +kernel)
theorem ne_3_8 : Cond.not (Cond.eq (stm 3) (stm 8)) ∈ nFl := List.mem_of_getElem? (i := 148) (by decide +kernel)
theorem ne_3_9 : Cond.not (Cond.eq (stm 3) (stm 9)) ∈ nFl := List.mem_of_getElem? (i := 164) (by decide +kernel)
theorem ne_3_10 : Cond.not (Cond.eq (stm 3) (stm 10)) ∈ nFl := List.mem_of_getElem? (i := 181) (by decide +kernel)
theorem ne_3_11 : Cond.not (Cond.eq (stm 3) (stm 11)) ∈ nFl := List.mem_of_getElem? (i := 199) (by decide +kernel)
theorem ne_3_12 : Cond.not (Cond.eq (stm 3) (stm 12)) ∈ nFl := List.mem_of_getElem? (i := 218) (by decide +kernel)
theorem ne_3_13 : Cond.not (Cond.eq (stm 3) (stm 13)) ∈ nFl := List.mem_of_getElem? (i := 239) (by decide +kernel)
theorem ne_4_5 : Cond.not (Cond.eq (stm 4) (stm 5)) ∈ nFl := List.mem_of_getElem? (i := 105) (by decide +kernel)
theorem ne_4_6 : Cond.not (Cond.eq (stm 4) (stm 6)) ∈ nFl := List.mem_of_getElem? (i := 121) (by decide +kernel)
theorem ne_4_7 : Cond.not (Cond.eq (stm 4) (stm 7)) ∈ nFl := List.mem_of_getElem? (i := 134) (by decide +kernel)
theorem ne_4_8 : Cond.not (Cond.eq (stm 4) (stm 8)) ∈ nFl := List.mem_of_getElem? (i := 149) (by decide +kernel)
theorem ne_4_9 : Cond.not (Cond.eq (stm 4) (stm 9)) ∈ nFl := List.mem_of_getElem? (i := 165) (by decide +kernel)
theorem ne_4_10 : Cond.not (Cond.eq (stm 4) (stm 10)) ∈ nFl := List.mem_of_getElem? (i := 182) (by decide +kernel)
theorem ne_4_11 : Cond.not (Cond.eq (stm 4) (stm 11)) ∈ nFl := List.mem_of_getElem? (i := 200) (by decide +kernel)
theorem ne_4_12 : Cond.not (Cond.eq (stm 4) (stm 12)) ∈ nFl := List.mem_of_getElem? (i := 219) (by decide +kernel)
theorem ne_4_13 : Cond.not (Cond.eq (stm 4) (stm 13)) ∈ nFl := List.mem_of_getElem? (i := 240) (by decide +kernel)
theorem ne_5_6 : Cond.not (Cond.eq (stm 5) (stm 6)) ∈ nFl := List.mem_of_getElem? (i := 122) (by decide +kernel)
theorem ne_5_7 : Cond.not (Cond.eq (stm 5) (stm 7)) ∈ nFl := List.mem_of_getElem? (i := 135) (by decide +kernel)
theorem ne_5_8 : Cond.not (Cond.eq (stm 5) (stm 8)) ∈ nFl := List.mem_of_getElem? (i := 150) (by decide +kernel)
theorem ne_5_9 : Cond.not (Cond.eq (stm 5) (stm 9)) ∈ nFl := List.mem_of_getElem? (i := 166) (by decide +kernel)
theorem ne_5_10 : Cond.not (Cond.eq (stm 5) (stm 10)) ∈ nFl := List.mem_of_getElem? (i := 183) (by decide +kernel)
theorem ne_5_11 : Cond.not (Cond.eq (stm 5) (stm 11)) ∈ nFl := List.mem_of_getElem? (i := 201) (by decide +kernel)
theorem ne_5_12 : Cond.not (Cond.eq (stm 5) (stm 12)) ∈ nFl := List.mem_of_getElem? (i := 220) (by decide +kernel)
theorem ne_5_13 : Cond.not (Cond.eq (stm 5) (stm 13)) ∈ nFl := List.mem_of_getElem? (i := 241) (by decide +kernel)
theorem ne_6_7 : Cond.not (Cond.eq (stm 6) (stm 7)) ∈ nFl := List.mem_of_getElem? (i := 136) (by decide +kernel)
theorem ne_6_8 : Cond.not (Cond.eq (stm 6) (stm 8)) ∈ nFl := List.mem_of_getElem? (i := 151) (by decide +kernel)
theorem ne_6_9 : Cond.not (Cond.eq (stm 6) (stm 9)) ∈ nFl := List.mem_of_getElem? (i := 167) (by decide +kernel)
theorem ne_6_10 : Cond.not (Cond.eq (stm 6) (stm 10)) ∈ nFl := List.mem_of_getElem? (i := 184) (by decide +kernel)
theorem ne_6_11 : Cond.not (Cond.eq (stm 6) (stm 11)) ∈ nFl := List.mem_of_getElem? (i := 202) (by decide +kernel)
theorem ne_6_12 : Cond.not (Cond.eq (stm 6) (stm 12)) ∈ nFl := List.mem_of_getElem? (i := 221) (by decide +kernel)
theorem ne_6_13 : Cond.not (Cond.eq (stm 6) (stm 13)) ∈ nFl := List.mem_of_getElem? (i := 242) (by decide +kernel)
theorem ne_7_8 : Cond.not (Cond.eq (stm 7) (stm 8)) ∈ nFl := List.mem_of_getElem? (i := 152) (by decide +kernel)
theorem ne_7_9 : Cond.not (Cond.eq (stm 7) (stm 9)) ∈ nFl := List.mem_of_getElem? (i := 168) (by decide +kernel)
theorem ne_7_10 : Cond.not (Cond.eq (stm 7) (stm 10)) ∈ nFl := List.mem_of_getElem? (i := 185) (by decide +kernel)
theorem ne_7_11 : Cond.not (Cond.eq (stm 7) (stm 11)) ∈ nFl := List.mem_of_getElem? (i := 203) (by decide +kernel)
theorem ne_7_12 : Cond.not (Cond.eq (stm 7) (stm 12)) ∈ nFl := List.mem_of_getElem? (i := 222) (by decide +kernel)
theorem ne_7_13 : Cond.not (Cond.eq (stm 7) (stm 13)) ∈ nFl := List.mem_of_getElem? (i := 243) (by decide +kernel)
theorem ne_8_9 : Cond.not (Cond.eq (stm 8) (stm 9)) ∈ nFl := List.mem_of_getElem? (i := 169) (by decide +kernel)
theorem ne_8_10 : Cond.not (Cond.eq (stm 8) (stm 10)) ∈ nFl := List.mem_of_getElem? (i := 186) (by decide +kernel)
theorem ne_8_11 : Cond.not (Cond.eq (stm 8) (stm 11)) ∈ nFl := List.mem_of_getElem? (i := 204) (by decide +kernel)
theorem ne_8_12 : Cond.not (Cond.eq (stm 8) (stm 12)) ∈ nFl := List.mem_of_getElem? (i := 223) (by decide +kernel)
theorem ne_8_13 : Cond.not (Cond.eq (stm 8) (stm 13)) ∈ nFl := List.mem_of_getElem? (i := 244) (by decide +kernel)
theorem ne_9_10 : Cond.not (Cond.eq (stm 9) (stm 10)) ∈ nFl := List.mem_of_getElem? (i := 187) (by decide +kernel)
theorem ne_9_11 : Cond.not (Cond.eq (stm 9) (stm 11)) ∈ nFl := List.mem_of_getElem? (i := 205) (by decide +kernel)
theorem ne_9_12 : Cond.not (Cond.eq (stm 9) (stm 12)) ∈ nFl := List.mem_of_getElem? (i := 224) (by decide +kernel)
theorem ne_9_13 : Cond.not (Cond.eq (stm 9) (stm 13)) ∈ nFl := List.mem_of_getElem? (i := 245) (by decide +kernel)
theorem ne_10_11 : Cond.not (Cond.eq (stm 10) (stm 11)) ∈ nFl := List.mem_of_getElem? (i := 206) (by decide +kernel)
theorem ne_10_12 : Cond.not (Cond.eq (stm 10) (stm 12)) ∈ nFl := List.mem_of_getElem? (i := 225) (by decide +kernel)
theorem ne_10_13 : Cond.not (Cond.eq (stm 10) (stm 13)) ∈ nFl := List.mem_of_getElem? (i := 246) (by decide +kernel)
theorem ne_11_12 : Cond.not (Cond.eq (stm 11) (stm 12)) ∈ nFl := List.mem_of_getElem? (i := 226) (by decide +kernel)
theorem ne_11_13 : Cond.not (Cond.eq (stm 11) (stm 13)) ∈ nFl := List.mem_of_getElem? (i := 247) (by decide +kernel)
theorem ne_12_13 : Cond.not (Cond.eq (stm 12) (stm 13)) ∈ nFl := List.mem_of_getElem? (i := 248) (by decide +kernel)
theorem ne_0 : ∀ j, j < 14 → 0 ≠ j → (Cond.not (Cond.eq (stm 0) (stm j)) ∈ nFl ∨ Cond.not (Cond.eq (stm j) (stm 0)) ∈ nFl) := by
  intro j hj hn
  match j, hj, hn with
  | 0, _, h => exact absurd rfl h
  | 1, _, _ => exact Or.inl ne_0_1
  | 2, _, _ => exact Or.inl ne_0_2
  | 3, _, _ => exact Or.inl ne_0_3
  | 4, _, _ => exact Or.inl ne_0_4
  | 5, _, _ => exact Or.inl ne_0_5
  | 6, _, _ => exact Or.inl ne_0_6
  | 7, _, _ => exact Or.inl ne_0_7
  | 8, _, _ => exact Or.inl ne_0_8
  | 9, _, _ => exact Or.inl ne_0_9
  | 10, _, _ => exact Or.inl ne_0_10
  | 11, _, _ => exact Or.inl ne_0_11
  | 12, _, _ => exact Or.inl ne_0_12
  | 13, _, _ => exact Or.inl ne_0_13
  | k + 14, h, _ => exact absurd h (by omega)
theorem ne_1 : ∀ j, j < 14 → 1 ≠ j → (Cond.not (Cond.eq (stm 1) (stm j)) ∈ nFl ∨ Cond.not (Cond.eq (stm j) (stm 1)) ∈ nFl) := by
  intro j hj hn
  match j, hj, hn with
  | 0, _, _ => exact Or.inr ne_0_1
  | 1, _, h => exact absurd rfl h
  | 2, _, _ => exact Or.inl ne_1_2
  | 3, _, _ => exact Or.inl ne_1_3
  | 4, _, _ => exact Or.inl ne_1_4
  | 5, _, _ => exact Or.inl ne_1_5
  | 6, _, _ => exact Or.inl ne_1_6
  | 7, _, _ => exact Or.inl ne_1_7
  | 8, _, _ => exact Or.inl ne_1_8
  | 9, _, _ => exact Or.inl ne_1_9
  | 10, _, _ => exact Or.inl ne_1_10
  | 11, _, _ => exact Or.inl ne_1_11
  | 12, _, _ => exact Or.inl ne_1_12
  | 13, _, _ => exact Or.inl ne_1_13
  | k + 14, h, _ => exact absurd h (by omega)
theorem ne_2 : ∀ j, j < 14 → 2 ≠ j → (Cond.not (Cond.eq (stm 2) (stm j)) ∈ nFl ∨ Cond.not (Cond.eq (stm j) (stm 2)) ∈ nFl) := by
  intro j hj hn
  match j, hj, hn with
  | 0, _, _ => exact Or.inr ne_0_2
  | 1, _, _ => exact Or.inr ne_1_2
  | 2, _, h => exact absurd rfl h
  | 3, _, _ => exact Or.inl ne_2_3
  | 4, _, _ => exact Or.inl ne_2_4
  | 5, _, _ => exact Or.inl ne_2_5
  | 6, _, _ => exact Or.inl ne_2_6
  | 7, _, _ => exact Or.inl ne_2_7
  | 8, _, _ => exact Or.inl ne_2_8
  | 9, _, _ => exact Or.inl ne_2_9
  | 10, _, _ => exact Or.inl ne_2_10
  | 11, _, _ => exact Or.inl ne_2_11
  | 12, _, _ => exact Or.inl ne_2_12
  | 13, _, _ => exact Or.inl ne_2_13
  | k + 14, h, _ => exact absurd h (by omega)
theorem ne_3 : ∀ j, j < 14 → 3 ≠ j → (Cond.not (Cond.eq (stm 3) (stm j)) ∈ nFl ∨ Cond.not (Cond.eq (stm j) (stm 3)) ∈ nFl) := by
  intro j hj hn
  match j, hj, hn with
  | 0, _, _ => exact Or.inr ne_0_3
  | 1, _, _ => exact Or.inr ne_1_3
  | 2, _, _ => exact Or.inr ne_2_3
  | 3, _, h => exact absurd rfl h
  | 4, _, _ => exact Or.inl ne_3_4
  | 5, _, _ => exact Or.inl ne_3_5
  | 6, _, _ => exact Or.inl ne_3_6
  | 7, _, _ => exact Or.inl ne_3_7
  | 8, _, _ => exact Or.inl ne_3_8
  | 9, _, _ => exact Or.inl ne_3_9
  | 10, _, _ => exact Or.inl ne_3_10
  | 11, _, _ => exact Or.inl ne_3_11
  | 12, _, _ => exact Or.inl ne_3_12
  | 13, _, _ => exact Or.inl ne_3_13
  | k + 14, h, _ => exact absurd h (by omega)
theorem ne_4 : ∀ j, j < 14 → 4 ≠ j → (Cond.not (Cond.eq (stm 4) (stm j)) ∈ nFl ∨ Cond.not (Cond.eq (stm j) (stm 4)) ∈ nFl) := by
  intro j hj hn
  match j, hj, hn with
  | 0, _, _ => exact Or.inr ne_0_4
  | 1, _, _ => exact Or.inr ne_1_4
  | 2, _, _ => exact Or.inr ne_2_4
  | 3, _, _ => exact Or.inr ne_3_4
  | 4, _, h => exact absurd rfl h
  | 5, _, _ => exact Or.inl ne_4_5
  | 6, _, _ => exact Or.inl ne_4_6
  | 7, _, _ => exact Or.inl ne_4_7
  | 8, _, _ => exact Or.inl ne_4_8
  | 9, _, _ => exact Or.inl ne_4_9
  | 10, _, _ => exact Or.inl ne_4_10
  | 11, _, _ => exact Or.inl ne_4_11
  | 12, _, _ => exact Or.inl ne_4_12
  | 13, _, _ => exact Or.inl ne_4_13
  | k + 14, h, _ => exact absurd h (by omega)
theorem ne_5 : ∀ j, j < 14 → 5 ≠ j → (Cond.not (Cond.eq (stm 5) (stm j)) ∈ nFl ∨ Cond.not (Cond.eq (stm j) (stm 5)) ∈ nFl) := by
  intro j hj hn
  match j, hj, hn with
  | 0, _, _ => exact Or.inr ne_0_5
  | 1, _, _ => exact Or.inr ne_1_5
  | 2, _, _ => exact Or.inr ne_2_5
  | 3, _, _ => exact Or.inr ne_3_5
  | 4, _, _ => exact Or.inr ne_4_5
  | 5, _, h => exact absurd rfl h
  | 6, _, _ => exact Or.inl ne_5_6
  | 7, _, _ => exact Or.inl ne_5_7
  | 8, _, _ => exact Or.inl ne_5_8
  | 9, _, _ => exact Or.inl ne_5_9
  | 10, _, _ => exact Or.inl ne_5_10
  | 11, _, _ => exact Or.inl ne_5_11
  | 12, _, _ => exact Or.inl ne_5_12
  | 13, _, _ => exact Or.inl ne_5_13
  | k + 14, h, _ => exact absurd h (by omega)
theorem ne_6 : ∀ j, j < 14 → 6 ≠ j → (Cond.not (Cond.eq (stm 6) (stm j)) ∈ nFl ∨ Cond.not (Cond.eq (stm j) (stm 6)) ∈ nFl) := by
  intro j hj hn
  match j, hj, hn with
  | 0, _, _ => exact Or.inr ne_0_6
  | 1, _, _ => exact Or.inr ne_1_6
  | 2, _, _ => exact Or.inr ne_2_6
  | 3, _, _ => exact Or.inr ne_3_6
  | 4, _, _ => exact Or.inr ne_4_6
  | 5, _, _ => exact Or.inr ne_5_6
  | 6, _, h => exact absurd rfl h
  | 7, _, _ => exact Or.inl ne_6_7
  | 8, _, _ => exact Or.inl ne_6_8
  | 9, _, _ => exact Or.inl ne_6_9
  | 10, _, _ => exact Or.inl ne_6_10
  | 11, _, _ => exact Or.inl ne_6_11
  | 12, _, _ => exact Or.inl ne_6_12
  | 13, _, _ => exact Or.inl ne_6_13
  | k + 14, h, _ => exact absurd h (by omega)
theorem ne_7 : ∀ j, j < 14 → 7 ≠ j → (Cond.not (Cond.eq (stm 7) (stm j)) ∈ nFl ∨ Cond.not (Cond.eq (stm j) (stm 7)) ∈ nFl) := by
  intro j hj hn
  match j, hj, hn with
  | 0, _, _ => exact Or.inr ne_0_7
  | 1, _, _ => exact Or.inr ne_1_7
  | 2, _, _ => exact Or.inr ne_2_7
  | 3, _, _ => exact Or.inr ne_3_7
  | 4, _, _ => exact Or.inr ne_4_7
  | 5, _, _ => exact Or.inr ne_5_7
  | 6, _, _ => exact Or.inr ne_6_7
  | 7, _, h => exact absurd rfl h
  | 8, _, _ => exact Or.inl ne_7_8
  | 9, _, _ => exact Or.inl ne_7_9
  | 10, _, _ => exact Or.inl ne_7_10
  | 11, _, _ => exact Or.inl ne_7_11
  | 12, _, _ => exact Or.inl ne_7_12
  | 13, _, _ => exact Or.inl ne_7_13
  | k + 14, h, _ => exact absurd h (by omega)
theorem ne_8 : ∀ j, j < 14 → 8 ≠ j → (Cond.not (Cond.eq (stm 8) (stm j)) ∈ nFl ∨ Cond.not (Cond.eq (stm j) (stm 8)) ∈ nFl) := by
  intro j hj hn
  match j, hj, hn with
  | 0, _, _ => exact Or.inr ne_0_8
  | 1, _, _ => exact Or.inr ne_1_8
  | 2, _, _ => exact Or.inr ne_2_8
  | 3, _, _ => exact Or.inr ne_3_8
  | 4, _, _ => exact Or.inr ne_4_8
  | 5, _, _ => exact Or.inr ne_5_8
  | 6, _, _ => exact Or.inr ne_6_8
  | 7, _, _ => exact Or.inr ne_7_8
  | 8, _, h => exact absurd rfl h
  | 9, _, _ => exact Or.inl ne_8_9
  | 10, _, _ => exact Or.inl ne_8_10
  | 11, _, _ => exact Or.inl ne_8_11
  | 12, _, _ => exact Or.inl ne_8_12
  | 13, _, _ => exact Or.inl ne_8_13
  | k + 14, h, _ => exact absurd h (by omega)
theorem ne_9 : ∀ j, j < 14 → 9 ≠ j → (Cond.not (Cond.eq (stm 9) (stm j)) ∈ nFl ∨ Cond.not (Cond.eq (stm j) (stm 9)) ∈ nFl) := by
  intro j hj hn
  match j, hj, hn with
  | 0, _, _ => exact Or.inr ne_0_9
  | 1, _, _ => exact Or.inr ne_1_9
  | 2, _, _ => exact Or.inr ne_2_9
  | 3, _, _ => exact Or.inr ne_3_9
  | 4, _, _ => exact Or.inr ne_4_9
  | 5, _, _ => exact Or.inr ne_5_9
  | 6, _, _ => exact Or.inr ne_6_9
  | 7, _, _ => exact Or.inr ne_7_9
  | 8, _, _ => exact Or.inr ne_8_9
  | 9, _, h => exact absurd rfl h
  | 10, _, _ => exact Or.inl ne_9_10
  | 11, _, _ => exact Or.inl ne_9_11
  | 12, _, _ => exact Or.inl ne_9_12
  | 13, _, _ => exact Or.inl ne_9_13
  | k + 14, h, _ => exact absurd h (by omega)
theorem ne_10 : ∀ j, j < 14 → 10 ≠ j → (Cond.not (Cond.eq (stm 10) (stm j)) ∈ nFl ∨ Cond.not (Cond.eq (stm j) (stm 10)) ∈ nFl) := by
  intro j hj hn
  match j, hj, hn with
  | 0, _, _ => exact Or.inr ne_0_10
  | 1, _, _ => exact Or.inr ne_1_10
  | 2, _, _ => exact Or.inr ne_2_10
  | 3, _, _ => exact Or.inr ne_3_10
  | 4, _, _ => exact Or.inr ne_4_10
  | 5, _, _ => exact Or.inr ne_5_10
  | 6, _, _ => exact Or.inr ne_6_10
  | 7, _, _ => exact Or.inr ne_7_10
  | 8, _, _ => exact Or.inr ne_8_10
  | 9, _, _ => exact Or.inr ne_9_10
  | 10, _, h => exact absurd rfl h
  | 11, _, _ => exact Or.inl ne_10_11
  | 12, _, _ => exact Or.inl ne_10_12
  | 13, _, _ => exact Or.inl ne_10_13
  | k + 14, h, _ => exact absurd h (by omega)
theorem ne_11 : ∀ j, j < 14 → 11 ≠ j → (Cond.not (Cond.eq (stm 11) (stm j)) ∈ nFl ∨ Cond.not (Cond.eq (stm j) (stm 11)) ∈ nFl) := by
  intro j hj hn
  match j, hj, hn with
  | 0, _, _ => exact Or.inr ne_0_11
  | 1, _, _ => exact Or.inr ne_1_11
  | 2, _, _ => exact Or.inr ne_2_11
  | 3, _, _ => exact Or.inr ne_3_11
  | 4, _, _ => exact Or.inr ne_4_11
  | 5, _, _ => exact Or.inr ne_5_11
  | 6, _, _ => exact Or.inr ne_6_11
  | 7, _, _ => exact Or.inr ne_7_11
  | 8, _, _ => exact Or.inr ne_8_11
  | 9, _, _ => exact Or.inr ne_9_11
  | 10, _, _ => exact Or.inr ne_10_11
  | 11, _, h => exact absurd rfl h
  | 12, _, _ => exact Or.inl ne_11_12
  | 13, _, _ => exact Or.inl ne_11_13
  | k + 14, h, _ => exact absurd h (by omega)
theorem ne_12 : ∀ j, j < 14 → 12 ≠ j → (Cond.not (Cond.eq (stm 12) (stm j)) ∈ nFl ∨ Cond.not (Cond.eq (stm j) (stm 12)) ∈ nFl) := by
  intro j hj hn
  match j, hj, hn with
  | 0, _, _ => exact Or.inr ne_0_12
  | 1, _, _ => exact Or.inr ne_1_12
  | 2, _, _ => exact Or.inr ne_2_12
  | 3, _, _ => exact Or.inr ne_3_12
  | 4, _, _ => exact Or.inr ne_4_12
  | 5, _, _ => exact Or.inr ne_5_12
  | 6, _, _ => exact Or.inr ne_6_12
  | 7, _, _ => exact Or.inr ne_7_12
  | 8, _, _ => exact Or.inr ne_8_12
  | 9, _, _ => exact Or.inr ne_9_12
  | 10, _, _ => exact Or.inr ne_10_12
  | 11, _, _ => exact Or.inr ne_11_12
  | 12, _, h => exact absurd rfl h
  | 13, _, _ => exact Or.inl ne_12_13
  | k + 14, h, _ => exact absurd h (by omega)
theorem ne_13 : ∀ j, j < 14 → 13 ≠ j → (Cond.not (Cond.eq (stm 13) (stm j)) ∈ nFl ∨ Cond.not (Cond.eq (stm j) (stm 13)) ∈ nFl) := by
  intro j hj hn
  match j, hj, hn with
  | 0, _, _ => exact Or.inr ne_0_13
  | 1, _, _ => exact Or.inr ne_1_13
  | 2, _, _ => exact Or.inr ne_2_13
  | 3, _, _ => exact Or.inr ne_3_13
  | 4, _, _ => exact Or.inr ne_4_13
  | 5, _, _ => exact Or.inr ne_5_13
  | 6, _, _ => exact Or.inr ne_6_13
  | 7, _, _ => exact Or.inr ne_7_13
  | 8, _, _ => exact Or.inr ne_8_13
  | 9, _, _ => exact Or.inr ne_9_13
  | 10, _, _ => exact Or.inr ne_10_13
  | 11, _, _ => exact Or.inr ne_11_13
  | 12, _, _ => exact Or.inr ne_12_13
  | 13, _, h => exact absurd rfl h
  | k + 14, h, _ => exact absurd h (by omega)
theorem in_ne : ∀ i, i < 14 → ∀ j, j < 14 → i ≠ j → (Cond.not (Cond.eq (stm i) (stm j)) ∈ nFl ∨ Cond.not (Cond.eq (stm j) (stm i)) ∈ nFl) := by
  intro i hi
  match i, hi with
  | 0, _ => exact ne_0
  | 1, _ => exact ne_1
  | 2, _ => exact ne_2
  | 3, _ => exact ne_3
  | 4, _ => exact ne_4
  | 5, _ => exact ne_5
  | 6, _ => exact ne_6
  | 7, _ => exact ne_7
  | 8, _ => exact ne_8
  | 9, _ => exact ne_9
  | 10, _ => exact ne_10
  | 11, _ => exact ne_11
  | 12, _ => exact ne_12
  | 13, _ => exact ne_13
  | k + 14, h => exact absurd h (by omega)
theorem in_z : Cond.eq (.static "java/lang/String" "COMPACT_STRINGS" "Z") (.int 1) ∈ nFl ∧ Cond.isRef (.static "jdk/internal/util/Preconditions" "SIOOBE_FORMATTER" "Ljava/util/function/BiFunction;") ∈ nFl := by decide +kernel
theorem in_st : ∀ i, i < 14 → Cond.stringRef RX4 (stI.getD i 0) (stT.getD i "") ∈ lw_tbl := by
  intro i hi
  match i, hi with
  | 0, _ => exact lt_2 185 (by decide +kernel)
  | 1, _ => exact lt_3 7 (by decide +kernel)
  | 2, _ => exact lt_3 8 (by decide +kernel)
  | 3, _ => exact lt_3 9 (by decide +kernel)
  | 4, _ => exact lt_3 10 (by decide +kernel)
  | 5, _ => exact lt_3 11 (by decide +kernel)
  | 6, _ => exact lt_3 12 (by decide +kernel)
  | 7, _ => exact lt_3 25 (by decide +kernel)
  | 8, _ => exact lt_3 26 (by decide +kernel)
  | 9, _ => exact lt_3 31 (by decide +kernel)
  | 10, _ => exact lt_3 32 (by decide +kernel)
  | 11, _ => exact lt_3 39 (by decide +kernel)
  | 12, _ => exact lt_3 40 (by decide +kernel)
  | 13, _ => exact lt_3 41 (by decide +kernel)
  | k + 14, h => exact absurd h (by omega)
theorem vk_S_c {N : Nat} {len : List Nat} {byt : List (List Int32)} {adK adV bdK bdV : Nat → Nat} {A : Nat → Prop} {U : State} {H : Heap} (h : vk_S N len byt adK adV A U H) (e1 : ∀ i, i < N → bdK i = adK i) (e2 : ∀ i, i < N → bdV i = adV i) : vk_S N len byt bdK bdV A U H := by
  refine ⟨fun i hi => ?_, fun i j hi hj e => h.2 i j hi hj (by rw [← e1 i hi, ← e1 j hj]; exact e)⟩
  rw [e1 i hi, e2 i hi]; exact h.1 i hi
theorem start_cx {s : State} {args : Array Value} {sz : Nat} (hsz : s.heap.size = sz) (hts : ∀ w ∈ lw_tbl, w.before args s = true) (hs : ∀ w ∈ nFl, w.before args s = true) : ∃ G : Nat → Nat, cx G (va_A [] sz) s := by
  have hA : ∀ a : Nat, a < s.heap.size → ¬ va_A [] sz a := fun a h q => absurd (va_A_nil q) (by omega)
  obtain ⟨t0, z0, T0⟩ := start_tbU hts hs hA
  obtain ⟨t1, z1, T1⟩ := start_tbL hts hs hA
  obtain ⟨t2, z2, T2⟩ := start_tbM hts hs hA
  obtain ⟨adK, adV, hS, hev⟩ := vk_Sof (N := 14) (tm := stm) (len := stL) (byt := stB) (A := va_A [] sz) (args := args) (s := s) (by decide) (fun i hi => hs _ (in_ex i hi)) (fun i hi => hs _ (in_co i hi)) (fun i hi => hs _ (in_ar i hi)) (fun i hi => hs _ (in_le i hi)) (fun i hi j hj => hs _ (in_el i hi j hj)) (fun i j hi hj hn => (in_ne i hi j hj hn).elim (fun q => Or.inl (hs _ q)) (fun q => Or.inr (hs _ q))) hA
  obtain ⟨G, eG⟩ : ∃ G : Nat → Nat, G = fun k => if k = 0 then t0 else if k = 1 then t1 else if k = 2 then t2 else if k < 40 then adK (k - 10) else adV (k - 40) := ⟨_, rfl⟩
  have g0 : G 0 = t0 := by rw [eG]; rfl
  have g1 : G 1 = t1 := by rw [eG]; rfl
  have g2 : G 2 = t2 := by rw [eG]; rfl
  have gK : ∀ i, i < 14 → G (10 + i) = adK i := fun i hi => by
    rw [eG]
    show (if 10 + i = 0 then t0 else if 10 + i = 1 then t1 else if 10 + i = 2 then t2 else if 10 + i < 40 then adK (10 + i - 10) else adV (10 + i - 40)) = adK i
    rw [if_neg (by omega), if_neg (by omega), if_neg (by omega), if_pos (by omega), Nat.add_sub_cancel_left]
  have gV : ∀ i, i < 14 → G (40 + i) = adV i := fun i hi => by
    rw [eG]
    show (if 40 + i = 0 then t0 else if 40 + i = 1 then t1 else if 40 + i = 2 then t2 else if 40 + i < 40 then adK (40 + i - 10) else adV (40 + i - 40)) = adV i
    rw [if_neg (by omega), if_neg (by omega), if_neg (by omega), if_neg (by omega), Nat.add_sub_cancel_left]
  clear eG
  refine ⟨G, start_N hts, ?_, ?_, ?_, ?_, ?_⟩
  · refine ⟨?_, ?_, ?_, ?_, ?_, ?_⟩
    · rw [g0]; exact z0
    · rw [g0]; exact T0
    · rw [g1]; exact z1
    · rw [g1]; exact T1
    · rw [g2]; exact z2
    · rw [g2]; exact T2
  · exact vk_S_c hS gK gV
  · intro i hi
    rw [gK i hi]
    have h1 := hts _ (in_st i hi)
    have h2 := hev i hi
    refine vk_R.of (A := #[]) ?_ ?_
    · first
      | exact h1
      | (simp only [Cond.before, Cond.holds, Cond.value, State.names, State.poolOf?, State.resolvedAt?] at h1 ⊢; exact h1)
    · exact (Term.string_eval_of_vm (args := args) (args' := #[]) rfl).trans h2
  · exact va_Zof (hts (.laysStatic "java/lang/String" "COMPACT_STRINGS" "Z") (lt_2 199 (by decide +kernel))) (hts (.initialized "java/lang/String") (lt_1 11 (by decide +kernel))) (va_eqt (hs _ in_z.1)) hA
  · exact va_Zqof (hts (.laysStatic "jdk/internal/util/Preconditions" "SIOOBE_FORMATTER" "Ljava/util/function/BiFunction;") (lt_2 215 (by decide +kernel))) (hts (.initialized "jdk/internal/util/Preconditions") (lt_1 13 (by decide +kernel))) (hs _ in_z.2) hA
