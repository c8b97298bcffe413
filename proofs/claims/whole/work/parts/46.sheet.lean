theorem kc_X7_isOne : kT yX7_isOne cX7_isOne 1 (some .boolean) 1 := ⟨kw_5_197, kw_1_8, kw_5_198, by decide, by decide, by decide +kernel⟩
set_option maxHeartbeats 4000000 in
set_option maxRecDepth 100000 in
theorem c_X7_isOne (l : Launch) (D : va_G) (cy : Nat → ClassId) (G : Nat → Nat) (sz : Nat) (x1 : Int32)  : Met l yX7_isOne (wm yX7_isOne cX7_isOne 1 (some .boolean)) { frames := 1, cells := 0, slots := 0, locals := 25 } (va_Pc [.int x1] (pd D (TY cy) G ([]) sz)) (va_Qi (fun r (_ : Unit) => r = b2i (0 ≤ x1 ∧ x1 ≤ 3)) (fun _ _ => True) (va_A [] sz)) 0 0 (va_A [] sz) := by
  refine mk_rd (by decide) RX7 rfl (Nat.le_of_ble_eq_true rfl) [(0, .int x1)] rfl ?_
  intro p e s m below meth c hx hb hml hown hr hlocks hw hsz hA hG hK H0 locs0 hP0 hS0 ls0 hl0
  refine lv_iload_n hx hb dX7_isOne_0 rfl (lv_at hl0 0 rfl) ?_
  refine lv_i2l hx hb dX7_isOne_1 rfl ?_
  refine lv_lconst (v := 0) hx hb dX7_isOne_2 (by decide) ?_
  refine lv_ldc2 (v := 3) hx hb hown (hw _ kw_5_100) dX7_isOne_3 ?_
  refine rT_i (wc := []) (rest := []) hx hb hml hown hw hG hK hP0 hS0 hA hl0 kc_X7_in kw_4_153 [.long x1.toInt64, .long 0, .long 3] (c_X7_in l D cy G H0.size x1.toInt64 0 3) [] rfl rfl rfl (Nat.le_of_ble_eq_true rfl) ⟨Nat.le_of_ble_eq_true rfl, Nat.le_of_ble_eq_true rfl⟩ dX7_isOne_6 ⟨Nat.le_of_ble_eq_true rfl, Nat.le_of_ble_eq_true rfl⟩ (fun r_6 H1 locs1 hr_6 hP1 hS1 => ?_)
  clear hP0 hS0 locs0 H0
  subst hr_6
  refine tp (show (b2i (0 ≤ x1.toInt64 ∧ x1.toInt64 ≤ 3)) = b2i (0 ≤ x1 ∧ x1 ≤ 3) from b2i_iff (in_c (by decide) (by decide))) ?_
  exact rd_z hx hb hr hlocks hS1 dX7_isOne_9 (b2i_z _) (rfl)

theorem kc_X7_narrowed : kT yX7_narrowed cX7_narrowed 3 (some .long) 2 := ⟨kw_5_210, kw_1_8, kw_5_211, by decide, by decide, by decide +kernel⟩
set_option maxHeartbeats 4000000 in
set_option maxRecDepth 100000 in
theorem c_X7_narrowed (l : Launch) (D : va_G) (cy : Nat → ClassId) (G : Nat → Nat) (sz : Nat) (x1 : Int32) (x3 : Int64)  : Met l yX7_narrowed (wm yX7_narrowed cX7_narrowed 3 (some .long)) { frames := 0, cells := 0, slots := 0, locals := 0 } (va_Pc [.int x1, .long x3] (pd D (TY cy) G ([]) sz)) (va_Ql (fun r (_ : Unit) => r = nrw x1 x3) (fun _ _ => True) (va_A [] sz)) 0 0 (va_A [] sz) := by
  refine mk_rd (by decide) RX7 rfl (Nat.le_of_ble_eq_true rfl) [(0, .int x1), (1, .long x3)] rfl ?_
  intro p e s m below meth c hx hb hml hown hr hlocks hw hsz hA hG hK H0 locs0 hP0 hS0 ls0 hl0
  refine lv_iload_n hx hb dX7_narrowed_0 rfl (lv_at hl0 0 rfl) ?_
  refine lv_bipush (v := 8) hx hb dX7_narrowed_1 (by decide) ?_
  refine lv_icmp_ne (tgt := 13) hx hb dX7_narrowed_3 (by decide) (fun c_3 => ?_) (fun c_3 => ?_)
  · refine lv_iload_n hx hb dX7_narrowed_13 rfl (lv_at hl0 0 rfl) ?_
    refine lv_bipush (v := 16) hx hb dX7_narrowed_14 (by decide) ?_
    refine lv_icmp_ne (tgt := 26) hx hb dX7_narrowed_16 (by decide) (fun c_16 => ?_) (fun c_16 => ?_)
    · refine lv_lload_n hx hb dX7_narrowed_26 rfl (lv_at hl0 1 rfl) ?_
      exact rd_l hx hb hr hlocks hS0 dX7_narrowed_27 (by unfold nrw; clear hx hb hml hown hr hlocks hw hsz hA hG hK hP0 hS0 hl0; simp [c_3, c_16])
    · refine lv_lload_n hx hb dX7_narrowed_19 rfl (lv_at hl0 1 rfl) ?_
      refine lv_l2i hx hb dX7_narrowed_20 rfl ?_
      refine lv_i2s hx hb dX7_narrowed_21 rfl ?_
      refine lv_i2l hx hb dX7_narrowed_22 rfl ?_
      refine lv_goto (tgt := 27) hx hb dX7_narrowed_23 (by decide) ?_
      exact rd_l hx hb hr hlocks hS0 dX7_narrowed_27 (by unfold nrw; clear hx hb hml hown hr hlocks hw hsz hA hG hK hP0 hS0 hl0; simp [c_3, c_16])
  · refine lv_lload_n hx hb dX7_narrowed_6 rfl (lv_at hl0 1 rfl) ?_
    refine lv_l2i hx hb dX7_narrowed_7 rfl ?_
    refine lv_i2b hx hb dX7_narrowed_8 rfl ?_
    refine lv_i2l hx hb dX7_narrowed_9 rfl ?_
    refine lv_goto (tgt := 27) hx hb dX7_narrowed_10 (by decide) ?_
    exact rd_l hx hb hr hlocks hS0 dX7_narrowed_27 (by unfold nrw; clear hx hb hml hown hr hlocks hw hsz hA hG hK hP0 hS0 hl0; simp [c_3])

theorem kc_X7_wrong : kV yX7_wrong cX7_wrong 2 (some .int) 1 := ⟨kw_5_206, kw_s_63, kw_1_8, kw_5_207, by decide, by decide, by decide +kernel⟩
set_option maxHeartbeats 4000000 in
set_option maxRecDepth 100000 in
theorem c_X7_wrong (l : Launch) (D : va_G) (cy : Nat → ClassId) (G : Nat → Nat) (sz : Nat) (mm : Nat → Nat) (ik : Int32) (tl : Int32) (fm : Int32) (tz : Int32) (vl : Int32) (iw : Int32) (rm : Int32) (rr : Int32) (om : Int32) (bi : Nat → Int32) (x1 : Int32)  : Met l yX7_wrong (wm yX7_wrong cX7_wrong 2 (some .int)) { frames := 2, cells := 0, slots := 0, locals := 45 } (va_Pc [.ref (mm 0), .int x1] (pd D (TY cy) G ([mO cy mm ik tl fm tz vl iw rm rr om, ia cy (mm 11) 4 bi]) sz)) (va_Qi (fun r (_ : Unit) => r = wrR bi x1) (fun _ _ => True) (va_A [] sz)) 0 0 (va_A [] sz) := by
  refine mk_rd (by decide) RX7 rfl (Nat.le_of_ble_eq_true rfl) [(0, .ref (mm 0)), (1, .int x1)] rfl ?_
  intro p e s m below meth c hx hb hml hown hr hlocks hw hsz hA hG hK H0 locs0 hP0 hS0 ls0 hl0
  refine lv_iload_n hx hb dX7_wrong_0 rfl (lv_at hl0 1 rfl) ?_
  refine rT_i (wc := []) (rest := []) hx hb hml hown hw hG hK hP0 hS0 hA hl0 kc_X7_isOne kw_5_196 [.int x1] (c_X7_isOne l D cy G H0.size x1) [] rfl rfl rfl (Nat.le_of_ble_eq_true rfl) ⟨Nat.le_of_ble_eq_true rfl, Nat.le_of_ble_eq_true rfl⟩ dX7_wrong_1 ⟨Nat.le_of_ble_eq_true rfl, Nat.le_of_ble_eq_true rfl⟩ (fun r_1 H1 locs1 hr_1 hP1 hS1 => ?_)
  clear hP0 hS0 locs0 H0
  subst hr_1
  refine lb_ne (tgt := 12) hx hb dX7_wrong_4 (by decide) (fun c_4 => ?_) (fun c_4 => ?_)
  · obtain ⟨i0, hi4, rfl⟩ := nI_rn (n := 4) (by decide) (x := x1) ⟨c_4.1, Int32.lt_of_le_of_lt c_4.2 (by decide)⟩
    have hbi : bstN (nI i0) = i0 := bst_n (by omega)
    refine lv_aload_n hx hb dX7_wrong_12 rfl (lv_at hl0 0 rfl) ?_
    refine va_get (D := D) (ci := 7) (v := .ref (mm 11)) (C := RX7) (T := TX7) (N := 23) hx hb hw iX7 hown hK hP1 0 rfl rfl 19 (by decide) (hw _ kw_4_83) (fun _ h9 => h9) rfl dX7_wrong_13 ?_
    refine lv_iload_n hx hb dX7_wrong_16 rfl (lv_at hl0 1 rfl) ?_
    refine ald_i (f := bi) hx hb hK hP1 1 0 rfl rfl i0 rfl (by first | omega | assumption) (by decide) dX7_wrong_17 ?_
    refine lv_if_ne (tgt := 27) hx hb dX7_wrong_18 (by decide) (fun c_18 => ?_) (fun c_18 => ?_)
    · refine lv_iconst (v := 0) hx hb dX7_wrong_27 (by decide) ?_
      exact rd_i hx hb hr hlocks hS1 dX7_wrong_28 (by unfold wrR; rw [hbi]; clear hx hb hml hown hr hlocks hw hsz hA hG hK hP1 hS1 hl0; grind)
    · refine lv_ldcw (v := (-1000000006)) hx hb hown (hw _ kw_5_208) dX7_wrong_21 ?_
      refine lv_goto (tgt := 28) hx hb dX7_wrong_24 (by decide) ?_
      exact rd_i hx hb hr hlocks hS1 dX7_wrong_28 (by unfold wrR; rw [hbi]; clear hx hb hml hown hr hlocks hw hsz hA hG hK hP1 hS1 hl0; grind)
  · refine lv_ldc (v := (-1000000001)) hx hb hown (hw _ kw_4_143) dX7_wrong_7 ?_
    refine lv_goto (tgt := 28) hx hb dX7_wrong_9 (by decide) ?_
    exact rd_i hx hb hr hlocks hS1 dX7_wrong_28 (by unfold wrR; clear hx hb hml hown hr hlocks hw hsz hA hG hK hP1 hS1 hl0; grind)

theorem kc_X7_sheet : kV yX7_sheet cX7_sheet 5 (some .int) 3 := ⟨kw_5_193, kw_5_194, kw_1_8, kw_5_195, by decide, by decide, by decide +kernel⟩
set_option maxHeartbeats 4000000 in
set_option maxRecDepth 100000 in
theorem c_X7_sheet (l : Launch) (D : va_G) (cy : Nat → ClassId) (G : Nat → Nat) (sz : Nat) (mm : Nat → Nat) (ik : Int32) (tl : Int32) (fm : Int32) (tz : Int32) (vl : Int32) (iw : Int32) (rm : Int32) (rr : Int32) (om : Int32) (C : Nat → Int32) (bi : Nat → Int32) (si : Nat → Int32) (f : Nat → Nat → Int64) (x1 : Int32) (x2 : Int32) (x3 : Int32) (hso : shOk si f) : Met l yX7_sheet (wm yX7_sheet cX7_sheet 5 (some .int)) { frames := 2, cells := 0, slots := 0, locals := 45 } (va_Pc [.ref (mm 0), .int x1, .int x2, .int x3] (pr D (TY cy) G ([mO cy mm ik tl fm tz vl iw rm rr om, ia cy (mm 4) 7 C, ia cy (mm 11) 4 bi, ia cy (mm 12) 4 si, la cy (mm 13) 160 (numF f)]) sz)) (va_Qi (fun (r : Int32) (u : Unit) => r = ans (cLay x1 x2 x3) (if x2 = 0 then 0 else x3)) (fun (u : Unit) t => po D (va_A ([mO cy mm ik tl fm tz vl iw rm rr om, ia cy (mm 4) 7 C, ia cy (mm 11) 4 bi, ia cy (mm 12) 4 si, la cy (mm 13) 160 (numF f)]) sz) ([mO cy mm ik tl fm tz vl iw rm rr om, ia cy (mm 4) 7 (fnd C (cLay x1 x2 x3)), ia cy (mm 11) 4 (if cLay x1 x2 x3 = 7 then va_up bi (bstN x1) x2 else bi), ia cy (mm 12) 4 (if cLay x1 x2 x3 = 7 then va_up si (bstN x1) (if x2 = 0 then 0 else x3) else si), la cy (mm 13) 160 (if cLay x1 x2 x3 = 7 then numF (va_up f (bstN x1) (fun _ => 0)) else numF f)]) t) (va_A ([mO cy mm ik tl fm tz vl iw rm rr om, ia cy (mm 4) 7 C, ia cy (mm 11) 4 bi, ia cy (mm 12) 4 si, la cy (mm 13) 160 (numF f)]) sz)) 0 0 (va_A ([mO cy mm ik tl fm tz vl iw rm rr om, ia cy (mm 4) 7 C, ia cy (mm 11) 4 bi, ia cy (mm 12) 4 si, la cy (mm 13) 160 (numF f)]) sz) := by
  refine mk_rw (by decide) RX7 rfl (Nat.le_of_ble_eq_true rfl) [(0, .ref (mm 0)), (1, .int x1), (2, .int x2), (3, .int x3)] rfl ?_
  intro p e s m below meth c hx hb hml hown hr hlocks hin hw hsz hA hG hK H0 locs0 hP0 hD0 hS0 ls0 hl0
  clear hin
  refine lv_iload_n hx hb dX7_sheet_0 rfl (lv_at hl0 1 rfl) ?_
  refine rT_i (wc := []) (rest := []) hx hb hml hown hw hG hK hP0 hS0 hA hl0 kc_X7_isOne kw_5_196 [.int x1] (c_X7_isOne l D cy G H0.size x1) [] rfl rfl rfl (Nat.le_of_ble_eq_true rfl) ⟨Nat.le_of_ble_eq_true rfl, Nat.le_of_ble_eq_true rfl⟩ dX7_sheet_1 ⟨Nat.le_of_ble_eq_true rfl, Nat.le_of_ble_eq_true rfl⟩ (fun r_1 H1 locs1 hr_1 hP1 hS1 => ?_)
  have hD1 := hD0
  clear hP0 hD0 hS0 locs0 H0
  subst hr_1
  refine lb_eq (tgt := 29) hx hb dX7_sheet_4 (by decide) (fun c_4 => ?_) (fun c_4 => ?_)
  · refine lv_aload_n hx hb dX7_sheet_29 rfl (lv_at hl0 0 rfl) ?_
    refine lv_ldc (v := (-1000000001)) hx hb hown (hw _ kw_4_143) dX7_sheet_30 ?_
    refine cV_i (wc := [mO cy mm ik tl fm tz vl iw rm rr om, ia cy (mm 4) 7 C]) (wr := [ia cy (mm 11) 4 bi, ia cy (mm 12) 4 si, la cy (mm 13) 160 (numF f)]) (rest := []) hx hb hml hown hw hG hK hP1 hD1 hS1 hA hl0 kc_X7_finds kw_4_139 [.int (-1000000001)] (c_X7_finds l D cy G H1.size mm ik tl fm tz vl iw rm rr om C 0 (-1000000001) (by decide) (by decide)) [0, 1] [2, 3, 4] rfl rfl rfl rfl rfl 0 rfl rfl rfl rfl rfl (Nat.le_of_ble_eq_true rfl) ⟨Nat.le_of_ble_eq_true rfl, Nat.le_of_ble_eq_true rfl⟩ dX7_sheet_32 ⟨Nat.le_of_ble_eq_true rfl, Nat.le_of_ble_eq_true rfl⟩ (fun r_32 u9 H2 locs2 hu9 hP2 hD2 hS2 => ?_)
    clear hP1 hD1 hS1 locs1 H1
    have hr_32 := hu9
    replace hP2 : va_P D vwCl ([ia cy (mm 11) 4 bi, ia cy (mm 12) 4 si, la cy (mm 13) 160 (numF f), mO cy mm ik tl fm tz vl iw rm rr om, ia cy (mm 4) 7 (upd C 0 (C 0 + 1))]) H2 := hP2
    replace hD2 : va_D (va_A _ sz) ([ia cy (mm 11) 4 bi, ia cy (mm 12) 4 si, la cy (mm 13) 160 (numF f), mO cy mm ik tl fm tz vl iw rm rr om, ia cy (mm 4) 7 (upd C 0 (C 0 + 1))]) := hD2
    replace hP2 := hP2.sub (ws' := [mO cy mm ik tl fm tz vl iw rm rr om, ia cy (mm 4) 7 (upd C 0 (C 0 + 1)), ia cy (mm 11) 4 bi, ia cy (mm 12) 4 si, la cy (mm 13) 160 (numF f)]) [3, 4, 0, 1, 2] rfl
    replace hD2 := hD2.sub (ws' := [mO cy mm ik tl fm tz vl iw rm rr om, ia cy (mm 4) 7 (upd C 0 (C 0 + 1)), ia cy (mm 11) 4 bi, ia cy (mm 12) 4 si, la cy (mm 13) 160 (numF f)]) [3, 4, 0, 1, 2] (by decide) rfl
    subst hr_32
    have hcd : cLay x1 x2 x3 = 0 := by unfold cLay; clear hx hb hml hown hr hlocks hw hsz hA hG hK hP2 hD2 hS2 hl0; grind
    have hq9 : ([mO cy mm ik tl fm tz vl iw rm rr om, ia cy (mm 4) 7 (upd C 0 (C 0 + 1)), ia cy (mm 11) 4 bi, ia cy (mm 12) 4 si, la cy (mm 13) 160 (numF f)]) = ([mO cy mm ik tl fm tz vl iw rm rr om, ia cy (mm 4) 7 (fnd C (cLay x1 x2 x3)), ia cy (mm 11) 4 bi, ia cy (mm 12) 4 si, la cy (mm 13) 160 (numF f)]) := congrArg (fun z9 => [mO cy mm ik tl fm tz vl iw rm rr om, ia cy (mm 4) 7 z9, ia cy (mm 11) 4 bi, ia cy (mm 12) 4 si, la cy (mm 13) 160 (numF f)]) (show (upd C 0 (C 0 + 1)) = (fnd C (cLay x1 x2 x3)) from fnd_f hcd (by decide))
    replace hP2 := (congrArg (fun z9 => va_P D vwCl z9 _) hq9).mp hP2
    replace hD2 := (congrArg (fun z9 => va_D _ z9) hq9).mp hD2
    clear hq9
    have hq9 : ([mO cy mm ik tl fm tz vl iw rm rr om, ia cy (mm 4) 7 (fnd C (cLay x1 x2 x3)), ia cy (mm 11) 4 bi, ia cy (mm 12) 4 si, la cy (mm 13) 160 (numF f)]) = ([mO cy mm ik tl fm tz vl iw rm rr om, ia cy (mm 4) 7 (fnd C (cLay x1 x2 x3)), ia cy (mm 11) 4 (if cLay x1 x2 x3 = 7 then va_up bi (bstN x1) x2 else bi), ia cy (mm 12) 4 si, la cy (mm 13) 160 (numF f)]) := congrArg (fun z9 => [mO cy mm ik tl fm tz vl iw rm rr om, ia cy (mm 4) 7 (fnd C (cLay x1 x2 x3)), ia cy (mm 11) 4 z9, ia cy (mm 12) 4 si, la cy (mm 13) 160 (numF f)]) (show bi = (if cLay x1 x2 x3 = 7 then va_up bi (bstN x1) x2 else bi) from (if_neg (fun z9 => absurd (hcd.symm.trans z9) (by decide))).symm)
    replace hP2 := (congrArg (fun z9 => va_P D vwCl z9 _) hq9).mp hP2
    replace hD2 := (congrArg (fun z9 => va_D _ z9) hq9).mp hD2
    clear hq9
    have hq9 : ([mO cy mm ik tl fm tz vl iw rm rr om, ia cy (mm 4) 7 (fnd C (cLay x1 x2 x3)), ia cy (mm 11) 4 (if cLay x1 x2 x3 = 7 then va_up bi (bstN x1) x2 else bi), ia cy (mm 12) 4 si, la cy (mm 13) 160 (numF f)]) = ([mO cy mm ik tl fm tz vl iw rm rr om, ia cy (mm 4) 7 (fnd C (cLay x1 x2 x3)), ia cy (mm 11) 4 (if cLay x1 x2 x3 = 7 then va_up bi (bstN x1) x2 else bi), ia cy (mm 12) 4 (if cLay x1 x2 x3 = 7 then va_up si (bstN x1) (if x2 = 0 then 0 else x3) else si), la cy (mm 13) 160 (numF f)]) := congrArg (fun z9 => [mO cy mm ik tl fm tz vl iw rm rr om, ia cy (mm 4) 7 (fnd C (cLay x1 x2 x3)), ia cy (mm 11) 4 (if cLay x1 x2 x3 = 7 then va_up bi (bstN x1) x2 else bi), ia cy (mm 12) 4 z9, la cy (mm 13) 160 (numF f)]) (show si = (if cLay x1 x2 x3 = 7 then va_up si (bstN x1) (if x2 = 0 then 0 else x3) else si) from (if_neg (fun z9 => absurd (hcd.symm.trans z9) (by decide))).symm)
    replace hP2 := (congrArg (fun z9 => va_P D vwCl z9 _) hq9).mp hP2
    replace hD2 := (congrArg (fun z9 => va_D _ z9) hq9).mp hD2
    clear hq9
    have hq9 : ([mO cy mm ik tl fm tz vl iw rm rr om, ia cy (mm 4) 7 (fnd C (cLay x1 x2 x3)), ia cy (mm 11) 4 (if cLay x1 x2 x3 = 7 then va_up bi (bstN x1) x2 else bi), ia cy (mm 12) 4 (if cLay x1 x2 x3 = 7 then va_up si (bstN x1) (if x2 = 0 then 0 else x3) else si), la cy (mm 13) 160 (numF f)]) = ([mO cy mm ik tl fm tz vl iw rm rr om, ia cy (mm 4) 7 (fnd C (cLay x1 x2 x3)), ia cy (mm 11) 4 (if cLay x1 x2 x3 = 7 then va_up bi (bstN x1) x2 else bi), ia cy (mm 12) 4 (if cLay x1 x2 x3 = 7 then va_up si (bstN x1) (if x2 = 0 then 0 else x3) else si), la cy (mm 13) 160 (if cLay x1 x2 x3 = 7 then numF (va_up f (bstN x1) (fun _ => 0)) else numF f)]) := congrArg (fun z9 => [mO cy mm ik tl fm tz vl iw rm rr om, ia cy (mm 4) 7 (fnd C (cLay x1 x2 x3)), ia cy (mm 11) 4 (if cLay x1 x2 x3 = 7 then va_up bi (bstN x1) x2 else bi), ia cy (mm 12) 4 (if cLay x1 x2 x3 = 7 then va_up si (bstN x1) (if x2 = 0 then 0 else x3) else si), la cy (mm 13) 160 z9]) (show (numF f) = (if cLay x1 x2 x3 = 7 then numF (va_up f (bstN x1) (fun _ => 0)) else numF f) from (if_neg (fun z9 => absurd (hcd.symm.trans z9) (by decide))).symm)
    replace hP2 := (congrArg (fun z9 => va_P D vwCl z9 _) hq9).mp hP2
    replace hD2 := (congrArg (fun z9 => va_D _ z9) hq9).mp hD2
    clear hq9
    refine re_i () hx hb hr hlocks hP2 hD2 hS2 dX7_sheet_35 ?_
    exact (ans_f hcd (by decide) rfl)
  · refine lv_iload_n hx hb dX7_sheet_7 rfl (lv_at hl0 2 rfl) ?_
    refine lv_if_eq (tgt := 36) hx hb dX7_sheet_8 (by decide) (fun c_8 => ?_) (fun c_8 => ?_)
    · refine lv_iload_n hx hb dX7_sheet_36 rfl (lv_at hl0 3 rfl) ?_
      refine lv_if_ge (tgt := 48) hx hb dX7_sheet_37 (by decide) (fun c_37 => ?_) (fun c_37 => ?_)
      · refine lv_iload_n hx hb dX7_sheet_48 rfl (lv_at hl0 3 rfl) ?_
        refine lv_bipush (v := 40) hx hb dX7_sheet_49 (by decide) ?_
        refine lv_icmp_le (tgt := 61) hx hb dX7_sheet_51 (by decide) (fun c_51 => ?_) (fun c_51 => ?_)
        · obtain ⟨i0, hi4, rfl⟩ := nI_rn (n := 4) (by decide) (x := x1) ⟨c_4.1, Int32.lt_of_le_of_lt c_4.2 (by decide)⟩
          have hbi : bstN (nI i0) = i0 := bst_n (by omega)
          have hs0 := hso i0 hi4
          have hs40 := hs0.2.1
          refine lv_aload_n hx hb dX7_sheet_61 rfl (lv_at hl0 0 rfl) ?_
          refine va_get (D := D) (ci := 7) (v := .ref (mm 11)) (C := RX7) (T := TX7) (N := 23) hx hb hw iX7 hown hK hP1 0 rfl rfl 19 (by decide) (hw _ kw_4_83) (fun _ h9 => h9) rfl dX7_sheet_62 ?_
          refine lv_iload_n hx hb dX7_sheet_65 rfl (lv_at hl0 1 rfl) ?_
          refine lv_iload_n hx hb dX7_sheet_66 rfl (lv_at hl0 2 rfl) ?_
          refine ast_i (f := bi) (ws' := [mO cy mm ik tl fm tz vl iw rm rr om, ia cy (mm 4) 7 C, ia cy (mm 11) 4 (upd bi i0 x2), ia cy (mm 12) 4 si, la cy (mm 13) 160 (numF f)]) hx hb hK hP1 hD1 hS1 2 0 rfl rfl i0 rfl (by first | omega | assumption) (by decide) rfl dX7_sheet_67 (fun H2 locs2 hP2 hD2 hS2 => ?_)
          clear hP1 hD1 hS1 locs1 H1
          have hq9 : ([mO cy mm ik tl fm tz vl iw rm rr om, ia cy (mm 4) 7 C, ia cy (mm 11) 4 (upd bi i0 x2), ia cy (mm 12) 4 si, la cy (mm 13) 160 (numF f)]) = ([mO cy mm ik tl fm tz vl iw rm rr om, ia cy (mm 4) 7 C, ia cy (mm 11) 4 (va_up bi i0 x2), ia cy (mm 12) 4 si, la cy (mm 13) 160 (numF f)]) := congrArg (fun z9 => [mO cy mm ik tl fm tz vl iw rm rr om, ia cy (mm 4) 7 C, ia cy (mm 11) 4 z9, ia cy (mm 12) 4 si, la cy (mm 13) 160 (numF f)]) (show (upd bi i0 x2) = (va_up bi i0 x2) from rfl)
          replace hP2 := (congrArg (fun z9 => va_P D vwCl z9 _) hq9).mp hP2
          replace hD2 := (congrArg (fun z9 => va_D _ z9) hq9).mp hD2
          clear hq9
          refine lv_aload_n hx hb dX7_sheet_68 rfl (lv_at hl0 0 rfl) ?_
          refine va_get (D := D) (ci := 7) (v := .ref (mm 12)) (C := RX7) (T := TX7) (N := 23) hx hb hw iX7 hown hK hP2 0 rfl rfl 20 (by decide) (hw _ kw_4_84) (fun _ h9 => h9) rfl dX7_sheet_69 ?_
          refine lv_iload_n hx hb dX7_sheet_72 rfl (lv_at hl0 1 rfl) ?_
          refine lv_iload_n hx hb dX7_sheet_73 rfl (lv_at hl0 2 rfl) ?_
          refine lv_if_ne (tgt := 81) hx hb dX7_sheet_74 (by decide) (fun c_74 => ?_) (fun c_74 => ?_)
          · refine lv_iload_n hx hb dX7_sheet_81 rfl (lv_at hl0 3 rfl) ?_
            refine tp (show (x3) = if x2 = 0 then 0 else x3 from (if_neg c_74).symm) ?_
            refine ast_i (f := si) (ws' := [mO cy mm ik tl fm tz vl iw rm rr om, ia cy (mm 4) 7 C, ia cy (mm 11) 4 (va_up bi i0 x2), ia cy (mm 12) 4 (upd si i0 (if x2 = 0 then 0 else x3)), la cy (mm 13) 160 (numF f)]) hx hb hK hP2 hD2 hS2 3 0 rfl rfl i0 rfl (by first | omega | assumption) (by decide) rfl dX7_sheet_82 (fun H3 locs3 hP3 hD3 hS3 => ?_)
            clear hP2 hD2 hS2 locs2 H2
            have hq9 : ([mO cy mm ik tl fm tz vl iw rm rr om, ia cy (mm 4) 7 C, ia cy (mm 11) 4 (va_up bi i0 x2), ia cy (mm 12) 4 (upd si i0 (if x2 = 0 then 0 else x3)), la cy (mm 13) 160 (numF f)]) = ([mO cy mm ik tl fm tz vl iw rm rr om, ia cy (mm 4) 7 C, ia cy (mm 11) 4 (va_up bi i0 x2), ia cy (mm 12) 4 (va_up si i0 (if x2 = 0 then 0 else x3)), la cy (mm 13) 160 (numF f)]) := congrArg (fun z9 => [mO cy mm ik tl fm tz vl iw rm rr om, ia cy (mm 4) 7 C, ia cy (mm 11) 4 (va_up bi i0 x2), ia cy (mm 12) 4 z9, la cy (mm 13) 160 (numF f)]) (show (upd si i0 (if x2 = 0 then 0 else x3)) = (va_up si i0 (if x2 = 0 then 0 else x3)) from rfl)
            replace hP3 := (congrArg (fun z9 => va_P D vwCl z9 _) hq9).mp hP3
            replace hD3 := (congrArg (fun z9 => va_D _ z9) hq9).mp hD3
            clear hq9
            refine lv_iconst (v := 0) hx hb dX7_sheet_83 (by decide) ?_
            refine lv_istore (lv' := [(4, .int 0), (0, .ref (mm 0)), (1, .int (nI i0)), (2, .int x2), (3, .int x3)]) hx hb dX7_sheet_84 hl0 (by decide) rfl (fun ls1 hl1 => ?_)
            clear hl0 ls0
            have hq9 : ([mO cy mm ik tl fm tz vl iw rm rr om, ia cy (mm 4) 7 C, ia cy (mm 11) 4 (va_up bi i0 x2), ia cy (mm 12) 4 (va_up si i0 (if x2 = 0 then 0 else x3)), la cy (mm 13) 160 (numF f)]) = ([mO cy mm ik tl fm tz vl iw rm rr om, ia cy (mm 4) 7 C, ia cy (mm 11) 4 (va_up bi i0 x2), ia cy (mm 12) 4 (va_up si i0 (if x2 = 0 then 0 else x3)), la cy (mm 13) 160 (numF (va_up f i0 (zer 0 (f i0))))]) := congrArg (fun z9 => [mO cy mm ik tl fm tz vl iw rm rr om, ia cy (mm 4) 7 C, ia cy (mm 11) 4 (va_up bi i0 x2), ia cy (mm 12) 4 (va_up si i0 (if x2 = 0 then 0 else x3)), la cy (mm 13) 160 z9]) (show (numF f) = (numF (va_up f i0 (zer 0 (f i0)))) from by rw [← zer_0, va_up_s])
            replace hP3 := (congrArg (fun z9 => va_P D vwCl z9 _) hq9).mp hP3
            replace hD3 := (congrArg (fun z9 => va_D _ z9) hq9).mp hD3
            clear hq9
            refine wlp (ι := Nat) (nL := 5) (fun x9 => (x9 ≤ 40)) (fun x9 => [mO cy mm ik tl fm tz vl iw rm rr om, ia cy (mm 4) 7 C, ia cy (mm 11) 4 (va_up bi i0 x2), ia cy (mm 12) 4 (va_up si i0 (if x2 = 0 then 0 else x3)), la cy (mm 13) 160 (numF (va_up f i0 (zer x9 (f i0))))]) (fun x9 => [(4, .int (nI x9)), (0, .ref (mm 0)), (1, .int (nI i0)), (2, .int x2), (3, .int x3)]) (fun x9 => []) (fun x9 => 40 - x9) 86 ?_ 0 (by first | omega | assumption | rfl | simp_all) rfl hP3 hD3 hS3 (lv_sub hl1 [0, 1, 2, 3, 4] rfl)
            clear hP3 hD3 hS3 locs3 H3 hl1 ls1
            intro x9 hI ih_86 H4 locs4 ls2 hP4 hD4 hS4 hl2
            obtain ⟨i, rfl⟩ : ∃ z9, z9 = x9 := ⟨_, rfl⟩
            have hi := hI
            replace hi : i ≤ 40 := hi
            replace hP4 : va_P D vwCl ([mO cy mm ik tl fm tz vl iw rm rr om, ia cy (mm 4) 7 C, ia cy (mm 11) 4 (va_up bi i0 x2), ia cy (mm 12) 4 (va_up si i0 (if x2 = 0 then 0 else x3)), la cy (mm 13) 160 (numF (va_up f i0 (zer i (f i0))))]) H4 := hP4
            replace hD4 : va_D (va_A _ sz) ([mO cy mm ik tl fm tz vl iw rm rr om, ia cy (mm 4) 7 C, ia cy (mm 11) 4 (va_up bi i0 x2), ia cy (mm 12) 4 (va_up si i0 (if x2 = 0 then 0 else x3)), la cy (mm 13) 160 (numF (va_up f i0 (zer i (f i0))))]) := hD4
            replace hl2 : lv_has ls2 5 [(4, .int (nI i)), (0, .ref (mm 0)), (1, .int (nI i0)), (2, .int x2), (3, .int x3)] := hl2
            show W p l e _ s m _ below meth c _ _ _ _ _ (F0 m 86 ls2 [])
            refine lv_iload hx hb dX7_sheet_86 (lv_at hl2 0 rfl) ?_
            refine lv_bipush (v := 40) hx hb dX7_sheet_88 (by decide) ?_
            refine ln_ge (tgt := 112) i 40 rfl rfl (by omega) (by omega) hx hb dX7_sheet_90 (by decide) (fun c_90 => ?_) (fun c_90 => ?_)
            · have hq9 : ([mO cy mm ik tl fm tz vl iw rm rr om, ia cy (mm 4) 7 C, ia cy (mm 11) 4 (va_up bi i0 x2), ia cy (mm 12) 4 (va_up si i0 (if x2 = 0 then 0 else x3)), la cy (mm 13) 160 (numF (va_up f i0 (zer i (f i0))))]) = ([mO cy mm ik tl fm tz vl iw rm rr om, ia cy (mm 4) 7 C, ia cy (mm 11) 4 (va_up bi i0 x2), ia cy (mm 12) 4 (va_up si i0 (if x2 = 0 then 0 else x3)), la cy (mm 13) 160 (numF (va_up f i0 (fun _ => 0)))]) := congrArg (fun z9 => [mO cy mm ik tl fm tz vl iw rm rr om, ia cy (mm 4) 7 C, ia cy (mm 11) 4 (va_up bi i0 x2), ia cy (mm 12) 4 (va_up si i0 (if x2 = 0 then 0 else x3)), la cy (mm 13) 160 z9]) (show (numF (va_up f i0 (zer i (f i0)))) = (numF (va_up f i0 (fun _ => 0))) from by rw [zer_e (n := 40) (by omega) hs0.2.2])
              replace hP4 := (congrArg (fun z9 => va_P D vwCl z9 _) hq9).mp hP4
              replace hD4 := (congrArg (fun z9 => va_D _ z9) hq9).mp hD4
              clear hq9
              refine lv_aload_n hx hb dX7_sheet_112 rfl (lv_at hl2 1 rfl) ?_
              refine va_get (D := D) (ci := 7) (v := .ref (mm 12)) (C := RX7) (T := TX7) (N := 23) hx hb hw iX7 hown hK hP4 0 rfl rfl 20 (by decide) (hw _ kw_4_84) (fun _ h9 => h9) rfl dX7_sheet_113 ?_
              refine lv_iload_n hx hb dX7_sheet_116 rfl (lv_at hl2 2 rfl) ?_
              refine ald_i (f := va_up si i0 (if x2 = 0 then 0 else x3)) hx hb hK hP4 3 0 rfl rfl i0 rfl (by first | omega | assumption) (by decide) dX7_sheet_117 ?_
              refine tp (show ((va_up si i0 (if x2 = 0 then 0 else x3)) i0) = if x2 = 0 then 0 else x3 from va_up_i _ _ _) ?_
              have hcd : cLay (nI i0) x2 x3 = 7 := by unfold cLay; clear hx hb hml hown hr hlocks hw hsz hA hG hK hP4 hD4 hS4 hl2 ih_86; grind
              have hq9 : ([mO cy mm ik tl fm tz vl iw rm rr om, ia cy (mm 4) 7 C, ia cy (mm 11) 4 (va_up bi i0 x2), ia cy (mm 12) 4 (va_up si i0 (if x2 = 0 then 0 else x3)), la cy (mm 13) 160 (numF (va_up f i0 (fun _ => 0)))]) = ([mO cy mm ik tl fm tz vl iw rm rr om, ia cy (mm 4) 7 (fnd C (cLay (nI i0) x2 x3)), ia cy (mm 11) 4 (va_up bi i0 x2), ia cy (mm 12) 4 (va_up si i0 (if x2 = 0 then 0 else x3)), la cy (mm 13) 160 (numF (va_up f i0 (fun _ => 0)))]) := congrArg (fun z9 => [mO cy mm ik tl fm tz vl iw rm rr om, ia cy (mm 4) 7 z9, ia cy (mm 11) 4 (va_up bi i0 x2), ia cy (mm 12) 4 (va_up si i0 (if x2 = 0 then 0 else x3)), la cy (mm 13) 160 (numF (va_up f i0 (fun _ => 0)))]) (show C = (fnd C (cLay (nI i0) x2 x3)) from fnd_o hcd)
              replace hP4 := (congrArg (fun z9 => va_P D vwCl z9 _) hq9).mp hP4
              replace hD4 := (congrArg (fun z9 => va_D _ z9) hq9).mp hD4
              clear hq9
              have hq9 : ([mO cy mm ik tl fm tz vl iw rm rr om, ia cy (mm 4) 7 (fnd C (cLay (nI i0) x2 x3)), ia cy (mm 11) 4 (va_up bi i0 x2), ia cy (mm 12) 4 (va_up si i0 (if x2 = 0 then 0 else x3)), la cy (mm 13) 160 (numF (va_up f i0 (fun _ => 0)))]) = ([mO cy mm ik tl fm tz vl iw rm rr om, ia cy (mm 4) 7 (fnd C (cLay (nI i0) x2 x3)), ia cy (mm 11) 4 (if cLay (nI i0) x2 x3 = 7 then va_up bi (bstN (nI i0)) x2 else bi), ia cy (mm 12) 4 (va_up si i0 (if x2 = 0 then 0 else x3)), la cy (mm 13) 160 (numF (va_up f i0 (fun _ => 0)))]) := congrArg (fun z9 => [mO cy mm ik tl fm tz vl iw rm rr om, ia cy (mm 4) 7 (fnd C (cLay (nI i0) x2 x3)), ia cy (mm 11) 4 z9, ia cy (mm 12) 4 (va_up si i0 (if x2 = 0 then 0 else x3)), la cy (mm 13) 160 (numF (va_up f i0 (fun _ => 0)))]) (show (va_up bi i0 x2) = (if cLay (nI i0) x2 x3 = 7 then va_up bi (bstN (nI i0)) x2 else bi) from by rw [if_pos hcd]; simp only [hbi])
              replace hP4 := (congrArg (fun z9 => va_P D vwCl z9 _) hq9).mp hP4
              replace hD4 := (congrArg (fun z9 => va_D _ z9) hq9).mp hD4
              clear hq9
              have hq9 : ([mO cy mm ik tl fm tz vl iw rm rr om, ia cy (mm 4) 7 (fnd C (cLay (nI i0) x2 x3)), ia cy (mm 11) 4 (if cLay (nI i0) x2 x3 = 7 then va_up bi (bstN (nI i0)) x2 else bi), ia cy (mm 12) 4 (va_up si i0 (if x2 = 0 then 0 else x3)), la cy (mm 13) 160 (numF (va_up f i0 (fun _ => 0)))]) = ([mO cy mm ik tl fm tz vl iw rm rr om, ia cy (mm 4) 7 (fnd C (cLay (nI i0) x2 x3)), ia cy (mm 11) 4 (if cLay (nI i0) x2 x3 = 7 then va_up bi (bstN (nI i0)) x2 else bi), ia cy (mm 12) 4 (if cLay (nI i0) x2 x3 = 7 then va_up si (bstN (nI i0)) (if x2 = 0 then 0 else x3) else si), la cy (mm 13) 160 (numF (va_up f i0 (fun _ => 0)))]) := congrArg (fun z9 => [mO cy mm ik tl fm tz vl iw rm rr om, ia cy (mm 4) 7 (fnd C (cLay (nI i0) x2 x3)), ia cy (mm 11) 4 (if cLay (nI i0) x2 x3 = 7 then va_up bi (bstN (nI i0)) x2 else bi), ia cy (mm 12) 4 z9, la cy (mm 13) 160 (numF (va_up f i0 (fun _ => 0)))]) (show (va_up si i0 (if x2 = 0 then 0 else x3)) = (if cLay (nI i0) x2 x3 = 7 then va_up si (bstN (nI i0)) (if x2 = 0 then 0 else x3) else si) from by rw [if_pos hcd]; simp only [hbi])
              replace hP4 := (congrArg (fun z9 => va_P D vwCl z9 _) hq9).mp hP4
              replace hD4 := (congrArg (fun z9 => va_D _ z9) hq9).mp hD4
              clear hq9
              have hq9 : ([mO cy mm ik tl fm tz vl iw rm rr om, ia cy (mm 4) 7 (fnd C (cLay (nI i0) x2 x3)), ia cy (mm 11) 4 (if cLay (nI i0) x2 x3 = 7 then va_up bi (bstN (nI i0)) x2 else bi), ia cy (mm 12) 4 (if cLay (nI i0) x2 x3 = 7 then va_up si (bstN (nI i0)) (if x2 = 0 then 0 else x3) else si), la cy (mm 13) 160 (numF (va_up f i0 (fun _ => 0)))]) = ([mO cy mm ik tl fm tz vl iw rm rr om, ia cy (mm 4) 7 (fnd C (cLay (nI i0) x2 x3)), ia cy (mm 11) 4 (if cLay (nI i0) x2 x3 = 7 then va_up bi (bstN (nI i0)) x2 else bi), ia cy (mm 12) 4 (if cLay (nI i0) x2 x3 = 7 then va_up si (bstN (nI i0)) (if x2 = 0 then 0 else x3) else si), la cy (mm 13) 160 (if cLay (nI i0) x2 x3 = 7 then numF (va_up f (bstN (nI i0)) (fun _ => 0)) else numF f)]) := congrArg (fun z9 => [mO cy mm ik tl fm tz vl iw rm rr om, ia cy (mm 4) 7 (fnd C (cLay (nI i0) x2 x3)), ia cy (mm 11) 4 (if cLay (nI i0) x2 x3 = 7 then va_up bi (bstN (nI i0)) x2 else bi), ia cy (mm 12) 4 (if cLay (nI i0) x2 x3 = 7 then va_up si (bstN (nI i0)) (if x2 = 0 then 0 else x3) else si), la cy (mm 13) 160 z9]) (show (numF (va_up f i0 (fun _ => 0))) = (if cLay (nI i0) x2 x3 = 7 then numF (va_up f (bstN (nI i0)) (fun _ => 0)) else numF f) from by rw [if_pos hcd]; simp only [hbi])
              replace hP4 := (congrArg (fun z9 => va_P D vwCl z9 _) hq9).mp hP4
              replace hD4 := (congrArg (fun z9 => va_D _ z9) hq9).mp hD4
              clear hq9
              refine re_i () hx hb hr hlocks hP4 hD4 hS4 dX7_sheet_118 ?_
              exact (ans_o hcd (rfl))
            · refine lv_aload_n hx hb dX7_sheet_93 rfl (lv_at hl2 1 rfl) ?_
              refine va_get (D := D) (ci := 7) (v := .ref (mm 13)) (C := RX7) (T := TX7) (N := 23) hx hb hw iX7 hown hK hP4 0 rfl rfl 21 (by decide) (hw _ kw_4_85) (fun _ h9 => h9) rfl dX7_sheet_94 ?_
              refine lv_bipush (v := 40) hx hb dX7_sheet_97 (by decide) ?_
              refine lv_iload_n hx hb dX7_sheet_99 rfl (lv_at hl2 2 rfl) ?_
              refine lv_imul hx hb dX7_sheet_100 ?_
              refine tp (show (40 * (nI i0)) = nI (40 * i0) from pk_mul _ _) ?_
              refine lv_iload hx hb dX7_sheet_101 (lv_at hl2 0 rfl) ?_
              refine lv_iadd hx hb dX7_sheet_103 ?_
              refine tp (show ((nI (40 * i0)) + (nI i)) = nI (40 * i0 + i) from nI_add _ _) ?_
              refine lv_lconst (v := 0) hx hb dX7_sheet_104 (by decide) ?_
              refine ast_l (f := numF (va_up f i0 (zer i (f i0)))) (ws' := [mO cy mm ik tl fm tz vl iw rm rr om, ia cy (mm 4) 7 C, ia cy (mm 11) 4 (va_up bi i0 x2), ia cy (mm 12) 4 (va_up si i0 (if x2 = 0 then 0 else x3)), la cy (mm 13) 160 (vp_updL (numF (va_up f i0 (zer i (f i0)))) (40 * i0 + i) 0)]) hx hb hK hP4 hD4 hS4 4 1 rfl rfl (40 * i0 + i) rfl (by first | omega | assumption) (by decide) rfl dX7_sheet_105 (fun H5 locs5 hP5 hD5 hS5 => ?_)
              clear hP4 hD4 hS4 locs4 H4
              have hq9 : ([mO cy mm ik tl fm tz vl iw rm rr om, ia cy (mm 4) 7 C, ia cy (mm 11) 4 (va_up bi i0 x2), ia cy (mm 12) 4 (va_up si i0 (if x2 = 0 then 0 else x3)), la cy (mm 13) 160 (vp_updL (numF (va_up f i0 (zer i (f i0)))) (40 * i0 + i) 0)]) = ([mO cy mm ik tl fm tz vl iw rm rr om, ia cy (mm 4) 7 C, ia cy (mm 11) 4 (va_up bi i0 x2), ia cy (mm 12) 4 (va_up si i0 (if x2 = 0 then 0 else x3)), la cy (mm 13) 160 (numF (va_up f i0 (zer (i + 1) (f i0))))]) := congrArg (fun z9 => [mO cy mm ik tl fm tz vl iw rm rr om, ia cy (mm 4) 7 C, ia cy (mm 11) 4 (va_up bi i0 x2), ia cy (mm 12) 4 (va_up si i0 (if x2 = 0 then 0 else x3)), la cy (mm 13) 160 z9]) (show (vp_updL (numF (va_up f i0 (zer i (f i0)))) (40 * i0 + i) 0) = (numF (va_up f i0 (zer (i + 1) (f i0)))) from by rw [numF_up _ _ (by omega), va_up_i, zer_s, va_up_up])
              replace hP5 := (congrArg (fun z9 => va_P D vwCl z9 _) hq9).mp hP5
              replace hD5 := (congrArg (fun z9 => va_D _ z9) hq9).mp hD5
              clear hq9
              refine lv_iinc (v := nI (i + 1)) (lv' := [(4, .int (nI (i + 1))), (0, .ref (mm 0)), (1, .int (nI i0)), (2, .int x2), (3, .int x3)]) hx hb dX7_sheet_106 hl2 (k := 0) rfl (nI_inc _) (by decide) rfl (fun ls3 hl3 => ?_)
              clear hl2 ls2
              refine lv_goto (tgt := 86) hx hb dX7_sheet_109 (by decide) ?_
              exact ih_86 (i + 1) (by first | omega | assumption | rfl | simp_all) (by (try dsimp only); omega) H5 locs5 ls3 hP5 hD5 hS5 (lv_sub hl3 [0, 1, 2, 3, 4] rfl)
          · refine lv_iconst (v := 0) hx hb dX7_sheet_77 (by decide) ?_
            refine lv_goto (tgt := 82) hx hb dX7_sheet_78 (by decide) ?_
            refine tp (show (0) = if x2 = 0 then 0 else x3 from (if_pos c_74).symm) ?_
            refine ast_i (f := si) (ws' := [mO cy mm ik tl fm tz vl iw rm rr om, ia cy (mm 4) 7 C, ia cy (mm 11) 4 (va_up bi i0 x2), ia cy (mm 12) 4 (upd si i0 (if x2 = 0 then 0 else x3)), la cy (mm 13) 160 (numF f)]) hx hb hK hP2 hD2 hS2 3 0 rfl rfl i0 rfl (by first | omega | assumption) (by decide) rfl dX7_sheet_82 (fun H3 locs3 hP3 hD3 hS3 => ?_)
            clear hP2 hD2 hS2 locs2 H2
            have hq9 : ([mO cy mm ik tl fm tz vl iw rm rr om, ia cy (mm 4) 7 C, ia cy (mm 11) 4 (va_up bi i0 x2), ia cy (mm 12) 4 (upd si i0 (if x2 = 0 then 0 else x3)), la cy (mm 13) 160 (numF f)]) = ([mO cy mm ik tl fm tz vl iw rm rr om, ia cy (mm 4) 7 C, ia cy (mm 11) 4 (va_up bi i0 x2), ia cy (mm 12) 4 (va_up si i0 (if x2 = 0 then 0 else x3)), la cy (mm 13) 160 (numF f)]) := congrArg (fun z9 => [mO cy mm ik tl fm tz vl iw rm rr om, ia cy (mm 4) 7 C, ia cy (mm 11) 4 (va_up bi i0 x2), ia cy (mm 12) 4 z9, la cy (mm 13) 160 (numF f)]) (show (upd si i0 (if x2 = 0 then 0 else x3)) = (va_up si i0 (if x2 = 0 then 0 else x3)) from rfl)
            replace hP3 := (congrArg (fun z9 => va_P D vwCl z9 _) hq9).mp hP3
            replace hD3 := (congrArg (fun z9 => va_D _ z9) hq9).mp hD3
            clear hq9
            refine lv_iconst (v := 0) hx hb dX7_sheet_83 (by decide) ?_
            refine lv_istore (lv' := [(4, .int 0), (0, .ref (mm 0)), (1, .int (nI i0)), (2, .int x2), (3, .int x3)]) hx hb dX7_sheet_84 hl0 (by decide) rfl (fun ls1 hl1 => ?_)
            clear hl0 ls0
            have hq9 : ([mO cy mm ik tl fm tz vl iw rm rr om, ia cy (mm 4) 7 C, ia cy (mm 11) 4 (va_up bi i0 x2), ia cy (mm 12) 4 (va_up si i0 (if x2 = 0 then 0 else x3)), la cy (mm 13) 160 (numF f)]) = ([mO cy mm ik tl fm tz vl iw rm rr om, ia cy (mm 4) 7 C, ia cy (mm 11) 4 (va_up bi i0 x2), ia cy (mm 12) 4 (va_up si i0 (if x2 = 0 then 0 else x3)), la cy (mm 13) 160 (numF (va_up f i0 (zer 0 (f i0))))]) := congrArg (fun z9 => [mO cy mm ik tl fm tz vl iw rm rr om, ia cy (mm 4) 7 C, ia cy (mm 11) 4 (va_up bi i0 x2), ia cy (mm 12) 4 (va_up si i0 (if x2 = 0 then 0 else x3)), la cy (mm 13) 160 z9]) (show (numF f) = (numF (va_up f i0 (zer 0 (f i0)))) from by rw [← zer_0, va_up_s])
            replace hP3 := (congrArg (fun z9 => va_P D vwCl z9 _) hq9).mp hP3
            replace hD3 := (congrArg (fun z9 => va_D _ z9) hq9).mp hD3
            clear hq9
            refine wlp (ι := Nat) (nL := 5) (fun x9 => (x9 ≤ 40)) (fun x9 => [mO cy mm ik tl fm tz vl iw rm rr om, ia cy (mm 4) 7 C, ia cy (mm 11) 4 (va_up bi i0 x2), ia cy (mm 12) 4 (va_up si i0 (if x2 = 0 then 0 else x3)), la cy (mm 13) 160 (numF (va_up f i0 (zer x9 (f i0))))]) (fun x9 => [(4, .int (nI x9)), (0, .ref (mm 0)), (1, .int (nI i0)), (2, .int x2), (3, .int x3)]) (fun x9 => []) (fun x9 => 40 - x9) 86 ?_ 0 (by first | omega | assumption | rfl | simp_all) rfl hP3 hD3 hS3 (lv_sub hl1 [0, 1, 2, 3, 4] rfl)
            clear hP3 hD3 hS3 locs3 H3 hl1 ls1
            intro x9 hI ih_86 H4 locs4 ls2 hP4 hD4 hS4 hl2
            obtain ⟨i, rfl⟩ : ∃ z9, z9 = x9 := ⟨_, rfl⟩
            have hi := hI
            replace hi : i ≤ 40 := hi
            replace hP4 : va_P D vwCl ([mO cy mm ik tl fm tz vl iw rm rr om, ia cy (mm 4) 7 C, ia cy (mm 11) 4 (va_up bi i0 x2), ia cy (mm 12) 4 (va_up si i0 (if x2 = 0 then 0 else x3)), la cy (mm 13) 160 (numF (va_up f i0 (zer i (f i0))))]) H4 := hP4
            replace hD4 : va_D (va_A _ sz) ([mO cy mm ik tl fm tz vl iw rm rr om, ia cy (mm 4) 7 C, ia cy (mm 11) 4 (va_up bi i0 x2), ia cy (mm 12) 4 (va_up si i0 (if x2 = 0 then 0 else x3)), la cy (mm 13) 160 (numF (va_up f i0 (zer i (f i0))))]) := hD4
            replace hl2 : lv_has ls2 5 [(4, .int (nI i)), (0, .ref (mm 0)), (1, .int (nI i0)), (2, .int x2), (3, .int x3)] := hl2
            show W p l e _ s m _ below meth c _ _ _ _ _ (F0 m 86 ls2 [])
            refine lv_iload hx hb dX7_sheet_86 (lv_at hl2 0 rfl) ?_
            refine lv_bipush (v := 40) hx hb dX7_sheet_88 (by decide) ?_
            refine ln_ge (tgt := 112) i 40 rfl rfl (by omega) (by omega) hx hb dX7_sheet_90 (by decide) (fun c_90 => ?_) (fun c_90 => ?_)
            · have hq9 : ([mO cy mm ik tl fm tz vl iw rm rr om, ia cy (mm 4) 7 C, ia cy (mm 11) 4 (va_up bi i0 x2), ia cy (mm 12) 4 (va_up si i0 (if x2 = 0 then 0 else x3)), la cy (mm 13) 160 (numF (va_up f i0 (zer i (f i0))))]) = ([mO cy mm ik tl fm tz vl iw rm rr om, ia cy (mm 4) 7 C, ia cy (mm 11) 4 (va_up bi i0 x2), ia cy (mm 12) 4 (va_up si i0 (if x2 = 0 then 0 else x3)), la cy (mm 13) 160 (numF (va_up f i0 (fun _ => 0)))]) := congrArg (fun z9 => [mO cy mm ik tl fm tz vl iw rm rr om, ia cy (mm 4) 7 C, ia cy (mm 11) 4 (va_up bi i0 x2), ia cy (mm 12) 4 (va_up si i0 (if x2 = 0 then 0 else x3)), la cy (mm 13) 160 z9]) (show (numF (va_up f i0 (zer i (f i0)))) = (numF (va_up f i0 (fun _ => 0))) from by rw [zer_e (n := 40) (by omega) hs0.2.2])
              replace hP4 := (congrArg (fun z9 => va_P D vwCl z9 _) hq9).mp hP4
              replace hD4 := (congrArg (fun z9 => va_D _ z9) hq9).mp hD4
              clear hq9
              refine lv_aload_n hx hb dX7_sheet_112 rfl (lv_at hl2 1 rfl) ?_
              refine va_get (D := D) (ci := 7) (v := .ref (mm 12)) (C := RX7) (T := TX7) (N := 23) hx hb hw iX7 hown hK hP4 0 rfl rfl 20 (by decide) (hw _ kw_4_84) (fun _ h9 => h9) rfl dX7_sheet_113 ?_
              refine lv_iload_n hx hb dX7_sheet_116 rfl (lv_at hl2 2 rfl) ?_
              refine ald_i (f := va_up si i0 (if x2 = 0 then 0 else x3)) hx hb hK hP4 3 0 rfl rfl i0 rfl (by first | omega | assumption) (by decide) dX7_sheet_117 ?_
              refine tp (show ((va_up si i0 (if x2 = 0 then 0 else x3)) i0) = if x2 = 0 then 0 else x3 from va_up_i _ _ _) ?_
              have hcd : cLay (nI i0) x2 x3 = 7 := by unfold cLay; clear hx hb hml hown hr hlocks hw hsz hA hG hK hP4 hD4 hS4 hl2 ih_86; grind
              have hq9 : ([mO cy mm ik tl fm tz vl iw rm rr om, ia cy (mm 4) 7 C, ia cy (mm 11) 4 (va_up bi i0 x2), ia cy (mm 12) 4 (va_up si i0 (if x2 = 0 then 0 else x3)), la cy (mm 13) 160 (numF (va_up f i0 (fun _ => 0)))]) = ([mO cy mm ik tl fm tz vl iw rm rr om, ia cy (mm 4) 7 (fnd C (cLay (nI i0) x2 x3)), ia cy (mm 11) 4 (va_up bi i0 x2), ia cy (mm 12) 4 (va_up si i0 (if x2 = 0 then 0 else x3)), la cy (mm 13) 160 (numF (va_up f i0 (fun _ => 0)))]) := congrArg (fun z9 => [mO cy mm ik tl fm tz vl iw rm rr om, ia cy (mm 4) 7 z9, ia cy (mm 11) 4 (va_up bi i0 x2), ia cy (mm 12) 4 (va_up si i0 (if x2 = 0 then 0 else x3)), la cy (mm 13) 160 (numF (va_up f i0 (fun _ => 0)))]) (show C = (fnd C (cLay (nI i0) x2 x3)) from fnd_o hcd)
              replace hP4 := (congrArg (fun z9 => va_P D vwCl z9 _) hq9).mp hP4
              replace hD4 := (congrArg (fun z9 => va_D _ z9) hq9).mp hD4
              clear hq9
              have hq9 : ([mO cy mm ik tl fm tz vl iw rm rr om, ia cy (mm 4) 7 (fnd C (cLay (nI i0) x2 x3)), ia cy (mm 11) 4 (va_up bi i0 x2), ia cy (mm 12) 4 (va_up si i0 (if x2 = 0 then 0 else x3)), la cy (mm 13) 160 (numF (va_up f i0 (fun _ => 0)))]) = ([mO cy mm ik tl fm tz vl iw rm rr om, ia cy (mm 4) 7 (fnd C (cLay (nI i0) x2 x3)), ia cy (mm 11) 4 (if cLay (nI i0) x2 x3 = 7 then va_up bi (bstN (nI i0)) x2 else bi), ia cy (mm 12) 4 (va_up si i0 (if x2 = 0 then 0 else x3)), la cy (mm 13) 160 (numF (va_up f i0 (fun _ => 0)))]) := congrArg (fun z9 => [mO cy mm ik tl fm tz vl iw rm rr om, ia cy (mm 4) 7 (fnd C (cLay (nI i0) x2 x3)), ia cy (mm 11) 4 z9, ia cy (mm 12) 4 (va_up si i0 (if x2 = 0 then 0 else x3)), la cy (mm 13) 160 (numF (va_up f i0 (fun _ => 0)))]) (show (va_up bi i0 x2) = (if cLay (nI i0) x2 x3 = 7 then va_up bi (bstN (nI i0)) x2 else bi) from by rw [if_pos hcd]; simp only [hbi])
              replace hP4 := (congrArg (fun z9 => va_P D vwCl z9 _) hq9).mp hP4
              replace hD4 := (congrArg (fun z9 => va_D _ z9) hq9).mp hD4
              clear hq9
              have hq9 : ([mO cy mm ik tl fm tz vl iw rm rr om, ia cy (mm 4) 7 (fnd C (cLay (nI i0) x2 x3)), ia cy (mm 11) 4 (if cLay (nI i0) x2 x3 = 7 then va_up bi (bstN (nI i0)) x2 else bi), ia cy (mm 12) 4 (va_up si i0 (if x2 = 0 then 0 else x3)), la cy (mm 13) 160 (numF (va_up f i0 (fun _ => 0)))]) = ([mO cy mm ik tl fm tz vl iw rm rr om, ia cy (mm 4) 7 (fnd C (cLay (nI i0) x2 x3)), ia cy (mm 11) 4 (if cLay (nI i0) x2 x3 = 7 then va_up bi (bstN (nI i0)) x2 else bi), ia cy (mm 12) 4 (if cLay (nI i0) x2 x3 = 7 then va_up si (bstN (nI i0)) (if x2 = 0 then 0 else x3) else si), la cy (mm 13) 160 (numF (va_up f i0 (fun _ => 0)))]) := congrArg (fun z9 => [mO cy mm ik tl fm tz vl iw rm rr om, ia cy (mm 4) 7 (fnd C (cLay (nI i0) x2 x3)), ia cy (mm 11) 4 (if cLay (nI i0) x2 x3 = 7 then va_up bi (bstN (nI i0)) x2 else bi), ia cy (mm 12) 4 z9, la cy (mm 13) 160 (numF (va_up f i0 (fun _ => 0)))]) (show (va_up si i0 (if x2 = 0 then 0 else x3)) = (if cLay (nI i0) x2 x3 = 7 then va_up si (bstN (nI i0)) (if x2 = 0 then 0 else x3) else si) from by rw [if_pos hcd]; simp only [hbi])
              replace hP4 := (congrArg (fun z9 => va_P D vwCl z9 _) hq9).mp hP4
              replace hD4 := (congrArg (fun z9 => va_D _ z9) hq9).mp hD4
              clear hq9
              have hq9 : ([mO cy mm ik tl fm tz vl iw rm rr om, ia cy (mm 4) 7 (fnd C (cLay (nI i0) x2 x3)), ia cy (mm 11) 4 (if cLay (nI i0) x2 x3 = 7 then va_up bi (bstN (nI i0)) x2 else bi), ia cy (mm 12) 4 (if cLay (nI i0) x2 x3 = 7 then va_up si (bstN (nI i0)) (if x2 = 0 then 0 else x3) else si), la cy (mm 13) 160 (numF (va_up f i0 (fun _ => 0)))]) = ([mO cy mm ik tl fm tz vl iw rm rr om, ia cy (mm 4) 7 (fnd C (cLay (nI i0) x2 x3)), ia cy (mm 11) 4 (if cLay (nI i0) x2 x3 = 7 then va_up bi (bstN (nI i0)) x2 else bi), ia cy (mm 12) 4 (if cLay (nI i0) x2 x3 = 7 then va_up si (bstN (nI i0)) (if x2 = 0 then 0 else x3) else si), la cy (mm 13) 160 (if cLay (nI i0) x2 x3 = 7 then numF (va_up f (bstN (nI i0)) (fun _ => 0)) else numF f)]) := congrArg (fun z9 => [mO cy mm ik tl fm tz vl iw rm rr om, ia cy (mm 4) 7 (fnd C (cLay (nI i0) x2 x3)), ia cy (mm 11) 4 (if cLay (nI i0) x2 x3 = 7 then va_up bi (bstN (nI i0)) x2 else bi), ia cy (mm 12) 4 (if cLay (nI i0) x2 x3 = 7 then va_up si (bstN (nI i0)) (if x2 = 0 then 0 else x3) else si), la cy (mm 13) 160 z9]) (show (numF (va_up f i0 (fun _ => 0))) = (if cLay (nI i0) x2 x3 = 7 then numF (va_up f (bstN (nI i0)) (fun _ => 0)) else numF f) from by rw [if_pos hcd]; simp only [hbi])
              replace hP4 := (congrArg (fun z9 => va_P D vwCl z9 _) hq9).mp hP4
              replace hD4 := (congrArg (fun z9 => va_D _ z9) hq9).mp hD4
              clear hq9
              refine re_i () hx hb hr hlocks hP4 hD4 hS4 dX7_sheet_118 ?_
              exact (ans_o hcd (rfl))
            · refine lv_aload_n hx hb dX7_sheet_93 rfl (lv_at hl2 1 rfl) ?_
              refine va_get (D := D) (ci := 7) (v := .ref (mm 13)) (C := RX7) (T := TX7) (N := 23) hx hb hw iX7 hown hK hP4 0 rfl rfl 21 (by decide) (hw _ kw_4_85) (fun _ h9 => h9) rfl dX7_sheet_94 ?_
              refine lv_bipush (v := 40) hx hb dX7_sheet_97 (by decide) ?_
              refine lv_iload_n hx hb dX7_sheet_99 rfl (lv_at hl2 2 rfl) ?_
              refine lv_imul hx hb dX7_sheet_100 ?_
              refine tp (show (40 * (nI i0)) = nI (40 * i0) from pk_mul _ _) ?_
              refine lv_iload hx hb dX7_sheet_101 (lv_at hl2 0 rfl) ?_
              refine lv_iadd hx hb dX7_sheet_103 ?_
              refine tp (show ((nI (40 * i0)) + (nI i)) = nI (40 * i0 + i) from nI_add _ _) ?_
              refine lv_lconst (v := 0) hx hb dX7_sheet_104 (by decide) ?_
              refine ast_l (f := numF (va_up f i0 (zer i (f i0)))) (ws' := [mO cy mm ik tl fm tz vl iw rm rr om, ia cy (mm 4) 7 C, ia cy (mm 11) 4 (va_up bi i0 x2), ia cy (mm 12) 4 (va_up si i0 (if x2 = 0 then 0 else x3)), la cy (mm 13) 160 (vp_updL (numF (va_up f i0 (zer i (f i0)))) (40 * i0 + i) 0)]) hx hb hK hP4 hD4 hS4 4 1 rfl rfl (40 * i0 + i) rfl (by first | omega | assumption) (by decide) rfl dX7_sheet_105 (fun H5 locs5 hP5 hD5 hS5 => ?_)
              clear hP4 hD4 hS4 locs4 H4
              have hq9 : ([mO cy mm ik tl fm tz vl iw rm rr om, ia cy (mm 4) 7 C, ia cy (mm 11) 4 (va_up bi i0 x2), ia cy (mm 12) 4 (va_up si i0 (if x2 = 0 then 0 else x3)), la cy (mm 13) 160 (vp_updL (numF (va_up f i0 (zer i (f i0)))) (40 * i0 + i) 0)]) = ([mO cy mm ik tl fm tz vl iw rm rr om, ia cy (mm 4) 7 C, ia cy (mm 11) 4 (va_up bi i0 x2), ia cy (mm 12) 4 (va_up si i0 (if x2 = 0 then 0 else x3)), la cy (mm 13) 160 (numF (va_up f i0 (zer (i + 1) (f i0))))]) := congrArg (fun z9 => [mO cy mm ik tl fm tz vl iw rm rr om, ia cy (mm 4) 7 C, ia cy (mm 11) 4 (va_up bi i0 x2), ia cy (mm 12) 4 (va_up si i0 (if x2 = 0 then 0 else x3)), la cy (mm 13) 160 z9]) (show (vp_updL (numF (va_up f i0 (zer i (f i0)))) (40 * i0 + i) 0) = (numF (va_up f i0 (zer (i + 1) (f i0)))) from by rw [numF_up _ _ (by omega), va_up_i, zer_s, va_up_up])
              replace hP5 := (congrArg (fun z9 => va_P D vwCl z9 _) hq9).mp hP5
              replace hD5 := (congrArg (fun z9 => va_D _ z9) hq9).mp hD5
              clear hq9
              refine lv_iinc (v := nI (i + 1)) (lv' := [(4, .int (nI (i + 1))), (0, .ref (mm 0)), (1, .int (nI i0)), (2, .int x2), (3, .int x3)]) hx hb dX7_sheet_106 hl2 (k := 0) rfl (nI_inc _) (by decide) rfl (fun ls3 hl3 => ?_)
              clear hl2 ls2
              refine lv_goto (tgt := 86) hx hb dX7_sheet_109 (by decide) ?_
              exact ih_86 (i + 1) (by first | omega | assumption | rfl | simp_all) (by (try dsimp only); omega) H5 locs5 ls3 hP5 hD5 hS5 (lv_sub hl3 [0, 1, 2, 3, 4] rfl)
        · refine lv_aload_n hx hb dX7_sheet_54 rfl (lv_at hl0 0 rfl) ?_
          refine lv_ldc (v := (-1000000001)) hx hb hown (hw _ kw_4_143) dX7_sheet_55 ?_
          refine cV_i (wc := [mO cy mm ik tl fm tz vl iw rm rr om, ia cy (mm 4) 7 C]) (wr := [ia cy (mm 11) 4 bi, ia cy (mm 12) 4 si, la cy (mm 13) 160 (numF f)]) (rest := []) hx hb hml hown hw hG hK hP1 hD1 hS1 hA hl0 kc_X7_finds kw_4_139 [.int (-1000000001)] (c_X7_finds l D cy G H1.size mm ik tl fm tz vl iw rm rr om C 0 (-1000000001) (by decide) (by decide)) [0, 1] [2, 3, 4] rfl rfl rfl rfl rfl 0 rfl rfl rfl rfl rfl (Nat.le_of_ble_eq_true rfl) ⟨Nat.le_of_ble_eq_true rfl, Nat.le_of_ble_eq_true rfl⟩ dX7_sheet_57 ⟨Nat.le_of_ble_eq_true rfl, Nat.le_of_ble_eq_true rfl⟩ (fun r_57 u9 H2 locs2 hu9 hP2 hD2 hS2 => ?_)
          clear hP1 hD1 hS1 locs1 H1
          have hr_57 := hu9
          replace hP2 : va_P D vwCl ([ia cy (mm 11) 4 bi, ia cy (mm 12) 4 si, la cy (mm 13) 160 (numF f), mO cy mm ik tl fm tz vl iw rm rr om, ia cy (mm 4) 7 (upd C 0 (C 0 + 1))]) H2 := hP2
          replace hD2 : va_D (va_A _ sz) ([ia cy (mm 11) 4 bi, ia cy (mm 12) 4 si, la cy (mm 13) 160 (numF f), mO cy mm ik tl fm tz vl iw rm rr om, ia cy (mm 4) 7 (upd C 0 (C 0 + 1))]) := hD2
          replace hP2 := hP2.sub (ws' := [mO cy mm ik tl fm tz vl iw rm rr om, ia cy (mm 4) 7 (upd C 0 (C 0 + 1)), ia cy (mm 11) 4 bi, ia cy (mm 12) 4 si, la cy (mm 13) 160 (numF f)]) [3, 4, 0, 1, 2] rfl
          replace hD2 := hD2.sub (ws' := [mO cy mm ik tl fm tz vl iw rm rr om, ia cy (mm 4) 7 (upd C 0 (C 0 + 1)), ia cy (mm 11) 4 bi, ia cy (mm 12) 4 si, la cy (mm 13) 160 (numF f)]) [3, 4, 0, 1, 2] (by decide) rfl
          subst hr_57
          have hcd : cLay x1 x2 x3 = 0 := by unfold cLay; clear hx hb hml hown hr hlocks hw hsz hA hG hK hP2 hD2 hS2 hl0; grind
          have hq9 : ([mO cy mm ik tl fm tz vl iw rm rr om, ia cy (mm 4) 7 (upd C 0 (C 0 + 1)), ia cy (mm 11) 4 bi, ia cy (mm 12) 4 si, la cy (mm 13) 160 (numF f)]) = ([mO cy mm ik tl fm tz vl iw rm rr om, ia cy (mm 4) 7 (fnd C (cLay x1 x2 x3)), ia cy (mm 11) 4 bi, ia cy (mm 12) 4 si, la cy (mm 13) 160 (numF f)]) := congrArg (fun z9 => [mO cy mm ik tl fm tz vl iw rm rr om, ia cy (mm 4) 7 z9, ia cy (mm 11) 4 bi, ia cy (mm 12) 4 si, la cy (mm 13) 160 (numF f)]) (show (upd C 0 (C 0 + 1)) = (fnd C (cLay x1 x2 x3)) from fnd_f hcd (by decide))
          replace hP2 := (congrArg (fun z9 => va_P D vwCl z9 _) hq9).mp hP2
          replace hD2 := (congrArg (fun z9 => va_D _ z9) hq9).mp hD2
          clear hq9
          have hq9 : ([mO cy mm ik tl fm tz vl iw rm rr om, ia cy (mm 4) 7 (fnd C (cLay x1 x2 x3)), ia cy (mm 11) 4 bi, ia cy (mm 12) 4 si, la cy (mm 13) 160 (numF f)]) = ([mO cy mm ik tl fm tz vl iw rm rr om, ia cy (mm 4) 7 (fnd C (cLay x1 x2 x3)), ia cy (mm 11) 4 (if cLay x1 x2 x3 = 7 then va_up bi (bstN x1) x2 else bi), ia cy (mm 12) 4 si, la cy (mm 13) 160 (numF f)]) := congrArg (fun z9 => [mO cy mm ik tl fm tz vl iw rm rr om, ia cy (mm 4) 7 (fnd C (cLay x1 x2 x3)), ia cy (mm 11) 4 z9, ia cy (mm 12) 4 si, la cy (mm 13) 160 (numF f)]) (show bi = (if cLay x1 x2 x3 = 7 then va_up bi (bstN x1) x2 else bi) from (if_neg (fun z9 => absurd (hcd.symm.trans z9) (by decide))).symm)
          replace hP2 := (congrArg (fun z9 => va_P D vwCl z9 _) hq9).mp hP2
          replace hD2 := (congrArg (fun z9 => va_D _ z9) hq9).mp hD2
          clear hq9
          have hq9 : ([mO cy mm ik tl fm tz vl iw rm rr om, ia cy (mm 4) 7 (fnd C (cLay x1 x2 x3)), ia cy (mm 11) 4 (if cLay x1 x2 x3 = 7 then va_up bi (bstN x1) x2 else bi), ia cy (mm 12) 4 si, la cy (mm 13) 160 (numF f)]) = ([mO cy mm ik tl fm tz vl iw rm rr om, ia cy (mm 4) 7 (fnd C (cLay x1 x2 x3)), ia cy (mm 11) 4 (if cLay x1 x2 x3 = 7 then va_up bi (bstN x1) x2 else bi), ia cy (mm 12) 4 (if cLay x1 x2 x3 = 7 then va_up si (bstN x1) (if x2 = 0 then 0 else x3) else si), la cy (mm 13) 160 (numF f)]) := congrArg (fun z9 => [mO cy mm ik tl fm tz vl iw rm rr om, ia cy (mm 4) 7 (fnd C (cLay x1 x2 x3)), ia cy (mm 11) 4 (if cLay x1 x2 x3 = 7 then va_up bi (bstN x1) x2 else bi), ia cy (mm 12) 4 z9, la cy (mm 13) 160 (numF f)]) (show si = (if cLay x1 x2 x3 = 7 then va_up si (bstN x1) (if x2 = 0 then 0 else x3) else si) from (if_neg (fun z9 => absurd (hcd.symm.trans z9) (by decide))).symm)
          replace hP2 := (congrArg (fun z9 => va_P D vwCl z9 _) hq9).mp hP2
          replace hD2 := (congrArg (fun z9 => va_D _ z9) hq9).mp hD2
          clear hq9
          have hq9 : ([mO cy mm ik tl fm tz vl iw rm rr om, ia cy (mm 4) 7 (fnd C (cLay x1 x2 x3)), ia cy (mm 11) 4 (if cLay x1 x2 x3 = 7 then va_up bi (bstN x1) x2 else bi), ia cy (mm 12) 4 (if cLay x1 x2 x3 = 7 then va_up si (bstN x1) (if x2 = 0 then 0 else x3) else si), la cy (mm 13) 160 (numF f)]) = ([mO cy mm ik tl fm tz vl iw rm rr om, ia cy (mm 4) 7 (fnd C (cLay x1 x2 x3)), ia cy (mm 11) 4 (if cLay x1 x2 x3 = 7 then va_up bi (bstN x1) x2 else bi), ia cy (mm 12) 4 (if cLay x1 x2 x3 = 7 then va_up si (bstN x1) (if x2 = 0 then 0 else x3) else si), la cy (mm 13) 160 (if cLay x1 x2 x3 = 7 then numF (va_up f (bstN x1) (fun _ => 0)) else numF f)]) := congrArg (fun z9 => [mO cy mm ik tl fm tz vl iw rm rr om, ia cy (mm 4) 7 (fnd C (cLay x1 x2 x3)), ia cy (mm 11) 4 (if cLay x1 x2 x3 = 7 then va_up bi (bstN x1) x2 else bi), ia cy (mm 12) 4 (if cLay x1 x2 x3 = 7 then va_up si (bstN x1) (if x2 = 0 then 0 else x3) else si), la cy (mm 13) 160 z9]) (show (numF f) = (if cLay x1 x2 x3 = 7 then numF (va_up f (bstN x1) (fun _ => 0)) else numF f) from (if_neg (fun z9 => absurd (hcd.symm.trans z9) (by decide))).symm)
          replace hP2 := (congrArg (fun z9 => va_P D vwCl z9 _) hq9).mp hP2
          replace hD2 := (congrArg (fun z9 => va_D _ z9) hq9).mp hD2
          clear hq9
          refine re_i () hx hb hr hlocks hP2 hD2 hS2 dX7_sheet_60 ?_
          exact (ans_f hcd (by decide) rfl)
      · refine lv_aload_n hx hb dX7_sheet_40 rfl (lv_at hl0 0 rfl) ?_
        refine lv_ldcw (v := (-1000000007)) hx hb hown (hw _ kw_5_199) dX7_sheet_41 ?_
        refine cV_i (wc := [mO cy mm ik tl fm tz vl iw rm rr om, ia cy (mm 4) 7 C]) (wr := [ia cy (mm 11) 4 bi, ia cy (mm 12) 4 si, la cy (mm 13) 160 (numF f)]) (rest := []) hx hb hml hown hw hG hK hP1 hD1 hS1 hA hl0 kc_X7_finds kw_4_139 [.int (-1000000007)] (c_X7_finds l D cy G H1.size mm ik tl fm tz vl iw rm rr om C 6 (-1000000007) (by decide) (by decide)) [0, 1] [2, 3, 4] rfl rfl rfl rfl rfl 0 rfl rfl rfl rfl rfl (Nat.le_of_ble_eq_true rfl) ⟨Nat.le_of_ble_eq_true rfl, Nat.le_of_ble_eq_true rfl⟩ dX7_sheet_44 ⟨Nat.le_of_ble_eq_true rfl, Nat.le_of_ble_eq_true rfl⟩ (fun r_44 u9 H2 locs2 hu9 hP2 hD2 hS2 => ?_)
        clear hP1 hD1 hS1 locs1 H1
        have hr_44 := hu9
        replace hP2 : va_P D vwCl ([ia cy (mm 11) 4 bi, ia cy (mm 12) 4 si, la cy (mm 13) 160 (numF f), mO cy mm ik tl fm tz vl iw rm rr om, ia cy (mm 4) 7 (upd C 6 (C 6 + 1))]) H2 := hP2
        replace hD2 : va_D (va_A _ sz) ([ia cy (mm 11) 4 bi, ia cy (mm 12) 4 si, la cy (mm 13) 160 (numF f), mO cy mm ik tl fm tz vl iw rm rr om, ia cy (mm 4) 7 (upd C 6 (C 6 + 1))]) := hD2
        replace hP2 := hP2.sub (ws' := [mO cy mm ik tl fm tz vl iw rm rr om, ia cy (mm 4) 7 (upd C 6 (C 6 + 1)), ia cy (mm 11) 4 bi, ia cy (mm 12) 4 si, la cy (mm 13) 160 (numF f)]) [3, 4, 0, 1, 2] rfl
        replace hD2 := hD2.sub (ws' := [mO cy mm ik tl fm tz vl iw rm rr om, ia cy (mm 4) 7 (upd C 6 (C 6 + 1)), ia cy (mm 11) 4 bi, ia cy (mm 12) 4 si, la cy (mm 13) 160 (numF f)]) [3, 4, 0, 1, 2] (by decide) rfl
        subst hr_44
        have hcd : cLay x1 x2 x3 = 6 := by unfold cLay; clear hx hb hml hown hr hlocks hw hsz hA hG hK hP2 hD2 hS2 hl0; grind
        have hq9 : ([mO cy mm ik tl fm tz vl iw rm rr om, ia cy (mm 4) 7 (upd C 6 (C 6 + 1)), ia cy (mm 11) 4 bi, ia cy (mm 12) 4 si, la cy (mm 13) 160 (numF f)]) = ([mO cy mm ik tl fm tz vl iw rm rr om, ia cy (mm 4) 7 (fnd C (cLay x1 x2 x3)), ia cy (mm 11) 4 bi, ia cy (mm 12) 4 si, la cy (mm 13) 160 (numF f)]) := congrArg (fun z9 => [mO cy mm ik tl fm tz vl iw rm rr om, ia cy (mm 4) 7 z9, ia cy (mm 11) 4 bi, ia cy (mm 12) 4 si, la cy (mm 13) 160 (numF f)]) (show (upd C 6 (C 6 + 1)) = (fnd C (cLay x1 x2 x3)) from fnd_f hcd (by decide))
        replace hP2 := (congrArg (fun z9 => va_P D vwCl z9 _) hq9).mp hP2
        replace hD2 := (congrArg (fun z9 => va_D _ z9) hq9).mp hD2
        clear hq9
        have hq9 : ([mO cy mm ik tl fm tz vl iw rm rr om, ia cy (mm 4) 7 (fnd C (cLay x1 x2 x3)), ia cy (mm 11) 4 bi, ia cy (mm 12) 4 si, la cy (mm 13) 160 (numF f)]) = ([mO cy mm ik tl fm tz vl iw rm rr om, ia cy (mm 4) 7 (fnd C (cLay x1 x2 x3)), ia cy (mm 11) 4 (if cLay x1 x2 x3 = 7 then va_up bi (bstN x1) x2 else bi), ia cy (mm 12) 4 si, la cy (mm 13) 160 (numF f)]) := congrArg (fun z9 => [mO cy mm ik tl fm tz vl iw rm rr om, ia cy (mm 4) 7 (fnd C (cLay x1 x2 x3)), ia cy (mm 11) 4 z9, ia cy (mm 12) 4 si, la cy (mm 13) 160 (numF f)]) (show bi = (if cLay x1 x2 x3 = 7 then va_up bi (bstN x1) x2 else bi) from (if_neg (fun z9 => absurd (hcd.symm.trans z9) (by decide))).symm)
        replace hP2 := (congrArg (fun z9 => va_P D vwCl z9 _) hq9).mp hP2
        replace hD2 := (congrArg (fun z9 => va_D _ z9) hq9).mp hD2
        clear hq9
        have hq9 : ([mO cy mm ik tl fm tz vl iw rm rr om, ia cy (mm 4) 7 (fnd C (cLay x1 x2 x3)), ia cy (mm 11) 4 (if cLay x1 x2 x3 = 7 then va_up bi (bstN x1) x2 else bi), ia cy (mm 12) 4 si, la cy (mm 13) 160 (numF f)]) = ([mO cy mm ik tl fm tz vl iw rm rr om, ia cy (mm 4) 7 (fnd C (cLay x1 x2 x3)), ia cy (mm 11) 4 (if cLay x1 x2 x3 = 7 then va_up bi (bstN x1) x2 else bi), ia cy (mm 12) 4 (if cLay x1 x2 x3 = 7 then va_up si (bstN x1) (if x2 = 0 then 0 else x3) else si), la cy (mm 13) 160 (numF f)]) := congrArg (fun z9 => [mO cy mm ik tl fm tz vl iw rm rr om, ia cy (mm 4) 7 (fnd C (cLay x1 x2 x3)), ia cy (mm 11) 4 (if cLay x1 x2 x3 = 7 then va_up bi (bstN x1) x2 else bi), ia cy (mm 12) 4 z9, la cy (mm 13) 160 (numF f)]) (show si = (if cLay x1 x2 x3 = 7 then va_up si (bstN x1) (if x2 = 0 then 0 else x3) else si) from (if_neg (fun z9 => absurd (hcd.symm.trans z9) (by decide))).symm)
        replace hP2 := (congrArg (fun z9 => va_P D vwCl z9 _) hq9).mp hP2
        replace hD2 := (congrArg (fun z9 => va_D _ z9) hq9).mp hD2
        clear hq9
        have hq9 : ([mO cy mm ik tl fm tz vl iw rm rr om, ia cy (mm 4) 7 (fnd C (cLay x1 x2 x3)), ia cy (mm 11) 4 (if cLay x1 x2 x3 = 7 then va_up bi (bstN x1) x2 else bi), ia cy (mm 12) 4 (if cLay x1 x2 x3 = 7 then va_up si (bstN x1) (if x2 = 0 then 0 else x3) else si), la cy (mm 13) 160 (numF f)]) = ([mO cy mm ik tl fm tz vl iw rm rr om, ia cy (mm 4) 7 (fnd C (cLay x1 x2 x3)), ia cy (mm 11) 4 (if cLay x1 x2 x3 = 7 then va_up bi (bstN x1) x2 else bi), ia cy (mm 12) 4 (if cLay x1 x2 x3 = 7 then va_up si (bstN x1) (if x2 = 0 then 0 else x3) else si), la cy (mm 13) 160 (if cLay x1 x2 x3 = 7 then numF (va_up f (bstN x1) (fun _ => 0)) else numF f)]) := congrArg (fun z9 => [mO cy mm ik tl fm tz vl iw rm rr om, ia cy (mm 4) 7 (fnd C (cLay x1 x2 x3)), ia cy (mm 11) 4 (if cLay x1 x2 x3 = 7 then va_up bi (bstN x1) x2 else bi), ia cy (mm 12) 4 (if cLay x1 x2 x3 = 7 then va_up si (bstN x1) (if x2 = 0 then 0 else x3) else si), la cy (mm 13) 160 z9]) (show (numF f) = (if cLay x1 x2 x3 = 7 then numF (va_up f (bstN x1) (fun _ => 0)) else numF f) from (if_neg (fun z9 => absurd (hcd.symm.trans z9) (by decide))).symm)
        replace hP2 := (congrArg (fun z9 => va_P D vwCl z9 _) hq9).mp hP2
        replace hD2 := (congrArg (fun z9 => va_D _ z9) hq9).mp hD2
        clear hq9
        refine re_i () hx hb hr hlocks hP2 hD2 hS2 dX7_sheet_47 ?_
        exact (ans_f hcd (by decide) rfl)
    · refine lv_iload_n hx hb dX7_sheet_11 rfl (lv_at hl0 2 rfl) ?_
      refine lv_bipush (v := 8) hx hb dX7_sheet_12 (by decide) ?_
      refine lv_icmp_eq (tgt := 36) hx hb dX7_sheet_14 (by decide) (fun c_14 => ?_) (fun c_14 => ?_)
      · refine lv_iload_n hx hb dX7_sheet_36 rfl (lv_at hl0 3 rfl) ?_
        refine lv_if_ge (tgt := 48) hx hb dX7_sheet_37 (by decide) (fun c_37 => ?_) (fun c_37 => ?_)
        · refine lv_iload_n hx hb dX7_sheet_48 rfl (lv_at hl0 3 rfl) ?_
          refine lv_bipush (v := 40) hx hb dX7_sheet_49 (by decide) ?_
          refine lv_icmp_le (tgt := 61) hx hb dX7_sheet_51 (by decide) (fun c_51 => ?_) (fun c_51 => ?_)
          · obtain ⟨i0, hi4, rfl⟩ := nI_rn (n := 4) (by decide) (x := x1) ⟨c_4.1, Int32.lt_of_le_of_lt c_4.2 (by decide)⟩
            have hbi : bstN (nI i0) = i0 := bst_n (by omega)
            have hs0 := hso i0 hi4
            have hs40 := hs0.2.1
            refine lv_aload_n hx hb dX7_sheet_61 rfl (lv_at hl0 0 rfl) ?_
            refine va_get (D := D) (ci := 7) (v := .ref (mm 11)) (C := RX7) (T := TX7) (N := 23) hx hb hw iX7 hown hK hP1 0 rfl rfl 19 (by decide) (hw _ kw_4_83) (fun _ h9 => h9) rfl dX7_sheet_62 ?_
            refine lv_iload_n hx hb dX7_sheet_65 rfl (lv_at hl0 1 rfl) ?_
            refine lv_iload_n hx hb dX7_sheet_66 rfl (lv_at hl0 2 rfl) ?_
            refine ast_i (f := bi) (ws' := [mO cy mm ik tl fm tz vl iw rm rr om, ia cy (mm 4) 7 C, ia cy (mm 11) 4 (upd bi i0 x2), ia cy (mm 12) 4 si, la cy (mm 13) 160 (numF f)]) hx hb hK hP1 hD1 hS1 2 0 rfl rfl i0 rfl (by first | omega | assumption) (by decide) rfl dX7_sheet_67 (fun H2 locs2 hP2 hD2 hS2 => ?_)
            clear hP1 hD1 hS1 locs1 H1
            have hq9 : ([mO cy mm ik tl fm tz vl iw rm rr om, ia cy (mm 4) 7 C, ia cy (mm 11) 4 (upd bi i0 x2), ia cy (mm 12) 4 si, la cy (mm 13) 160 (numF f)]) = ([mO cy mm ik tl fm tz vl iw rm rr om, ia cy (mm 4) 7 C, ia cy (mm 11) 4 (va_up bi i0 x2), ia cy (mm 12) 4 si, la cy (mm 13) 160 (numF f)]) := congrArg (fun z9 => [mO cy mm ik tl fm tz vl iw rm rr om, ia cy (mm 4) 7 C, ia cy (mm 11) 4 z9, ia cy (mm 12) 4 si, la cy (mm 13) 160 (numF f)]) (show (upd bi i0 x2) = (va_up bi i0 x2) from rfl)
            replace hP2 := (congrArg (fun z9 => va_P D vwCl z9 _) hq9).mp hP2
            replace hD2 := (congrArg (fun z9 => va_D _ z9) hq9).mp hD2
            clear hq9
            refine lv_aload_n hx hb dX7_sheet_68 rfl (lv_at hl0 0 rfl) ?_
            refine va_get (D := D) (ci := 7) (v := .ref (mm 12)) (C := RX7) (T := TX7) (N := 23) hx hb hw iX7 hown hK hP2 0 rfl rfl 20 (by decide) (hw _ kw_4_84) (fun _ h9 => h9) rfl dX7_sheet_69 ?_
            refine lv_iload_n hx hb dX7_sheet_72 rfl (lv_at hl0 1 rfl) ?_
            refine lv_iload_n hx hb dX7_sheet_73 rfl (lv_at hl0 2 rfl) ?_
            refine lv_if_ne (tgt := 81) hx hb dX7_sheet_74 (by decide) (fun c_74 => ?_) (fun c_74 => ?_)
            · refine lv_iload_n hx hb dX7_sheet_81 rfl (lv_at hl0 3 rfl) ?_
              refine tp (show (x3) = if x2 = 0 then 0 else x3 from (if_neg c_74).symm) ?_
              refine ast_i (f := si) (ws' := [mO cy mm ik tl fm tz vl iw rm rr om, ia cy (mm 4) 7 C, ia cy (mm 11) 4 (va_up bi i0 x2), ia cy (mm 12) 4 (upd si i0 (if x2 = 0 then 0 else x3)), la cy (mm 13) 160 (numF f)]) hx hb hK hP2 hD2 hS2 3 0 rfl rfl i0 rfl (by first | omega | assumption) (by decide) rfl dX7_sheet_82 (fun H3 locs3 hP3 hD3 hS3 => ?_)
              clear hP2 hD2 hS2 locs2 H2
              have hq9 : ([mO cy mm ik tl fm tz vl iw rm rr om, ia cy (mm 4) 7 C, ia cy (mm 11) 4 (va_up bi i0 x2), ia cy (mm 12) 4 (upd si i0 (if x2 = 0 then 0 else x3)), la cy (mm 13) 160 (numF f)]) = ([mO cy mm ik tl fm tz vl iw rm rr om, ia cy (mm 4) 7 C, ia cy (mm 11) 4 (va_up bi i0 x2), ia cy (mm 12) 4 (va_up si i0 (if x2 = 0 then 0 else x3)), la cy (mm 13) 160 (numF f)]) := congrArg (fun z9 => [mO cy mm ik tl fm tz vl iw rm rr om, ia cy (mm 4) 7 C, ia cy (mm 11) 4 (va_up bi i0 x2), ia cy (mm 12) 4 z9, la cy (mm 13) 160 (numF f)]) (show (upd si i0 (if x2 = 0 then 0 else x3)) = (va_up si i0 (if x2 = 0 then 0 else x3)) from rfl)
              replace hP3 := (congrArg (fun z9 => va_P D vwCl z9 _) hq9).mp hP3
              replace hD3 := (congrArg (fun z9 => va_D _ z9) hq9).mp hD3
              clear hq9
              refine lv_iconst (v := 0) hx hb dX7_sheet_83 (by decide) ?_
              refine lv_istore (lv' := [(4, .int 0), (0, .ref (mm 0)), (1, .int (nI i0)), (2, .int x2), (3, .int x3)]) hx hb dX7_sheet_84 hl0 (by decide) rfl (fun ls1 hl1 => ?_)
              clear hl0 ls0
              have hq9 : ([mO cy mm ik tl fm tz vl iw rm rr om, ia cy (mm 4) 7 C, ia cy (mm 11) 4 (va_up bi i0 x2), ia cy (mm 12) 4 (va_up si i0 (if x2 = 0 then 0 else x3)), la cy (mm 13) 160 (numF f)]) = ([mO cy mm ik tl fm tz vl iw rm rr om, ia cy (mm 4) 7 C, ia cy (mm 11) 4 (va_up bi i0 x2), ia cy (mm 12) 4 (va_up si i0 (if x2 = 0 then 0 else x3)), la cy (mm 13) 160 (numF (va_up f i0 (zer 0 (f i0))))]) := congrArg (fun z9 => [mO cy mm ik tl fm tz vl iw rm rr om, ia cy (mm 4) 7 C, ia cy (mm 11) 4 (va_up bi i0 x2), ia cy (mm 12) 4 (va_up si i0 (if x2 = 0 then 0 else x3)), la cy (mm 13) 160 z9]) (show (numF f) = (numF (va_up f i0 (zer 0 (f i0)))) from by rw [← zer_0, va_up_s])
              replace hP3 := (congrArg (fun z9 => va_P D vwCl z9 _) hq9).mp hP3
              replace hD3 := (congrArg (fun z9 => va_D _ z9) hq9).mp hD3
              clear hq9
              refine wlp (ι := Nat) (nL := 5) (fun x9 => (x9 ≤ 40)) (fun x9 => [mO cy mm ik tl fm tz vl iw rm rr om, ia cy (mm 4) 7 C, ia cy (mm 11) 4 (va_up bi i0 x2), ia cy (mm 12) 4 (va_up si i0 (if x2 = 0 then 0 else x3)), la cy (mm 13) 160 (numF (va_up f i0 (zer x9 (f i0))))]) (fun x9 => [(4, .int (nI x9)), (0, .ref (mm 0)), (1, .int (nI i0)), (2, .int x2), (3, .int x3)]) (fun x9 => []) (fun x9 => 40 - x9) 86 ?_ 0 (by first | omega | assumption | rfl | simp_all) rfl hP3 hD3 hS3 (lv_sub hl1 [0, 1, 2, 3, 4] rfl)
              clear hP3 hD3 hS3 locs3 H3 hl1 ls1
              intro x9 hI ih_86 H4 locs4 ls2 hP4 hD4 hS4 hl2
              obtain ⟨i, rfl⟩ : ∃ z9, z9 = x9 := ⟨_, rfl⟩
              have hi := hI
              replace hi : i ≤ 40 := hi
              replace hP4 : va_P D vwCl ([mO cy mm ik tl fm tz vl iw rm rr om, ia cy (mm 4) 7 C, ia cy (mm 11) 4 (va_up bi i0 x2), ia cy (mm 12) 4 (va_up si i0 (if x2 = 0 then 0 else x3)), la cy (mm 13) 160 (numF (va_up f i0 (zer i (f i0))))]) H4 := hP4
              replace hD4 : va_D (va_A _ sz) ([mO cy mm ik tl fm tz vl iw rm rr om, ia cy (mm 4) 7 C, ia cy (mm 11) 4 (va_up bi i0 x2), ia cy (mm 12) 4 (va_up si i0 (if x2 = 0 then 0 else x3)), la cy (mm 13) 160 (numF (va_up f i0 (zer i (f i0))))]) := hD4
              replace hl2 : lv_has ls2 5 [(4, .int (nI i)), (0, .ref (mm 0)), (1, .int (nI i0)), (2, .int x2), (3, .int x3)] := hl2
              show W p l e _ s m _ below meth c _ _ _ _ _ (F0 m 86 ls2 [])
              refine lv_iload hx hb dX7_sheet_86 (lv_at hl2 0 rfl) ?_
              refine lv_bipush (v := 40) hx hb dX7_sheet_88 (by decide) ?_
              refine ln_ge (tgt := 112) i 40 rfl rfl (by omega) (by omega) hx hb dX7_sheet_90 (by decide) (fun c_90 => ?_) (fun c_90 => ?_)
              · have hq9 : ([mO cy mm ik tl fm tz vl iw rm rr om, ia cy (mm 4) 7 C, ia cy (mm 11) 4 (va_up bi i0 x2), ia cy (mm 12) 4 (va_up si i0 (if x2 = 0 then 0 else x3)), la cy (mm 13) 160 (numF (va_up f i0 (zer i (f i0))))]) = ([mO cy mm ik tl fm tz vl iw rm rr om, ia cy (mm 4) 7 C, ia cy (mm 11) 4 (va_up bi i0 x2), ia cy (mm 12) 4 (va_up si i0 (if x2 = 0 then 0 else x3)), la cy (mm 13) 160 (numF (va_up f i0 (fun _ => 0)))]) := congrArg (fun z9 => [mO cy mm ik tl fm tz vl iw rm rr om, ia cy (mm 4) 7 C, ia cy (mm 11) 4 (va_up bi i0 x2), ia cy (mm 12) 4 (va_up si i0 (if x2 = 0 then 0 else x3)), la cy (mm 13) 160 z9]) (show (numF (va_up f i0 (zer i (f i0)))) = (numF (va_up f i0 (fun _ => 0))) from by rw [zer_e (n := 40) (by omega) hs0.2.2])
                replace hP4 := (congrArg (fun z9 => va_P D vwCl z9 _) hq9).mp hP4
                replace hD4 := (congrArg (fun z9 => va_D _ z9) hq9).mp hD4
                clear hq9
                refine lv_aload_n hx hb dX7_sheet_112 rfl (lv_at hl2 1 rfl) ?_
                refine va_get (D := D) (ci := 7) (v := .ref (mm 12)) (C := RX7) (T := TX7) (N := 23) hx hb hw iX7 hown hK hP4 0 rfl rfl 20 (by decide) (hw _ kw_4_84) (fun _ h9 => h9) rfl dX7_sheet_113 ?_
                refine lv_iload_n hx hb dX7_sheet_116 rfl (lv_at hl2 2 rfl) ?_
                refine ald_i (f := va_up si i0 (if x2 = 0 then 0 else x3)) hx hb hK hP4 3 0 rfl rfl i0 rfl (by first | omega | assumption) (by decide) dX7_sheet_117 ?_
                refine tp (show ((va_up si i0 (if x2 = 0 then 0 else x3)) i0) = if x2 = 0 then 0 else x3 from va_up_i _ _ _) ?_
                have hcd : cLay (nI i0) x2 x3 = 7 := by unfold cLay; clear hx hb hml hown hr hlocks hw hsz hA hG hK hP4 hD4 hS4 hl2 ih_86; grind
                have hq9 : ([mO cy mm ik tl fm tz vl iw rm rr om, ia cy (mm 4) 7 C, ia cy (mm 11) 4 (va_up bi i0 x2), ia cy (mm 12) 4 (va_up si i0 (if x2 = 0 then 0 else x3)), la cy (mm 13) 160 (numF (va_up f i0 (fun _ => 0)))]) = ([mO cy mm ik tl fm tz vl iw rm rr om, ia cy (mm 4) 7 (fnd C (cLay (nI i0) x2 x3)), ia cy (mm 11) 4 (va_up bi i0 x2), ia cy (mm 12) 4 (va_up si i0 (if x2 = 0 then 0 else x3)), la cy (mm 13) 160 (numF (va_up f i0 (fun _ => 0)))]) := congrArg (fun z9 => [mO cy mm ik tl fm tz vl iw rm rr om, ia cy (mm 4) 7 z9, ia cy (mm 11) 4 (va_up bi i0 x2), ia cy (mm 12) 4 (va_up si i0 (if x2 = 0 then 0 else x3)), la cy (mm 13) 160 (numF (va_up f i0 (fun _ => 0)))]) (show C = (fnd C (cLay (nI i0) x2 x3)) from fnd_o hcd)
                replace hP4 := (congrArg (fun z9 => va_P D vwCl z9 _) hq9).mp hP4
                replace hD4 := (congrArg (fun z9 => va_D _ z9) hq9).mp hD4
                clear hq9
                have hq9 : ([mO cy mm ik tl fm tz vl iw rm rr om, ia cy (mm 4) 7 (fnd C (cLay (nI i0) x2 x3)), ia cy (mm 11) 4 (va_up bi i0 x2), ia cy (mm 12) 4 (va_up si i0 (if x2 = 0 then 0 else x3)), la cy (mm 13) 160 (numF (va_up f i0 (fun _ => 0)))]) = ([mO cy mm ik tl fm tz vl iw rm rr om, ia cy (mm 4) 7 (fnd C (cLay (nI i0) x2 x3)), ia cy (mm 11) 4 (if cLay (nI i0) x2 x3 = 7 then va_up bi (bstN (nI i0)) x2 else bi), ia cy (mm 12) 4 (va_up si i0 (if x2 = 0 then 0 else x3)), la cy (mm 13) 160 (numF (va_up f i0 (fun _ => 0)))]) := congrArg (fun z9 => [mO cy mm ik tl fm tz vl iw rm rr om, ia cy (mm 4) 7 (fnd C (cLay (nI i0) x2 x3)), ia cy (mm 11) 4 z9, ia cy (mm 12) 4 (va_up si i0 (if x2 = 0 then 0 else x3)), la cy (mm 13) 160 (numF (va_up f i0 (fun _ => 0)))]) (show (va_up bi i0 x2) = (if cLay (nI i0) x2 x3 = 7 then va_up bi (bstN (nI i0)) x2 else bi) from by rw [if_pos hcd]; simp only [hbi])
                replace hP4 := (congrArg (fun z9 => va_P D vwCl z9 _) hq9).mp hP4
                replace hD4 := (congrArg (fun z9 => va_D _ z9) hq9).mp hD4
                clear hq9
                have hq9 : ([mO cy mm ik tl fm tz vl iw rm rr om, ia cy (mm 4) 7 (fnd C (cLay (nI i0) x2 x3)), ia cy (mm 11) 4 (if cLay (nI i0) x2 x3 = 7 then va_up bi (bstN (nI i0)) x2 else bi), ia cy (mm 12) 4 (va_up si i0 (if x2 = 0 then 0 else x3)), la cy (mm 13) 160 (numF (va_up f i0 (fun _ => 0)))]) = ([mO cy mm ik tl fm tz vl iw rm rr om, ia cy (mm 4) 7 (fnd C (cLay (nI i0) x2 x3)), ia cy (mm 11) 4 (if cLay (nI i0) x2 x3 = 7 then va_up bi (bstN (nI i0)) x2 else bi), ia cy (mm 12) 4 (if cLay (nI i0) x2 x3 = 7 then va_up si (bstN (nI i0)) (if x2 = 0 then 0 else x3) else si), la cy (mm 13) 160 (numF (va_up f i0 (fun _ => 0)))]) := congrArg (fun z9 => [mO cy mm ik tl fm tz vl iw rm rr om, ia cy (mm 4) 7 (fnd C (cLay (nI i0) x2 x3)), ia cy (mm 11) 4 (if cLay (nI i0) x2 x3 = 7 then va_up bi (bstN (nI i0)) x2 else bi), ia cy (mm 12) 4 z9, la cy (mm 13) 160 (numF (va_up f i0 (fun _ => 0)))]) (show (va_up si i0 (if x2 = 0 then 0 else x3)) = (if cLay (nI i0) x2 x3 = 7 then va_up si (bstN (nI i0)) (if x2 = 0 then 0 else x3) else si) from by rw [if_pos hcd]; simp only [hbi])
                replace hP4 := (congrArg (fun z9 => va_P D vwCl z9 _) hq9).mp hP4
                replace hD4 := (congrArg (fun z9 => va_D _ z9) hq9).mp hD4
                clear hq9
                have hq9 : ([mO cy mm ik tl fm tz vl iw rm rr om, ia cy (mm 4) 7 (fnd C (cLay (nI i0) x2 x3)), ia cy (mm 11) 4 (if cLay (nI i0) x2 x3 = 7 then va_up bi (bstN (nI i0)) x2 else bi), ia cy (mm 12) 4 (if cLay (nI i0) x2 x3 = 7 then va_up si (bstN (nI i0)) (if x2 = 0 then 0 else x3) else si), la cy (mm 13) 160 (numF (va_up f i0 (fun _ => 0)))]) = ([mO cy mm ik tl fm tz vl iw rm rr om, ia cy (mm 4) 7 (fnd C (cLay (nI i0) x2 x3)), ia cy (mm 11) 4 (if cLay (nI i0) x2 x3 = 7 then va_up bi (bstN (nI i0)) x2 else bi), ia cy (mm 12) 4 (if cLay (nI i0) x2 x3 = 7 then va_up si (bstN (nI i0)) (if x2 = 0 then 0 else x3) else si), la cy (mm 13) 160 (if cLay (nI i0) x2 x3 = 7 then numF (va_up f (bstN (nI i0)) (fun _ => 0)) else numF f)]) := congrArg (fun z9 => [mO cy mm ik tl fm tz vl iw rm rr om, ia cy (mm 4) 7 (fnd C (cLay (nI i0) x2 x3)), ia cy (mm 11) 4 (if cLay (nI i0) x2 x3 = 7 then va_up bi (bstN (nI i0)) x2 else bi), ia cy (mm 12) 4 (if cLay (nI i0) x2 x3 = 7 then va_up si (bstN (nI i0)) (if x2 = 0 then 0 else x3) else si), la cy (mm 13) 160 z9]) (show (numF (va_up f i0 (fun _ => 0))) = (if cLay (nI i0) x2 x3 = 7 then numF (va_up f (bstN (nI i0)) (fun _ => 0)) else numF f) from by rw [if_pos hcd]; simp only [hbi])
                replace hP4 := (congrArg (fun z9 => va_P D vwCl z9 _) hq9).mp hP4
                replace hD4 := (congrArg (fun z9 => va_D _ z9) hq9).mp hD4
                clear hq9
                refine re_i () hx hb hr hlocks hP4 hD4 hS4 dX7_sheet_118 ?_
                exact (ans_o hcd (rfl))
              · refine lv_aload_n hx hb dX7_sheet_93 rfl (lv_at hl2 1 rfl) ?_
                refine va_get (D := D) (ci := 7) (v := .ref (mm 13)) (C := RX7) (T := TX7) (N := 23) hx hb hw iX7 hown hK hP4 0 rfl rfl 21 (by decide) (hw _ kw_4_85) (fun _ h9 => h9) rfl dX7_sheet_94 ?_
                refine lv_bipush (v := 40) hx hb dX7_sheet_97 (by decide) ?_
                refine lv_iload_n hx hb dX7_sheet_99 rfl (lv_at hl2 2 rfl) ?_
                refine lv_imul hx hb dX7_sheet_100 ?_
                refine tp (show (40 * (nI i0)) = nI (40 * i0) from pk_mul _ _) ?_
                refine lv_iload hx hb dX7_sheet_101 (lv_at hl2 0 rfl) ?_
                refine lv_iadd hx hb dX7_sheet_103 ?_
                refine tp (show ((nI (40 * i0)) + (nI i)) = nI (40 * i0 + i) from nI_add _ _) ?_
                refine lv_lconst (v := 0) hx hb dX7_sheet_104 (by decide) ?_
                refine ast_l (f := numF (va_up f i0 (zer i (f i0)))) (ws' := [mO cy mm ik tl fm tz vl iw rm rr om, ia cy (mm 4) 7 C, ia cy (mm 11) 4 (va_up bi i0 x2), ia cy (mm 12) 4 (va_up si i0 (if x2 = 0 then 0 else x3)), la cy (mm 13) 160 (vp_updL (numF (va_up f i0 (zer i (f i0)))) (40 * i0 + i) 0)]) hx hb hK hP4 hD4 hS4 4 1 rfl rfl (40 * i0 + i) rfl (by first | omega | assumption) (by decide) rfl dX7_sheet_105 (fun H5 locs5 hP5 hD5 hS5 => ?_)
                clear hP4 hD4 hS4 locs4 H4
                have hq9 : ([mO cy mm ik tl fm tz vl iw rm rr om, ia cy (mm 4) 7 C, ia cy (mm 11) 4 (va_up bi i0 x2), ia cy (mm 12) 4 (va_up si i0 (if x2 = 0 then 0 else x3)), la cy (mm 13) 160 (vp_updL (numF (va_up f i0 (zer i (f i0)))) (40 * i0 + i) 0)]) = ([mO cy mm ik tl fm tz vl iw rm rr om, ia cy (mm 4) 7 C, ia cy (mm 11) 4 (va_up bi i0 x2), ia cy (mm 12) 4 (va_up si i0 (if x2 = 0 then 0 else x3)), la cy (mm 13) 160 (numF (va_up f i0 (zer (i + 1) (f i0))))]) := congrArg (fun z9 => [mO cy mm ik tl fm tz vl iw rm rr om, ia cy (mm 4) 7 C, ia cy (mm 11) 4 (va_up bi i0 x2), ia cy (mm 12) 4 (va_up si i0 (if x2 = 0 then 0 else x3)), la cy (mm 13) 160 z9]) (show (vp_updL (numF (va_up f i0 (zer i (f i0)))) (40 * i0 + i) 0) = (numF (va_up f i0 (zer (i + 1) (f i0)))) from by rw [numF_up _ _ (by omega), va_up_i, zer_s, va_up_up])
                replace hP5 := (congrArg (fun z9 => va_P D vwCl z9 _) hq9).mp hP5
                replace hD5 := (congrArg (fun z9 => va_D _ z9) hq9).mp hD5
                clear hq9
                refine lv_iinc (v := nI (i + 1)) (lv' := [(4, .int (nI (i + 1))), (0, .ref (mm 0)), (1, .int (nI i0)), (2, .int x2), (3, .int x3)]) hx hb dX7_sheet_106 hl2 (k := 0) rfl (nI_inc _) (by decide) rfl (fun ls3 hl3 => ?_)
                clear hl2 ls2
                refine lv_goto (tgt := 86) hx hb dX7_sheet_109 (by decide) ?_
                exact ih_86 (i + 1) (by first | omega | assumption | rfl | simp_all) (by (try dsimp only); omega) H5 locs5 ls3 hP5 hD5 hS5 (lv_sub hl3 [0, 1, 2, 3, 4] rfl)
            · refine lv_iconst (v := 0) hx hb dX7_sheet_77 (by decide) ?_
              refine lv_goto (tgt := 82) hx hb dX7_sheet_78 (by decide) ?_
              refine tp (show (0) = if x2 = 0 then 0 else x3 from (if_pos c_74).symm) ?_
              refine ast_i (f := si) (ws' := [mO cy mm ik tl fm tz vl iw rm rr om, ia cy (mm 4) 7 C, ia cy (mm 11) 4 (va_up bi i0 x2), ia cy (mm 12) 4 (upd si i0 (if x2 = 0 then 0 else x3)), la cy (mm 13) 160 (numF f)]) hx hb hK hP2 hD2 hS2 3 0 rfl rfl i0 rfl (by first | omega | assumption) (by decide) rfl dX7_sheet_82 (fun H3 locs3 hP3 hD3 hS3 => ?_)
              clear hP2 hD2 hS2 locs2 H2
              have hq9 : ([mO cy mm ik tl fm tz vl iw rm rr om, ia cy (mm 4) 7 C, ia cy (mm 11) 4 (va_up bi i0 x2), ia cy (mm 12) 4 (upd si i0 (if x2 = 0 then 0 else x3)), la cy (mm 13) 160 (numF f)]) = ([mO cy mm ik tl fm tz vl iw rm rr om, ia cy (mm 4) 7 C, ia cy (mm 11) 4 (va_up bi i0 x2), ia cy (mm 12) 4 (va_up si i0 (if x2 = 0 then 0 else x3)), la cy (mm 13) 160 (numF f)]) := congrArg (fun z9 => [mO cy mm ik tl fm tz vl iw rm rr om, ia cy (mm 4) 7 C, ia cy (mm 11) 4 (va_up bi i0 x2), ia cy (mm 12) 4 z9, la cy (mm 13) 160 (numF f)]) (show (upd si i0 (if x2 = 0 then 0 else x3)) = (va_up si i0 (if x2 = 0 then 0 else x3)) from rfl)
              replace hP3 := (congrArg (fun z9 => va_P D vwCl z9 _) hq9).mp hP3
              replace hD3 := (congrArg (fun z9 => va_D _ z9) hq9).mp hD3
              clear hq9
              refine lv_iconst (v := 0) hx hb dX7_sheet_83 (by decide) ?_
              refine lv_istore (lv' := [(4, .int 0), (0, .ref (mm 0)), (1, .int (nI i0)), (2, .int x2), (3, .int x3)]) hx hb dX7_sheet_84 hl0 (by decide) rfl (fun ls1 hl1 => ?_)
              clear hl0 ls0
              have hq9 : ([mO cy mm ik tl fm tz vl iw rm rr om, ia cy (mm 4) 7 C, ia cy (mm 11) 4 (va_up bi i0 x2), ia cy (mm 12) 4 (va_up si i0 (if x2 = 0 then 0 else x3)), la cy (mm 13) 160 (numF f)]) = ([mO cy mm ik tl fm tz vl iw rm rr om, ia cy (mm 4) 7 C, ia cy (mm 11) 4 (va_up bi i0 x2), ia cy (mm 12) 4 (va_up si i0 (if x2 = 0 then 0 else x3)), la cy (mm 13) 160 (numF (va_up f i0 (zer 0 (f i0))))]) := congrArg (fun z9 => [mO cy mm ik tl fm tz vl iw rm rr om, ia cy (mm 4) 7 C, ia cy (mm 11) 4 (va_up bi i0 x2), ia cy (mm 12) 4 (va_up si i0 (if x2 = 0 then 0 else x3)), la cy (mm 13) 160 z9]) (show (numF f) = (numF (va_up f i0 (zer 0 (f i0)))) from by rw [← zer_0, va_up_s])
              replace hP3 := (congrArg (fun z9 => va_P D vwCl z9 _) hq9).mp hP3
              replace hD3 := (congrArg (fun z9 => va_D _ z9) hq9).mp hD3
              clear hq9
              refine wlp (ι := Nat) (nL := 5) (fun x9 => (x9 ≤ 40)) (fun x9 => [mO cy mm ik tl fm tz vl iw rm rr om, ia cy (mm 4) 7 C, ia cy (mm 11) 4 (va_up bi i0 x2), ia cy (mm 12) 4 (va_up si i0 (if x2 = 0 then 0 else x3)), la cy (mm 13) 160 (numF (va_up f i0 (zer x9 (f i0))))]) (fun x9 => [(4, .int (nI x9)), (0, .ref (mm 0)), (1, .int (nI i0)), (2, .int x2), (3, .int x3)]) (fun x9 => []) (fun x9 => 40 - x9) 86 ?_ 0 (by first | omega | assumption | rfl | simp_all) rfl hP3 hD3 hS3 (lv_sub hl1 [0, 1, 2, 3, 4] rfl)
              clear hP3 hD3 hS3 locs3 H3 hl1 ls1
              intro x9 hI ih_86 H4 locs4 ls2 hP4 hD4 hS4 hl2
              obtain ⟨i, rfl⟩ : ∃ z9, z9 = x9 := ⟨_, rfl⟩
              have hi := hI
              replace hi : i ≤ 40 := hi
              replace hP4 : va_P D vwCl ([mO cy mm ik tl fm tz vl iw rm rr om, ia cy (mm 4) 7 C, ia cy (mm 11) 4 (va_up bi i0 x2), ia cy (mm 12) 4 (va_up si i0 (if x2 = 0 then 0 else x3)), la cy (mm 13) 160 (numF (va_up f i0 (zer i (f i0))))]) H4 := hP4
              replace hD4 : va_D (va_A _ sz) ([mO cy mm ik tl fm tz vl iw rm rr om, ia cy (mm 4) 7 C, ia cy (mm 11) 4 (va_up bi i0 x2), ia cy (mm 12) 4 (va_up si i0 (if x2 = 0 then 0 else x3)), la cy (mm 13) 160 (numF (va_up f i0 (zer i (f i0))))]) := hD4
              replace hl2 : lv_has ls2 5 [(4, .int (nI i)), (0, .ref (mm 0)), (1, .int (nI i0)), (2, .int x2), (3, .int x3)] := hl2
              show W p l e _ s m _ below meth c _ _ _ _ _ (F0 m 86 ls2 [])
              refine lv_iload hx hb dX7_sheet_86 (lv_at hl2 0 rfl) ?_
              refine lv_bipush (v := 40) hx hb dX7_sheet_88 (by decide) ?_
              refine ln_ge (tgt := 112) i 40 rfl rfl (by omega) (by omega) hx hb dX7_sheet_90 (by decide) (fun c_90 => ?_) (fun c_90 => ?_)
              · have hq9 : ([mO cy mm ik tl fm tz vl iw rm rr om, ia cy (mm 4) 7 C, ia cy (mm 11) 4 (va_up bi i0 x2), ia cy (mm 12) 4 (va_up si i0 (if x2 = 0 then 0 else x3)), la cy (mm 13) 160 (numF (va_up f i0 (zer i (f i0))))]) = ([mO cy mm ik tl fm tz vl iw rm rr om, ia cy (mm 4) 7 C, ia cy (mm 11) 4 (va_up bi i0 x2), ia cy (mm 12) 4 (va_up si i0 (if x2 = 0 then 0 else x3)), la cy (mm 13) 160 (numF (va_up f i0 (fun _ => 0)))]) := congrArg (fun z9 => [mO cy mm ik tl fm tz vl iw rm rr om, ia cy (mm 4) 7 C, ia cy (mm 11) 4 (va_up bi i0 x2), ia cy (mm 12) 4 (va_up si i0 (if x2 = 0 then 0 else x3)), la cy (mm 13) 160 z9]) (show (numF (va_up f i0 (zer i (f i0)))) = (numF (va_up f i0 (fun _ => 0))) from by rw [zer_e (n := 40) (by omega) hs0.2.2])
                replace hP4 := (congrArg (fun z9 => va_P D vwCl z9 _) hq9).mp hP4
                replace hD4 := (congrArg (fun z9 => va_D _ z9) hq9).mp hD4
                clear hq9
                refine lv_aload_n hx hb dX7_sheet_112 rfl (lv_at hl2 1 rfl) ?_
                refine va_get (D := D) (ci := 7) (v := .ref (mm 12)) (C := RX7) (T := TX7) (N := 23) hx hb hw iX7 hown hK hP4 0 rfl rfl 20 (by decide) (hw _ kw_4_84) (fun _ h9 => h9) rfl dX7_sheet_113 ?_
                refine lv_iload_n hx hb dX7_sheet_116 rfl (lv_at hl2 2 rfl) ?_
                refine ald_i (f := va_up si i0 (if x2 = 0 then 0 else x3)) hx hb hK hP4 3 0 rfl rfl i0 rfl (by first | omega | assumption) (by decide) dX7_sheet_117 ?_
                refine tp (show ((va_up si i0 (if x2 = 0 then 0 else x3)) i0) = if x2 = 0 then 0 else x3 from va_up_i _ _ _) ?_
                have hcd : cLay (nI i0) x2 x3 = 7 := by unfold cLay; clear hx hb hml hown hr hlocks hw hsz hA hG hK hP4 hD4 hS4 hl2 ih_86; grind
                have hq9 : ([mO cy mm ik tl fm tz vl iw rm rr om, ia cy (mm 4) 7 C, ia cy (mm 11) 4 (va_up bi i0 x2), ia cy (mm 12) 4 (va_up si i0 (if x2 = 0 then 0 else x3)), la cy (mm 13) 160 (numF (va_up f i0 (fun _ => 0)))]) = ([mO cy mm ik tl fm tz vl iw rm rr om, ia cy (mm 4) 7 (fnd C (cLay (nI i0) x2 x3)), ia cy (mm 11) 4 (va_up bi i0 x2), ia cy (mm 12) 4 (va_up si i0 (if x2 = 0 then 0 else x3)), la cy (mm 13) 160 (numF (va_up f i0 (fun _ => 0)))]) := congrArg (fun z9 => [mO cy mm ik tl fm tz vl iw rm rr om, ia cy (mm 4) 7 z9, ia cy (mm 11) 4 (va_up bi i0 x2), ia cy (mm 12) 4 (va_up si i0 (if x2 = 0 then 0 else x3)), la cy (mm 13) 160 (numF (va_up f i0 (fun _ => 0)))]) (show C = (fnd C (cLay (nI i0) x2 x3)) from fnd_o hcd)
                replace hP4 := (congrArg (fun z9 => va_P D vwCl z9 _) hq9).mp hP4
                replace hD4 := (congrArg (fun z9 => va_D _ z9) hq9).mp hD4
                clear hq9
                have hq9 : ([mO cy mm ik tl fm tz vl iw rm rr om, ia cy (mm 4) 7 (fnd C (cLay (nI i0) x2 x3)), ia cy (mm 11) 4 (va_up bi i0 x2), ia cy (mm 12) 4 (va_up si i0 (if x2 = 0 then 0 else x3)), la cy (mm 13) 160 (numF (va_up f i0 (fun _ => 0)))]) = ([mO cy mm ik tl fm tz vl iw rm rr om, ia cy (mm 4) 7 (fnd C (cLay (nI i0) x2 x3)), ia cy (mm 11) 4 (if cLay (nI i0) x2 x3 = 7 then va_up bi (bstN (nI i0)) x2 else bi), ia cy (mm 12) 4 (va_up si i0 (if x2 = 0 then 0 else x3)), la cy (mm 13) 160 (numF (va_up f i0 (fun _ => 0)))]) := congrArg (fun z9 => [mO cy mm ik tl fm tz vl iw rm rr om, ia cy (mm 4) 7 (fnd C (cLay (nI i0) x2 x3)), ia cy (mm 11) 4 z9, ia cy (mm 12) 4 (va_up si i0 (if x2 = 0 then 0 else x3)), la cy (mm 13) 160 (numF (va_up f i0 (fun _ => 0)))]) (show (va_up bi i0 x2) = (if cLay (nI i0) x2 x3 = 7 then va_up bi (bstN (nI i0)) x2 else bi) from by rw [if_pos hcd]; simp only [hbi])
                replace hP4 := (congrArg (fun z9 => va_P D vwCl z9 _) hq9).mp hP4
                replace hD4 := (congrArg (fun z9 => va_D _ z9) hq9).mp hD4
                clear hq9
                have hq9 : ([mO cy mm ik tl fm tz vl iw rm rr om, ia cy (mm 4) 7 (fnd C (cLay (nI i0) x2 x3)), ia cy (mm 11) 4 (if cLay (nI i0) x2 x3 = 7 then va_up bi (bstN (nI i0)) x2 else bi), ia cy (mm 12) 4 (va_up si i0 (if x2 = 0 then 0 else x3)), la cy (mm 13) 160 (numF (va_up f i0 (fun _ => 0)))]) = ([mO cy mm ik tl fm tz vl iw rm rr om, ia cy (mm 4) 7 (fnd C (cLay (nI i0) x2 x3)), ia cy (mm 11) 4 (if cLay (nI i0) x2 x3 = 7 then va_up bi (bstN (nI i0)) x2 else bi), ia cy (mm 12) 4 (if cLay (nI i0) x2 x3 = 7 then va_up si (bstN (nI i0)) (if x2 = 0 then 0 else x3) else si), la cy (mm 13) 160 (numF (va_up f i0 (fun _ => 0)))]) := congrArg (fun z9 => [mO cy mm ik tl fm tz vl iw rm rr om, ia cy (mm 4) 7 (fnd C (cLay (nI i0) x2 x3)), ia cy (mm 11) 4 (if cLay (nI i0) x2 x3 = 7 then va_up bi (bstN (nI i0)) x2 else bi), ia cy (mm 12) 4 z9, la cy (mm 13) 160 (numF (va_up f i0 (fun _ => 0)))]) (show (va_up si i0 (if x2 = 0 then 0 else x3)) = (if cLay (nI i0) x2 x3 = 7 then va_up si (bstN (nI i0)) (if x2 = 0 then 0 else x3) else si) from by rw [if_pos hcd]; simp only [hbi])
                replace hP4 := (congrArg (fun z9 => va_P D vwCl z9 _) hq9).mp hP4
                replace hD4 := (congrArg (fun z9 => va_D _ z9) hq9).mp hD4
                clear hq9
                have hq9 : ([mO cy mm ik tl fm tz vl iw rm rr om, ia cy (mm 4) 7 (fnd C (cLay (nI i0) x2 x3)), ia cy (mm 11) 4 (if cLay (nI i0) x2 x3 = 7 then va_up bi (bstN (nI i0)) x2 else bi), ia cy (mm 12) 4 (if cLay (nI i0) x2 x3 = 7 then va_up si (bstN (nI i0)) (if x2 = 0 then 0 else x3) else si), la cy (mm 13) 160 (numF (va_up f i0 (fun _ => 0)))]) = ([mO cy mm ik tl fm tz vl iw rm rr om, ia cy (mm 4) 7 (fnd C (cLay (nI i0) x2 x3)), ia cy (mm 11) 4 (if cLay (nI i0) x2 x3 = 7 then va_up bi (bstN (nI i0)) x2 else bi), ia cy (mm 12) 4 (if cLay (nI i0) x2 x3 = 7 then va_up si (bstN (nI i0)) (if x2 = 0 then 0 else x3) else si), la cy (mm 13) 160 (if cLay (nI i0) x2 x3 = 7 then numF (va_up f (bstN (nI i0)) (fun _ => 0)) else numF f)]) := congrArg (fun z9 => [mO cy mm ik tl fm tz vl iw rm rr om, ia cy (mm 4) 7 (fnd C (cLay (nI i0) x2 x3)), ia cy (mm 11) 4 (if cLay (nI i0) x2 x3 = 7 then va_up bi (bstN (nI i0)) x2 else bi), ia cy (mm 12) 4 (if cLay (nI i0) x2 x3 = 7 then va_up si (bstN (nI i0)) (if x2 = 0 then 0 else x3) else si), la cy (mm 13) 160 z9]) (show (numF (va_up f i0 (fun _ => 0))) = (if cLay (nI i0) x2 x3 = 7 then numF (va_up f (bstN (nI i0)) (fun _ => 0)) else numF f) from by rw [if_pos hcd]; simp only [hbi])
                replace hP4 := (congrArg (fun z9 => va_P D vwCl z9 _) hq9).mp hP4
                replace hD4 := (congrArg (fun z9 => va_D _ z9) hq9).mp hD4
                clear hq9
                refine re_i () hx hb hr hlocks hP4 hD4 hS4 dX7_sheet_118 ?_
                exact (ans_o hcd (rfl))
              · refine lv_aload_n hx hb dX7_sheet_93 rfl (lv_at hl2 1 rfl) ?_
                refine va_get (D := D) (ci := 7) (v := .ref (mm 13)) (C := RX7) (T := TX7) (N := 23) hx hb hw iX7 hown hK hP4 0 rfl rfl 21 (by decide) (hw _ kw_4_85) (fun _ h9 => h9) rfl dX7_sheet_94 ?_
                refine lv_bipush (v := 40) hx hb dX7_sheet_97 (by decide) ?_
                refine lv_iload_n hx hb dX7_sheet_99 rfl (lv_at hl2 2 rfl) ?_
                refine lv_imul hx hb dX7_sheet_100 ?_
                refine tp (show (40 * (nI i0)) = nI (40 * i0) from pk_mul _ _) ?_
                refine lv_iload hx hb dX7_sheet_101 (lv_at hl2 0 rfl) ?_
                refine lv_iadd hx hb dX7_sheet_103 ?_
                refine tp (show ((nI (40 * i0)) + (nI i)) = nI (40 * i0 + i) from nI_add _ _) ?_
                refine lv_lconst (v := 0) hx hb dX7_sheet_104 (by decide) ?_
                refine ast_l (f := numF (va_up f i0 (zer i (f i0)))) (ws' := [mO cy mm ik tl fm tz vl iw rm rr om, ia cy (mm 4) 7 C, ia cy (mm 11) 4 (va_up bi i0 x2), ia cy (mm 12) 4 (va_up si i0 (if x2 = 0 then 0 else x3)), la cy (mm 13) 160 (vp_updL (numF (va_up f i0 (zer i (f i0)))) (40 * i0 + i) 0)]) hx hb hK hP4 hD4 hS4 4 1 rfl rfl (40 * i0 + i) rfl (by first | omega | assumption) (by decide) rfl dX7_sheet_105 (fun H5 locs5 hP5 hD5 hS5 => ?_)
                clear hP4 hD4 hS4 locs4 H4
                have hq9 : ([mO cy mm ik tl fm tz vl iw rm rr om, ia cy (mm 4) 7 C, ia cy (mm 11) 4 (va_up bi i0 x2), ia cy (mm 12) 4 (va_up si i0 (if x2 = 0 then 0 else x3)), la cy (mm 13) 160 (vp_updL (numF (va_up f i0 (zer i (f i0)))) (40 * i0 + i) 0)]) = ([mO cy mm ik tl fm tz vl iw rm rr om, ia cy (mm 4) 7 C, ia cy (mm 11) 4 (va_up bi i0 x2), ia cy (mm 12) 4 (va_up si i0 (if x2 = 0 then 0 else x3)), la cy (mm 13) 160 (numF (va_up f i0 (zer (i + 1) (f i0))))]) := congrArg (fun z9 => [mO cy mm ik tl fm tz vl iw rm rr om, ia cy (mm 4) 7 C, ia cy (mm 11) 4 (va_up bi i0 x2), ia cy (mm 12) 4 (va_up si i0 (if x2 = 0 then 0 else x3)), la cy (mm 13) 160 z9]) (show (vp_updL (numF (va_up f i0 (zer i (f i0)))) (40 * i0 + i) 0) = (numF (va_up f i0 (zer (i + 1) (f i0)))) from by rw [numF_up _ _ (by omega), va_up_i, zer_s, va_up_up])
                replace hP5 := (congrArg (fun z9 => va_P D vwCl z9 _) hq9).mp hP5
                replace hD5 := (congrArg (fun z9 => va_D _ z9) hq9).mp hD5
                clear hq9
                refine lv_iinc (v := nI (i + 1)) (lv' := [(4, .int (nI (i + 1))), (0, .ref (mm 0)), (1, .int (nI i0)), (2, .int x2), (3, .int x3)]) hx hb dX7_sheet_106 hl2 (k := 0) rfl (nI_inc _) (by decide) rfl (fun ls3 hl3 => ?_)
                clear hl2 ls2
                refine lv_goto (tgt := 86) hx hb dX7_sheet_109 (by decide) ?_
                exact ih_86 (i + 1) (by first | omega | assumption | rfl | simp_all) (by (try dsimp only); omega) H5 locs5 ls3 hP5 hD5 hS5 (lv_sub hl3 [0, 1, 2, 3, 4] rfl)
          · refine lv_aload_n hx hb dX7_sheet_54 rfl (lv_at hl0 0 rfl) ?_
            refine lv_ldc (v := (-1000000001)) hx hb hown (hw _ kw_4_143) dX7_sheet_55 ?_
            refine cV_i (wc := [mO cy mm ik tl fm tz vl iw rm rr om, ia cy (mm 4) 7 C]) (wr := [ia cy (mm 11) 4 bi, ia cy (mm 12) 4 si, la cy (mm 13) 160 (numF f)]) (rest := []) hx hb hml hown hw hG hK hP1 hD1 hS1 hA hl0 kc_X7_finds kw_4_139 [.int (-1000000001)] (c_X7_finds l D cy G H1.size mm ik tl fm tz vl iw rm rr om C 0 (-1000000001) (by decide) (by decide)) [0, 1] [2, 3, 4] rfl rfl rfl rfl rfl 0 rfl rfl rfl rfl rfl (Nat.le_of_ble_eq_true rfl) ⟨Nat.le_of_ble_eq_true rfl, Nat.le_of_ble_eq_true rfl⟩ dX7_sheet_57 ⟨Nat.le_of_ble_eq_true rfl, Nat.le_of_ble_eq_true rfl⟩ (fun r_57 u9 H2 locs2 hu9 hP2 hD2 hS2 => ?_)
            clear hP1 hD1 hS1 locs1 H1
            have hr_57 := hu9
            replace hP2 : va_P D vwCl ([ia cy (mm 11) 4 bi, ia cy (mm 12) 4 si, la cy (mm 13) 160 (numF f), mO cy mm ik tl fm tz vl iw rm rr om, ia cy (mm 4) 7 (upd C 0 (C 0 + 1))]) H2 := hP2
            replace hD2 : va_D (va_A _ sz) ([ia cy (mm 11) 4 bi, ia cy (mm 12) 4 si, la cy (mm 13) 160 (numF f), mO cy mm ik tl fm tz vl iw rm rr om, ia cy (mm 4) 7 (upd C 0 (C 0 + 1))]) := hD2
            replace hP2 := hP2.sub (ws' := [mO cy mm ik tl fm tz vl iw rm rr om, ia cy (mm 4) 7 (upd C 0 (C 0 + 1)), ia cy (mm 11) 4 bi, ia cy (mm 12) 4 si, la cy (mm 13) 160 (numF f)]) [3, 4, 0, 1, 2] rfl
            replace hD2 := hD2.sub (ws' := [mO cy mm ik tl fm tz vl iw rm rr om, ia cy (mm 4) 7 (upd C 0 (C 0 + 1)), ia cy (mm 11) 4 bi, ia cy (mm 12) 4 si, la cy (mm 13) 160 (numF f)]) [3, 4, 0, 1, 2] (by decide) rfl
            subst hr_57
            have hcd : cLay x1 x2 x3 = 0 := by unfold cLay; clear hx hb hml hown hr hlocks hw hsz hA hG hK hP2 hD2 hS2 hl0; grind
            have hq9 : ([mO cy mm ik tl fm tz vl iw rm rr om, ia cy (mm 4) 7 (upd C 0 (C 0 + 1)), ia cy (mm 11) 4 bi, ia cy (mm 12) 4 si, la cy (mm 13) 160 (numF f)]) = ([mO cy mm ik tl fm tz vl iw rm rr om, ia cy (mm 4) 7 (fnd C (cLay x1 x2 x3)), ia cy (mm 11) 4 bi, ia cy (mm 12) 4 si, la cy (mm 13) 160 (numF f)]) := congrArg (fun z9 => [mO cy mm ik tl fm tz vl iw rm rr om, ia cy (mm 4) 7 z9, ia cy (mm 11) 4 bi, ia cy (mm 12) 4 si, la cy (mm 13) 160 (numF f)]) (show (upd C 0 (C 0 + 1)) = (fnd C (cLay x1 x2 x3)) from fnd_f hcd (by decide))
            replace hP2 := (congrArg (fun z9 => va_P D vwCl z9 _) hq9).mp hP2
            replace hD2 := (congrArg (fun z9 => va_D _ z9) hq9).mp hD2
            clear hq9
            have hq9 : ([mO cy mm ik tl fm tz vl iw rm rr om, ia cy (mm 4) 7 (fnd C (cLay x1 x2 x3)), ia cy (mm 11) 4 bi, ia cy (mm 12) 4 si, la cy (mm 13) 160 (numF f)]) = ([mO cy mm ik tl fm tz vl iw rm rr om, ia cy (mm 4) 7 (fnd C (cLay x1 x2 x3)), ia cy (mm 11) 4 (if cLay x1 x2 x3 = 7 then va_up bi (bstN x1) x2 else bi), ia cy (mm 12) 4 si, la cy (mm 13) 160 (numF f)]) := congrArg (fun z9 => [mO cy mm ik tl fm tz vl iw rm rr om, ia cy (mm 4) 7 (fnd C (cLay x1 x2 x3)), ia cy (mm 11) 4 z9, ia cy (mm 12) 4 si, la cy (mm 13) 160 (numF f)]) (show bi = (if cLay x1 x2 x3 = 7 then va_up bi (bstN x1) x2 else bi) from (if_neg (fun z9 => absurd (hcd.symm.trans z9) (by decide))).symm)
            replace hP2 := (congrArg (fun z9 => va_P D vwCl z9 _) hq9).mp hP2
            replace hD2 := (congrArg (fun z9 => va_D _ z9) hq9).mp hD2
            clear hq9
            have hq9 : ([mO cy mm ik tl fm tz vl iw rm rr om, ia cy (mm 4) 7 (fnd C (cLay x1 x2 x3)), ia cy (mm 11) 4 (if cLay x1 x2 x3 = 7 then va_up bi (bstN x1) x2 else bi), ia cy (mm 12) 4 si, la cy (mm 13) 160 (numF f)]) = ([mO cy mm ik tl fm tz vl iw rm rr om, ia cy (mm 4) 7 (fnd C (cLay x1 x2 x3)), ia cy (mm 11) 4 (if cLay x1 x2 x3 = 7 then va_up bi (bstN x1) x2 else bi), ia cy (mm 12) 4 (if cLay x1 x2 x3 = 7 then va_up si (bstN x1) (if x2 = 0 then 0 else x3) else si), la cy (mm 13) 160 (numF f)]) := congrArg (fun z9 => [mO cy mm ik tl fm tz vl iw rm rr om, ia cy (mm 4) 7 (fnd C (cLay x1 x2 x3)), ia cy (mm 11) 4 (if cLay x1 x2 x3 = 7 then va_up bi (bstN x1) x2 else bi), ia cy (mm 12) 4 z9, la cy (mm 13) 160 (numF f)]) (show si = (if cLay x1 x2 x3 = 7 then va_up si (bstN x1) (if x2 = 0 then 0 else x3) else si) from (if_neg (fun z9 => absurd (hcd.symm.trans z9) (by decide))).symm)
            replace hP2 := (congrArg (fun z9 => va_P D vwCl z9 _) hq9).mp hP2
            replace hD2 := (congrArg (fun z9 => va_D _ z9) hq9).mp hD2
            clear hq9
            have hq9 : ([mO cy mm ik tl fm tz vl iw rm rr om, ia cy (mm 4) 7 (fnd C (cLay x1 x2 x3)), ia cy (mm 11) 4 (if cLay x1 x2 x3 = 7 then va_up bi (bstN x1) x2 else bi), ia cy (mm 12) 4 (if cLay x1 x2 x3 = 7 then va_up si (bstN x1) (if x2 = 0 then 0 else x3) else si), la cy (mm 13) 160 (numF f)]) = ([mO cy mm ik tl fm tz vl iw rm rr om, ia cy (mm 4) 7 (fnd C (cLay x1 x2 x3)), ia cy (mm 11) 4 (if cLay x1 x2 x3 = 7 then va_up bi (bstN x1) x2 else bi), ia cy (mm 12) 4 (if cLay x1 x2 x3 = 7 then va_up si (bstN x1) (if x2 = 0 then 0 else x3) else si), la cy (mm 13) 160 (if cLay x1 x2 x3 = 7 then numF (va_up f (bstN x1) (fun _ => 0)) else numF f)]) := congrArg (fun z9 => [mO cy mm ik tl fm tz vl iw rm rr om, ia cy (mm 4) 7 (fnd C (cLay x1 x2 x3)), ia cy (mm 11) 4 (if cLay x1 x2 x3 = 7 then va_up bi (bstN x1) x2 else bi), ia cy (mm 12) 4 (if cLay x1 x2 x3 = 7 then va_up si (bstN x1) (if x2 = 0 then 0 else x3) else si), la cy (mm 13) 160 z9]) (show (numF f) = (if cLay x1 x2 x3 = 7 then numF (va_up f (bstN x1) (fun _ => 0)) else numF f) from (if_neg (fun z9 => absurd (hcd.symm.trans z9) (by decide))).symm)
            replace hP2 := (congrArg (fun z9 => va_P D vwCl z9 _) hq9).mp hP2
            replace hD2 := (congrArg (fun z9 => va_D _ z9) hq9).mp hD2
            clear hq9
            refine re_i () hx hb hr hlocks hP2 hD2 hS2 dX7_sheet_60 ?_
            exact (ans_f hcd (by decide) rfl)
        · refine lv_aload_n hx hb dX7_sheet_40 rfl (lv_at hl0 0 rfl) ?_
          refine lv_ldcw (v := (-1000000007)) hx hb hown (hw _ kw_5_199) dX7_sheet_41 ?_
          refine cV_i (wc := [mO cy mm ik tl fm tz vl iw rm rr om, ia cy (mm 4) 7 C]) (wr := [ia cy (mm 11) 4 bi, ia cy (mm 12) 4 si, la cy (mm 13) 160 (numF f)]) (rest := []) hx hb hml hown hw hG hK hP1 hD1 hS1 hA hl0 kc_X7_finds kw_4_139 [.int (-1000000007)] (c_X7_finds l D cy G H1.size mm ik tl fm tz vl iw rm rr om C 6 (-1000000007) (by decide) (by decide)) [0, 1] [2, 3, 4] rfl rfl rfl rfl rfl 0 rfl rfl rfl rfl rfl (Nat.le_of_ble_eq_true rfl) ⟨Nat.le_of_ble_eq_true rfl, Nat.le_of_ble_eq_true rfl⟩ dX7_sheet_44 ⟨Nat.le_of_ble_eq_true rfl, Nat.le_of_ble_eq_true rfl⟩ (fun r_44 u9 H2 locs2 hu9 hP2 hD2 hS2 => ?_)
          clear hP1 hD1 hS1 locs1 H1
          have hr_44 := hu9
          replace hP2 : va_P D vwCl ([ia cy (mm 11) 4 bi, ia cy (mm 12) 4 si, la cy (mm 13) 160 (numF f), mO cy mm ik tl fm tz vl iw rm rr om, ia cy (mm 4) 7 (upd C 6 (C 6 + 1))]) H2 := hP2
          replace hD2 : va_D (va_A _ sz) ([ia cy (mm 11) 4 bi, ia cy (mm 12) 4 si, la cy (mm 13) 160 (numF f), mO cy mm ik tl fm tz vl iw rm rr om, ia cy (mm 4) 7 (upd C 6 (C 6 + 1))]) := hD2
          replace hP2 := hP2.sub (ws' := [mO cy mm ik tl fm tz vl iw rm rr om, ia cy (mm 4) 7 (upd C 6 (C 6 + 1)), ia cy (mm 11) 4 bi, ia cy (mm 12) 4 si, la cy (mm 13) 160 (numF f)]) [3, 4, 0, 1, 2] rfl
          replace hD2 := hD2.sub (ws' := [mO cy mm ik tl fm tz vl iw rm rr om, ia cy (mm 4) 7 (upd C 6 (C 6 + 1)), ia cy (mm 11) 4 bi, ia cy (mm 12) 4 si, la cy (mm 13) 160 (numF f)]) [3, 4, 0, 1, 2] (by decide) rfl
          subst hr_44
          have hcd : cLay x1 x2 x3 = 6 := by unfold cLay; clear hx hb hml hown hr hlocks hw hsz hA hG hK hP2 hD2 hS2 hl0; grind
          have hq9 : ([mO cy mm ik tl fm tz vl iw rm rr om, ia cy (mm 4) 7 (upd C 6 (C 6 + 1)), ia cy (mm 11) 4 bi, ia cy (mm 12) 4 si, la cy (mm 13) 160 (numF f)]) = ([mO cy mm ik tl fm tz vl iw rm rr om, ia cy (mm 4) 7 (fnd C (cLay x1 x2 x3)), ia cy (mm 11) 4 bi, ia cy (mm 12) 4 si, la cy (mm 13) 160 (numF f)]) := congrArg (fun z9 => [mO cy mm ik tl fm tz vl iw rm rr om, ia cy (mm 4) 7 z9, ia cy (mm 11) 4 bi, ia cy (mm 12) 4 si, la cy (mm 13) 160 (numF f)]) (show (upd C 6 (C 6 + 1)) = (fnd C (cLay x1 x2 x3)) from fnd_f hcd (by decide))
          replace hP2 := (congrArg (fun z9 => va_P D vwCl z9 _) hq9).mp hP2
          replace hD2 := (congrArg (fun z9 => va_D _ z9) hq9).mp hD2
          clear hq9
          have hq9 : ([mO cy mm ik tl fm tz vl iw rm rr om, ia cy (mm 4) 7 (fnd C (cLay x1 x2 x3)), ia cy (mm 11) 4 bi, ia cy (mm 12) 4 si, la cy (mm 13) 160 (numF f)]) = ([mO cy mm ik tl fm tz vl iw rm rr om, ia cy (mm 4) 7 (fnd C (cLay x1 x2 x3)), ia cy (mm 11) 4 (if cLay x1 x2 x3 = 7 then va_up bi (bstN x1) x2 else bi), ia cy (mm 12) 4 si, la cy (mm 13) 160 (numF f)]) := congrArg (fun z9 => [mO cy mm ik tl fm tz vl iw rm rr om, ia cy (mm 4) 7 (fnd C (cLay x1 x2 x3)), ia cy (mm 11) 4 z9, ia cy (mm 12) 4 si, la cy (mm 13) 160 (numF f)]) (show bi = (if cLay x1 x2 x3 = 7 then va_up bi (bstN x1) x2 else bi) from (if_neg (fun z9 => absurd (hcd.symm.trans z9) (by decide))).symm)
          replace hP2 := (congrArg (fun z9 => va_P D vwCl z9 _) hq9).mp hP2
          replace hD2 := (congrArg (fun z9 => va_D _ z9) hq9).mp hD2
          clear hq9
          have hq9 : ([mO cy mm ik tl fm tz vl iw rm rr om, ia cy (mm 4) 7 (fnd C (cLay x1 x2 x3)), ia cy (mm 11) 4 (if cLay x1 x2 x3 = 7 then va_up bi (bstN x1) x2 else bi), ia cy (mm 12) 4 si, la cy (mm 13) 160 (numF f)]) = ([mO cy mm ik tl fm tz vl iw rm rr om, ia cy (mm 4) 7 (fnd C (cLay x1 x2 x3)), ia cy (mm 11) 4 (if cLay x1 x2 x3 = 7 then va_up bi (bstN x1) x2 else bi), ia cy (mm 12) 4 (if cLay x1 x2 x3 = 7 then va_up si (bstN x1) (if x2 = 0 then 0 else x3) else si), la cy (mm 13) 160 (numF f)]) := congrArg (fun z9 => [mO cy mm ik tl fm tz vl iw rm rr om, ia cy (mm 4) 7 (fnd C (cLay x1 x2 x3)), ia cy (mm 11) 4 (if cLay x1 x2 x3 = 7 then va_up bi (bstN x1) x2 else bi), ia cy (mm 12) 4 z9, la cy (mm 13) 160 (numF f)]) (show si = (if cLay x1 x2 x3 = 7 then va_up si (bstN x1) (if x2 = 0 then 0 else x3) else si) from (if_neg (fun z9 => absurd (hcd.symm.trans z9) (by decide))).symm)
          replace hP2 := (congrArg (fun z9 => va_P D vwCl z9 _) hq9).mp hP2
          replace hD2 := (congrArg (fun z9 => va_D _ z9) hq9).mp hD2
          clear hq9
          have hq9 : ([mO cy mm ik tl fm tz vl iw rm rr om, ia cy (mm 4) 7 (fnd C (cLay x1 x2 x3)), ia cy (mm 11) 4 (if cLay x1 x2 x3 = 7 then va_up bi (bstN x1) x2 else bi), ia cy (mm 12) 4 (if cLay x1 x2 x3 = 7 then va_up si (bstN x1) (if x2 = 0 then 0 else x3) else si), la cy (mm 13) 160 (numF f)]) = ([mO cy mm ik tl fm tz vl iw rm rr om, ia cy (mm 4) 7 (fnd C (cLay x1 x2 x3)), ia cy (mm 11) 4 (if cLay x1 x2 x3 = 7 then va_up bi (bstN x1) x2 else bi), ia cy (mm 12) 4 (if cLay x1 x2 x3 = 7 then va_up si (bstN x1) (if x2 = 0 then 0 else x3) else si), la cy (mm 13) 160 (if cLay x1 x2 x3 = 7 then numF (va_up f (bstN x1) (fun _ => 0)) else numF f)]) := congrArg (fun z9 => [mO cy mm ik tl fm tz vl iw rm rr om, ia cy (mm 4) 7 (fnd C (cLay x1 x2 x3)), ia cy (mm 11) 4 (if cLay x1 x2 x3 = 7 then va_up bi (bstN x1) x2 else bi), ia cy (mm 12) 4 (if cLay x1 x2 x3 = 7 then va_up si (bstN x1) (if x2 = 0 then 0 else x3) else si), la cy (mm 13) 160 z9]) (show (numF f) = (if cLay x1 x2 x3 = 7 then numF (va_up f (bstN x1) (fun _ => 0)) else numF f) from (if_neg (fun z9 => absurd (hcd.symm.trans z9) (by decide))).symm)
          replace hP2 := (congrArg (fun z9 => va_P D vwCl z9 _) hq9).mp hP2
          replace hD2 := (congrArg (fun z9 => va_D _ z9) hq9).mp hD2
          clear hq9
          refine re_i () hx hb hr hlocks hP2 hD2 hS2 dX7_sheet_47 ?_
          exact (ans_f hcd (by decide) rfl)
      · refine lv_iload_n hx hb dX7_sheet_17 rfl (lv_at hl0 2 rfl) ?_
        refine lv_bipush (v := 16) hx hb dX7_sheet_18 (by decide) ?_
        refine lv_icmp_eq (tgt := 36) hx hb dX7_sheet_20 (by decide) (fun c_20 => ?_) (fun c_20 => ?_)
        · refine lv_iload_n hx hb dX7_sheet_36 rfl (lv_at hl0 3 rfl) ?_
          refine lv_if_ge (tgt := 48) hx hb dX7_sheet_37 (by decide) (fun c_37 => ?_) (fun c_37 => ?_)
          · refine lv_iload_n hx hb dX7_sheet_48 rfl (lv_at hl0 3 rfl) ?_
            refine lv_bipush (v := 40) hx hb dX7_sheet_49 (by decide) ?_
            refine lv_icmp_le (tgt := 61) hx hb dX7_sheet_51 (by decide) (fun c_51 => ?_) (fun c_51 => ?_)
            · obtain ⟨i0, hi4, rfl⟩ := nI_rn (n := 4) (by decide) (x := x1) ⟨c_4.1, Int32.lt_of_le_of_lt c_4.2 (by decide)⟩
              have hbi : bstN (nI i0) = i0 := bst_n (by omega)
              have hs0 := hso i0 hi4
              have hs40 := hs0.2.1
              refine lv_aload_n hx hb dX7_sheet_61 rfl (lv_at hl0 0 rfl) ?_
              refine va_get (D := D) (ci := 7) (v := .ref (mm 11)) (C := RX7) (T := TX7) (N := 23) hx hb hw iX7 hown hK hP1 0 rfl rfl 19 (by decide) (hw _ kw_4_83) (fun _ h9 => h9) rfl dX7_sheet_62 ?_
              refine lv_iload_n hx hb dX7_sheet_65 rfl (lv_at hl0 1 rfl) ?_
              refine lv_iload_n hx hb dX7_sheet_66 rfl (lv_at hl0 2 rfl) ?_
              refine ast_i (f := bi) (ws' := [mO cy mm ik tl fm tz vl iw rm rr om, ia cy (mm 4) 7 C, ia cy (mm 11) 4 (upd bi i0 x2), ia cy (mm 12) 4 si, la cy (mm 13) 160 (numF f)]) hx hb hK hP1 hD1 hS1 2 0 rfl rfl i0 rfl (by first | omega | assumption) (by decide) rfl dX7_sheet_67 (fun H2 locs2 hP2 hD2 hS2 => ?_)
              clear hP1 hD1 hS1 locs1 H1
              have hq9 : ([mO cy mm ik tl fm tz vl iw rm rr om, ia cy (mm 4) 7 C, ia cy (mm 11) 4 (upd bi i0 x2), ia cy (mm 12) 4 si, la cy (mm 13) 160 (numF f)]) = ([mO cy mm ik tl fm tz vl iw rm rr om, ia cy (mm 4) 7 C, ia cy (mm 11) 4 (va_up bi i0 x2), ia cy (mm 12) 4 si, la cy (mm 13) 160 (numF f)]) := congrArg (fun z9 => [mO cy mm ik tl fm tz vl iw rm rr om, ia cy (mm 4) 7 C, ia cy (mm 11) 4 z9, ia cy (mm 12) 4 si, la cy (mm 13) 160 (numF f)]) (show (upd bi i0 x2) = (va_up bi i0 x2) from rfl)
              replace hP2 := (congrArg (fun z9 => va_P D vwCl z9 _) hq9).mp hP2
              replace hD2 := (congrArg (fun z9 => va_D _ z9) hq9).mp hD2
              clear hq9
              refine lv_aload_n hx hb dX7_sheet_68 rfl (lv_at hl0 0 rfl) ?_
              refine va_get (D := D) (ci := 7) (v := .ref (mm 12)) (C := RX7) (T := TX7) (N := 23) hx hb hw iX7 hown hK hP2 0 rfl rfl 20 (by decide) (hw _ kw_4_84) (fun _ h9 => h9) rfl dX7_sheet_69 ?_
              refine lv_iload_n hx hb dX7_sheet_72 rfl (lv_at hl0 1 rfl) ?_
              refine lv_iload_n hx hb dX7_sheet_73 rfl (lv_at hl0 2 rfl) ?_
              refine lv_if_ne (tgt := 81) hx hb dX7_sheet_74 (by decide) (fun c_74 => ?_) (fun c_74 => ?_)
              · refine lv_iload_n hx hb dX7_sheet_81 rfl (lv_at hl0 3 rfl) ?_
                refine tp (show (x3) = if x2 = 0 then 0 else x3 from (if_neg c_74).symm) ?_
                refine ast_i (f := si) (ws' := [mO cy mm ik tl fm tz vl iw rm rr om, ia cy (mm 4) 7 C, ia cy (mm 11) 4 (va_up bi i0 x2), ia cy (mm 12) 4 (upd si i0 (if x2 = 0 then 0 else x3)), la cy (mm 13) 160 (numF f)]) hx hb hK hP2 hD2 hS2 3 0 rfl rfl i0 rfl (by first | omega | assumption) (by decide) rfl dX7_sheet_82 (fun H3 locs3 hP3 hD3 hS3 => ?_)
                clear hP2 hD2 hS2 locs2 H2
                have hq9 : ([mO cy mm ik tl fm tz vl iw rm rr om, ia cy (mm 4) 7 C, ia cy (mm 11) 4 (va_up bi i0 x2), ia cy (mm 12) 4 (upd si i0 (if x2 = 0 then 0 else x3)), la cy (mm 13) 160 (numF f)]) = ([mO cy mm ik tl fm tz vl iw rm rr om, ia cy (mm 4) 7 C, ia cy (mm 11) 4 (va_up bi i0 x2), ia cy (mm 12) 4 (va_up si i0 (if x2 = 0 then 0 else x3)), la cy (mm 13) 160 (numF f)]) := congrArg (fun z9 => [mO cy mm ik tl fm tz vl iw rm rr om, ia cy (mm 4) 7 C, ia cy (mm 11) 4 (va_up bi i0 x2), ia cy (mm 12) 4 z9, la cy (mm 13) 160 (numF f)]) (show (upd si i0 (if x2 = 0 then 0 else x3)) = (va_up si i0 (if x2 = 0 then 0 else x3)) from rfl)
                replace hP3 := (congrArg (fun z9 => va_P D vwCl z9 _) hq9).mp hP3
                replace hD3 := (congrArg (fun z9 => va_D _ z9) hq9).mp hD3
                clear hq9
                refine lv_iconst (v := 0) hx hb dX7_sheet_83 (by decide) ?_
                refine lv_istore (lv' := [(4, .int 0), (0, .ref (mm 0)), (1, .int (nI i0)), (2, .int x2), (3, .int x3)]) hx hb dX7_sheet_84 hl0 (by decide) rfl (fun ls1 hl1 => ?_)
                clear hl0 ls0
                have hq9 : ([mO cy mm ik tl fm tz vl iw rm rr om, ia cy (mm 4) 7 C, ia cy (mm 11) 4 (va_up bi i0 x2), ia cy (mm 12) 4 (va_up si i0 (if x2 = 0 then 0 else x3)), la cy (mm 13) 160 (numF f)]) = ([mO cy mm ik tl fm tz vl iw rm rr om, ia cy (mm 4) 7 C, ia cy (mm 11) 4 (va_up bi i0 x2), ia cy (mm 12) 4 (va_up si i0 (if x2 = 0 then 0 else x3)), la cy (mm 13) 160 (numF (va_up f i0 (zer 0 (f i0))))]) := congrArg (fun z9 => [mO cy mm ik tl fm tz vl iw rm rr om, ia cy (mm 4) 7 C, ia cy (mm 11) 4 (va_up bi i0 x2), ia cy (mm 12) 4 (va_up si i0 (if x2 = 0 then 0 else x3)), la cy (mm 13) 160 z9]) (show (numF f) = (numF (va_up f i0 (zer 0 (f i0)))) from by rw [← zer_0, va_up_s])
                replace hP3 := (congrArg (fun z9 => va_P D vwCl z9 _) hq9).mp hP3
                replace hD3 := (congrArg (fun z9 => va_D _ z9) hq9).mp hD3
                clear hq9
                refine wlp (ι := Nat) (nL := 5) (fun x9 => (x9 ≤ 40)) (fun x9 => [mO cy mm ik tl fm tz vl iw rm rr om, ia cy (mm 4) 7 C, ia cy (mm 11) 4 (va_up bi i0 x2), ia cy (mm 12) 4 (va_up si i0 (if x2 = 0 then 0 else x3)), la cy (mm 13) 160 (numF (va_up f i0 (zer x9 (f i0))))]) (fun x9 => [(4, .int (nI x9)), (0, .ref (mm 0)), (1, .int (nI i0)), (2, .int x2), (3, .int x3)]) (fun x9 => []) (fun x9 => 40 - x9) 86 ?_ 0 (by first | omega | assumption | rfl | simp_all) rfl hP3 hD3 hS3 (lv_sub hl1 [0, 1, 2, 3, 4] rfl)
                clear hP3 hD3 hS3 locs3 H3 hl1 ls1
                intro x9 hI ih_86 H4 locs4 ls2 hP4 hD4 hS4 hl2
                obtain ⟨i, rfl⟩ : ∃ z9, z9 = x9 := ⟨_, rfl⟩
                have hi := hI
                replace hi : i ≤ 40 := hi
                replace hP4 : va_P D vwCl ([mO cy mm ik tl fm tz vl iw rm rr om, ia cy (mm 4) 7 C, ia cy (mm 11) 4 (va_up bi i0 x2), ia cy (mm 12) 4 (va_up si i0 (if x2 = 0 then 0 else x3)), la cy (mm 13) 160 (numF (va_up f i0 (zer i (f i0))))]) H4 := hP4
                replace hD4 : va_D (va_A _ sz) ([mO cy mm ik tl fm tz vl iw rm rr om, ia cy (mm 4) 7 C, ia cy (mm 11) 4 (va_up bi i0 x2), ia cy (mm 12) 4 (va_up si i0 (if x2 = 0 then 0 else x3)), la cy (mm 13) 160 (numF (va_up f i0 (zer i (f i0))))]) := hD4
                replace hl2 : lv_has ls2 5 [(4, .int (nI i)), (0, .ref (mm 0)), (1, .int (nI i0)), (2, .int x2), (3, .int x3)] := hl2
                show W p l e _ s m _ below meth c _ _ _ _ _ (F0 m 86 ls2 [])
                refine lv_iload hx hb dX7_sheet_86 (lv_at hl2 0 rfl) ?_
                refine lv_bipush (v := 40) hx hb dX7_sheet_88 (by decide) ?_
                refine ln_ge (tgt := 112) i 40 rfl rfl (by omega) (by omega) hx hb dX7_sheet_90 (by decide) (fun c_90 => ?_) (fun c_90 => ?_)
                · have hq9 : ([mO cy mm ik tl fm tz vl iw rm rr om, ia cy (mm 4) 7 C, ia cy (mm 11) 4 (va_up bi i0 x2), ia cy (mm 12) 4 (va_up si i0 (if x2 = 0 then 0 else x3)), la cy (mm 13) 160 (numF (va_up f i0 (zer i (f i0))))]) = ([mO cy mm ik tl fm tz vl iw rm rr om, ia cy (mm 4) 7 C, ia cy (mm 11) 4 (va_up bi i0 x2), ia cy (mm 12) 4 (va_up si i0 (if x2 = 0 then 0 else x3)), la cy (mm 13) 160 (numF (va_up f i0 (fun _ => 0)))]) := congrArg (fun z9 => [mO cy mm ik tl fm tz vl iw rm rr om, ia cy (mm 4) 7 C, ia cy (mm 11) 4 (va_up bi i0 x2), ia cy (mm 12) 4 (va_up si i0 (if x2 = 0 then 0 else x3)), la cy (mm 13) 160 z9]) (show (numF (va_up f i0 (zer i (f i0)))) = (numF (va_up f i0 (fun _ => 0))) from by rw [zer_e (n := 40) (by omega) hs0.2.2])
                  replace hP4 := (congrArg (fun z9 => va_P D vwCl z9 _) hq9).mp hP4
                  replace hD4 := (congrArg (fun z9 => va_D _ z9) hq9).mp hD4
                  clear hq9
                  refine lv_aload_n hx hb dX7_sheet_112 rfl (lv_at hl2 1 rfl) ?_
                  refine va_get (D := D) (ci := 7) (v := .ref (mm 12)) (C := RX7) (T := TX7) (N := 23) hx hb hw iX7 hown hK hP4 0 rfl rfl 20 (by decide) (hw _ kw_4_84) (fun _ h9 => h9) rfl dX7_sheet_113 ?_
                  refine lv_iload_n hx hb dX7_sheet_116 rfl (lv_at hl2 2 rfl) ?_
                  refine ald_i (f := va_up si i0 (if x2 = 0 then 0 else x3)) hx hb hK hP4 3 0 rfl rfl i0 rfl (by first | omega | assumption) (by decide) dX7_sheet_117 ?_
                  refine tp (show ((va_up si i0 (if x2 = 0 then 0 else x3)) i0) = if x2 = 0 then 0 else x3 from va_up_i _ _ _) ?_
                  have hcd : cLay (nI i0) x2 x3 = 7 := by unfold cLay; clear hx hb hml hown hr hlocks hw hsz hA hG hK hP4 hD4 hS4 hl2 ih_86; grind
                  have hq9 : ([mO cy mm ik tl fm tz vl iw rm rr om, ia cy (mm 4) 7 C, ia cy (mm 11) 4 (va_up bi i0 x2), ia cy (mm 12) 4 (va_up si i0 (if x2 = 0 then 0 else x3)), la cy (mm 13) 160 (numF (va_up f i0 (fun _ => 0)))]) = ([mO cy mm ik tl fm tz vl iw rm rr om, ia cy (mm 4) 7 (fnd C (cLay (nI i0) x2 x3)), ia cy (mm 11) 4 (va_up bi i0 x2), ia cy (mm 12) 4 (va_up si i0 (if x2 = 0 then 0 else x3)), la cy (mm 13) 160 (numF (va_up f i0 (fun _ => 0)))]) := congrArg (fun z9 => [mO cy mm ik tl fm tz vl iw rm rr om, ia cy (mm 4) 7 z9, ia cy (mm 11) 4 (va_up bi i0 x2), ia cy (mm 12) 4 (va_up si i0 (if x2 = 0 then 0 else x3)), la cy (mm 13) 160 (numF (va_up f i0 (fun _ => 0)))]) (show C = (fnd C (cLay (nI i0) x2 x3)) from fnd_o hcd)
                  replace hP4 := (congrArg (fun z9 => va_P D vwCl z9 _) hq9).mp hP4
                  replace hD4 := (congrArg (fun z9 => va_D _ z9) hq9).mp hD4
                  clear hq9
                  have hq9 : ([mO cy mm ik tl fm tz vl iw rm rr om, ia cy (mm 4) 7 (fnd C (cLay (nI i0) x2 x3)), ia cy (mm 11) 4 (va_up bi i0 x2), ia cy (mm 12) 4 (va_up si i0 (if x2 = 0 then 0 else x3)), la cy (mm 13) 160 (numF (va_up f i0 (fun _ => 0)))]) = ([mO cy mm ik tl fm tz vl iw rm rr om, ia cy (mm 4) 7 (fnd C (cLay (nI i0) x2 x3)), ia cy (mm 11) 4 (if cLay (nI i0) x2 x3 = 7 then va_up bi (bstN (nI i0)) x2 else bi), ia cy (mm 12) 4 (va_up si i0 (if x2 = 0 then 0 else x3)), la cy (mm 13) 160 (numF (va_up f i0 (fun _ => 0)))]) := congrArg (fun z9 => [mO cy mm ik tl fm tz vl iw rm rr om, ia cy (mm 4) 7 (fnd C (cLay (nI i0) x2 x3)), ia cy (mm 11) 4 z9, ia cy (mm 12) 4 (va_up si i0 (if x2 = 0 then 0 else x3)), la cy (mm 13) 160 (numF (va_up f i0 (fun _ => 0)))]) (show (va_up bi i0 x2) = (if cLay (nI i0) x2 x3 = 7 then va_up bi (bstN (nI i0)) x2 else bi) from by rw [if_pos hcd]; simp only [hbi])
                  replace hP4 := (congrArg (fun z9 => va_P D vwCl z9 _) hq9).mp hP4
                  replace hD4 := (congrArg (fun z9 => va_D _ z9) hq9).mp hD4
                  clear hq9
                  have hq9 : ([mO cy mm ik tl fm tz vl iw rm rr om, ia cy (mm 4) 7 (fnd C (cLay (nI i0) x2 x3)), ia cy (mm 11) 4 (if cLay (nI i0) x2 x3 = 7 then va_up bi (bstN (nI i0)) x2 else bi), ia cy (mm 12) 4 (va_up si i0 (if x2 = 0 then 0 else x3)), la cy (mm 13) 160 (numF (va_up f i0 (fun _ => 0)))]) = ([mO cy mm ik tl fm tz vl iw rm rr om, ia cy (mm 4) 7 (fnd C (cLay (nI i0) x2 x3)), ia cy (mm 11) 4 (if cLay (nI i0) x2 x3 = 7 then va_up bi (bstN (nI i0)) x2 else bi), ia cy (mm 12) 4 (if cLay (nI i0) x2 x3 = 7 then va_up si (bstN (nI i0)) (if x2 = 0 then 0 else x3) else si), la cy (mm 13) 160 (numF (va_up f i0 (fun _ => 0)))]) := congrArg (fun z9 => [mO cy mm ik tl fm tz vl iw rm rr om, ia cy (mm 4) 7 (fnd C (cLay (nI i0) x2 x3)), ia cy (mm 11) 4 (if cLay (nI i0) x2 x3 = 7 then va_up bi (bstN (nI i0)) x2 else bi), ia cy (mm 12) 4 z9, la cy (mm 13) 160 (numF (va_up f i0 (fun _ => 0)))]) (show (va_up si i0 (if x2 = 0 then 0 else x3)) = (if cLay (nI i0) x2 x3 = 7 then va_up si (bstN (nI i0)) (if x2 = 0 then 0 else x3) else si) from by rw [if_pos hcd]; simp only [hbi])
                  replace hP4 := (congrArg (fun z9 => va_P D vwCl z9 _) hq9).mp hP4
                  replace hD4 := (congrArg (fun z9 => va_D _ z9) hq9).mp hD4
                  clear hq9
                  have hq9 : ([mO cy mm ik tl fm tz vl iw rm rr om, ia cy (mm 4) 7 (fnd C (cLay (nI i0) x2 x3)), ia cy (mm 11) 4 (if cLay (nI i0) x2 x3 = 7 then va_up bi (bstN (nI i0)) x2 else bi), ia cy (mm 12) 4 (if cLay (nI i0) x2 x3 = 7 then va_up si (bstN (nI i0)) (if x2 = 0 then 0 else x3) else si), la cy (mm 13) 160 (numF (va_up f i0 (fun _ => 0)))]) = ([mO cy mm ik tl fm tz vl iw rm rr om, ia cy (mm 4) 7 (fnd C (cLay (nI i0) x2 x3)), ia cy (mm 11) 4 (if cLay (nI i0) x2 x3 = 7 then va_up bi (bstN (nI i0)) x2 else bi), ia cy (mm 12) 4 (if cLay (nI i0) x2 x3 = 7 then va_up si (bstN (nI i0)) (if x2 = 0 then 0 else x3) else si), la cy (mm 13) 160 (if cLay (nI i0) x2 x3 = 7 then numF (va_up f (bstN (nI i0)) (fun _ => 0)) else numF f)]) := congrArg (fun z9 => [mO cy mm ik tl fm tz vl iw rm rr om, ia cy (mm 4) 7 (fnd C (cLay (nI i0) x2 x3)), ia cy (mm 11) 4 (if cLay (nI i0) x2 x3 = 7 then va_up bi (bstN (nI i0)) x2 else bi), ia cy (mm 12) 4 (if cLay (nI i0) x2 x3 = 7 then va_up si (bstN (nI i0)) (if x2 = 0 then 0 else x3) else si), la cy (mm 13) 160 z9]) (show (numF (va_up f i0 (fun _ => 0))) = (if cLay (nI i0) x2 x3 = 7 then numF (va_up f (bstN (nI i0)) (fun _ => 0)) else numF f) from by rw [if_pos hcd]; simp only [hbi])
                  replace hP4 := (congrArg (fun z9 => va_P D vwCl z9 _) hq9).mp hP4
                  replace hD4 := (congrArg (fun z9 => va_D _ z9) hq9).mp hD4
                  clear hq9
                  refine re_i () hx hb hr hlocks hP4 hD4 hS4 dX7_sheet_118 ?_
                  exact (ans_o hcd (rfl))
                · refine lv_aload_n hx hb dX7_sheet_93 rfl (lv_at hl2 1 rfl) ?_
                  refine va_get (D := D) (ci := 7) (v := .ref (mm 13)) (C := RX7) (T := TX7) (N := 23) hx hb hw iX7 hown hK hP4 0 rfl rfl 21 (by decide) (hw _ kw_4_85) (fun _ h9 => h9) rfl dX7_sheet_94 ?_
                  refine lv_bipush (v := 40) hx hb dX7_sheet_97 (by decide) ?_
                  refine lv_iload_n hx hb dX7_sheet_99 rfl (lv_at hl2 2 rfl) ?_
                  refine lv_imul hx hb dX7_sheet_100 ?_
                  refine tp (show (40 * (nI i0)) = nI (40 * i0) from pk_mul _ _) ?_
                  refine lv_iload hx hb dX7_sheet_101 (lv_at hl2 0 rfl) ?_
                  refine lv_iadd hx hb dX7_sheet_103 ?_
                  refine tp (show ((nI (40 * i0)) + (nI i)) = nI (40 * i0 + i) from nI_add _ _) ?_
                  refine lv_lconst (v := 0) hx hb dX7_sheet_104 (by decide) ?_
                  refine ast_l (f := numF (va_up f i0 (zer i (f i0)))) (ws' := [mO cy mm ik tl fm tz vl iw rm rr om, ia cy (mm 4) 7 C, ia cy (mm 11) 4 (va_up bi i0 x2), ia cy (mm 12) 4 (va_up si i0 (if x2 = 0 then 0 else x3)), la cy (mm 13) 160 (vp_updL (numF (va_up f i0 (zer i (f i0)))) (40 * i0 + i) 0)]) hx hb hK hP4 hD4 hS4 4 1 rfl rfl (40 * i0 + i) rfl (by first | omega | assumption) (by decide) rfl dX7_sheet_105 (fun H5 locs5 hP5 hD5 hS5 => ?_)
                  clear hP4 hD4 hS4 locs4 H4
                  have hq9 : ([mO cy mm ik tl fm tz vl iw rm rr om, ia cy (mm 4) 7 C, ia cy (mm 11) 4 (va_up bi i0 x2), ia cy (mm 12) 4 (va_up si i0 (if x2 = 0 then 0 else x3)), la cy (mm 13) 160 (vp_updL (numF (va_up f i0 (zer i (f i0)))) (40 * i0 + i) 0)]) = ([mO cy mm ik tl fm tz vl iw rm rr om, ia cy (mm 4) 7 C, ia cy (mm 11) 4 (va_up bi i0 x2), ia cy (mm 12) 4 (va_up si i0 (if x2 = 0 then 0 else x3)), la cy (mm 13) 160 (numF (va_up f i0 (zer (i + 1) (f i0))))]) := congrArg (fun z9 => [mO cy mm ik tl fm tz vl iw rm rr om, ia cy (mm 4) 7 C, ia cy (mm 11) 4 (va_up bi i0 x2), ia cy (mm 12) 4 (va_up si i0 (if x2 = 0 then 0 else x3)), la cy (mm 13) 160 z9]) (show (vp_updL (numF (va_up f i0 (zer i (f i0)))) (40 * i0 + i) 0) = (numF (va_up f i0 (zer (i + 1) (f i0)))) from by rw [numF_up _ _ (by omega), va_up_i, zer_s, va_up_up])
                  replace hP5 := (congrArg (fun z9 => va_P D vwCl z9 _) hq9).mp hP5
                  replace hD5 := (congrArg (fun z9 => va_D _ z9) hq9).mp hD5
                  clear hq9
                  refine lv_iinc (v := nI (i + 1)) (lv' := [(4, .int (nI (i + 1))), (0, .ref (mm 0)), (1, .int (nI i0)), (2, .int x2), (3, .int x3)]) hx hb dX7_sheet_106 hl2 (k := 0) rfl (nI_inc _) (by decide) rfl (fun ls3 hl3 => ?_)
                  clear hl2 ls2
                  refine lv_goto (tgt := 86) hx hb dX7_sheet_109 (by decide) ?_
                  exact ih_86 (i + 1) (by first | omega | assumption | rfl | simp_all) (by (try dsimp only); omega) H5 locs5 ls3 hP5 hD5 hS5 (lv_sub hl3 [0, 1, 2, 3, 4] rfl)
              · refine lv_iconst (v := 0) hx hb dX7_sheet_77 (by decide) ?_
                refine lv_goto (tgt := 82) hx hb dX7_sheet_78 (by decide) ?_
                refine tp (show (0) = if x2 = 0 then 0 else x3 from (if_pos c_74).symm) ?_
                refine ast_i (f := si) (ws' := [mO cy mm ik tl fm tz vl iw rm rr om, ia cy (mm 4) 7 C, ia cy (mm 11) 4 (va_up bi i0 x2), ia cy (mm 12) 4 (upd si i0 (if x2 = 0 then 0 else x3)), la cy (mm 13) 160 (numF f)]) hx hb hK hP2 hD2 hS2 3 0 rfl rfl i0 rfl (by first | omega | assumption) (by decide) rfl dX7_sheet_82 (fun H3 locs3 hP3 hD3 hS3 => ?_)
                clear hP2 hD2 hS2 locs2 H2
                have hq9 : ([mO cy mm ik tl fm tz vl iw rm rr om, ia cy (mm 4) 7 C, ia cy (mm 11) 4 (va_up bi i0 x2), ia cy (mm 12) 4 (upd si i0 (if x2 = 0 then 0 else x3)), la cy (mm 13) 160 (numF f)]) = ([mO cy mm ik tl fm tz vl iw rm rr om, ia cy (mm 4) 7 C, ia cy (mm 11) 4 (va_up bi i0 x2), ia cy (mm 12) 4 (va_up si i0 (if x2 = 0 then 0 else x3)), la cy (mm 13) 160 (numF f)]) := congrArg (fun z9 => [mO cy mm ik tl fm tz vl iw rm rr om, ia cy (mm 4) 7 C, ia cy (mm 11) 4 (va_up bi i0 x2), ia cy (mm 12) 4 z9, la cy (mm 13) 160 (numF f)]) (show (upd si i0 (if x2 = 0 then 0 else x3)) = (va_up si i0 (if x2 = 0 then 0 else x3)) from rfl)
                replace hP3 := (congrArg (fun z9 => va_P D vwCl z9 _) hq9).mp hP3
                replace hD3 := (congrArg (fun z9 => va_D _ z9) hq9).mp hD3
                clear hq9
                refine lv_iconst (v := 0) hx hb dX7_sheet_83 (by decide) ?_
                refine lv_istore (lv' := [(4, .int 0), (0, .ref (mm 0)), (1, .int (nI i0)), (2, .int x2), (3, .int x3)]) hx hb dX7_sheet_84 hl0 (by decide) rfl (fun ls1 hl1 => ?_)
                clear hl0 ls0
                have hq9 : ([mO cy mm ik tl fm tz vl iw rm rr om, ia cy (mm 4) 7 C, ia cy (mm 11) 4 (va_up bi i0 x2), ia cy (mm 12) 4 (va_up si i0 (if x2 = 0 then 0 else x3)), la cy (mm 13) 160 (numF f)]) = ([mO cy mm ik tl fm tz vl iw rm rr om, ia cy (mm 4) 7 C, ia cy (mm 11) 4 (va_up bi i0 x2), ia cy (mm 12) 4 (va_up si i0 (if x2 = 0 then 0 else x3)), la cy (mm 13) 160 (numF (va_up f i0 (zer 0 (f i0))))]) := congrArg (fun z9 => [mO cy mm ik tl fm tz vl iw rm rr om, ia cy (mm 4) 7 C, ia cy (mm 11) 4 (va_up bi i0 x2), ia cy (mm 12) 4 (va_up si i0 (if x2 = 0 then 0 else x3)), la cy (mm 13) 160 z9]) (show (numF f) = (numF (va_up f i0 (zer 0 (f i0)))) from by rw [← zer_0, va_up_s])
                replace hP3 := (congrArg (fun z9 => va_P D vwCl z9 _) hq9).mp hP3
                replace hD3 := (congrArg (fun z9 => va_D _ z9) hq9).mp hD3
                clear hq9
                refine wlp (ι := Nat) (nL := 5) (fun x9 => (x9 ≤ 40)) (fun x9 => [mO cy mm ik tl fm tz vl iw rm rr om, ia cy (mm 4) 7 C, ia cy (mm 11) 4 (va_up bi i0 x2), ia cy (mm 12) 4 (va_up si i0 (if x2 = 0 then 0 else x3)), la cy (mm 13) 160 (numF (va_up f i0 (zer x9 (f i0))))]) (fun x9 => [(4, .int (nI x9)), (0, .ref (mm 0)), (1, .int (nI i0)), (2, .int x2), (3, .int x3)]) (fun x9 => []) (fun x9 => 40 - x9) 86 ?_ 0 (by first | omega | assumption | rfl | simp_all) rfl hP3 hD3 hS3 (lv_sub hl1 [0, 1, 2, 3, 4] rfl)
                clear hP3 hD3 hS3 locs3 H3 hl1 ls1
                intro x9 hI ih_86 H4 locs4 ls2 hP4 hD4 hS4 hl2
                obtain ⟨i, rfl⟩ : ∃ z9, z9 = x9 := ⟨_, rfl⟩
                have hi := hI
                replace hi : i ≤ 40 := hi
                replace hP4 : va_P D vwCl ([mO cy mm ik tl fm tz vl iw rm rr om, ia cy (mm 4) 7 C, ia cy (mm 11) 4 (va_up bi i0 x2), ia cy (mm 12) 4 (va_up si i0 (if x2 = 0 then 0 else x3)), la cy (mm 13) 160 (numF (va_up f i0 (zer i (f i0))))]) H4 := hP4
                replace hD4 : va_D (va_A _ sz) ([mO cy mm ik tl fm tz vl iw rm rr om, ia cy (mm 4) 7 C, ia cy (mm 11) 4 (va_up bi i0 x2), ia cy (mm 12) 4 (va_up si i0 (if x2 = 0 then 0 else x3)), la cy (mm 13) 160 (numF (va_up f i0 (zer i (f i0))))]) := hD4
                replace hl2 : lv_has ls2 5 [(4, .int (nI i)), (0, .ref (mm 0)), (1, .int (nI i0)), (2, .int x2), (3, .int x3)] := hl2
                show W p l e _ s m _ below meth c _ _ _ _ _ (F0 m 86 ls2 [])
                refine lv_iload hx hb dX7_sheet_86 (lv_at hl2 0 rfl) ?_
                refine lv_bipush (v := 40) hx hb dX7_sheet_88 (by decide) ?_
                refine ln_ge (tgt := 112) i 40 rfl rfl (by omega) (by omega) hx hb dX7_sheet_90 (by decide) (fun c_90 => ?_) (fun c_90 => ?_)
                · have hq9 : ([mO cy mm ik tl fm tz vl iw rm rr om, ia cy (mm 4) 7 C, ia cy (mm 11) 4 (va_up bi i0 x2), ia cy (mm 12) 4 (va_up si i0 (if x2 = 0 then 0 else x3)), la cy (mm 13) 160 (numF (va_up f i0 (zer i (f i0))))]) = ([mO cy mm ik tl fm tz vl iw rm rr om, ia cy (mm 4) 7 C, ia cy (mm 11) 4 (va_up bi i0 x2), ia cy (mm 12) 4 (va_up si i0 (if x2 = 0 then 0 else x3)), la cy (mm 13) 160 (numF (va_up f i0 (fun _ => 0)))]) := congrArg (fun z9 => [mO cy mm ik tl fm tz vl iw rm rr om, ia cy (mm 4) 7 C, ia cy (mm 11) 4 (va_up bi i0 x2), ia cy (mm 12) 4 (va_up si i0 (if x2 = 0 then 0 else x3)), la cy (mm 13) 160 z9]) (show (numF (va_up f i0 (zer i (f i0)))) = (numF (va_up f i0 (fun _ => 0))) from by rw [zer_e (n := 40) (by omega) hs0.2.2])
                  replace hP4 := (congrArg (fun z9 => va_P D vwCl z9 _) hq9).mp hP4
                  replace hD4 := (congrArg (fun z9 => va_D _ z9) hq9).mp hD4
                  clear hq9
                  refine lv_aload_n hx hb dX7_sheet_112 rfl (lv_at hl2 1 rfl) ?_
                  refine va_get (D := D) (ci := 7) (v := .ref (mm 12)) (C := RX7) (T := TX7) (N := 23) hx hb hw iX7 hown hK hP4 0 rfl rfl 20 (by decide) (hw _ kw_4_84) (fun _ h9 => h9) rfl dX7_sheet_113 ?_
                  refine lv_iload_n hx hb dX7_sheet_116 rfl (lv_at hl2 2 rfl) ?_
                  refine ald_i (f := va_up si i0 (if x2 = 0 then 0 else x3)) hx hb hK hP4 3 0 rfl rfl i0 rfl (by first | omega | assumption) (by decide) dX7_sheet_117 ?_
                  refine tp (show ((va_up si i0 (if x2 = 0 then 0 else x3)) i0) = if x2 = 0 then 0 else x3 from va_up_i _ _ _) ?_
                  have hcd : cLay (nI i0) x2 x3 = 7 := by unfold cLay; clear hx hb hml hown hr hlocks hw hsz hA hG hK hP4 hD4 hS4 hl2 ih_86; grind
                  have hq9 : ([mO cy mm ik tl fm tz vl iw rm rr om, ia cy (mm 4) 7 C, ia cy (mm 11) 4 (va_up bi i0 x2), ia cy (mm 12) 4 (va_up si i0 (if x2 = 0 then 0 else x3)), la cy (mm 13) 160 (numF (va_up f i0 (fun _ => 0)))]) = ([mO cy mm ik tl fm tz vl iw rm rr om, ia cy (mm 4) 7 (fnd C (cLay (nI i0) x2 x3)), ia cy (mm 11) 4 (va_up bi i0 x2), ia cy (mm 12) 4 (va_up si i0 (if x2 = 0 then 0 else x3)), la cy (mm 13) 160 (numF (va_up f i0 (fun _ => 0)))]) := congrArg (fun z9 => [mO cy mm ik tl fm tz vl iw rm rr om, ia cy (mm 4) 7 z9, ia cy (mm 11) 4 (va_up bi i0 x2), ia cy (mm 12) 4 (va_up si i0 (if x2 = 0 then 0 else x3)), la cy (mm 13) 160 (numF (va_up f i0 (fun _ => 0)))]) (show C = (fnd C (cLay (nI i0) x2 x3)) from fnd_o hcd)
                  replace hP4 := (congrArg (fun z9 => va_P D vwCl z9 _) hq9).mp hP4
                  replace hD4 := (congrArg (fun z9 => va_D _ z9) hq9).mp hD4
                  clear hq9
                  have hq9 : ([mO cy mm ik tl fm tz vl iw rm rr om, ia cy (mm 4) 7 (fnd C (cLay (nI i0) x2 x3)), ia cy (mm 11) 4 (va_up bi i0 x2), ia cy (mm 12) 4 (va_up si i0 (if x2 = 0 then 0 else x3)), la cy (mm 13) 160 (numF (va_up f i0 (fun _ => 0)))]) = ([mO cy mm ik tl fm tz vl iw rm rr om, ia cy (mm 4) 7 (fnd C (cLay (nI i0) x2 x3)), ia cy (mm 11) 4 (if cLay (nI i0) x2 x3 = 7 then va_up bi (bstN (nI i0)) x2 else bi), ia cy (mm 12) 4 (va_up si i0 (if x2 = 0 then 0 else x3)), la cy (mm 13) 160 (numF (va_up f i0 (fun _ => 0)))]) := congrArg (fun z9 => [mO cy mm ik tl fm tz vl iw rm rr om, ia cy (mm 4) 7 (fnd C (cLay (nI i0) x2 x3)), ia cy (mm 11) 4 z9, ia cy (mm 12) 4 (va_up si i0 (if x2 = 0 then 0 else x3)), la cy (mm 13) 160 (numF (va_up f i0 (fun _ => 0)))]) (show (va_up bi i0 x2) = (if cLay (nI i0) x2 x3 = 7 then va_up bi (bstN (nI i0)) x2 else bi) from by rw [if_pos hcd]; simp only [hbi])
                  replace hP4 := (congrArg (fun z9 => va_P D vwCl z9 _) hq9).mp hP4
                  replace hD4 := (congrArg (fun z9 => va_D _ z9) hq9).mp hD4
                  clear hq9
                  have hq9 : ([mO cy mm ik tl fm tz vl iw rm rr om, ia cy (mm 4) 7 (fnd C (cLay (nI i0) x2 x3)), ia cy (mm 11) 4 (if cLay (nI i0) x2 x3 = 7 then va_up bi (bstN (nI i0)) x2 else bi), ia cy (mm 12) 4 (va_up si i0 (if x2 = 0 then 0 else x3)), la cy (mm 13) 160 (numF (va_up f i0 (fun _ => 0)))]) = ([mO cy mm ik tl fm tz vl iw rm rr om, ia cy (mm 4) 7 (fnd C (cLay (nI i0) x2 x3)), ia cy (mm 11) 4 (if cLay (nI i0) x2 x3 = 7 then va_up bi (bstN (nI i0)) x2 else bi), ia cy (mm 12) 4 (if cLay (nI i0) x2 x3 = 7 then va_up si (bstN (nI i0)) (if x2 = 0 then 0 else x3) else si), la cy (mm 13) 160 (numF (va_up f i0 (fun _ => 0)))]) := congrArg (fun z9 => [mO cy mm ik tl fm tz vl iw rm rr om, ia cy (mm 4) 7 (fnd C (cLay (nI i0) x2 x3)), ia cy (mm 11) 4 (if cLay (nI i0) x2 x3 = 7 then va_up bi (bstN (nI i0)) x2 else bi), ia cy (mm 12) 4 z9, la cy (mm 13) 160 (numF (va_up f i0 (fun _ => 0)))]) (show (va_up si i0 (if x2 = 0 then 0 else x3)) = (if cLay (nI i0) x2 x3 = 7 then va_up si (bstN (nI i0)) (if x2 = 0 then 0 else x3) else si) from by rw [if_pos hcd]; simp only [hbi])
                  replace hP4 := (congrArg (fun z9 => va_P D vwCl z9 _) hq9).mp hP4
                  replace hD4 := (congrArg (fun z9 => va_D _ z9) hq9).mp hD4
                  clear hq9
                  have hq9 : ([mO cy mm ik tl fm tz vl iw rm rr om, ia cy (mm 4) 7 (fnd C (cLay (nI i0) x2 x3)), ia cy (mm 11) 4 (if cLay (nI i0) x2 x3 = 7 then va_up bi (bstN (nI i0)) x2 else bi), ia cy (mm 12) 4 (if cLay (nI i0) x2 x3 = 7 then va_up si (bstN (nI i0)) (if x2 = 0 then 0 else x3) else si), la cy (mm 13) 160 (numF (va_up f i0 (fun _ => 0)))]) = ([mO cy mm ik tl fm tz vl iw rm rr om, ia cy (mm 4) 7 (fnd C (cLay (nI i0) x2 x3)), ia cy (mm 11) 4 (if cLay (nI i0) x2 x3 = 7 then va_up bi (bstN (nI i0)) x2 else bi), ia cy (mm 12) 4 (if cLay (nI i0) x2 x3 = 7 then va_up si (bstN (nI i0)) (if x2 = 0 then 0 else x3) else si), la cy (mm 13) 160 (if cLay (nI i0) x2 x3 = 7 then numF (va_up f (bstN (nI i0)) (fun _ => 0)) else numF f)]) := congrArg (fun z9 => [mO cy mm ik tl fm tz vl iw rm rr om, ia cy (mm 4) 7 (fnd C (cLay (nI i0) x2 x3)), ia cy (mm 11) 4 (if cLay (nI i0) x2 x3 = 7 then va_up bi (bstN (nI i0)) x2 else bi), ia cy (mm 12) 4 (if cLay (nI i0) x2 x3 = 7 then va_up si (bstN (nI i0)) (if x2 = 0 then 0 else x3) else si), la cy (mm 13) 160 z9]) (show (numF (va_up f i0 (fun _ => 0))) = (if cLay (nI i0) x2 x3 = 7 then numF (va_up f (bstN (nI i0)) (fun _ => 0)) else numF f) from by rw [if_pos hcd]; simp only [hbi])
                  replace hP4 := (congrArg (fun z9 => va_P D vwCl z9 _) hq9).mp hP4
                  replace hD4 := (congrArg (fun z9 => va_D _ z9) hq9).mp hD4
                  clear hq9
                  refine re_i () hx hb hr hlocks hP4 hD4 hS4 dX7_sheet_118 ?_
                  exact (ans_o hcd (rfl))
                · refine lv_aload_n hx hb dX7_sheet_93 rfl (lv_at hl2 1 rfl) ?_
                  refine va_get (D := D) (ci := 7) (v := .ref (mm 13)) (C := RX7) (T := TX7) (N := 23) hx hb hw iX7 hown hK hP4 0 rfl rfl 21 (by decide) (hw _ kw_4_85) (fun _ h9 => h9) rfl dX7_sheet_94 ?_
                  refine lv_bipush (v := 40) hx hb dX7_sheet_97 (by decide) ?_
                  refine lv_iload_n hx hb dX7_sheet_99 rfl (lv_at hl2 2 rfl) ?_
                  refine lv_imul hx hb dX7_sheet_100 ?_
                  refine tp (show (40 * (nI i0)) = nI (40 * i0) from pk_mul _ _) ?_
                  refine lv_iload hx hb dX7_sheet_101 (lv_at hl2 0 rfl) ?_
                  refine lv_iadd hx hb dX7_sheet_103 ?_
                  refine tp (show ((nI (40 * i0)) + (nI i)) = nI (40 * i0 + i) from nI_add _ _) ?_
                  refine lv_lconst (v := 0) hx hb dX7_sheet_104 (by decide) ?_
                  refine ast_l (f := numF (va_up f i0 (zer i (f i0)))) (ws' := [mO cy mm ik tl fm tz vl iw rm rr om, ia cy (mm 4) 7 C, ia cy (mm 11) 4 (va_up bi i0 x2), ia cy (mm 12) 4 (va_up si i0 (if x2 = 0 then 0 else x3)), la cy (mm 13) 160 (vp_updL (numF (va_up f i0 (zer i (f i0)))) (40 * i0 + i) 0)]) hx hb hK hP4 hD4 hS4 4 1 rfl rfl (40 * i0 + i) rfl (by first | omega | assumption) (by decide) rfl dX7_sheet_105 (fun H5 locs5 hP5 hD5 hS5 => ?_)
                  clear hP4 hD4 hS4 locs4 H4
                  have hq9 : ([mO cy mm ik tl fm tz vl iw rm rr om, ia cy (mm 4) 7 C, ia cy (mm 11) 4 (va_up bi i0 x2), ia cy (mm 12) 4 (va_up si i0 (if x2 = 0 then 0 else x3)), la cy (mm 13) 160 (vp_updL (numF (va_up f i0 (zer i (f i0)))) (40 * i0 + i) 0)]) = ([mO cy mm ik tl fm tz vl iw rm rr om, ia cy (mm 4) 7 C, ia cy (mm 11) 4 (va_up bi i0 x2), ia cy (mm 12) 4 (va_up si i0 (if x2 = 0 then 0 else x3)), la cy (mm 13) 160 (numF (va_up f i0 (zer (i + 1) (f i0))))]) := congrArg (fun z9 => [mO cy mm ik tl fm tz vl iw rm rr om, ia cy (mm 4) 7 C, ia cy (mm 11) 4 (va_up bi i0 x2), ia cy (mm 12) 4 (va_up si i0 (if x2 = 0 then 0 else x3)), la cy (mm 13) 160 z9]) (show (vp_updL (numF (va_up f i0 (zer i (f i0)))) (40 * i0 + i) 0) = (numF (va_up f i0 (zer (i + 1) (f i0)))) from by rw [numF_up _ _ (by omega), va_up_i, zer_s, va_up_up])
                  replace hP5 := (congrArg (fun z9 => va_P D vwCl z9 _) hq9).mp hP5
                  replace hD5 := (congrArg (fun z9 => va_D _ z9) hq9).mp hD5
                  clear hq9
                  refine lv_iinc (v := nI (i + 1)) (lv' := [(4, .int (nI (i + 1))), (0, .ref (mm 0)), (1, .int (nI i0)), (2, .int x2), (3, .int x3)]) hx hb dX7_sheet_106 hl2 (k := 0) rfl (nI_inc _) (by decide) rfl (fun ls3 hl3 => ?_)
                  clear hl2 ls2
                  refine lv_goto (tgt := 86) hx hb dX7_sheet_109 (by decide) ?_
                  exact ih_86 (i + 1) (by first | omega | assumption | rfl | simp_all) (by (try dsimp only); omega) H5 locs5 ls3 hP5 hD5 hS5 (lv_sub hl3 [0, 1, 2, 3, 4] rfl)
            · refine lv_aload_n hx hb dX7_sheet_54 rfl (lv_at hl0 0 rfl) ?_
              refine lv_ldc (v := (-1000000001)) hx hb hown (hw _ kw_4_143) dX7_sheet_55 ?_
              refine cV_i (wc := [mO cy mm ik tl fm tz vl iw rm rr om, ia cy (mm 4) 7 C]) (wr := [ia cy (mm 11) 4 bi, ia cy (mm 12) 4 si, la cy (mm 13) 160 (numF f)]) (rest := []) hx hb hml hown hw hG hK hP1 hD1 hS1 hA hl0 kc_X7_finds kw_4_139 [.int (-1000000001)] (c_X7_finds l D cy G H1.size mm ik tl fm tz vl iw rm rr om C 0 (-1000000001) (by decide) (by decide)) [0, 1] [2, 3, 4] rfl rfl rfl rfl rfl 0 rfl rfl rfl rfl rfl (Nat.le_of_ble_eq_true rfl) ⟨Nat.le_of_ble_eq_true rfl, Nat.le_of_ble_eq_true rfl⟩ dX7_sheet_57 ⟨Nat.le_of_ble_eq_true rfl, Nat.le_of_ble_eq_true rfl⟩ (fun r_57 u9 H2 locs2 hu9 hP2 hD2 hS2 => ?_)
              clear hP1 hD1 hS1 locs1 H1
              have hr_57 := hu9
              replace hP2 : va_P D vwCl ([ia cy (mm 11) 4 bi, ia cy (mm 12) 4 si, la cy (mm 13) 160 (numF f), mO cy mm ik tl fm tz vl iw rm rr om, ia cy (mm 4) 7 (upd C 0 (C 0 + 1))]) H2 := hP2
              replace hD2 : va_D (va_A _ sz) ([ia cy (mm 11) 4 bi, ia cy (mm 12) 4 si, la cy (mm 13) 160 (numF f), mO cy mm ik tl fm tz vl iw rm rr om, ia cy (mm 4) 7 (upd C 0 (C 0 + 1))]) := hD2
              replace hP2 := hP2.sub (ws' := [mO cy mm ik tl fm tz vl iw rm rr om, ia cy (mm 4) 7 (upd C 0 (C 0 + 1)), ia cy (mm 11) 4 bi, ia cy (mm 12) 4 si, la cy (mm 13) 160 (numF f)]) [3, 4, 0, 1, 2] rfl
              replace hD2 := hD2.sub (ws' := [mO cy mm ik tl fm tz vl iw rm rr om, ia cy (mm 4) 7 (upd C 0 (C 0 + 1)), ia cy (mm 11) 4 bi, ia cy (mm 12) 4 si, la cy (mm 13) 160 (numF f)]) [3, 4, 0, 1, 2] (by decide) rfl
              subst hr_57
              have hcd : cLay x1 x2 x3 = 0 := by unfold cLay; clear hx hb hml hown hr hlocks hw hsz hA hG hK hP2 hD2 hS2 hl0; grind
              have hq9 : ([mO cy mm ik tl fm tz vl iw rm rr om, ia cy (mm 4) 7 (upd C 0 (C 0 + 1)), ia cy (mm 11) 4 bi, ia cy (mm 12) 4 si, la cy (mm 13) 160 (numF f)]) = ([mO cy mm ik tl fm tz vl iw rm rr om, ia cy (mm 4) 7 (fnd C (cLay x1 x2 x3)), ia cy (mm 11) 4 bi, ia cy (mm 12) 4 si, la cy (mm 13) 160 (numF f)]) := congrArg (fun z9 => [mO cy mm ik tl fm tz vl iw rm rr om, ia cy (mm 4) 7 z9, ia cy (mm 11) 4 bi, ia cy (mm 12) 4 si, la cy (mm 13) 160 (numF f)]) (show (upd C 0 (C 0 + 1)) = (fnd C (cLay x1 x2 x3)) from fnd_f hcd (by decide))
              replace hP2 := (congrArg (fun z9 => va_P D vwCl z9 _) hq9).mp hP2
              replace hD2 := (congrArg (fun z9 => va_D _ z9) hq9).mp hD2
              clear hq9
              have hq9 : ([mO cy mm ik tl fm tz vl iw rm rr om, ia cy (mm 4) 7 (fnd C (cLay x1 x2 x3)), ia cy (mm 11) 4 bi, ia cy (mm 12) 4 si, la cy (mm 13) 160 (numF f)]) = ([mO cy mm ik tl fm tz vl iw rm rr om, ia cy (mm 4) 7 (fnd C (cLay x1 x2 x3)), ia cy (mm 11) 4 (if cLay x1 x2 x3 = 7 then va_up bi (bstN x1) x2 else bi), ia cy (mm 12) 4 si, la cy (mm 13) 160 (numF f)]) := congrArg (fun z9 => [mO cy mm ik tl fm tz vl iw rm rr om, ia cy (mm 4) 7 (fnd C (cLay x1 x2 x3)), ia cy (mm 11) 4 z9, ia cy (mm 12) 4 si, la cy (mm 13) 160 (numF f)]) (show bi = (if cLay x1 x2 x3 = 7 then va_up bi (bstN x1) x2 else bi) from (if_neg (fun z9 => absurd (hcd.symm.trans z9) (by decide))).symm)
              replace hP2 := (congrArg (fun z9 => va_P D vwCl z9 _) hq9).mp hP2
              replace hD2 := (congrArg (fun z9 => va_D _ z9) hq9).mp hD2
              clear hq9
              have hq9 : ([mO cy mm ik tl fm tz vl iw rm rr om, ia cy (mm 4) 7 (fnd C (cLay x1 x2 x3)), ia cy (mm 11) 4 (if cLay x1 x2 x3 = 7 then va_up bi (bstN x1) x2 else bi), ia cy (mm 12) 4 si, la cy (mm 13) 160 (numF f)]) = ([mO cy mm ik tl fm tz vl iw rm rr om, ia cy (mm 4) 7 (fnd C (cLay x1 x2 x3)), ia cy (mm 11) 4 (if cLay x1 x2 x3 = 7 then va_up bi (bstN x1) x2 else bi), ia cy (mm 12) 4 (if cLay x1 x2 x3 = 7 then va_up si (bstN x1) (if x2 = 0 then 0 else x3) else si), la cy (mm 13) 160 (numF f)]) := congrArg (fun z9 => [mO cy mm ik tl fm tz vl iw rm rr om, ia cy (mm 4) 7 (fnd C (cLay x1 x2 x3)), ia cy (mm 11) 4 (if cLay x1 x2 x3 = 7 then va_up bi (bstN x1) x2 else bi), ia cy (mm 12) 4 z9, la cy (mm 13) 160 (numF f)]) (show si = (if cLay x1 x2 x3 = 7 then va_up si (bstN x1) (if x2 = 0 then 0 else x3) else si) from (if_neg (fun z9 => absurd (hcd.symm.trans z9) (by decide))).symm)
              replace hP2 := (congrArg (fun z9 => va_P D vwCl z9 _) hq9).mp hP2
              replace hD2 := (congrArg (fun z9 => va_D _ z9) hq9).mp hD2
              clear hq9
              have hq9 : ([mO cy mm ik tl fm tz vl iw rm rr om, ia cy (mm 4) 7 (fnd C (cLay x1 x2 x3)), ia cy (mm 11) 4 (if cLay x1 x2 x3 = 7 then va_up bi (bstN x1) x2 else bi), ia cy (mm 12) 4 (if cLay x1 x2 x3 = 7 then va_up si (bstN x1) (if x2 = 0 then 0 else x3) else si), la cy (mm 13) 160 (numF f)]) = ([mO cy mm ik tl fm tz vl iw rm rr om, ia cy (mm 4) 7 (fnd C (cLay x1 x2 x3)), ia cy (mm 11) 4 (if cLay x1 x2 x3 = 7 then va_up bi (bstN x1) x2 else bi), ia cy (mm 12) 4 (if cLay x1 x2 x3 = 7 then va_up si (bstN x1) (if x2 = 0 then 0 else x3) else si), la cy (mm 13) 160 (if cLay x1 x2 x3 = 7 then numF (va_up f (bstN x1) (fun _ => 0)) else numF f)]) := congrArg (fun z9 => [mO cy mm ik tl fm tz vl iw rm rr om, ia cy (mm 4) 7 (fnd C (cLay x1 x2 x3)), ia cy (mm 11) 4 (if cLay x1 x2 x3 = 7 then va_up bi (bstN x1) x2 else bi), ia cy (mm 12) 4 (if cLay x1 x2 x3 = 7 then va_up si (bstN x1) (if x2 = 0 then 0 else x3) else si), la cy (mm 13) 160 z9]) (show (numF f) = (if cLay x1 x2 x3 = 7 then numF (va_up f (bstN x1) (fun _ => 0)) else numF f) from (if_neg (fun z9 => absurd (hcd.symm.trans z9) (by decide))).symm)
              replace hP2 := (congrArg (fun z9 => va_P D vwCl z9 _) hq9).mp hP2
              replace hD2 := (congrArg (fun z9 => va_D _ z9) hq9).mp hD2
              clear hq9
              refine re_i () hx hb hr hlocks hP2 hD2 hS2 dX7_sheet_60 ?_
              exact (ans_f hcd (by decide) rfl)
          · refine lv_aload_n hx hb dX7_sheet_40 rfl (lv_at hl0 0 rfl) ?_
            refine lv_ldcw (v := (-1000000007)) hx hb hown (hw _ kw_5_199) dX7_sheet_41 ?_
            refine cV_i (wc := [mO cy mm ik tl fm tz vl iw rm rr om, ia cy (mm 4) 7 C]) (wr := [ia cy (mm 11) 4 bi, ia cy (mm 12) 4 si, la cy (mm 13) 160 (numF f)]) (rest := []) hx hb hml hown hw hG hK hP1 hD1 hS1 hA hl0 kc_X7_finds kw_4_139 [.int (-1000000007)] (c_X7_finds l D cy G H1.size mm ik tl fm tz vl iw rm rr om C 6 (-1000000007) (by decide) (by decide)) [0, 1] [2, 3, 4] rfl rfl rfl rfl rfl 0 rfl rfl rfl rfl rfl (Nat.le_of_ble_eq_true rfl) ⟨Nat.le_of_ble_eq_true rfl, Nat.le_of_ble_eq_true rfl⟩ dX7_sheet_44 ⟨Nat.le_of_ble_eq_true rfl, Nat.le_of_ble_eq_true rfl⟩ (fun r_44 u9 H2 locs2 hu9 hP2 hD2 hS2 => ?_)
            clear hP1 hD1 hS1 locs1 H1
            have hr_44 := hu9
            replace hP2 : va_P D vwCl ([ia cy (mm 11) 4 bi, ia cy (mm 12) 4 si, la cy (mm 13) 160 (numF f), mO cy mm ik tl fm tz vl iw rm rr om, ia cy (mm 4) 7 (upd C 6 (C 6 + 1))]) H2 := hP2
            replace hD2 : va_D (va_A _ sz) ([ia cy (mm 11) 4 bi, ia cy (mm 12) 4 si, la cy (mm 13) 160 (numF f), mO cy mm ik tl fm tz vl iw rm rr om, ia cy (mm 4) 7 (upd C 6 (C 6 + 1))]) := hD2
            replace hP2 := hP2.sub (ws' := [mO cy mm ik tl fm tz vl iw rm rr om, ia cy (mm 4) 7 (upd C 6 (C 6 + 1)), ia cy (mm 11) 4 bi, ia cy (mm 12) 4 si, la cy (mm 13) 160 (numF f)]) [3, 4, 0, 1, 2] rfl
            replace hD2 := hD2.sub (ws' := [mO cy mm ik tl fm tz vl iw rm rr om, ia cy (mm 4) 7 (upd C 6 (C 6 + 1)), ia cy (mm 11) 4 bi, ia cy (mm 12) 4 si, la cy (mm 13) 160 (numF f)]) [3, 4, 0, 1, 2] (by decide) rfl
            subst hr_44
            have hcd : cLay x1 x2 x3 = 6 := by unfold cLay; clear hx hb hml hown hr hlocks hw hsz hA hG hK hP2 hD2 hS2 hl0; grind
            have hq9 : ([mO cy mm ik tl fm tz vl iw rm rr om, ia cy (mm 4) 7 (upd C 6 (C 6 + 1)), ia cy (mm 11) 4 bi, ia cy (mm 12) 4 si, la cy (mm 13) 160 (numF f)]) = ([mO cy mm ik tl fm tz vl iw rm rr om, ia cy (mm 4) 7 (fnd C (cLay x1 x2 x3)), ia cy (mm 11) 4 bi, ia cy (mm 12) 4 si, la cy (mm 13) 160 (numF f)]) := congrArg (fun z9 => [mO cy mm ik tl fm tz vl iw rm rr om, ia cy (mm 4) 7 z9, ia cy (mm 11) 4 bi, ia cy (mm 12) 4 si, la cy (mm 13) 160 (numF f)]) (show (upd C 6 (C 6 + 1)) = (fnd C (cLay x1 x2 x3)) from fnd_f hcd (by decide))
            replace hP2 := (congrArg (fun z9 => va_P D vwCl z9 _) hq9).mp hP2
            replace hD2 := (congrArg (fun z9 => va_D _ z9) hq9).mp hD2
            clear hq9
            have hq9 : ([mO cy mm ik tl fm tz vl iw rm rr om, ia cy (mm 4) 7 (fnd C (cLay x1 x2 x3)), ia cy (mm 11) 4 bi, ia cy (mm 12) 4 si, la cy (mm 13) 160 (numF f)]) = ([mO cy mm ik tl fm tz vl iw rm rr om, ia cy (mm 4) 7 (fnd C (cLay x1 x2 x3)), ia cy (mm 11) 4 (if cLay x1 x2 x3 = 7 then va_up bi (bstN x1) x2 else bi), ia cy (mm 12) 4 si, la cy (mm 13) 160 (numF f)]) := congrArg (fun z9 => [mO cy mm ik tl fm tz vl iw rm rr om, ia cy (mm 4) 7 (fnd C (cLay x1 x2 x3)), ia cy (mm 11) 4 z9, ia cy (mm 12) 4 si, la cy (mm 13) 160 (numF f)]) (show bi = (if cLay x1 x2 x3 = 7 then va_up bi (bstN x1) x2 else bi) from (if_neg (fun z9 => absurd (hcd.symm.trans z9) (by decide))).symm)
            replace hP2 := (congrArg (fun z9 => va_P D vwCl z9 _) hq9).mp hP2
            replace hD2 := (congrArg (fun z9 => va_D _ z9) hq9).mp hD2
            clear hq9
            have hq9 : ([mO cy mm ik tl fm tz vl iw rm rr om, ia cy (mm 4) 7 (fnd C (cLay x1 x2 x3)), ia cy (mm 11) 4 (if cLay x1 x2 x3 = 7 then va_up bi (bstN x1) x2 else bi), ia cy (mm 12) 4 si, la cy (mm 13) 160 (numF f)]) = ([mO cy mm ik tl fm tz vl iw rm rr om, ia cy (mm 4) 7 (fnd C (cLay x1 x2 x3)), ia cy (mm 11) 4 (if cLay x1 x2 x3 = 7 then va_up bi (bstN x1) x2 else bi), ia cy (mm 12) 4 (if cLay x1 x2 x3 = 7 then va_up si (bstN x1) (if x2 = 0 then 0 else x3) else si), la cy (mm 13) 160 (numF f)]) := congrArg (fun z9 => [mO cy mm ik tl fm tz vl iw rm rr om, ia cy (mm 4) 7 (fnd C (cLay x1 x2 x3)), ia cy (mm 11) 4 (if cLay x1 x2 x3 = 7 then va_up bi (bstN x1) x2 else bi), ia cy (mm 12) 4 z9, la cy (mm 13) 160 (numF f)]) (show si = (if cLay x1 x2 x3 = 7 then va_up si (bstN x1) (if x2 = 0 then 0 else x3) else si) from (if_neg (fun z9 => absurd (hcd.symm.trans z9) (by decide))).symm)
            replace hP2 := (congrArg (fun z9 => va_P D vwCl z9 _) hq9).mp hP2
            replace hD2 := (congrArg (fun z9 => va_D _ z9) hq9).mp hD2
            clear hq9
            have hq9 : ([mO cy mm ik tl fm tz vl iw rm rr om, ia cy (mm 4) 7 (fnd C (cLay x1 x2 x3)), ia cy (mm 11) 4 (if cLay x1 x2 x3 = 7 then va_up bi (bstN x1) x2 else bi), ia cy (mm 12) 4 (if cLay x1 x2 x3 = 7 then va_up si (bstN x1) (if x2 = 0 then 0 else x3) else si), la cy (mm 13) 160 (numF f)]) = ([mO cy mm ik tl fm tz vl iw rm rr om, ia cy (mm 4) 7 (fnd C (cLay x1 x2 x3)), ia cy (mm 11) 4 (if cLay x1 x2 x3 = 7 then va_up bi (bstN x1) x2 else bi), ia cy (mm 12) 4 (if cLay x1 x2 x3 = 7 then va_up si (bstN x1) (if x2 = 0 then 0 else x3) else si), la cy (mm 13) 160 (if cLay x1 x2 x3 = 7 then numF (va_up f (bstN x1) (fun _ => 0)) else numF f)]) := congrArg (fun z9 => [mO cy mm ik tl fm tz vl iw rm rr om, ia cy (mm 4) 7 (fnd C (cLay x1 x2 x3)), ia cy (mm 11) 4 (if cLay x1 x2 x3 = 7 then va_up bi (bstN x1) x2 else bi), ia cy (mm 12) 4 (if cLay x1 x2 x3 = 7 then va_up si (bstN x1) (if x2 = 0 then 0 else x3) else si), la cy (mm 13) 160 z9]) (show (numF f) = (if cLay x1 x2 x3 = 7 then numF (va_up f (bstN x1) (fun _ => 0)) else numF f) from (if_neg (fun z9 => absurd (hcd.symm.trans z9) (by decide))).symm)
            replace hP2 := (congrArg (fun z9 => va_P D vwCl z9 _) hq9).mp hP2
            replace hD2 := (congrArg (fun z9 => va_D _ z9) hq9).mp hD2
            clear hq9
            refine re_i () hx hb hr hlocks hP2 hD2 hS2 dX7_sheet_47 ?_
            exact (ans_f hcd (by decide) rfl)
        · refine lv_iload_n hx hb dX7_sheet_23 rfl (lv_at hl0 2 rfl) ?_
          refine lv_bipush (v := 64) hx hb dX7_sheet_24 (by decide) ?_
          refine lv_icmp_eq (tgt := 36) hx hb dX7_sheet_26 (by decide) (fun c_26 => ?_) (fun c_26 => ?_)
          · refine lv_iload_n hx hb dX7_sheet_36 rfl (lv_at hl0 3 rfl) ?_
            refine lv_if_ge (tgt := 48) hx hb dX7_sheet_37 (by decide) (fun c_37 => ?_) (fun c_37 => ?_)
            · refine lv_iload_n hx hb dX7_sheet_48 rfl (lv_at hl0 3 rfl) ?_
              refine lv_bipush (v := 40) hx hb dX7_sheet_49 (by decide) ?_
              refine lv_icmp_le (tgt := 61) hx hb dX7_sheet_51 (by decide) (fun c_51 => ?_) (fun c_51 => ?_)
              · obtain ⟨i0, hi4, rfl⟩ := nI_rn (n := 4) (by decide) (x := x1) ⟨c_4.1, Int32.lt_of_le_of_lt c_4.2 (by decide)⟩
                have hbi : bstN (nI i0) = i0 := bst_n (by omega)
                have hs0 := hso i0 hi4
                have hs40 := hs0.2.1
                refine lv_aload_n hx hb dX7_sheet_61 rfl (lv_at hl0 0 rfl) ?_
                refine va_get (D := D) (ci := 7) (v := .ref (mm 11)) (C := RX7) (T := TX7) (N := 23) hx hb hw iX7 hown hK hP1 0 rfl rfl 19 (by decide) (hw _ kw_4_83) (fun _ h9 => h9) rfl dX7_sheet_62 ?_
                refine lv_iload_n hx hb dX7_sheet_65 rfl (lv_at hl0 1 rfl) ?_
                refine lv_iload_n hx hb dX7_sheet_66 rfl (lv_at hl0 2 rfl) ?_
                refine ast_i (f := bi) (ws' := [mO cy mm ik tl fm tz vl iw rm rr om, ia cy (mm 4) 7 C, ia cy (mm 11) 4 (upd bi i0 x2), ia cy (mm 12) 4 si, la cy (mm 13) 160 (numF f)]) hx hb hK hP1 hD1 hS1 2 0 rfl rfl i0 rfl (by first | omega | assumption) (by decide) rfl dX7_sheet_67 (fun H2 locs2 hP2 hD2 hS2 => ?_)
                clear hP1 hD1 hS1 locs1 H1
                have hq9 : ([mO cy mm ik tl fm tz vl iw rm rr om, ia cy (mm 4) 7 C, ia cy (mm 11) 4 (upd bi i0 x2), ia cy (mm 12) 4 si, la cy (mm 13) 160 (numF f)]) = ([mO cy mm ik tl fm tz vl iw rm rr om, ia cy (mm 4) 7 C, ia cy (mm 11) 4 (va_up bi i0 x2), ia cy (mm 12) 4 si, la cy (mm 13) 160 (numF f)]) := congrArg (fun z9 => [mO cy mm ik tl fm tz vl iw rm rr om, ia cy (mm 4) 7 C, ia cy (mm 11) 4 z9, ia cy (mm 12) 4 si, la cy (mm 13) 160 (numF f)]) (show (upd bi i0 x2) = (va_up bi i0 x2) from rfl)
                replace hP2 := (congrArg (fun z9 => va_P D vwCl z9 _) hq9).mp hP2
                replace hD2 := (congrArg (fun z9 => va_D _ z9) hq9).mp hD2
                clear hq9
                refine lv_aload_n hx hb dX7_sheet_68 rfl (lv_at hl0 0 rfl) ?_
                refine va_get (D := D) (ci := 7) (v := .ref (mm 12)) (C := RX7) (T := TX7) (N := 23) hx hb hw iX7 hown hK hP2 0 rfl rfl 20 (by decide) (hw _ kw_4_84) (fun _ h9 => h9) rfl dX7_sheet_69 ?_
                refine lv_iload_n hx hb dX7_sheet_72 rfl (lv_at hl0 1 rfl) ?_
                refine lv_iload_n hx hb dX7_sheet_73 rfl (lv_at hl0 2 rfl) ?_
                refine lv_if_ne (tgt := 81) hx hb dX7_sheet_74 (by decide) (fun c_74 => ?_) (fun c_74 => ?_)
                · refine lv_iload_n hx hb dX7_sheet_81 rfl (lv_at hl0 3 rfl) ?_
                  refine tp (show (x3) = if x2 = 0 then 0 else x3 from (if_neg c_74).symm) ?_
                  refine ast_i (f := si) (ws' := [mO cy mm ik tl fm tz vl iw rm rr om, ia cy (mm 4) 7 C, ia cy (mm 11) 4 (va_up bi i0 x2), ia cy (mm 12) 4 (upd si i0 (if x2 = 0 then 0 else x3)), la cy (mm 13) 160 (numF f)]) hx hb hK hP2 hD2 hS2 3 0 rfl rfl i0 rfl (by first | omega | assumption) (by decide) rfl dX7_sheet_82 (fun H3 locs3 hP3 hD3 hS3 => ?_)
                  clear hP2 hD2 hS2 locs2 H2
                  have hq9 : ([mO cy mm ik tl fm tz vl iw rm rr om, ia cy (mm 4) 7 C, ia cy (mm 11) 4 (va_up bi i0 x2), ia cy (mm 12) 4 (upd si i0 (if x2 = 0 then 0 else x3)), la cy (mm 13) 160 (numF f)]) = ([mO cy mm ik tl fm tz vl iw rm rr om, ia cy (mm 4) 7 C, ia cy (mm 11) 4 (va_up bi i0 x2), ia cy (mm 12) 4 (va_up si i0 (if x2 = 0 then 0 else x3)), la cy (mm 13) 160 (numF f)]) := congrArg (fun z9 => [mO cy mm ik tl fm tz vl iw rm rr om, ia cy (mm 4) 7 C, ia cy (mm 11) 4 (va_up bi i0 x2), ia cy (mm 12) 4 z9, la cy (mm 13) 160 (numF f)]) (show (upd si i0 (if x2 = 0 then 0 else x3)) = (va_up si i0 (if x2 = 0 then 0 else x3)) from rfl)
                  replace hP3 := (congrArg (fun z9 => va_P D vwCl z9 _) hq9).mp hP3
                  replace hD3 := (congrArg (fun z9 => va_D _ z9) hq9).mp hD3
                  clear hq9
                  refine lv_iconst (v := 0) hx hb dX7_sheet_83 (by decide) ?_
                  refine lv_istore (lv' := [(4, .int 0), (0, .ref (mm 0)), (1, .int (nI i0)), (2, .int x2), (3, .int x3)]) hx hb dX7_sheet_84 hl0 (by decide) rfl (fun ls1 hl1 => ?_)
                  clear hl0 ls0
                  have hq9 : ([mO cy mm ik tl fm tz vl iw rm rr om, ia cy (mm 4) 7 C, ia cy (mm 11) 4 (va_up bi i0 x2), ia cy (mm 12) 4 (va_up si i0 (if x2 = 0 then 0 else x3)), la cy (mm 13) 160 (numF f)]) = ([mO cy mm ik tl fm tz vl iw rm rr om, ia cy (mm 4) 7 C, ia cy (mm 11) 4 (va_up bi i0 x2), ia cy (mm 12) 4 (va_up si i0 (if x2 = 0 then 0 else x3)), la cy (mm 13) 160 (numF (va_up f i0 (zer 0 (f i0))))]) := congrArg (fun z9 => [mO cy mm ik tl fm tz vl iw rm rr om, ia cy (mm 4) 7 C, ia cy (mm 11) 4 (va_up bi i0 x2), ia cy (mm 12) 4 (va_up si i0 (if x2 = 0 then 0 else x3)), la cy (mm 13) 160 z9]) (show (numF f) = (numF (va_up f i0 (zer 0 (f i0)))) from by rw [← zer_0, va_up_s])
                  replace hP3 := (congrArg (fun z9 => va_P D vwCl z9 _) hq9).mp hP3
                  replace hD3 := (congrArg (fun z9 => va_D _ z9) hq9).mp hD3
                  clear hq9
                  refine wlp (ι := Nat) (nL := 5) (fun x9 => (x9 ≤ 40)) (fun x9 => [mO cy mm ik tl fm tz vl iw rm rr om, ia cy (mm 4) 7 C, ia cy (mm 11) 4 (va_up bi i0 x2), ia cy (mm 12) 4 (va_up si i0 (if x2 = 0 then 0 else x3)), la cy (mm 13) 160 (numF (va_up f i0 (zer x9 (f i0))))]) (fun x9 => [(4, .int (nI x9)), (0, .ref (mm 0)), (1, .int (nI i0)), (2, .int x2), (3, .int x3)]) (fun x9 => []) (fun x9 => 40 - x9) 86 ?_ 0 (by first | omega | assumption | rfl | simp_all) rfl hP3 hD3 hS3 (lv_sub hl1 [0, 1, 2, 3, 4] rfl)
                  clear hP3 hD3 hS3 locs3 H3 hl1 ls1
                  intro x9 hI ih_86 H4 locs4 ls2 hP4 hD4 hS4 hl2
                  obtain ⟨i, rfl⟩ : ∃ z9, z9 = x9 := ⟨_, rfl⟩
                  have hi := hI
                  replace hi : i ≤ 40 := hi
                  replace hP4 : va_P D vwCl ([mO cy mm ik tl fm tz vl iw rm rr om, ia cy (mm 4) 7 C, ia cy (mm 11) 4 (va_up bi i0 x2), ia cy (mm 12) 4 (va_up si i0 (if x2 = 0 then 0 else x3)), la cy (mm 13) 160 (numF (va_up f i0 (zer i (f i0))))]) H4 := hP4
                  replace hD4 : va_D (va_A _ sz) ([mO cy mm ik tl fm tz vl iw rm rr om, ia cy (mm 4) 7 C, ia cy (mm 11) 4 (va_up bi i0 x2), ia cy (mm 12) 4 (va_up si i0 (if x2 = 0 then 0 else x3)), la cy (mm 13) 160 (numF (va_up f i0 (zer i (f i0))))]) := hD4
                  replace hl2 : lv_has ls2 5 [(4, .int (nI i)), (0, .ref (mm 0)), (1, .int (nI i0)), (2, .int x2), (3, .int x3)] := hl2
                  show W p l e _ s m _ below meth c _ _ _ _ _ (F0 m 86 ls2 [])
                  refine lv_iload hx hb dX7_sheet_86 (lv_at hl2 0 rfl) ?_
                  refine lv_bipush (v := 40) hx hb dX7_sheet_88 (by decide) ?_
                  refine ln_ge (tgt := 112) i 40 rfl rfl (by omega) (by omega) hx hb dX7_sheet_90 (by decide) (fun c_90 => ?_) (fun c_90 => ?_)
                  · have hq9 : ([mO cy mm ik tl fm tz vl iw rm rr om, ia cy (mm 4) 7 C, ia cy (mm 11) 4 (va_up bi i0 x2), ia cy (mm 12) 4 (va_up si i0 (if x2 = 0 then 0 else x3)), la cy (mm 13) 160 (numF (va_up f i0 (zer i (f i0))))]) = ([mO cy mm ik tl fm tz vl iw rm rr om, ia cy (mm 4) 7 C, ia cy (mm 11) 4 (va_up bi i0 x2), ia cy (mm 12) 4 (va_up si i0 (if x2 = 0 then 0 else x3)), la cy (mm 13) 160 (numF (va_up f i0 (fun _ => 0)))]) := congrArg (fun z9 => [mO cy mm ik tl fm tz vl iw rm rr om, ia cy (mm 4) 7 C, ia cy (mm 11) 4 (va_up bi i0 x2), ia cy (mm 12) 4 (va_up si i0 (if x2 = 0 then 0 else x3)), la cy (mm 13) 160 z9]) (show (numF (va_up f i0 (zer i (f i0)))) = (numF (va_up f i0 (fun _ => 0))) from by rw [zer_e (n := 40) (by omega) hs0.2.2])
                    replace hP4 := (congrArg (fun z9 => va_P D vwCl z9 _) hq9).mp hP4
                    replace hD4 := (congrArg (fun z9 => va_D _ z9) hq9).mp hD4
                    clear hq9
                    refine lv_aload_n hx hb dX7_sheet_112 rfl (lv_at hl2 1 rfl) ?_
                    refine va_get (D := D) (ci := 7) (v := .ref (mm 12)) (C := RX7) (T := TX7) (N := 23) hx hb hw iX7 hown hK hP4 0 rfl rfl 20 (by decide) (hw _ kw_4_84) (fun _ h9 => h9) rfl dX7_sheet_113 ?_
                    refine lv_iload_n hx hb dX7_sheet_116 rfl (lv_at hl2 2 rfl) ?_
                    refine ald_i (f := va_up si i0 (if x2 = 0 then 0 else x3)) hx hb hK hP4 3 0 rfl rfl i0 rfl (by first | omega | assumption) (by decide) dX7_sheet_117 ?_
                    refine tp (show ((va_up si i0 (if x2 = 0 then 0 else x3)) i0) = if x2 = 0 then 0 else x3 from va_up_i _ _ _) ?_
                    have hcd : cLay (nI i0) x2 x3 = 7 := by unfold cLay; clear hx hb hml hown hr hlocks hw hsz hA hG hK hP4 hD4 hS4 hl2 ih_86; grind
                    have hq9 : ([mO cy mm ik tl fm tz vl iw rm rr om, ia cy (mm 4) 7 C, ia cy (mm 11) 4 (va_up bi i0 x2), ia cy (mm 12) 4 (va_up si i0 (if x2 = 0 then 0 else x3)), la cy (mm 13) 160 (numF (va_up f i0 (fun _ => 0)))]) = ([mO cy mm ik tl fm tz vl iw rm rr om, ia cy (mm 4) 7 (fnd C (cLay (nI i0) x2 x3)), ia cy (mm 11) 4 (va_up bi i0 x2), ia cy (mm 12) 4 (va_up si i0 (if x2 = 0 then 0 else x3)), la cy (mm 13) 160 (numF (va_up f i0 (fun _ => 0)))]) := congrArg (fun z9 => [mO cy mm ik tl fm tz vl iw rm rr om, ia cy (mm 4) 7 z9, ia cy (mm 11) 4 (va_up bi i0 x2), ia cy (mm 12) 4 (va_up si i0 (if x2 = 0 then 0 else x3)), la cy (mm 13) 160 (numF (va_up f i0 (fun _ => 0)))]) (show C = (fnd C (cLay (nI i0) x2 x3)) from fnd_o hcd)
                    replace hP4 := (congrArg (fun z9 => va_P D vwCl z9 _) hq9).mp hP4
                    replace hD4 := (congrArg (fun z9 => va_D _ z9) hq9).mp hD4
                    clear hq9
                    have hq9 : ([mO cy mm ik tl fm tz vl iw rm rr om, ia cy (mm 4) 7 (fnd C (cLay (nI i0) x2 x3)), ia cy (mm 11) 4 (va_up bi i0 x2), ia cy (mm 12) 4 (va_up si i0 (if x2 = 0 then 0 else x3)), la cy (mm 13) 160 (numF (va_up f i0 (fun _ => 0)))]) = ([mO cy mm ik tl fm tz vl iw rm rr om, ia cy (mm 4) 7 (fnd C (cLay (nI i0) x2 x3)), ia cy (mm 11) 4 (if cLay (nI i0) x2 x3 = 7 then va_up bi (bstN (nI i0)) x2 else bi), ia cy (mm 12) 4 (va_up si i0 (if x2 = 0 then 0 else x3)), la cy (mm 13) 160 (numF (va_up f i0 (fun _ => 0)))]) := congrArg (fun z9 => [mO cy mm ik tl fm tz vl iw rm rr om, ia cy (mm 4) 7 (fnd C (cLay (nI i0) x2 x3)), ia cy (mm 11) 4 z9, ia cy (mm 12) 4 (va_up si i0 (if x2 = 0 then 0 else x3)), la cy (mm 13) 160 (numF (va_up f i0 (fun _ => 0)))]) (show (va_up bi i0 x2) = (if cLay (nI i0) x2 x3 = 7 then va_up bi (bstN (nI i0)) x2 else bi) from by rw [if_pos hcd]; simp only [hbi])
                    replace hP4 := (congrArg (fun z9 => va_P D vwCl z9 _) hq9).mp hP4
                    replace hD4 := (congrArg (fun z9 => va_D _ z9) hq9).mp hD4
                    clear hq9
                    have hq9 : ([mO cy mm ik tl fm tz vl iw rm rr om, ia cy (mm 4) 7 (fnd C (cLay (nI i0) x2 x3)), ia cy (mm 11) 4 (if cLay (nI i0) x2 x3 = 7 then va_up bi (bstN (nI i0)) x2 else bi), ia cy (mm 12) 4 (va_up si i0 (if x2 = 0 then 0 else x3)), la cy (mm 13) 160 (numF (va_up f i0 (fun _ => 0)))]) = ([mO cy mm ik tl fm tz vl iw rm rr om, ia cy (mm 4) 7 (fnd C (cLay (nI i0) x2 x3)), ia cy (mm 11) 4 (if cLay (nI i0) x2 x3 = 7 then va_up bi (bstN (nI i0)) x2 else bi), ia cy (mm 12) 4 (if cLay (nI i0) x2 x3 = 7 then va_up si (bstN (nI i0)) (if x2 = 0 then 0 else x3) else si), la cy (mm 13) 160 (numF (va_up f i0 (fun _ => 0)))]) := congrArg (fun z9 => [mO cy mm ik tl fm tz vl iw rm rr om, ia cy (mm 4) 7 (fnd C (cLay (nI i0) x2 x3)), ia cy (mm 11) 4 (if cLay (nI i0) x2 x3 = 7 then va_up bi (bstN (nI i0)) x2 else bi), ia cy (mm 12) 4 z9, la cy (mm 13) 160 (numF (va_up f i0 (fun _ => 0)))]) (show (va_up si i0 (if x2 = 0 then 0 else x3)) = (if cLay (nI i0) x2 x3 = 7 then va_up si (bstN (nI i0)) (if x2 = 0 then 0 else x3) else si) from by rw [if_pos hcd]; simp only [hbi])
                    replace hP4 := (congrArg (fun z9 => va_P D vwCl z9 _) hq9).mp hP4
                    replace hD4 := (congrArg (fun z9 => va_D _ z9) hq9).mp hD4
                    clear hq9
                    have hq9 : ([mO cy mm ik tl fm tz vl iw rm rr om, ia cy (mm 4) 7 (fnd C (cLay (nI i0) x2 x3)), ia cy (mm 11) 4 (if cLay (nI i0) x2 x3 = 7 then va_up bi (bstN (nI i0)) x2 else bi), ia cy (mm 12) 4 (if cLay (nI i0) x2 x3 = 7 then va_up si (bstN (nI i0)) (if x2 = 0 then 0 else x3) else si), la cy (mm 13) 160 (numF (va_up f i0 (fun _ => 0)))]) = ([mO cy mm ik tl fm tz vl iw rm rr om, ia cy (mm 4) 7 (fnd C (cLay (nI i0) x2 x3)), ia cy (mm 11) 4 (if cLay (nI i0) x2 x3 = 7 then va_up bi (bstN (nI i0)) x2 else bi), ia cy (mm 12) 4 (if cLay (nI i0) x2 x3 = 7 then va_up si (bstN (nI i0)) (if x2 = 0 then 0 else x3) else si), la cy (mm 13) 160 (if cLay (nI i0) x2 x3 = 7 then numF (va_up f (bstN (nI i0)) (fun _ => 0)) else numF f)]) := congrArg (fun z9 => [mO cy mm ik tl fm tz vl iw rm rr om, ia cy (mm 4) 7 (fnd C (cLay (nI i0) x2 x3)), ia cy (mm 11) 4 (if cLay (nI i0) x2 x3 = 7 then va_up bi (bstN (nI i0)) x2 else bi), ia cy (mm 12) 4 (if cLay (nI i0) x2 x3 = 7 then va_up si (bstN (nI i0)) (if x2 = 0 then 0 else x3) else si), la cy (mm 13) 160 z9]) (show (numF (va_up f i0 (fun _ => 0))) = (if cLay (nI i0) x2 x3 = 7 then numF (va_up f (bstN (nI i0)) (fun _ => 0)) else numF f) from by rw [if_pos hcd]; simp only [hbi])
                    replace hP4 := (congrArg (fun z9 => va_P D vwCl z9 _) hq9).mp hP4
                    replace hD4 := (congrArg (fun z9 => va_D _ z9) hq9).mp hD4
                    clear hq9
                    refine re_i () hx hb hr hlocks hP4 hD4 hS4 dX7_sheet_118 ?_
                    exact (ans_o hcd (rfl))
                  · refine lv_aload_n hx hb dX7_sheet_93 rfl (lv_at hl2 1 rfl) ?_
                    refine va_get (D := D) (ci := 7) (v := .ref (mm 13)) (C := RX7) (T := TX7) (N := 23) hx hb hw iX7 hown hK hP4 0 rfl rfl 21 (by decide) (hw _ kw_4_85) (fun _ h9 => h9) rfl dX7_sheet_94 ?_
                    refine lv_bipush (v := 40) hx hb dX7_sheet_97 (by decide) ?_
                    refine lv_iload_n hx hb dX7_sheet_99 rfl (lv_at hl2 2 rfl) ?_
                    refine lv_imul hx hb dX7_sheet_100 ?_
                    refine tp (show (40 * (nI i0)) = nI (40 * i0) from pk_mul _ _) ?_
                    refine lv_iload hx hb dX7_sheet_101 (lv_at hl2 0 rfl) ?_
                    refine lv_iadd hx hb dX7_sheet_103 ?_
                    refine tp (show ((nI (40 * i0)) + (nI i)) = nI (40 * i0 + i) from nI_add _ _) ?_
                    refine lv_lconst (v := 0) hx hb dX7_sheet_104 (by decide) ?_
                    refine ast_l (f := numF (va_up f i0 (zer i (f i0)))) (ws' := [mO cy mm ik tl fm tz vl iw rm rr om, ia cy (mm 4) 7 C, ia cy (mm 11) 4 (va_up bi i0 x2), ia cy (mm 12) 4 (va_up si i0 (if x2 = 0 then 0 else x3)), la cy (mm 13) 160 (vp_updL (numF (va_up f i0 (zer i (f i0)))) (40 * i0 + i) 0)]) hx hb hK hP4 hD4 hS4 4 1 rfl rfl (40 * i0 + i) rfl (by first | omega | assumption) (by decide) rfl dX7_sheet_105 (fun H5 locs5 hP5 hD5 hS5 => ?_)
                    clear hP4 hD4 hS4 locs4 H4
                    have hq9 : ([mO cy mm ik tl fm tz vl iw rm rr om, ia cy (mm 4) 7 C, ia cy (mm 11) 4 (va_up bi i0 x2), ia cy (mm 12) 4 (va_up si i0 (if x2 = 0 then 0 else x3)), la cy (mm 13) 160 (vp_updL (numF (va_up f i0 (zer i (f i0)))) (40 * i0 + i) 0)]) = ([mO cy mm ik tl fm tz vl iw rm rr om, ia cy (mm 4) 7 C, ia cy (mm 11) 4 (va_up bi i0 x2), ia cy (mm 12) 4 (va_up si i0 (if x2 = 0 then 0 else x3)), la cy (mm 13) 160 (numF (va_up f i0 (zer (i + 1) (f i0))))]) := congrArg (fun z9 => [mO cy mm ik tl fm tz vl iw rm rr om, ia cy (mm 4) 7 C, ia cy (mm 11) 4 (va_up bi i0 x2), ia cy (mm 12) 4 (va_up si i0 (if x2 = 0 then 0 else x3)), la cy (mm 13) 160 z9]) (show (vp_updL (numF (va_up f i0 (zer i (f i0)))) (40 * i0 + i) 0) = (numF (va_up f i0 (zer (i + 1) (f i0)))) from by rw [numF_up _ _ (by omega), va_up_i, zer_s, va_up_up])
                    replace hP5 := (congrArg (fun z9 => va_P D vwCl z9 _) hq9).mp hP5
                    replace hD5 := (congrArg (fun z9 => va_D _ z9) hq9).mp hD5
                    clear hq9
                    refine lv_iinc (v := nI (i + 1)) (lv' := [(4, .int (nI (i + 1))), (0, .ref (mm 0)), (1, .int (nI i0)), (2, .int x2), (3, .int x3)]) hx hb dX7_sheet_106 hl2 (k := 0) rfl (nI_inc _) (by decide) rfl (fun ls3 hl3 => ?_)
                    clear hl2 ls2
                    refine lv_goto (tgt := 86) hx hb dX7_sheet_109 (by decide) ?_
                    exact ih_86 (i + 1) (by first | omega | assumption | rfl | simp_all) (by (try dsimp only); omega) H5 locs5 ls3 hP5 hD5 hS5 (lv_sub hl3 [0, 1, 2, 3, 4] rfl)
                · refine lv_iconst (v := 0) hx hb dX7_sheet_77 (by decide) ?_
                  refine lv_goto (tgt := 82) hx hb dX7_sheet_78 (by decide) ?_
                  refine tp (show (0) = if x2 = 0 then 0 else x3 from (if_pos c_74).symm) ?_
                  refine ast_i (f := si) (ws' := [mO cy mm ik tl fm tz vl iw rm rr om, ia cy (mm 4) 7 C, ia cy (mm 11) 4 (va_up bi i0 x2), ia cy (mm 12) 4 (upd si i0 (if x2 = 0 then 0 else x3)), la cy (mm 13) 160 (numF f)]) hx hb hK hP2 hD2 hS2 3 0 rfl rfl i0 rfl (by first | omega | assumption) (by decide) rfl dX7_sheet_82 (fun H3 locs3 hP3 hD3 hS3 => ?_)
                  clear hP2 hD2 hS2 locs2 H2
                  have hq9 : ([mO cy mm ik tl fm tz vl iw rm rr om, ia cy (mm 4) 7 C, ia cy (mm 11) 4 (va_up bi i0 x2), ia cy (mm 12) 4 (upd si i0 (if x2 = 0 then 0 else x3)), la cy (mm 13) 160 (numF f)]) = ([mO cy mm ik tl fm tz vl iw rm rr om, ia cy (mm 4) 7 C, ia cy (mm 11) 4 (va_up bi i0 x2), ia cy (mm 12) 4 (va_up si i0 (if x2 = 0 then 0 else x3)), la cy (mm 13) 160 (numF f)]) := congrArg (fun z9 => [mO cy mm ik tl fm tz vl iw rm rr om, ia cy (mm 4) 7 C, ia cy (mm 11) 4 (va_up bi i0 x2), ia cy (mm 12) 4 z9, la cy (mm 13) 160 (numF f)]) (show (upd si i0 (if x2 = 0 then 0 else x3)) = (va_up si i0 (if x2 = 0 then 0 else x3)) from rfl)
                  replace hP3 := (congrArg (fun z9 => va_P D vwCl z9 _) hq9).mp hP3
                  replace hD3 := (congrArg (fun z9 => va_D _ z9) hq9).mp hD3
                  clear hq9
                  refine lv_iconst (v := 0) hx hb dX7_sheet_83 (by decide) ?_
                  refine lv_istore (lv' := [(4, .int 0), (0, .ref (mm 0)), (1, .int (nI i0)), (2, .int x2), (3, .int x3)]) hx hb dX7_sheet_84 hl0 (by decide) rfl (fun ls1 hl1 => ?_)
                  clear hl0 ls0
                  have hq9 : ([mO cy mm ik tl fm tz vl iw rm rr om, ia cy (mm 4) 7 C, ia cy (mm 11) 4 (va_up bi i0 x2), ia cy (mm 12) 4 (va_up si i0 (if x2 = 0 then 0 else x3)), la cy (mm 13) 160 (numF f)]) = ([mO cy mm ik tl fm tz vl iw rm rr om, ia cy (mm 4) 7 C, ia cy (mm 11) 4 (va_up bi i0 x2), ia cy (mm 12) 4 (va_up si i0 (if x2 = 0 then 0 else x3)), la cy (mm 13) 160 (numF (va_up f i0 (zer 0 (f i0))))]) := congrArg (fun z9 => [mO cy mm ik tl fm tz vl iw rm rr om, ia cy (mm 4) 7 C, ia cy (mm 11) 4 (va_up bi i0 x2), ia cy (mm 12) 4 (va_up si i0 (if x2 = 0 then 0 else x3)), la cy (mm 13) 160 z9]) (show (numF f) = (numF (va_up f i0 (zer 0 (f i0)))) from by rw [← zer_0, va_up_s])
                  replace hP3 := (congrArg (fun z9 => va_P D vwCl z9 _) hq9).mp hP3
                  replace hD3 := (congrArg (fun z9 => va_D _ z9) hq9).mp hD3
                  clear hq9
                  refine wlp (ι := Nat) (nL := 5) (fun x9 => (x9 ≤ 40)) (fun x9 => [mO cy mm ik tl fm tz vl iw rm rr om, ia cy (mm 4) 7 C, ia cy (mm 11) 4 (va_up bi i0 x2), ia cy (mm 12) 4 (va_up si i0 (if x2 = 0 then 0 else x3)), la cy (mm 13) 160 (numF (va_up f i0 (zer x9 (f i0))))]) (fun x9 => [(4, .int (nI x9)), (0, .ref (mm 0)), (1, .int (nI i0)), (2, .int x2), (3, .int x3)]) (fun x9 => []) (fun x9 => 40 - x9) 86 ?_ 0 (by first | omega | assumption | rfl | simp_all) rfl hP3 hD3 hS3 (lv_sub hl1 [0, 1, 2, 3, 4] rfl)
                  clear hP3 hD3 hS3 locs3 H3 hl1 ls1
                  intro x9 hI ih_86 H4 locs4 ls2 hP4 hD4 hS4 hl2
                  obtain ⟨i, rfl⟩ : ∃ z9, z9 = x9 := ⟨_, rfl⟩
                  have hi := hI
                  replace hi : i ≤ 40 := hi
                  replace hP4 : va_P D vwCl ([mO cy mm ik tl fm tz vl iw rm rr om, ia cy (mm 4) 7 C, ia cy (mm 11) 4 (va_up bi i0 x2), ia cy (mm 12) 4 (va_up si i0 (if x2 = 0 then 0 else x3)), la cy (mm 13) 160 (numF (va_up f i0 (zer i (f i0))))]) H4 := hP4
                  replace hD4 : va_D (va_A _ sz) ([mO cy mm ik tl fm tz vl iw rm rr om, ia cy (mm 4) 7 C, ia cy (mm 11) 4 (va_up bi i0 x2), ia cy (mm 12) 4 (va_up si i0 (if x2 = 0 then 0 else x3)), la cy (mm 13) 160 (numF (va_up f i0 (zer i (f i0))))]) := hD4
                  replace hl2 : lv_has ls2 5 [(4, .int (nI i)), (0, .ref (mm 0)), (1, .int (nI i0)), (2, .int x2), (3, .int x3)] := hl2
                  show W p l e _ s m _ below meth c _ _ _ _ _ (F0 m 86 ls2 [])
                  refine lv_iload hx hb dX7_sheet_86 (lv_at hl2 0 rfl) ?_
                  refine lv_bipush (v := 40) hx hb dX7_sheet_88 (by decide) ?_
                  refine ln_ge (tgt := 112) i 40 rfl rfl (by omega) (by omega) hx hb dX7_sheet_90 (by decide) (fun c_90 => ?_) (fun c_90 => ?_)
                  · have hq9 : ([mO cy mm ik tl fm tz vl iw rm rr om, ia cy (mm 4) 7 C, ia cy (mm 11) 4 (va_up bi i0 x2), ia cy (mm 12) 4 (va_up si i0 (if x2 = 0 then 0 else x3)), la cy (mm 13) 160 (numF (va_up f i0 (zer i (f i0))))]) = ([mO cy mm ik tl fm tz vl iw rm rr om, ia cy (mm 4) 7 C, ia cy (mm 11) 4 (va_up bi i0 x2), ia cy (mm 12) 4 (va_up si i0 (if x2 = 0 then 0 else x3)), la cy (mm 13) 160 (numF (va_up f i0 (fun _ => 0)))]) := congrArg (fun z9 => [mO cy mm ik tl fm tz vl iw rm rr om, ia cy (mm 4) 7 C, ia cy (mm 11) 4 (va_up bi i0 x2), ia cy (mm 12) 4 (va_up si i0 (if x2 = 0 then 0 else x3)), la cy (mm 13) 160 z9]) (show (numF (va_up f i0 (zer i (f i0)))) = (numF (va_up f i0 (fun _ => 0))) from by rw [zer_e (n := 40) (by omega) hs0.2.2])
                    replace hP4 := (congrArg (fun z9 => va_P D vwCl z9 _) hq9).mp hP4
                    replace hD4 := (congrArg (fun z9 => va_D _ z9) hq9).mp hD4
                    clear hq9
                    refine lv_aload_n hx hb dX7_sheet_112 rfl (lv_at hl2 1 rfl) ?_
                    refine va_get (D := D) (ci := 7) (v := .ref (mm 12)) (C := RX7) (T := TX7) (N := 23) hx hb hw iX7 hown hK hP4 0 rfl rfl 20 (by decide) (hw _ kw_4_84) (fun _ h9 => h9) rfl dX7_sheet_113 ?_
                    refine lv_iload_n hx hb dX7_sheet_116 rfl (lv_at hl2 2 rfl) ?_
                    refine ald_i (f := va_up si i0 (if x2 = 0 then 0 else x3)) hx hb hK hP4 3 0 rfl rfl i0 rfl (by first | omega | assumption) (by decide) dX7_sheet_117 ?_
                    refine tp (show ((va_up si i0 (if x2 = 0 then 0 else x3)) i0) = if x2 = 0 then 0 else x3 from va_up_i _ _ _) ?_
                    have hcd : cLay (nI i0) x2 x3 = 7 := by unfold cLay; clear hx hb hml hown hr hlocks hw hsz hA hG hK hP4 hD4 hS4 hl2 ih_86; grind
                    have hq9 : ([mO cy mm ik tl fm tz vl iw rm rr om, ia cy (mm 4) 7 C, ia cy (mm 11) 4 (va_up bi i0 x2), ia cy (mm 12) 4 (va_up si i0 (if x2 = 0 then 0 else x3)), la cy (mm 13) 160 (numF (va_up f i0 (fun _ => 0)))]) = ([mO cy mm ik tl fm tz vl iw rm rr om, ia cy (mm 4) 7 (fnd C (cLay (nI i0) x2 x3)), ia cy (mm 11) 4 (va_up bi i0 x2), ia cy (mm 12) 4 (va_up si i0 (if x2 = 0 then 0 else x3)), la cy (mm 13) 160 (numF (va_up f i0 (fun _ => 0)))]) := congrArg (fun z9 => [mO cy mm ik tl fm tz vl iw rm rr om, ia cy (mm 4) 7 z9, ia cy (mm 11) 4 (va_up bi i0 x2), ia cy (mm 12) 4 (va_up si i0 (if x2 = 0 then 0 else x3)), la cy (mm 13) 160 (numF (va_up f i0 (fun _ => 0)))]) (show C = (fnd C (cLay (nI i0) x2 x3)) from fnd_o hcd)
                    replace hP4 := (congrArg (fun z9 => va_P D vwCl z9 _) hq9).mp hP4
                    replace hD4 := (congrArg (fun z9 => va_D _ z9) hq9).mp hD4
                    clear hq9
                    have hq9 : ([mO cy mm ik tl fm tz vl iw rm rr om, ia cy (mm 4) 7 (fnd C (cLay (nI i0) x2 x3)), ia cy (mm 11) 4 (va_up bi i0 x2), ia cy (mm 12) 4 (va_up si i0 (if x2 = 0 then 0 else x3)), la cy (mm 13) 160 (numF (va_up f i0 (fun _ => 0)))]) = ([mO cy mm ik tl fm tz vl iw rm rr om, ia cy (mm 4) 7 (fnd C (cLay (nI i0) x2 x3)), ia cy (mm 11) 4 (if cLay (nI i0) x2 x3 = 7 then va_up bi (bstN (nI i0)) x2 else bi), ia cy (mm 12) 4 (va_up si i0 (if x2 = 0 then 0 else x3)), la cy (mm 13) 160 (numF (va_up f i0 (fun _ => 0)))]) := congrArg (fun z9 => [mO cy mm ik tl fm tz vl iw rm rr om, ia cy (mm 4) 7 (fnd C (cLay (nI i0) x2 x3)), ia cy (mm 11) 4 z9, ia cy (mm 12) 4 (va_up si i0 (if x2 = 0 then 0 else x3)), la cy (mm 13) 160 (numF (va_up f i0 (fun _ => 0)))]) (show (va_up bi i0 x2) = (if cLay (nI i0) x2 x3 = 7 then va_up bi (bstN (nI i0)) x2 else bi) from by rw [if_pos hcd]; simp only [hbi])
                    replace hP4 := (congrArg (fun z9 => va_P D vwCl z9 _) hq9).mp hP4
                    replace hD4 := (congrArg (fun z9 => va_D _ z9) hq9).mp hD4
                    clear hq9
                    have hq9 : ([mO cy mm ik tl fm tz vl iw rm rr om, ia cy (mm 4) 7 (fnd C (cLay (nI i0) x2 x3)), ia cy (mm 11) 4 (if cLay (nI i0) x2 x3 = 7 then va_up bi (bstN (nI i0)) x2 else bi), ia cy (mm 12) 4 (va_up si i0 (if x2 = 0 then 0 else x3)), la cy (mm 13) 160 (numF (va_up f i0 (fun _ => 0)))]) = ([mO cy mm ik tl fm tz vl iw rm rr om, ia cy (mm 4) 7 (fnd C (cLay (nI i0) x2 x3)), ia cy (mm 11) 4 (if cLay (nI i0) x2 x3 = 7 then va_up bi (bstN (nI i0)) x2 else bi), ia cy (mm 12) 4 (if cLay (nI i0) x2 x3 = 7 then va_up si (bstN (nI i0)) (if x2 = 0 then 0 else x3) else si), la cy (mm 13) 160 (numF (va_up f i0 (fun _ => 0)))]) := congrArg (fun z9 => [mO cy mm ik tl fm tz vl iw rm rr om, ia cy (mm 4) 7 (fnd C (cLay (nI i0) x2 x3)), ia cy (mm 11) 4 (if cLay (nI i0) x2 x3 = 7 then va_up bi (bstN (nI i0)) x2 else bi), ia cy (mm 12) 4 z9, la cy (mm 13) 160 (numF (va_up f i0 (fun _ => 0)))]) (show (va_up si i0 (if x2 = 0 then 0 else x3)) = (if cLay (nI i0) x2 x3 = 7 then va_up si (bstN (nI i0)) (if x2 = 0 then 0 else x3) else si) from by rw [if_pos hcd]; simp only [hbi])
                    replace hP4 := (congrArg (fun z9 => va_P D vwCl z9 _) hq9).mp hP4
                    replace hD4 := (congrArg (fun z9 => va_D _ z9) hq9).mp hD4
                    clear hq9
                    have hq9 : ([mO cy mm ik tl fm tz vl iw rm rr om, ia cy (mm 4) 7 (fnd C (cLay (nI i0) x2 x3)), ia cy (mm 11) 4 (if cLay (nI i0) x2 x3 = 7 then va_up bi (bstN (nI i0)) x2 else bi), ia cy (mm 12) 4 (if cLay (nI i0) x2 x3 = 7 then va_up si (bstN (nI i0)) (if x2 = 0 then 0 else x3) else si), la cy (mm 13) 160 (numF (va_up f i0 (fun _ => 0)))]) = ([mO cy mm ik tl fm tz vl iw rm rr om, ia cy (mm 4) 7 (fnd C (cLay (nI i0) x2 x3)), ia cy (mm 11) 4 (if cLay (nI i0) x2 x3 = 7 then va_up bi (bstN (nI i0)) x2 else bi), ia cy (mm 12) 4 (if cLay (nI i0) x2 x3 = 7 then va_up si (bstN (nI i0)) (if x2 = 0 then 0 else x3) else si), la cy (mm 13) 160 (if cLay (nI i0) x2 x3 = 7 then numF (va_up f (bstN (nI i0)) (fun _ => 0)) else numF f)]) := congrArg (fun z9 => [mO cy mm ik tl fm tz vl iw rm rr om, ia cy (mm 4) 7 (fnd C (cLay (nI i0) x2 x3)), ia cy (mm 11) 4 (if cLay (nI i0) x2 x3 = 7 then va_up bi (bstN (nI i0)) x2 else bi), ia cy (mm 12) 4 (if cLay (nI i0) x2 x3 = 7 then va_up si (bstN (nI i0)) (if x2 = 0 then 0 else x3) else si), la cy (mm 13) 160 z9]) (show (numF (va_up f i0 (fun _ => 0))) = (if cLay (nI i0) x2 x3 = 7 then numF (va_up f (bstN (nI i0)) (fun _ => 0)) else numF f) from by rw [if_pos hcd]; simp only [hbi])
                    replace hP4 := (congrArg (fun z9 => va_P D vwCl z9 _) hq9).mp hP4
                    replace hD4 := (congrArg (fun z9 => va_D _ z9) hq9).mp hD4
                    clear hq9
                    refine re_i () hx hb hr hlocks hP4 hD4 hS4 dX7_sheet_118 ?_
                    exact (ans_o hcd (rfl))
                  · refine lv_aload_n hx hb dX7_sheet_93 rfl (lv_at hl2 1 rfl) ?_
                    refine va_get (D := D) (ci := 7) (v := .ref (mm 13)) (C := RX7) (T := TX7) (N := 23) hx hb hw iX7 hown hK hP4 0 rfl rfl 21 (by decide) (hw _ kw_4_85) (fun _ h9 => h9) rfl dX7_sheet_94 ?_
                    refine lv_bipush (v := 40) hx hb dX7_sheet_97 (by decide) ?_
                    refine lv_iload_n hx hb dX7_sheet_99 rfl (lv_at hl2 2 rfl) ?_
                    refine lv_imul hx hb dX7_sheet_100 ?_
                    refine tp (show (40 * (nI i0)) = nI (40 * i0) from pk_mul _ _) ?_
                    refine lv_iload hx hb dX7_sheet_101 (lv_at hl2 0 rfl) ?_
                    refine lv_iadd hx hb dX7_sheet_103 ?_
                    refine tp (show ((nI (40 * i0)) + (nI i)) = nI (40 * i0 + i) from nI_add _ _) ?_
                    refine lv_lconst (v := 0) hx hb dX7_sheet_104 (by decide) ?_
                    refine ast_l (f := numF (va_up f i0 (zer i (f i0)))) (ws' := [mO cy mm ik tl fm tz vl iw rm rr om, ia cy (mm 4) 7 C, ia cy (mm 11) 4 (va_up bi i0 x2), ia cy (mm 12) 4 (va_up si i0 (if x2 = 0 then 0 else x3)), la cy (mm 13) 160 (vp_updL (numF (va_up f i0 (zer i (f i0)))) (40 * i0 + i) 0)]) hx hb hK hP4 hD4 hS4 4 1 rfl rfl (40 * i0 + i) rfl (by first | omega | assumption) (by decide) rfl dX7_sheet_105 (fun H5 locs5 hP5 hD5 hS5 => ?_)
                    clear hP4 hD4 hS4 locs4 H4
                    have hq9 : ([mO cy mm ik tl fm tz vl iw rm rr om, ia cy (mm 4) 7 C, ia cy (mm 11) 4 (va_up bi i0 x2), ia cy (mm 12) 4 (va_up si i0 (if x2 = 0 then 0 else x3)), la cy (mm 13) 160 (vp_updL (numF (va_up f i0 (zer i (f i0)))) (40 * i0 + i) 0)]) = ([mO cy mm ik tl fm tz vl iw rm rr om, ia cy (mm 4) 7 C, ia cy (mm 11) 4 (va_up bi i0 x2), ia cy (mm 12) 4 (va_up si i0 (if x2 = 0 then 0 else x3)), la cy (mm 13) 160 (numF (va_up f i0 (zer (i + 1) (f i0))))]) := congrArg (fun z9 => [mO cy mm ik tl fm tz vl iw rm rr om, ia cy (mm 4) 7 C, ia cy (mm 11) 4 (va_up bi i0 x2), ia cy (mm 12) 4 (va_up si i0 (if x2 = 0 then 0 else x3)), la cy (mm 13) 160 z9]) (show (vp_updL (numF (va_up f i0 (zer i (f i0)))) (40 * i0 + i) 0) = (numF (va_up f i0 (zer (i + 1) (f i0)))) from by rw [numF_up _ _ (by omega), va_up_i, zer_s, va_up_up])
                    replace hP5 := (congrArg (fun z9 => va_P D vwCl z9 _) hq9).mp hP5
                    replace hD5 := (congrArg (fun z9 => va_D _ z9) hq9).mp hD5
                    clear hq9
                    refine lv_iinc (v := nI (i + 1)) (lv' := [(4, .int (nI (i + 1))), (0, .ref (mm 0)), (1, .int (nI i0)), (2, .int x2), (3, .int x3)]) hx hb dX7_sheet_106 hl2 (k := 0) rfl (nI_inc _) (by decide) rfl (fun ls3 hl3 => ?_)
                    clear hl2 ls2
                    refine lv_goto (tgt := 86) hx hb dX7_sheet_109 (by decide) ?_
                    exact ih_86 (i + 1) (by first | omega | assumption | rfl | simp_all) (by (try dsimp only); omega) H5 locs5 ls3 hP5 hD5 hS5 (lv_sub hl3 [0, 1, 2, 3, 4] rfl)
              · refine lv_aload_n hx hb dX7_sheet_54 rfl (lv_at hl0 0 rfl) ?_
                refine lv_ldc (v := (-1000000001)) hx hb hown (hw _ kw_4_143) dX7_sheet_55 ?_
                refine cV_i (wc := [mO cy mm ik tl fm tz vl iw rm rr om, ia cy (mm 4) 7 C]) (wr := [ia cy (mm 11) 4 bi, ia cy (mm 12) 4 si, la cy (mm 13) 160 (numF f)]) (rest := []) hx hb hml hown hw hG hK hP1 hD1 hS1 hA hl0 kc_X7_finds kw_4_139 [.int (-1000000001)] (c_X7_finds l D cy G H1.size mm ik tl fm tz vl iw rm rr om C 0 (-1000000001) (by decide) (by decide)) [0, 1] [2, 3, 4] rfl rfl rfl rfl rfl 0 rfl rfl rfl rfl rfl (Nat.le_of_ble_eq_true rfl) ⟨Nat.le_of_ble_eq_true rfl, Nat.le_of_ble_eq_true rfl⟩ dX7_sheet_57 ⟨Nat.le_of_ble_eq_true rfl, Nat.le_of_ble_eq_true rfl⟩ (fun r_57 u9 H2 locs2 hu9 hP2 hD2 hS2 => ?_)
                clear hP1 hD1 hS1 locs1 H1
                have hr_57 := hu9
                replace hP2 : va_P D vwCl ([ia cy (mm 11) 4 bi, ia cy (mm 12) 4 si, la cy (mm 13) 160 (numF f), mO cy mm ik tl fm tz vl iw rm rr om, ia cy (mm 4) 7 (upd C 0 (C 0 + 1))]) H2 := hP2
                replace hD2 : va_D (va_A _ sz) ([ia cy (mm 11) 4 bi, ia cy (mm 12) 4 si, la cy (mm 13) 160 (numF f), mO cy mm ik tl fm tz vl iw rm rr om, ia cy (mm 4) 7 (upd C 0 (C 0 + 1))]) := hD2
                replace hP2 := hP2.sub (ws' := [mO cy mm ik tl fm tz vl iw rm rr om, ia cy (mm 4) 7 (upd C 0 (C 0 + 1)), ia cy (mm 11) 4 bi, ia cy (mm 12) 4 si, la cy (mm 13) 160 (numF f)]) [3, 4, 0, 1, 2] rfl
                replace hD2 := hD2.sub (ws' := [mO cy mm ik tl fm tz vl iw rm rr om, ia cy (mm 4) 7 (upd C 0 (C 0 + 1)), ia cy (mm 11) 4 bi, ia cy (mm 12) 4 si, la cy (mm 13) 160 (numF f)]) [3, 4, 0, 1, 2] (by decide) rfl
                subst hr_57
                have hcd : cLay x1 x2 x3 = 0 := by unfold cLay; clear hx hb hml hown hr hlocks hw hsz hA hG hK hP2 hD2 hS2 hl0; grind
                have hq9 : ([mO cy mm ik tl fm tz vl iw rm rr om, ia cy (mm 4) 7 (upd C 0 (C 0 + 1)), ia cy (mm 11) 4 bi, ia cy (mm 12) 4 si, la cy (mm 13) 160 (numF f)]) = ([mO cy mm ik tl fm tz vl iw rm rr om, ia cy (mm 4) 7 (fnd C (cLay x1 x2 x3)), ia cy (mm 11) 4 bi, ia cy (mm 12) 4 si, la cy (mm 13) 160 (numF f)]) := congrArg (fun z9 => [mO cy mm ik tl fm tz vl iw rm rr om, ia cy (mm 4) 7 z9, ia cy (mm 11) 4 bi, ia cy (mm 12) 4 si, la cy (mm 13) 160 (numF f)]) (show (upd C 0 (C 0 + 1)) = (fnd C (cLay x1 x2 x3)) from fnd_f hcd (by decide))
                replace hP2 := (congrArg (fun z9 => va_P D vwCl z9 _) hq9).mp hP2
                replace hD2 := (congrArg (fun z9 => va_D _ z9) hq9).mp hD2
                clear hq9
                have hq9 : ([mO cy mm ik tl fm tz vl iw rm rr om, ia cy (mm 4) 7 (fnd C (cLay x1 x2 x3)), ia cy (mm 11) 4 bi, ia cy (mm 12) 4 si, la cy (mm 13) 160 (numF f)]) = ([mO cy mm ik tl fm tz vl iw rm rr om, ia cy (mm 4) 7 (fnd C (cLay x1 x2 x3)), ia cy (mm 11) 4 (if cLay x1 x2 x3 = 7 then va_up bi (bstN x1) x2 else bi), ia cy (mm 12) 4 si, la cy (mm 13) 160 (numF f)]) := congrArg (fun z9 => [mO cy mm ik tl fm tz vl iw rm rr om, ia cy (mm 4) 7 (fnd C (cLay x1 x2 x3)), ia cy (mm 11) 4 z9, ia cy (mm 12) 4 si, la cy (mm 13) 160 (numF f)]) (show bi = (if cLay x1 x2 x3 = 7 then va_up bi (bstN x1) x2 else bi) from (if_neg (fun z9 => absurd (hcd.symm.trans z9) (by decide))).symm)
                replace hP2 := (congrArg (fun z9 => va_P D vwCl z9 _) hq9).mp hP2
                replace hD2 := (congrArg (fun z9 => va_D _ z9) hq9).mp hD2
                clear hq9
                have hq9 : ([mO cy mm ik tl fm tz vl iw rm rr om, ia cy (mm 4) 7 (fnd C (cLay x1 x2 x3)), ia cy (mm 11) 4 (if cLay x1 x2 x3 = 7 then va_up bi (bstN x1) x2 else bi), ia cy (mm 12) 4 si, la cy (mm 13) 160 (numF f)]) = ([mO cy mm ik tl fm tz vl iw rm rr om, ia cy (mm 4) 7 (fnd C (cLay x1 x2 x3)), ia cy (mm 11) 4 (if cLay x1 x2 x3 = 7 then va_up bi (bstN x1) x2 else bi), ia cy (mm 12) 4 (if cLay x1 x2 x3 = 7 then va_up si (bstN x1) (if x2 = 0 then 0 else x3) else si), la cy (mm 13) 160 (numF f)]) := congrArg (fun z9 => [mO cy mm ik tl fm tz vl iw rm rr om, ia cy (mm 4) 7 (fnd C (cLay x1 x2 x3)), ia cy (mm 11) 4 (if cLay x1 x2 x3 = 7 then va_up bi (bstN x1) x2 else bi), ia cy (mm 12) 4 z9, la cy (mm 13) 160 (numF f)]) (show si = (if cLay x1 x2 x3 = 7 then va_up si (bstN x1) (if x2 = 0 then 0 else x3) else si) from (if_neg (fun z9 => absurd (hcd.symm.trans z9) (by decide))).symm)
                replace hP2 := (congrArg (fun z9 => va_P D vwCl z9 _) hq9).mp hP2
                replace hD2 := (congrArg (fun z9 => va_D _ z9) hq9).mp hD2
                clear hq9
                have hq9 : ([mO cy mm ik tl fm tz vl iw rm rr om, ia cy (mm 4) 7 (fnd C (cLay x1 x2 x3)), ia cy (mm 11) 4 (if cLay x1 x2 x3 = 7 then va_up bi (bstN x1) x2 else bi), ia cy (mm 12) 4 (if cLay x1 x2 x3 = 7 then va_up si (bstN x1) (if x2 = 0 then 0 else x3) else si), la cy (mm 13) 160 (numF f)]) = ([mO cy mm ik tl fm tz vl iw rm rr om, ia cy (mm 4) 7 (fnd C (cLay x1 x2 x3)), ia cy (mm 11) 4 (if cLay x1 x2 x3 = 7 then va_up bi (bstN x1) x2 else bi), ia cy (mm 12) 4 (if cLay x1 x2 x3 = 7 then va_up si (bstN x1) (if x2 = 0 then 0 else x3) else si), la cy (mm 13) 160 (if cLay x1 x2 x3 = 7 then numF (va_up f (bstN x1) (fun _ => 0)) else numF f)]) := congrArg (fun z9 => [mO cy mm ik tl fm tz vl iw rm rr om, ia cy (mm 4) 7 (fnd C (cLay x1 x2 x3)), ia cy (mm 11) 4 (if cLay x1 x2 x3 = 7 then va_up bi (bstN x1) x2 else bi), ia cy (mm 12) 4 (if cLay x1 x2 x3 = 7 then va_up si (bstN x1) (if x2 = 0 then 0 else x3) else si), la cy (mm 13) 160 z9]) (show (numF f) = (if cLay x1 x2 x3 = 7 then numF (va_up f (bstN x1) (fun _ => 0)) else numF f) from (if_neg (fun z9 => absurd (hcd.symm.trans z9) (by decide))).symm)
                replace hP2 := (congrArg (fun z9 => va_P D vwCl z9 _) hq9).mp hP2
                replace hD2 := (congrArg (fun z9 => va_D _ z9) hq9).mp hD2
                clear hq9
                refine re_i () hx hb hr hlocks hP2 hD2 hS2 dX7_sheet_60 ?_
                exact (ans_f hcd (by decide) rfl)
            · refine lv_aload_n hx hb dX7_sheet_40 rfl (lv_at hl0 0 rfl) ?_
              refine lv_ldcw (v := (-1000000007)) hx hb hown (hw _ kw_5_199) dX7_sheet_41 ?_
              refine cV_i (wc := [mO cy mm ik tl fm tz vl iw rm rr om, ia cy (mm 4) 7 C]) (wr := [ia cy (mm 11) 4 bi, ia cy (mm 12) 4 si, la cy (mm 13) 160 (numF f)]) (rest := []) hx hb hml hown hw hG hK hP1 hD1 hS1 hA hl0 kc_X7_finds kw_4_139 [.int (-1000000007)] (c_X7_finds l D cy G H1.size mm ik tl fm tz vl iw rm rr om C 6 (-1000000007) (by decide) (by decide)) [0, 1] [2, 3, 4] rfl rfl rfl rfl rfl 0 rfl rfl rfl rfl rfl (Nat.le_of_ble_eq_true rfl) ⟨Nat.le_of_ble_eq_true rfl, Nat.le_of_ble_eq_true rfl⟩ dX7_sheet_44 ⟨Nat.le_of_ble_eq_true rfl, Nat.le_of_ble_eq_true rfl⟩ (fun r_44 u9 H2 locs2 hu9 hP2 hD2 hS2 => ?_)
              clear hP1 hD1 hS1 locs1 H1
              have hr_44 := hu9
              replace hP2 : va_P D vwCl ([ia cy (mm 11) 4 bi, ia cy (mm 12) 4 si, la cy (mm 13) 160 (numF f), mO cy mm ik tl fm tz vl iw rm rr om, ia cy (mm 4) 7 (upd C 6 (C 6 + 1))]) H2 := hP2
              replace hD2 : va_D (va_A _ sz) ([ia cy (mm 11) 4 bi, ia cy (mm 12) 4 si, la cy (mm 13) 160 (numF f), mO cy mm ik tl fm tz vl iw rm rr om, ia cy (mm 4) 7 (upd C 6 (C 6 + 1))]) := hD2
              replace hP2 := hP2.sub (ws' := [mO cy mm ik tl fm tz vl iw rm rr om, ia cy (mm 4) 7 (upd C 6 (C 6 + 1)), ia cy (mm 11) 4 bi, ia cy (mm 12) 4 si, la cy (mm 13) 160 (numF f)]) [3, 4, 0, 1, 2] rfl
              replace hD2 := hD2.sub (ws' := [mO cy mm ik tl fm tz vl iw rm rr om, ia cy (mm 4) 7 (upd C 6 (C 6 + 1)), ia cy (mm 11) 4 bi, ia cy (mm 12) 4 si, la cy (mm 13) 160 (numF f)]) [3, 4, 0, 1, 2] (by decide) rfl
              subst hr_44
              have hcd : cLay x1 x2 x3 = 6 := by unfold cLay; clear hx hb hml hown hr hlocks hw hsz hA hG hK hP2 hD2 hS2 hl0; grind
              have hq9 : ([mO cy mm ik tl fm tz vl iw rm rr om, ia cy (mm 4) 7 (upd C 6 (C 6 + 1)), ia cy (mm 11) 4 bi, ia cy (mm 12) 4 si, la cy (mm 13) 160 (numF f)]) = ([mO cy mm ik tl fm tz vl iw rm rr om, ia cy (mm 4) 7 (fnd C (cLay x1 x2 x3)), ia cy (mm 11) 4 bi, ia cy (mm 12) 4 si, la cy (mm 13) 160 (numF f)]) := congrArg (fun z9 => [mO cy mm ik tl fm tz vl iw rm rr om, ia cy (mm 4) 7 z9, ia cy (mm 11) 4 bi, ia cy (mm 12) 4 si, la cy (mm 13) 160 (numF f)]) (show (upd C 6 (C 6 + 1)) = (fnd C (cLay x1 x2 x3)) from fnd_f hcd (by decide))
              replace hP2 := (congrArg (fun z9 => va_P D vwCl z9 _) hq9).mp hP2
              replace hD2 := (congrArg (fun z9 => va_D _ z9) hq9).mp hD2
              clear hq9
              have hq9 : ([mO cy mm ik tl fm tz vl iw rm rr om, ia cy (mm 4) 7 (fnd C (cLay x1 x2 x3)), ia cy (mm 11) 4 bi, ia cy (mm 12) 4 si, la cy (mm 13) 160 (numF f)]) = ([mO cy mm ik tl fm tz vl iw rm rr om, ia cy (mm 4) 7 (fnd C (cLay x1 x2 x3)), ia cy (mm 11) 4 (if cLay x1 x2 x3 = 7 then va_up bi (bstN x1) x2 else bi), ia cy (mm 12) 4 si, la cy (mm 13) 160 (numF f)]) := congrArg (fun z9 => [mO cy mm ik tl fm tz vl iw rm rr om, ia cy (mm 4) 7 (fnd C (cLay x1 x2 x3)), ia cy (mm 11) 4 z9, ia cy (mm 12) 4 si, la cy (mm 13) 160 (numF f)]) (show bi = (if cLay x1 x2 x3 = 7 then va_up bi (bstN x1) x2 else bi) from (if_neg (fun z9 => absurd (hcd.symm.trans z9) (by decide))).symm)
              replace hP2 := (congrArg (fun z9 => va_P D vwCl z9 _) hq9).mp hP2
              replace hD2 := (congrArg (fun z9 => va_D _ z9) hq9).mp hD2
              clear hq9
              have hq9 : ([mO cy mm ik tl fm tz vl iw rm rr om, ia cy (mm 4) 7 (fnd C (cLay x1 x2 x3)), ia cy (mm 11) 4 (if cLay x1 x2 x3 = 7 then va_up bi (bstN x1) x2 else bi), ia cy (mm 12) 4 si, la cy (mm 13) 160 (numF f)]) = ([mO cy mm ik tl fm tz vl iw rm rr om, ia cy (mm 4) 7 (fnd C (cLay x1 x2 x3)), ia cy (mm 11) 4 (if cLay x1 x2 x3 = 7 then va_up bi (bstN x1) x2 else bi), ia cy (mm 12) 4 (if cLay x1 x2 x3 = 7 then va_up si (bstN x1) (if x2 = 0 then 0 else x3) else si), la cy (mm 13) 160 (numF f)]) := congrArg (fun z9 => [mO cy mm ik tl fm tz vl iw rm rr om, ia cy (mm 4) 7 (fnd C (cLay x1 x2 x3)), ia cy (mm 11) 4 (if cLay x1 x2 x3 = 7 then va_up bi (bstN x1) x2 else bi), ia cy (mm 12) 4 z9, la cy (mm 13) 160 (numF f)]) (show si = (if cLay x1 x2 x3 = 7 then va_up si (bstN x1) (if x2 = 0 then 0 else x3) else si) from (if_neg (fun z9 => absurd (hcd.symm.trans z9) (by decide))).symm)
              replace hP2 := (congrArg (fun z9 => va_P D vwCl z9 _) hq9).mp hP2
              replace hD2 := (congrArg (fun z9 => va_D _ z9) hq9).mp hD2
              clear hq9
              have hq9 : ([mO cy mm ik tl fm tz vl iw rm rr om, ia cy (mm 4) 7 (fnd C (cLay x1 x2 x3)), ia cy (mm 11) 4 (if cLay x1 x2 x3 = 7 then va_up bi (bstN x1) x2 else bi), ia cy (mm 12) 4 (if cLay x1 x2 x3 = 7 then va_up si (bstN x1) (if x2 = 0 then 0 else x3) else si), la cy (mm 13) 160 (numF f)]) = ([mO cy mm ik tl fm tz vl iw rm rr om, ia cy (mm 4) 7 (fnd C (cLay x1 x2 x3)), ia cy (mm 11) 4 (if cLay x1 x2 x3 = 7 then va_up bi (bstN x1) x2 else bi), ia cy (mm 12) 4 (if cLay x1 x2 x3 = 7 then va_up si (bstN x1) (if x2 = 0 then 0 else x3) else si), la cy (mm 13) 160 (if cLay x1 x2 x3 = 7 then numF (va_up f (bstN x1) (fun _ => 0)) else numF f)]) := congrArg (fun z9 => [mO cy mm ik tl fm tz vl iw rm rr om, ia cy (mm 4) 7 (fnd C (cLay x1 x2 x3)), ia cy (mm 11) 4 (if cLay x1 x2 x3 = 7 then va_up bi (bstN x1) x2 else bi), ia cy (mm 12) 4 (if cLay x1 x2 x3 = 7 then va_up si (bstN x1) (if x2 = 0 then 0 else x3) else si), la cy (mm 13) 160 z9]) (show (numF f) = (if cLay x1 x2 x3 = 7 then numF (va_up f (bstN x1) (fun _ => 0)) else numF f) from (if_neg (fun z9 => absurd (hcd.symm.trans z9) (by decide))).symm)
              replace hP2 := (congrArg (fun z9 => va_P D vwCl z9 _) hq9).mp hP2
              replace hD2 := (congrArg (fun z9 => va_D _ z9) hq9).mp hD2
              clear hq9
              refine re_i () hx hb hr hlocks hP2 hD2 hS2 dX7_sheet_47 ?_
              exact (ans_f hcd (by decide) rfl)
          · refine lv_aload_n hx hb dX7_sheet_29 rfl (lv_at hl0 0 rfl) ?_
            refine lv_ldc (v := (-1000000001)) hx hb hown (hw _ kw_4_143) dX7_sheet_30 ?_
            refine cV_i (wc := [mO cy mm ik tl fm tz vl iw rm rr om, ia cy (mm 4) 7 C]) (wr := [ia cy (mm 11) 4 bi, ia cy (mm 12) 4 si, la cy (mm 13) 160 (numF f)]) (rest := []) hx hb hml hown hw hG hK hP1 hD1 hS1 hA hl0 kc_X7_finds kw_4_139 [.int (-1000000001)] (c_X7_finds l D cy G H1.size mm ik tl fm tz vl iw rm rr om C 0 (-1000000001) (by decide) (by decide)) [0, 1] [2, 3, 4] rfl rfl rfl rfl rfl 0 rfl rfl rfl rfl rfl (Nat.le_of_ble_eq_true rfl) ⟨Nat.le_of_ble_eq_true rfl, Nat.le_of_ble_eq_true rfl⟩ dX7_sheet_32 ⟨Nat.le_of_ble_eq_true rfl, Nat.le_of_ble_eq_true rfl⟩ (fun r_32 u9 H2 locs2 hu9 hP2 hD2 hS2 => ?_)
            clear hP1 hD1 hS1 locs1 H1
            have hr_32 := hu9
            replace hP2 : va_P D vwCl ([ia cy (mm 11) 4 bi, ia cy (mm 12) 4 si, la cy (mm 13) 160 (numF f), mO cy mm ik tl fm tz vl iw rm rr om, ia cy (mm 4) 7 (upd C 0 (C 0 + 1))]) H2 := hP2
            replace hD2 : va_D (va_A _ sz) ([ia cy (mm 11) 4 bi, ia cy (mm 12) 4 si, la cy (mm 13) 160 (numF f), mO cy mm ik tl fm tz vl iw rm rr om, ia cy (mm 4) 7 (upd C 0 (C 0 + 1))]) := hD2
            replace hP2 := hP2.sub (ws' := [mO cy mm ik tl fm tz vl iw rm rr om, ia cy (mm 4) 7 (upd C 0 (C 0 + 1)), ia cy (mm 11) 4 bi, ia cy (mm 12) 4 si, la cy (mm 13) 160 (numF f)]) [3, 4, 0, 1, 2] rfl
            replace hD2 := hD2.sub (ws' := [mO cy mm ik tl fm tz vl iw rm rr om, ia cy (mm 4) 7 (upd C 0 (C 0 + 1)), ia cy (mm 11) 4 bi, ia cy (mm 12) 4 si, la cy (mm 13) 160 (numF f)]) [3, 4, 0, 1, 2] (by decide) rfl
            subst hr_32
            have hcd : cLay x1 x2 x3 = 0 := by unfold cLay; clear hx hb hml hown hr hlocks hw hsz hA hG hK hP2 hD2 hS2 hl0; grind
            have hq9 : ([mO cy mm ik tl fm tz vl iw rm rr om, ia cy (mm 4) 7 (upd C 0 (C 0 + 1)), ia cy (mm 11) 4 bi, ia cy (mm 12) 4 si, la cy (mm 13) 160 (numF f)]) = ([mO cy mm ik tl fm tz vl iw rm rr om, ia cy (mm 4) 7 (fnd C (cLay x1 x2 x3)), ia cy (mm 11) 4 bi, ia cy (mm 12) 4 si, la cy (mm 13) 160 (numF f)]) := congrArg (fun z9 => [mO cy mm ik tl fm tz vl iw rm rr om, ia cy (mm 4) 7 z9, ia cy (mm 11) 4 bi, ia cy (mm 12) 4 si, la cy (mm 13) 160 (numF f)]) (show (upd C 0 (C 0 + 1)) = (fnd C (cLay x1 x2 x3)) from fnd_f hcd (by decide))
            replace hP2 := (congrArg (fun z9 => va_P D vwCl z9 _) hq9).mp hP2
            replace hD2 := (congrArg (fun z9 => va_D _ z9) hq9).mp hD2
            clear hq9
            have hq9 : ([mO cy mm ik tl fm tz vl iw rm rr om, ia cy (mm 4) 7 (fnd C (cLay x1 x2 x3)), ia cy (mm 11) 4 bi, ia cy (mm 12) 4 si, la cy (mm 13) 160 (numF f)]) = ([mO cy mm ik tl fm tz vl iw rm rr om, ia cy (mm 4) 7 (fnd C (cLay x1 x2 x3)), ia cy (mm 11) 4 (if cLay x1 x2 x3 = 7 then va_up bi (bstN x1) x2 else bi), ia cy (mm 12) 4 si, la cy (mm 13) 160 (numF f)]) := congrArg (fun z9 => [mO cy mm ik tl fm tz vl iw rm rr om, ia cy (mm 4) 7 (fnd C (cLay x1 x2 x3)), ia cy (mm 11) 4 z9, ia cy (mm 12) 4 si, la cy (mm 13) 160 (numF f)]) (show bi = (if cLay x1 x2 x3 = 7 then va_up bi (bstN x1) x2 else bi) from (if_neg (fun z9 => absurd (hcd.symm.trans z9) (by decide))).symm)
            replace hP2 := (congrArg (fun z9 => va_P D vwCl z9 _) hq9).mp hP2
            replace hD2 := (congrArg (fun z9 => va_D _ z9) hq9).mp hD2
            clear hq9
            have hq9 : ([mO cy mm ik tl fm tz vl iw rm rr om, ia cy (mm 4) 7 (fnd C (cLay x1 x2 x3)), ia cy (mm 11) 4 (if cLay x1 x2 x3 = 7 then va_up bi (bstN x1) x2 else bi), ia cy (mm 12) 4 si, la cy (mm 13) 160 (numF f)]) = ([mO cy mm ik tl fm tz vl iw rm rr om, ia cy (mm 4) 7 (fnd C (cLay x1 x2 x3)), ia cy (mm 11) 4 (if cLay x1 x2 x3 = 7 then va_up bi (bstN x1) x2 else bi), ia cy (mm 12) 4 (if cLay x1 x2 x3 = 7 then va_up si (bstN x1) (if x2 = 0 then 0 else x3) else si), la cy (mm 13) 160 (numF f)]) := congrArg (fun z9 => [mO cy mm ik tl fm tz vl iw rm rr om, ia cy (mm 4) 7 (fnd C (cLay x1 x2 x3)), ia cy (mm 11) 4 (if cLay x1 x2 x3 = 7 then va_up bi (bstN x1) x2 else bi), ia cy (mm 12) 4 z9, la cy (mm 13) 160 (numF f)]) (show si = (if cLay x1 x2 x3 = 7 then va_up si (bstN x1) (if x2 = 0 then 0 else x3) else si) from (if_neg (fun z9 => absurd (hcd.symm.trans z9) (by decide))).symm)
            replace hP2 := (congrArg (fun z9 => va_P D vwCl z9 _) hq9).mp hP2
            replace hD2 := (congrArg (fun z9 => va_D _ z9) hq9).mp hD2
            clear hq9
            have hq9 : ([mO cy mm ik tl fm tz vl iw rm rr om, ia cy (mm 4) 7 (fnd C (cLay x1 x2 x3)), ia cy (mm 11) 4 (if cLay x1 x2 x3 = 7 then va_up bi (bstN x1) x2 else bi), ia cy (mm 12) 4 (if cLay x1 x2 x3 = 7 then va_up si (bstN x1) (if x2 = 0 then 0 else x3) else si), la cy (mm 13) 160 (numF f)]) = ([mO cy mm ik tl fm tz vl iw rm rr om, ia cy (mm 4) 7 (fnd C (cLay x1 x2 x3)), ia cy (mm 11) 4 (if cLay x1 x2 x3 = 7 then va_up bi (bstN x1) x2 else bi), ia cy (mm 12) 4 (if cLay x1 x2 x3 = 7 then va_up si (bstN x1) (if x2 = 0 then 0 else x3) else si), la cy (mm 13) 160 (if cLay x1 x2 x3 = 7 then numF (va_up f (bstN x1) (fun _ => 0)) else numF f)]) := congrArg (fun z9 => [mO cy mm ik tl fm tz vl iw rm rr om, ia cy (mm 4) 7 (fnd C (cLay x1 x2 x3)), ia cy (mm 11) 4 (if cLay x1 x2 x3 = 7 then va_up bi (bstN x1) x2 else bi), ia cy (mm 12) 4 (if cLay x1 x2 x3 = 7 then va_up si (bstN x1) (if x2 = 0 then 0 else x3) else si), la cy (mm 13) 160 z9]) (show (numF f) = (if cLay x1 x2 x3 = 7 then numF (va_up f (bstN x1) (fun _ => 0)) else numF f) from (if_neg (fun z9 => absurd (hcd.symm.trans z9) (by decide))).symm)
            replace hP2 := (congrArg (fun z9 => va_P D vwCl z9 _) hq9).mp hP2
            replace hD2 := (congrArg (fun z9 => va_D _ z9) hq9).mp hD2
            clear hq9
            refine re_i () hx hb hr hlocks hP2 hD2 hS2 dX7_sheet_35 ?_
            exact (ans_f hcd (by decide) rfl)

theorem kc_X7_write : kV yX7_write cX7_write 8 (some .long) 3 := ⟨kw_5_201, kw_5_202, kw_1_8, kw_5_203, by decide, by decide, by decide +kernel⟩
set_option maxHeartbeats 4000000 in
set_option maxRecDepth 100000 in
theorem c_X7_write (l : Launch) (D : va_G) (cy : Nat → ClassId) (G : Nat → Nat) (sz : Nat) (mm : Nat → Nat) (ik : Int32) (tl : Int32) (fm : Int32) (tz : Int32) (vl : Int32) (iw : Int32) (rm : Int32) (rr : Int32) (om : Int32) (C : Nat → Int32) (bi : Nat → Int32) (si : Nat → Int32) (f : Nat → Nat → Int64) (x1 : Int32) (x2 : Int32) (x3 : Int64) (hso : shOk si f) : Met l yX7_write (wm yX7_write cX7_write 8 (some .long)) { frames := 3, cells := 0, slots := 0, locals := 66 } (va_Pc [.ref (mm 0), .int x1, .int x2, .long x3] (pr D (TY cy) G ([mO cy mm ik tl fm tz vl iw rm rr om, ia cy (mm 4) 7 C, ia cy (mm 11) 4 bi, ia cy (mm 12) 4 si, la cy (mm 13) 160 (numF f)]) sz)) (va_Ql (fun (r : Int64) (u : Unit) => r = ansL (cWrite bi si x1 x2) (f (bstN x1) (bstN x2))) (fun (u : Unit) t => po D (va_A ([mO cy mm ik tl fm tz vl iw rm rr om, ia cy (mm 4) 7 C, ia cy (mm 11) 4 bi, ia cy (mm 12) 4 si, la cy (mm 13) 160 (numF f)]) sz) ([mO cy mm ik tl fm tz vl iw rm rr om, ia cy (mm 4) 7 (fnd C (cWrite bi si x1 x2)), ia cy (mm 11) 4 bi, ia cy (mm 12) 4 si, la cy (mm 13) 160 (if cWrite bi si x1 x2 = 7 then numF (va_up f (bstN x1) (vp_updL (f (bstN x1)) (bstN x2) (nrw (bi (bstN x1)) x3))) else numF f)]) t) (va_A ([mO cy mm ik tl fm tz vl iw rm rr om, ia cy (mm 4) 7 C, ia cy (mm 11) 4 bi, ia cy (mm 12) 4 si, la cy (mm 13) 160 (numF f)]) sz)) 0 0 (va_A ([mO cy mm ik tl fm tz vl iw rm rr om, ia cy (mm 4) 7 C, ia cy (mm 11) 4 bi, ia cy (mm 12) 4 si, la cy (mm 13) 160 (numF f)]) sz) := by
  refine mk_rw (by decide) RX7 rfl (Nat.le_of_ble_eq_true rfl) [(0, .ref (mm 0)), (1, .int x1), (2, .int x2), (3, .long x3)] rfl ?_
  intro p e s m below meth c hx hb hml hown hr hlocks hin hw hsz hA hG hK H0 locs0 hP0 hD0 hS0 ls0 hl0
  clear hin
  refine lv_aload_n hx hb dX7_write_0 rfl (lv_at hl0 0 rfl) ?_
  refine lv_iload_n hx hb dX7_write_1 rfl (lv_at hl0 1 rfl) ?_
  refine rV_i (wc := [mO cy mm ik tl fm tz vl iw rm rr om, ia cy (mm 11) 4 bi]) (rest := []) hx hb hml hown hw hG hK hP0 hS0 hA hl0 kc_X7_wrong kw_5_204 [.int x1] (c_X7_wrong l D cy G H0.size mm ik tl fm tz vl iw rm rr om bi x1) [0, 2] rfl 0 rfl rfl rfl rfl rfl (Nat.le_of_ble_eq_true rfl) ⟨Nat.le_of_ble_eq_true rfl, Nat.le_of_ble_eq_true rfl⟩ dX7_write_2 ⟨Nat.le_of_ble_eq_true rfl, Nat.le_of_ble_eq_true rfl⟩ (fun r_2 H1 locs1 hr_2 hP1 hS1 => ?_)
  have hD1 := hD0
  clear hP0 hD0 hS0 locs0 H0
  subst hr_2
  rcases wr_c bi x1 with ⟨hwr, ew9⟩ | ⟨hwr, hw0, ew9⟩ | ⟨hwr, hw0, ew9⟩
  · refine tp (show wrR bi x1 = -1000000001 from ew9) ?_
    refine lv_istore (lv' := [(5, .int (-1000000001)), (0, .ref (mm 0)), (1, .int x1), (2, .int x2), (3, .long x3)]) hx hb dX7_write_5 hl0 (by decide) rfl (fun ls1 hl1 => ?_)
    clear hl0 ls0
    refine lv_iload hx hb dX7_write_7 (lv_at hl1 0 rfl) ?_
    refine lv_if_eq (tgt := 20) hx hb dX7_write_9 (by decide) (fun c => absurd c (by decide)) (fun _ => ?_)
    refine lv_aload_n hx hb dX7_write_12 rfl (lv_at hl1 1 rfl) ?_
    refine lv_iload hx hb dX7_write_13 (lv_at hl1 0 rfl) ?_
    refine cV_i (wc := [mO cy mm ik tl fm tz vl iw rm rr om, ia cy (mm 4) 7 C]) (wr := [ia cy (mm 11) 4 bi, ia cy (mm 12) 4 si, la cy (mm 13) 160 (numF f)]) (rest := []) hx hb hml hown hw hG hK hP1 hD1 hS1 hA hl1 kc_X7_finds kw_4_139 [.int (-1000000001)] (c_X7_finds l D cy G H1.size mm ik tl fm tz vl iw rm rr om C 0 (-1000000001) (by decide) (by decide)) [0, 1] [2, 3, 4] rfl rfl rfl rfl rfl 0 rfl rfl rfl rfl rfl (Nat.le_of_ble_eq_true rfl) ⟨Nat.le_of_ble_eq_true rfl, Nat.le_of_ble_eq_true rfl⟩ dX7_write_15 ⟨Nat.le_of_ble_eq_true rfl, Nat.le_of_ble_eq_true rfl⟩ (fun r_15 u9 H2 locs2 hu9 hP2 hD2 hS2 => ?_)
    clear hP1 hD1 hS1 locs1 H1
    have hr_15 := hu9
    replace hP2 : va_P D vwCl ([ia cy (mm 11) 4 bi, ia cy (mm 12) 4 si, la cy (mm 13) 160 (numF f), mO cy mm ik tl fm tz vl iw rm rr om, ia cy (mm 4) 7 (upd C 0 (C 0 + 1))]) H2 := hP2
    replace hD2 : va_D (va_A _ sz) ([ia cy (mm 11) 4 bi, ia cy (mm 12) 4 si, la cy (mm 13) 160 (numF f), mO cy mm ik tl fm tz vl iw rm rr om, ia cy (mm 4) 7 (upd C 0 (C 0 + 1))]) := hD2
    replace hP2 := hP2.sub (ws' := [mO cy mm ik tl fm tz vl iw rm rr om, ia cy (mm 4) 7 (upd C 0 (C 0 + 1)), ia cy (mm 11) 4 bi, ia cy (mm 12) 4 si, la cy (mm 13) 160 (numF f)]) [3, 4, 0, 1, 2] rfl
    replace hD2 := hD2.sub (ws' := [mO cy mm ik tl fm tz vl iw rm rr om, ia cy (mm 4) 7 (upd C 0 (C 0 + 1)), ia cy (mm 11) 4 bi, ia cy (mm 12) 4 si, la cy (mm 13) 160 (numF f)]) [3, 4, 0, 1, 2] (by decide) rfl
    subst hr_15
    refine lv_i2l hx hb dX7_write_18 rfl ?_
    have hcd : cWrite bi si x1 x2 = 0 := by unfold cWrite; clear hx hb hml hown hr hlocks hw hsz hA hG hK hP2 hD2 hS2 hl1; grind
    have hq9 : ([mO cy mm ik tl fm tz vl iw rm rr om, ia cy (mm 4) 7 (upd C 0 (C 0 + 1)), ia cy (mm 11) 4 bi, ia cy (mm 12) 4 si, la cy (mm 13) 160 (numF f)]) = ([mO cy mm ik tl fm tz vl iw rm rr om, ia cy (mm 4) 7 (fnd C (cWrite bi si x1 x2)), ia cy (mm 11) 4 bi, ia cy (mm 12) 4 si, la cy (mm 13) 160 (numF f)]) := congrArg (fun z9 => [mO cy mm ik tl fm tz vl iw rm rr om, ia cy (mm 4) 7 z9, ia cy (mm 11) 4 bi, ia cy (mm 12) 4 si, la cy (mm 13) 160 (numF f)]) (show (upd C 0 (C 0 + 1)) = (fnd C (cWrite bi si x1 x2)) from fnd_f hcd (by decide))
    replace hP2 := (congrArg (fun z9 => va_P D vwCl z9 _) hq9).mp hP2
    replace hD2 := (congrArg (fun z9 => va_D _ z9) hq9).mp hD2
    clear hq9
    have hq9 : ([mO cy mm ik tl fm tz vl iw rm rr om, ia cy (mm 4) 7 (fnd C (cWrite bi si x1 x2)), ia cy (mm 11) 4 bi, ia cy (mm 12) 4 si, la cy (mm 13) 160 (numF f)]) = ([mO cy mm ik tl fm tz vl iw rm rr om, ia cy (mm 4) 7 (fnd C (cWrite bi si x1 x2)), ia cy (mm 11) 4 bi, ia cy (mm 12) 4 si, la cy (mm 13) 160 (if cWrite bi si x1 x2 = 7 then numF (va_up f (bstN x1) (vp_updL (f (bstN x1)) (bstN x2) (nrw (bi (bstN x1)) x3))) else numF f)]) := congrArg (fun z9 => [mO cy mm ik tl fm tz vl iw rm rr om, ia cy (mm 4) 7 (fnd C (cWrite bi si x1 x2)), ia cy (mm 11) 4 bi, ia cy (mm 12) 4 si, la cy (mm 13) 160 z9]) (show (numF f) = (if cWrite bi si x1 x2 = 7 then numF (va_up f (bstN x1) (vp_updL (f (bstN x1)) (bstN x2) (nrw (bi (bstN x1)) x3))) else numF f) from (if_neg (fun z9 => absurd (hcd.symm.trans z9) (by decide))).symm)
    replace hP2 := (congrArg (fun z9 => va_P D vwCl z9 _) hq9).mp hP2
    replace hD2 := (congrArg (fun z9 => va_D _ z9) hq9).mp hD2
    clear hq9
    refine re_l () hx hb hr hlocks hP2 hD2 hS2 dX7_write_19 ?_
    exact (ansL_f hcd (by decide) rfl)
  · refine tp (show wrR bi x1 = -1000000006 from ew9) ?_
    refine lv_istore (lv' := [(5, .int (-1000000006)), (0, .ref (mm 0)), (1, .int x1), (2, .int x2), (3, .long x3)]) hx hb dX7_write_5 hl0 (by decide) rfl (fun ls1 hl1 => ?_)
    clear hl0 ls0
    refine lv_iload hx hb dX7_write_7 (lv_at hl1 0 rfl) ?_
    refine lv_if_eq (tgt := 20) hx hb dX7_write_9 (by decide) (fun c => absurd c (by decide)) (fun _ => ?_)
    refine lv_aload_n hx hb dX7_write_12 rfl (lv_at hl1 1 rfl) ?_
    refine lv_iload hx hb dX7_write_13 (lv_at hl1 0 rfl) ?_
    refine cV_i (wc := [mO cy mm ik tl fm tz vl iw rm rr om, ia cy (mm 4) 7 C]) (wr := [ia cy (mm 11) 4 bi, ia cy (mm 12) 4 si, la cy (mm 13) 160 (numF f)]) (rest := []) hx hb hml hown hw hG hK hP1 hD1 hS1 hA hl1 kc_X7_finds kw_4_139 [.int (-1000000006)] (c_X7_finds l D cy G H1.size mm ik tl fm tz vl iw rm rr om C 5 (-1000000006) (by decide) (by decide)) [0, 1] [2, 3, 4] rfl rfl rfl rfl rfl 0 rfl rfl rfl rfl rfl (Nat.le_of_ble_eq_true rfl) ⟨Nat.le_of_ble_eq_true rfl, Nat.le_of_ble_eq_true rfl⟩ dX7_write_15 ⟨Nat.le_of_ble_eq_true rfl, Nat.le_of_ble_eq_true rfl⟩ (fun r_15 u9 H2 locs2 hu9 hP2 hD2 hS2 => ?_)
    clear hP1 hD1 hS1 locs1 H1
    have hr_15 := hu9
    replace hP2 : va_P D vwCl ([ia cy (mm 11) 4 bi, ia cy (mm 12) 4 si, la cy (mm 13) 160 (numF f), mO cy mm ik tl fm tz vl iw rm rr om, ia cy (mm 4) 7 (upd C 5 (C 5 + 1))]) H2 := hP2
    replace hD2 : va_D (va_A _ sz) ([ia cy (mm 11) 4 bi, ia cy (mm 12) 4 si, la cy (mm 13) 160 (numF f), mO cy mm ik tl fm tz vl iw rm rr om, ia cy (mm 4) 7 (upd C 5 (C 5 + 1))]) := hD2
    replace hP2 := hP2.sub (ws' := [mO cy mm ik tl fm tz vl iw rm rr om, ia cy (mm 4) 7 (upd C 5 (C 5 + 1)), ia cy (mm 11) 4 bi, ia cy (mm 12) 4 si, la cy (mm 13) 160 (numF f)]) [3, 4, 0, 1, 2] rfl
    replace hD2 := hD2.sub (ws' := [mO cy mm ik tl fm tz vl iw rm rr om, ia cy (mm 4) 7 (upd C 5 (C 5 + 1)), ia cy (mm 11) 4 bi, ia cy (mm 12) 4 si, la cy (mm 13) 160 (numF f)]) [3, 4, 0, 1, 2] (by decide) rfl
    subst hr_15
    refine lv_i2l hx hb dX7_write_18 rfl ?_
    have hcd : cWrite bi si x1 x2 = 5 := by unfold cWrite; clear hx hb hml hown hr hlocks hw hsz hA hG hK hP2 hD2 hS2 hl1; grind
    have hq9 : ([mO cy mm ik tl fm tz vl iw rm rr om, ia cy (mm 4) 7 (upd C 5 (C 5 + 1)), ia cy (mm 11) 4 bi, ia cy (mm 12) 4 si, la cy (mm 13) 160 (numF f)]) = ([mO cy mm ik tl fm tz vl iw rm rr om, ia cy (mm 4) 7 (fnd C (cWrite bi si x1 x2)), ia cy (mm 11) 4 bi, ia cy (mm 12) 4 si, la cy (mm 13) 160 (numF f)]) := congrArg (fun z9 => [mO cy mm ik tl fm tz vl iw rm rr om, ia cy (mm 4) 7 z9, ia cy (mm 11) 4 bi, ia cy (mm 12) 4 si, la cy (mm 13) 160 (numF f)]) (show (upd C 5 (C 5 + 1)) = (fnd C (cWrite bi si x1 x2)) from fnd_f hcd (by decide))
    replace hP2 := (congrArg (fun z9 => va_P D vwCl z9 _) hq9).mp hP2
    replace hD2 := (congrArg (fun z9 => va_D _ z9) hq9).mp hD2
    clear hq9
    have hq9 : ([mO cy mm ik tl fm tz vl iw rm rr om, ia cy (mm 4) 7 (fnd C (cWrite bi si x1 x2)), ia cy (mm 11) 4 bi, ia cy (mm 12) 4 si, la cy (mm 13) 160 (numF f)]) = ([mO cy mm ik tl fm tz vl iw rm rr om, ia cy (mm 4) 7 (fnd C (cWrite bi si x1 x2)), ia cy (mm 11) 4 bi, ia cy (mm 12) 4 si, la cy (mm 13) 160 (if cWrite bi si x1 x2 = 7 then numF (va_up f (bstN x1) (vp_updL (f (bstN x1)) (bstN x2) (nrw (bi (bstN x1)) x3))) else numF f)]) := congrArg (fun z9 => [mO cy mm ik tl fm tz vl iw rm rr om, ia cy (mm 4) 7 (fnd C (cWrite bi si x1 x2)), ia cy (mm 11) 4 bi, ia cy (mm 12) 4 si, la cy (mm 13) 160 z9]) (show (numF f) = (if cWrite bi si x1 x2 = 7 then numF (va_up f (bstN x1) (vp_updL (f (bstN x1)) (bstN x2) (nrw (bi (bstN x1)) x3))) else numF f) from (if_neg (fun z9 => absurd (hcd.symm.trans z9) (by decide))).symm)
    replace hP2 := (congrArg (fun z9 => va_P D vwCl z9 _) hq9).mp hP2
    replace hD2 := (congrArg (fun z9 => va_D _ z9) hq9).mp hD2
    clear hq9
    refine re_l () hx hb hr hlocks hP2 hD2 hS2 dX7_write_19 ?_
    exact (ansL_f hcd (by decide) rfl)
  · refine tp (show wrR bi x1 = 0 from ew9) ?_
    obtain ⟨i0, hi4, rfl⟩ := nI_rn (n := 4) (by decide) (x := x1) ⟨hwr.1, Int32.lt_of_le_of_lt hwr.2 (by decide)⟩
    have hbi : bstN (nI i0) = i0 := bst_n (by omega)
    rw [hbi] at hw0
    have hs0 := hso i0 hi4
    have hs40 := hs0.2.1
    refine lv_istore (lv' := [(5, .int 0), (0, .ref (mm 0)), (1, .int (nI i0)), (2, .int x2), (3, .long x3)]) hx hb dX7_write_5 hl0 (by decide) rfl (fun ls1 hl1 => ?_)
    clear hl0 ls0
    refine lv_iload hx hb dX7_write_7 (lv_at hl1 0 rfl) ?_
    refine lv_if_eq (tgt := 20) hx hb dX7_write_9 (by decide) (fun _ => ?_) (fun c => absurd (by decide) c)
    refine lv_iload_n hx hb dX7_write_20 rfl (lv_at hl1 3 rfl) ?_
    refine lv_i2l hx hb dX7_write_21 rfl ?_
    refine lv_lconst (v := 0) hx hb dX7_write_22 (by decide) ?_
    refine lv_aload_n hx hb dX7_write_23 rfl (lv_at hl1 1 rfl) ?_
    refine va_get (D := D) (ci := 7) (v := .ref (mm 12)) (C := RX7) (T := TX7) (N := 23) hx hb hw iX7 hown hK hP1 0 rfl rfl 20 (by decide) (hw _ kw_4_84) (fun _ h9 => h9) rfl dX7_write_24 ?_
    refine lv_iload_n hx hb dX7_write_27 rfl (lv_at hl1 2 rfl) ?_
    refine ald_i (f := si) hx hb hK hP1 3 0 rfl rfl i0 rfl (by first | omega | assumption) (by decide) dX7_write_28 ?_
    refine tp (show (si i0) = nI (bstN (si i0)) from hs0.1) ?_
    refine lv_iconst (v := 1) hx hb dX7_write_29 (by decide) ?_
    refine lv_isub hx hb dX7_write_30 ?_
    refine lv_i2l hx hb dX7_write_31 rfl ?_
    refine rT_i (wc := []) (rest := []) hx hb hml hown hw hG hK hP1 hS1 hA hl1 kc_X7_in kw_4_153 [.long x2.toInt64, .long 0, .long (((nI (bstN (si i0))) - 1).toInt64)] (c_X7_in l D cy G H1.size x2.toInt64 0 (((nI (bstN (si i0))) - 1).toInt64)) [] rfl rfl rfl (Nat.le_of_ble_eq_true rfl) ⟨Nat.le_of_ble_eq_true rfl, Nat.le_of_ble_eq_true rfl⟩ dX7_write_32 ⟨Nat.le_of_ble_eq_true rfl, Nat.le_of_ble_eq_true rfl⟩ (fun r_32 H2 locs2 hr_32 hP2 hS2 => ?_)
    have hD2 := hD1
    clear hP1 hD1 hS1 locs1 H1
    subst hr_32
    refine tp (show (b2i (0 ≤ x2.toInt64 ∧ x2.toInt64 ≤ (((nI (bstN (si i0))) - 1).toInt64))) = b2i (0 ≤ x2 ∧ x2 ≤ (nI (bstN (si i0))) - 1) from b2i_iff (in_c (by decide) rfl)) ?_
    refine lb_ne (tgt := 46) hx hb dX7_write_35 (by decide) (fun c_35 => ?_) (fun c_35 => ?_)
    · have hin := c_35
      rw [pred_lt (by omega)] at hin
      obtain ⟨j, hj, rfl⟩ := nI_rn (n := bstN (si i0)) (by omega) (x := x2) hin
      have hbj : bstN (nI j) = j := bst_n (by omega)
      refine lv_aload_n hx hb dX7_write_46 rfl (lv_at hl1 1 rfl) ?_
      refine va_get (D := D) (ci := 7) (v := .ref (mm 13)) (C := RX7) (T := TX7) (N := 23) hx hb hw iX7 hown hK hP2 0 rfl rfl 21 (by decide) (hw _ kw_4_85) (fun _ h9 => h9) rfl dX7_write_47 ?_
      refine lv_bipush (v := 40) hx hb dX7_write_50 (by decide) ?_
      refine lv_iload_n hx hb dX7_write_52 rfl (lv_at hl1 2 rfl) ?_
      refine lv_imul hx hb dX7_write_53 ?_
      refine tp (show (40 * (nI i0)) = nI (40 * i0) from pk_mul _ _) ?_
      refine lv_iload_n hx hb dX7_write_54 rfl (lv_at hl1 3 rfl) ?_
      refine lv_iadd hx hb dX7_write_55 ?_
      refine tp (show ((nI (40 * i0)) + (nI j)) = nI (40 * i0 + j) from nI_add _ _) ?_
      refine ald_l (f := numF f) hx hb hK hP2 4 1 rfl rfl (40 * i0 + j) rfl (by first | omega | assumption) (by decide) dX7_write_56 ?_
      refine tpl (show ((numF f) (40 * i0 + j)) = f i0 j from numF_at _ (by omega)) ?_
      refine lv_lstore (lv' := [(6, .long (f i0 j)), (5, .int 0), (0, .ref (mm 0)), (1, .int (nI i0)), (2, .int (nI j)), (3, .long x3)]) hx hb dX7_write_57 hl1 (by decide) rfl (fun ls2 hl2 => ?_)
      clear hl1 ls1
      refine lv_aload_n hx hb dX7_write_59 rfl (lv_at hl2 2 rfl) ?_
      refine va_get (D := D) (ci := 7) (v := .ref (mm 13)) (C := RX7) (T := TX7) (N := 23) hx hb hw iX7 hown hK hP2 0 rfl rfl 21 (by decide) (hw _ kw_4_85) (fun _ h9 => h9) rfl dX7_write_60 ?_
      refine lv_bipush (v := 40) hx hb dX7_write_63 (by decide) ?_
      refine lv_iload_n hx hb dX7_write_65 rfl (lv_at hl2 3 rfl) ?_
      refine lv_imul hx hb dX7_write_66 ?_
      refine tp (show (40 * (nI i0)) = nI (40 * i0) from pk_mul _ _) ?_
      refine lv_iload_n hx hb dX7_write_67 rfl (lv_at hl2 4 rfl) ?_
      refine lv_iadd hx hb dX7_write_68 ?_
      refine tp (show ((nI (40 * i0)) + (nI j)) = nI (40 * i0 + j) from nI_add _ _) ?_
      refine lv_aload_n hx hb dX7_write_69 rfl (lv_at hl2 2 rfl) ?_
      refine va_get (D := D) (ci := 7) (v := .ref (mm 11)) (C := RX7) (T := TX7) (N := 23) hx hb hw iX7 hown hK hP2 0 rfl rfl 19 (by decide) (hw _ kw_4_83) (fun _ h9 => h9) rfl dX7_write_70 ?_
      refine lv_iload_n hx hb dX7_write_73 rfl (lv_at hl2 3 rfl) ?_
      refine ald_i (f := bi) hx hb hK hP2 2 0 rfl rfl i0 rfl (by first | omega | assumption) (by decide) dX7_write_74 ?_
      refine lv_lload_n hx hb dX7_write_75 rfl (lv_at hl2 5 rfl) ?_
      refine rT_l (wc := []) (rest := [.int (nI (40 * i0 + j)), .ref (mm 13)]) hx hb hml hown hw hG hK hP2 hS2 hA hl2 kc_X7_narrowed kw_5_209 [.int (bi i0), .long x3] (c_X7_narrowed l D cy G H2.size (bi i0) x3) [] rfl rfl rfl (Nat.le_of_ble_eq_true rfl) ⟨Nat.le_of_ble_eq_true rfl, Nat.le_of_ble_eq_true rfl⟩ dX7_write_76 ⟨Nat.le_of_ble_eq_true rfl, Nat.le_of_ble_eq_true rfl⟩ (fun r_76 H3 locs3 hr_76 hP3 hS3 => ?_)
      have hD3 := hD2
      clear hP2 hD2 hS2 locs2 H2
      subst hr_76
      refine ast_l (f := numF f) (ws' := [mO cy mm ik tl fm tz vl iw rm rr om, ia cy (mm 4) 7 C, ia cy (mm 11) 4 bi, ia cy (mm 12) 4 si, la cy (mm 13) 160 (vp_updL (numF f) (40 * i0 + j) (nrw (bi i0) x3))]) hx hb hK hP3 hD3 hS3 4 1 rfl rfl (40 * i0 + j) rfl (by first | omega | assumption) (by decide) rfl dX7_write_79 (fun H4 locs4 hP4 hD4 hS4 => ?_)
      clear hP3 hD3 hS3 locs3 H3
      have hq9 : ([mO cy mm ik tl fm tz vl iw rm rr om, ia cy (mm 4) 7 C, ia cy (mm 11) 4 bi, ia cy (mm 12) 4 si, la cy (mm 13) 160 (vp_updL (numF f) (40 * i0 + j) (nrw (bi i0) x3))]) = ([mO cy mm ik tl fm tz vl iw rm rr om, ia cy (mm 4) 7 C, ia cy (mm 11) 4 bi, ia cy (mm 12) 4 si, la cy (mm 13) 160 (numF (va_up f i0 (vp_updL (f i0) j (nrw (bi i0) x3))))]) := congrArg (fun z9 => [mO cy mm ik tl fm tz vl iw rm rr om, ia cy (mm 4) 7 C, ia cy (mm 11) 4 bi, ia cy (mm 12) 4 si, la cy (mm 13) 160 z9]) (show (vp_updL (numF f) (40 * i0 + j) (nrw (bi i0) x3)) = (numF (va_up f i0 (vp_updL (f i0) j (nrw (bi i0) x3)))) from by rw [numF_up _ _ (by omega)])
      replace hP4 := (congrArg (fun z9 => va_P D vwCl z9 _) hq9).mp hP4
      replace hD4 := (congrArg (fun z9 => va_D _ z9) hq9).mp hD4
      clear hq9
      refine lv_lload hx hb dX7_write_80 (lv_at hl2 0 rfl) ?_
      have hcd : cWrite bi si (nI i0) (nI j) = 7 := by unfold cWrite; rw [hbi]; clear hx hb hml hown hr hlocks hw hsz hA hG hK hP4 hD4 hS4 hl2; grind
      have hq9 : ([mO cy mm ik tl fm tz vl iw rm rr om, ia cy (mm 4) 7 C, ia cy (mm 11) 4 bi, ia cy (mm 12) 4 si, la cy (mm 13) 160 (numF (va_up f i0 (vp_updL (f i0) j (nrw (bi i0) x3))))]) = ([mO cy mm ik tl fm tz vl iw rm rr om, ia cy (mm 4) 7 (fnd C (cWrite bi si (nI i0) (nI j))), ia cy (mm 11) 4 bi, ia cy (mm 12) 4 si, la cy (mm 13) 160 (numF (va_up f i0 (vp_updL (f i0) j (nrw (bi i0) x3))))]) := congrArg (fun z9 => [mO cy mm ik tl fm tz vl iw rm rr om, ia cy (mm 4) 7 z9, ia cy (mm 11) 4 bi, ia cy (mm 12) 4 si, la cy (mm 13) 160 (numF (va_up f i0 (vp_updL (f i0) j (nrw (bi i0) x3))))]) (show C = (fnd C (cWrite bi si (nI i0) (nI j))) from fnd_o hcd)
      replace hP4 := (congrArg (fun z9 => va_P D vwCl z9 _) hq9).mp hP4
      replace hD4 := (congrArg (fun z9 => va_D _ z9) hq9).mp hD4
      clear hq9
      have hq9 : ([mO cy mm ik tl fm tz vl iw rm rr om, ia cy (mm 4) 7 (fnd C (cWrite bi si (nI i0) (nI j))), ia cy (mm 11) 4 bi, ia cy (mm 12) 4 si, la cy (mm 13) 160 (numF (va_up f i0 (vp_updL (f i0) j (nrw (bi i0) x3))))]) = ([mO cy mm ik tl fm tz vl iw rm rr om, ia cy (mm 4) 7 (fnd C (cWrite bi si (nI i0) (nI j))), ia cy (mm 11) 4 bi, ia cy (mm 12) 4 si, la cy (mm 13) 160 (if cWrite bi si (nI i0) (nI j) = 7 then numF (va_up f (bstN (nI i0)) (vp_updL (f (bstN (nI i0))) (bstN (nI j)) (nrw (bi (bstN (nI i0))) x3))) else numF f)]) := congrArg (fun z9 => [mO cy mm ik tl fm tz vl iw rm rr om, ia cy (mm 4) 7 (fnd C (cWrite bi si (nI i0) (nI j))), ia cy (mm 11) 4 bi, ia cy (mm 12) 4 si, la cy (mm 13) 160 z9]) (show (numF (va_up f i0 (vp_updL (f i0) j (nrw (bi i0) x3)))) = (if cWrite bi si (nI i0) (nI j) = 7 then numF (va_up f (bstN (nI i0)) (vp_updL (f (bstN (nI i0))) (bstN (nI j)) (nrw (bi (bstN (nI i0))) x3))) else numF f) from by rw [if_pos hcd]; simp only [hbj, hbi])
      replace hP4 := (congrArg (fun z9 => va_P D vwCl z9 _) hq9).mp hP4
      replace hD4 := (congrArg (fun z9 => va_D _ z9) hq9).mp hD4
      clear hq9
      refine re_l () hx hb hr hlocks hP4 hD4 hS4 dX7_write_82 ?_
      exact (ansL_o hcd (by rw [hbj, hbi]))
    · refine lv_aload_n hx hb dX7_write_38 rfl (lv_at hl1 1 rfl) ?_
      refine lv_ldc (v := (-1000000001)) hx hb hown (hw _ kw_4_143) dX7_write_39 ?_
      refine cV_i (wc := [mO cy mm ik tl fm tz vl iw rm rr om, ia cy (mm 4) 7 C]) (wr := [ia cy (mm 11) 4 bi, ia cy (mm 12) 4 si, la cy (mm 13) 160 (numF f)]) (rest := []) hx hb hml hown hw hG hK hP2 hD2 hS2 hA hl1 kc_X7_finds kw_4_139 [.int (-1000000001)] (c_X7_finds l D cy G H2.size mm ik tl fm tz vl iw rm rr om C 0 (-1000000001) (by decide) (by decide)) [0, 1] [2, 3, 4] rfl rfl rfl rfl rfl 0 rfl rfl rfl rfl rfl (Nat.le_of_ble_eq_true rfl) ⟨Nat.le_of_ble_eq_true rfl, Nat.le_of_ble_eq_true rfl⟩ dX7_write_41 ⟨Nat.le_of_ble_eq_true rfl, Nat.le_of_ble_eq_true rfl⟩ (fun r_41 u9 H3 locs3 hu9 hP3 hD3 hS3 => ?_)
      clear hP2 hD2 hS2 locs2 H2
      have hr_41 := hu9
      replace hP3 : va_P D vwCl ([ia cy (mm 11) 4 bi, ia cy (mm 12) 4 si, la cy (mm 13) 160 (numF f), mO cy mm ik tl fm tz vl iw rm rr om, ia cy (mm 4) 7 (upd C 0 (C 0 + 1))]) H3 := hP3
      replace hD3 : va_D (va_A _ sz) ([ia cy (mm 11) 4 bi, ia cy (mm 12) 4 si, la cy (mm 13) 160 (numF f), mO cy mm ik tl fm tz vl iw rm rr om, ia cy (mm 4) 7 (upd C 0 (C 0 + 1))]) := hD3
      replace hP3 := hP3.sub (ws' := [mO cy mm ik tl fm tz vl iw rm rr om, ia cy (mm 4) 7 (upd C 0 (C 0 + 1)), ia cy (mm 11) 4 bi, ia cy (mm 12) 4 si, la cy (mm 13) 160 (numF f)]) [3, 4, 0, 1, 2] rfl
      replace hD3 := hD3.sub (ws' := [mO cy mm ik tl fm tz vl iw rm rr om, ia cy (mm 4) 7 (upd C 0 (C 0 + 1)), ia cy (mm 11) 4 bi, ia cy (mm 12) 4 si, la cy (mm 13) 160 (numF f)]) [3, 4, 0, 1, 2] (by decide) rfl
      subst hr_41
      refine lv_i2l hx hb dX7_write_44 rfl ?_
      have hcd : cWrite bi si (nI i0) x2 = 0 := by unfold cWrite; rw [hbi]; have hpl := pred_lt (g := x2) (n := bstN (si i0)) (by omega); clear hx hb hml hown hr hlocks hw hsz hA hG hK hP3 hD3 hS3 hl1; grind
      have hq9 : ([mO cy mm ik tl fm tz vl iw rm rr om, ia cy (mm 4) 7 (upd C 0 (C 0 + 1)), ia cy (mm 11) 4 bi, ia cy (mm 12) 4 si, la cy (mm 13) 160 (numF f)]) = ([mO cy mm ik tl fm tz vl iw rm rr om, ia cy (mm 4) 7 (fnd C (cWrite bi si (nI i0) x2)), ia cy (mm 11) 4 bi, ia cy (mm 12) 4 si, la cy (mm 13) 160 (numF f)]) := congrArg (fun z9 => [mO cy mm ik tl fm tz vl iw rm rr om, ia cy (mm 4) 7 z9, ia cy (mm 11) 4 bi, ia cy (mm 12) 4 si, la cy (mm 13) 160 (numF f)]) (show (upd C 0 (C 0 + 1)) = (fnd C (cWrite bi si (nI i0) x2)) from fnd_f hcd (by decide))
      replace hP3 := (congrArg (fun z9 => va_P D vwCl z9 _) hq9).mp hP3
      replace hD3 := (congrArg (fun z9 => va_D _ z9) hq9).mp hD3
      clear hq9
      have hq9 : ([mO cy mm ik tl fm tz vl iw rm rr om, ia cy (mm 4) 7 (fnd C (cWrite bi si (nI i0) x2)), ia cy (mm 11) 4 bi, ia cy (mm 12) 4 si, la cy (mm 13) 160 (numF f)]) = ([mO cy mm ik tl fm tz vl iw rm rr om, ia cy (mm 4) 7 (fnd C (cWrite bi si (nI i0) x2)), ia cy (mm 11) 4 bi, ia cy (mm 12) 4 si, la cy (mm 13) 160 (if cWrite bi si (nI i0) x2 = 7 then numF (va_up f (bstN (nI i0)) (vp_updL (f (bstN (nI i0))) (bstN x2) (nrw (bi (bstN (nI i0))) x3))) else numF f)]) := congrArg (fun z9 => [mO cy mm ik tl fm tz vl iw rm rr om, ia cy (mm 4) 7 (fnd C (cWrite bi si (nI i0) x2)), ia cy (mm 11) 4 bi, ia cy (mm 12) 4 si, la cy (mm 13) 160 z9]) (show (numF f) = (if cWrite bi si (nI i0) x2 = 7 then numF (va_up f (bstN (nI i0)) (vp_updL (f (bstN (nI i0))) (bstN x2) (nrw (bi (bstN (nI i0))) x3))) else numF f) from (if_neg (fun z9 => absurd (hcd.symm.trans z9) (by decide))).symm)
      replace hP3 := (congrArg (fun z9 => va_P D vwCl z9 _) hq9).mp hP3
      replace hD3 := (congrArg (fun z9 => va_D _ z9) hq9).mp hD3
      clear hq9
      refine re_l () hx hb hr hlocks hP3 hD3 hS3 dX7_write_45 ?_
      exact (ansL_f hcd (by decide) rfl)

theorem kc_X7_copy : kV yX7_copy cX7_copy 7 (some .int) 5 := ⟨kw_5_213, kw_5_214, kw_1_8, kw_5_215, by decide, by decide, by decide +kernel⟩
set_option maxHeartbeats 4000000 in
set_option maxRecDepth 100000 in
theorem c_X7_copy (l : Launch) (D : va_G) (cy : Nat → ClassId) (G : Nat → Nat) (sz : Nat) (mm : Nat → Nat) (ik : Int32) (tl : Int32) (fm : Int32) (tz : Int32) (vl : Int32) (iw : Int32) (rm : Int32) (rr : Int32) (om : Int32) (C : Nat → Int32) (bi : Nat → Int32) (si : Nat → Int32) (f : Nat → Nat → Int64) (mv : Nat → Int64) (x1 : Int32) (x2 : Int32) (x3 : Int32) (x4 : Int32) (x5 : Int32) (hso : shOk si f) : Met l yX7_copy (wm yX7_copy cX7_copy 7 (some .int)) { frames := 2, cells := 0, slots := 0, locals := 45 } (va_Pc [.ref (mm 0), .int x1, .int x2, .int x3, .int x4, .int x5] (pr D (TY cy) G ([mO cy mm ik tl fm tz vl iw rm rr om, ia cy (mm 4) 7 C, ia cy (mm 11) 4 bi, ia cy (mm 12) 4 si, la cy (mm 13) 160 (numF f), la cy (mm 14) 40 mv]) sz)) (va_Qi (fun (r : Int32) (u : (Nat → Int64)) => r = ans (cCopy bi si x1 x2 x3 x4 x5) (x5)) (fun (u : (Nat → Int64)) t => po D (va_A ([mO cy mm ik tl fm tz vl iw rm rr om, ia cy (mm 4) 7 C, ia cy (mm 11) 4 bi, ia cy (mm 12) 4 si, la cy (mm 13) 160 (numF f), la cy (mm 14) 40 mv]) sz) ([mO cy mm ik tl fm tz vl iw rm rr om, ia cy (mm 4) 7 (fnd C (cCopy bi si x1 x2 x3 x4 x5)), ia cy (mm 11) 4 bi, ia cy (mm 12) 4 si, la cy (mm 13) 160 (if cCopy bi si x1 x2 x3 x4 x5 = 7 then numF (va_up f (bstN x3) (va_cpy (f (bstN x1)) (f (bstN x3)) (bstN x2) (bstN x4) (bstN x5))) else numF f), la cy (mm 14) 40 u]) t) (va_A ([mO cy mm ik tl fm tz vl iw rm rr om, ia cy (mm 4) 7 C, ia cy (mm 11) 4 bi, ia cy (mm 12) 4 si, la cy (mm 13) 160 (numF f), la cy (mm 14) 40 mv]) sz)) 0 0 (va_A ([mO cy mm ik tl fm tz vl iw rm rr om, ia cy (mm 4) 7 C, ia cy (mm 11) 4 bi, ia cy (mm 12) 4 si, la cy (mm 13) 160 (numF f), la cy (mm 14) 40 mv]) sz) := by
  refine mk_rw (by decide) RX7 rfl (Nat.le_of_ble_eq_true rfl) [(0, .ref (mm 0)), (1, .int x1), (2, .int x2), (3, .int x3), (4, .int x4), (5, .int x5)] rfl ?_
  intro p e s m below meth c hx hb hml hown hr hlocks hin hw hsz hA hG hK H0 locs0 hP0 hD0 hS0 ls0 hl0
  clear hin
  refine lv_iload_n hx hb dX7_copy_0 rfl (lv_at hl0 1 rfl) ?_
  refine rT_i (wc := []) (rest := []) hx hb hml hown hw hG hK hP0 hS0 hA hl0 kc_X7_isOne kw_5_196 [.int x1] (c_X7_isOne l D cy G H0.size x1) [] rfl rfl rfl (Nat.le_of_ble_eq_true rfl) ⟨Nat.le_of_ble_eq_true rfl, Nat.le_of_ble_eq_true rfl⟩ dX7_copy_1 ⟨Nat.le_of_ble_eq_true rfl, Nat.le_of_ble_eq_true rfl⟩ (fun r_1 H1 locs1 hr_1 hP1 hS1 => ?_)
  have hD1 := hD0
  clear hP0 hD0 hS0 locs0 H0
  subst hr_1
  refine lb_eq (tgt := 14) hx hb dX7_copy_4 (by decide) (fun c_4 => ?_) (fun c_4 => ?_)
  · refine lv_aload_n hx hb dX7_copy_14 rfl (lv_at hl0 0 rfl) ?_
    refine lv_ldc (v := (-1000000001)) hx hb hown (hw _ kw_4_143) dX7_copy_15 ?_
    refine cV_i (wc := [mO cy mm ik tl fm tz vl iw rm rr om, ia cy (mm 4) 7 C]) (wr := [ia cy (mm 11) 4 bi, ia cy (mm 12) 4 si, la cy (mm 13) 160 (numF f), la cy (mm 14) 40 mv]) (rest := []) hx hb hml hown hw hG hK hP1 hD1 hS1 hA hl0 kc_X7_finds kw_4_139 [.int (-1000000001)] (c_X7_finds l D cy G H1.size mm ik tl fm tz vl iw rm rr om C 0 (-1000000001) (by decide) (by decide)) [0, 1] [2, 3, 4, 5] rfl rfl rfl rfl rfl 0 rfl rfl rfl rfl rfl (Nat.le_of_ble_eq_true rfl) ⟨Nat.le_of_ble_eq_true rfl, Nat.le_of_ble_eq_true rfl⟩ dX7_copy_17 ⟨Nat.le_of_ble_eq_true rfl, Nat.le_of_ble_eq_true rfl⟩ (fun r_17 u9 H2 locs2 hu9 hP2 hD2 hS2 => ?_)
    clear hP1 hD1 hS1 locs1 H1
    have hr_17 := hu9
    replace hP2 : va_P D vwCl ([ia cy (mm 11) 4 bi, ia cy (mm 12) 4 si, la cy (mm 13) 160 (numF f), la cy (mm 14) 40 mv, mO cy mm ik tl fm tz vl iw rm rr om, ia cy (mm 4) 7 (upd C 0 (C 0 + 1))]) H2 := hP2
    replace hD2 : va_D (va_A _ sz) ([ia cy (mm 11) 4 bi, ia cy (mm 12) 4 si, la cy (mm 13) 160 (numF f), la cy (mm 14) 40 mv, mO cy mm ik tl fm tz vl iw rm rr om, ia cy (mm 4) 7 (upd C 0 (C 0 + 1))]) := hD2
    replace hP2 := hP2.sub (ws' := [mO cy mm ik tl fm tz vl iw rm rr om, ia cy (mm 4) 7 (upd C 0 (C 0 + 1)), ia cy (mm 11) 4 bi, ia cy (mm 12) 4 si, la cy (mm 13) 160 (numF f), la cy (mm 14) 40 mv]) [4, 5, 0, 1, 2, 3] rfl
    replace hD2 := hD2.sub (ws' := [mO cy mm ik tl fm tz vl iw rm rr om, ia cy (mm 4) 7 (upd C 0 (C 0 + 1)), ia cy (mm 11) 4 bi, ia cy (mm 12) 4 si, la cy (mm 13) 160 (numF f), la cy (mm 14) 40 mv]) [4, 5, 0, 1, 2, 3] (by decide) rfl
    subst hr_17
    have hcd : cCopy bi si x1 x2 x3 x4 x5 = 0 := by unfold cCopy; clear hx hb hml hown hr hlocks hw hsz hA hG hK hP2 hD2 hS2 hl0; grind
    have hq9 : ([mO cy mm ik tl fm tz vl iw rm rr om, ia cy (mm 4) 7 (upd C 0 (C 0 + 1)), ia cy (mm 11) 4 bi, ia cy (mm 12) 4 si, la cy (mm 13) 160 (numF f), la cy (mm 14) 40 mv]) = ([mO cy mm ik tl fm tz vl iw rm rr om, ia cy (mm 4) 7 (fnd C (cCopy bi si x1 x2 x3 x4 x5)), ia cy (mm 11) 4 bi, ia cy (mm 12) 4 si, la cy (mm 13) 160 (numF f), la cy (mm 14) 40 mv]) := congrArg (fun z9 => [mO cy mm ik tl fm tz vl iw rm rr om, ia cy (mm 4) 7 z9, ia cy (mm 11) 4 bi, ia cy (mm 12) 4 si, la cy (mm 13) 160 (numF f), la cy (mm 14) 40 mv]) (show (upd C 0 (C 0 + 1)) = (fnd C (cCopy bi si x1 x2 x3 x4 x5)) from fnd_f hcd (by decide))
    replace hP2 := (congrArg (fun z9 => va_P D vwCl z9 _) hq9).mp hP2
    replace hD2 := (congrArg (fun z9 => va_D _ z9) hq9).mp hD2
    clear hq9
    have hq9 : ([mO cy mm ik tl fm tz vl iw rm rr om, ia cy (mm 4) 7 (fnd C (cCopy bi si x1 x2 x3 x4 x5)), ia cy (mm 11) 4 bi, ia cy (mm 12) 4 si, la cy (mm 13) 160 (numF f), la cy (mm 14) 40 mv]) = ([mO cy mm ik tl fm tz vl iw rm rr om, ia cy (mm 4) 7 (fnd C (cCopy bi si x1 x2 x3 x4 x5)), ia cy (mm 11) 4 bi, ia cy (mm 12) 4 si, la cy (mm 13) 160 (if cCopy bi si x1 x2 x3 x4 x5 = 7 then numF (va_up f (bstN x3) (va_cpy (f (bstN x1)) (f (bstN x3)) (bstN x2) (bstN x4) (bstN x5))) else numF f), la cy (mm 14) 40 mv]) := congrArg (fun z9 => [mO cy mm ik tl fm tz vl iw rm rr om, ia cy (mm 4) 7 (fnd C (cCopy bi si x1 x2 x3 x4 x5)), ia cy (mm 11) 4 bi, ia cy (mm 12) 4 si, la cy (mm 13) 160 z9, la cy (mm 14) 40 mv]) (show (numF f) = (if cCopy bi si x1 x2 x3 x4 x5 = 7 then numF (va_up f (bstN x3) (va_cpy (f (bstN x1)) (f (bstN x3)) (bstN x2) (bstN x4) (bstN x5))) else numF f) from (if_neg (fun z9 => absurd (hcd.symm.trans z9) (by decide))).symm)
    replace hP2 := (congrArg (fun z9 => va_P D vwCl z9 _) hq9).mp hP2
    replace hD2 := (congrArg (fun z9 => va_D _ z9) hq9).mp hD2
    clear hq9
    refine re_i mv hx hb hr hlocks hP2 hD2 hS2 dX7_copy_20 ?_
    exact (ans_f hcd (by decide) rfl)
  · refine lv_iload_n hx hb dX7_copy_7 rfl (lv_at hl0 3 rfl) ?_
    refine rT_i (wc := []) (rest := []) hx hb hml hown hw hG hK hP1 hS1 hA hl0 kc_X7_isOne kw_5_196 [.int x3] (c_X7_isOne l D cy G H1.size x3) [] rfl rfl rfl (Nat.le_of_ble_eq_true rfl) ⟨Nat.le_of_ble_eq_true rfl, Nat.le_of_ble_eq_true rfl⟩ dX7_copy_8 ⟨Nat.le_of_ble_eq_true rfl, Nat.le_of_ble_eq_true rfl⟩ (fun r_8 H2 locs2 hr_8 hP2 hS2 => ?_)
    have hD2 := hD1
    clear hP1 hD1 hS1 locs1 H1
    subst hr_8
    refine lb_ne (tgt := 21) hx hb dX7_copy_11 (by decide) (fun c_11 => ?_) (fun c_11 => ?_)
    · obtain ⟨i0, hi4, rfl⟩ := nI_rn (n := 4) (by decide) (x := x1) ⟨c_4.1, Int32.lt_of_le_of_lt c_4.2 (by decide)⟩
      have hbi : bstN (nI i0) = i0 := bst_n (by omega)
      have hs0 := hso i0 hi4
      have hs40 := hs0.2.1
      obtain ⟨i3, hi34, rfl⟩ := nI_rn (n := 4) (by decide) (x := x3) ⟨c_11.1, Int32.lt_of_le_of_lt c_11.2 (by decide)⟩
      have hbi3 : bstN (nI i3) = i3 := bst_n (by omega)
      have hs3 := hso i3 hi34
      have hs340 := hs3.2.1
      have hre := row_eq (y := x2) (n := x5) (s := bstN (si i0)) (by omega)
      have hre3 := row_eq (y := x4) (n := x5) (s := bstN (si i3)) (by omega)
      refine lv_aload_n hx hb dX7_copy_21 rfl (lv_at hl0 0 rfl) ?_
      refine va_get (D := D) (ci := 7) (v := .ref (mm 11)) (C := RX7) (T := TX7) (N := 23) hx hb hw iX7 hown hK hP2 0 rfl rfl 19 (by decide) (hw _ kw_4_83) (fun _ h9 => h9) rfl dX7_copy_22 ?_
      refine lv_iload_n hx hb dX7_copy_25 rfl (lv_at hl0 1 rfl) ?_
      refine ald_i (f := bi) hx hb hK hP2 2 0 rfl rfl i0 rfl (by first | omega | assumption) (by decide) dX7_copy_26 ?_
      refine lv_if_eq (tgt := 39) hx hb dX7_copy_27 (by decide) (fun c_27 => ?_) (fun c_27 => ?_)
      · refine lv_aload_n hx hb dX7_copy_39 rfl (lv_at hl0 0 rfl) ?_
        refine lv_ldcw (v := (-1000000006)) hx hb hown (hw _ kw_5_208) dX7_copy_40 ?_
        refine cV_i (wc := [mO cy mm ik tl fm tz vl iw rm rr om, ia cy (mm 4) 7 C]) (wr := [ia cy (mm 11) 4 bi, ia cy (mm 12) 4 si, la cy (mm 13) 160 (numF f), la cy (mm 14) 40 mv]) (rest := []) hx hb hml hown hw hG hK hP2 hD2 hS2 hA hl0 kc_X7_finds kw_4_139 [.int (-1000000006)] (c_X7_finds l D cy G H2.size mm ik tl fm tz vl iw rm rr om C 5 (-1000000006) (by decide) (by decide)) [0, 1] [2, 3, 4, 5] rfl rfl rfl rfl rfl 0 rfl rfl rfl rfl rfl (Nat.le_of_ble_eq_true rfl) ⟨Nat.le_of_ble_eq_true rfl, Nat.le_of_ble_eq_true rfl⟩ dX7_copy_43 ⟨Nat.le_of_ble_eq_true rfl, Nat.le_of_ble_eq_true rfl⟩ (fun r_43 u9 H3 locs3 hu9 hP3 hD3 hS3 => ?_)
        clear hP2 hD2 hS2 locs2 H2
        have hr_43 := hu9
        replace hP3 : va_P D vwCl ([ia cy (mm 11) 4 bi, ia cy (mm 12) 4 si, la cy (mm 13) 160 (numF f), la cy (mm 14) 40 mv, mO cy mm ik tl fm tz vl iw rm rr om, ia cy (mm 4) 7 (upd C 5 (C 5 + 1))]) H3 := hP3
        replace hD3 : va_D (va_A _ sz) ([ia cy (mm 11) 4 bi, ia cy (mm 12) 4 si, la cy (mm 13) 160 (numF f), la cy (mm 14) 40 mv, mO cy mm ik tl fm tz vl iw rm rr om, ia cy (mm 4) 7 (upd C 5 (C 5 + 1))]) := hD3
        replace hP3 := hP3.sub (ws' := [mO cy mm ik tl fm tz vl iw rm rr om, ia cy (mm 4) 7 (upd C 5 (C 5 + 1)), ia cy (mm 11) 4 bi, ia cy (mm 12) 4 si, la cy (mm 13) 160 (numF f), la cy (mm 14) 40 mv]) [4, 5, 0, 1, 2, 3] rfl
        replace hD3 := hD3.sub (ws' := [mO cy mm ik tl fm tz vl iw rm rr om, ia cy (mm 4) 7 (upd C 5 (C 5 + 1)), ia cy (mm 11) 4 bi, ia cy (mm 12) 4 si, la cy (mm 13) 160 (numF f), la cy (mm 14) 40 mv]) [4, 5, 0, 1, 2, 3] (by decide) rfl
        subst hr_43
        have hcd : cCopy bi si (nI i0) x2 (nI i3) x4 x5 = 5 := by unfold cCopy; rw [hbi, hbi3]; clear hx hb hml hown hr hlocks hw hsz hA hG hK hP3 hD3 hS3 hl0; grind
        have hq9 : ([mO cy mm ik tl fm tz vl iw rm rr om, ia cy (mm 4) 7 (upd C 5 (C 5 + 1)), ia cy (mm 11) 4 bi, ia cy (mm 12) 4 si, la cy (mm 13) 160 (numF f), la cy (mm 14) 40 mv]) = ([mO cy mm ik tl fm tz vl iw rm rr om, ia cy (mm 4) 7 (fnd C (cCopy bi si (nI i0) x2 (nI i3) x4 x5)), ia cy (mm 11) 4 bi, ia cy (mm 12) 4 si, la cy (mm 13) 160 (numF f), la cy (mm 14) 40 mv]) := congrArg (fun z9 => [mO cy mm ik tl fm tz vl iw rm rr om, ia cy (mm 4) 7 z9, ia cy (mm 11) 4 bi, ia cy (mm 12) 4 si, la cy (mm 13) 160 (numF f), la cy (mm 14) 40 mv]) (show (upd C 5 (C 5 + 1)) = (fnd C (cCopy bi si (nI i0) x2 (nI i3) x4 x5)) from fnd_f hcd (by decide))
        replace hP3 := (congrArg (fun z9 => va_P D vwCl z9 _) hq9).mp hP3
        replace hD3 := (congrArg (fun z9 => va_D _ z9) hq9).mp hD3
        clear hq9
        have hq9 : ([mO cy mm ik tl fm tz vl iw rm rr om, ia cy (mm 4) 7 (fnd C (cCopy bi si (nI i0) x2 (nI i3) x4 x5)), ia cy (mm 11) 4 bi, ia cy (mm 12) 4 si, la cy (mm 13) 160 (numF f), la cy (mm 14) 40 mv]) = ([mO cy mm ik tl fm tz vl iw rm rr om, ia cy (mm 4) 7 (fnd C (cCopy bi si (nI i0) x2 (nI i3) x4 x5)), ia cy (mm 11) 4 bi, ia cy (mm 12) 4 si, la cy (mm 13) 160 (if cCopy bi si (nI i0) x2 (nI i3) x4 x5 = 7 then numF (va_up f (bstN (nI i3)) (va_cpy (f (bstN (nI i0))) (f (bstN (nI i3))) (bstN x2) (bstN x4) (bstN x5))) else numF f), la cy (mm 14) 40 mv]) := congrArg (fun z9 => [mO cy mm ik tl fm tz vl iw rm rr om, ia cy (mm 4) 7 (fnd C (cCopy bi si (nI i0) x2 (nI i3) x4 x5)), ia cy (mm 11) 4 bi, ia cy (mm 12) 4 si, la cy (mm 13) 160 z9, la cy (mm 14) 40 mv]) (show (numF f) = (if cCopy bi si (nI i0) x2 (nI i3) x4 x5 = 7 then numF (va_up f (bstN (nI i3)) (va_cpy (f (bstN (nI i0))) (f (bstN (nI i3))) (bstN x2) (bstN x4) (bstN x5))) else numF f) from (if_neg (fun z9 => absurd (hcd.symm.trans z9) (by decide))).symm)
        replace hP3 := (congrArg (fun z9 => va_P D vwCl z9 _) hq9).mp hP3
        replace hD3 := (congrArg (fun z9 => va_D _ z9) hq9).mp hD3
        clear hq9
        refine re_i mv hx hb hr hlocks hP3 hD3 hS3 dX7_copy_46 ?_
        exact (ans_f hcd (by decide) rfl)
      · refine lv_aload_n hx hb dX7_copy_30 rfl (lv_at hl0 0 rfl) ?_
        refine va_get (D := D) (ci := 7) (v := .ref (mm 11)) (C := RX7) (T := TX7) (N := 23) hx hb hw iX7 hown hK hP2 0 rfl rfl 19 (by decide) (hw _ kw_4_83) (fun _ h9 => h9) rfl dX7_copy_31 ?_
        refine lv_iload_n hx hb dX7_copy_34 rfl (lv_at hl0 3 rfl) ?_
        refine ald_i (f := bi) hx hb hK hP2 2 0 rfl rfl i3 rfl (by first | omega | assumption) (by decide) dX7_copy_35 ?_
        refine lv_if_ne (tgt := 47) hx hb dX7_copy_36 (by decide) (fun c_36 => ?_) (fun c_36 => ?_)
        · refine lv_aload_n hx hb dX7_copy_47 rfl (lv_at hl0 0 rfl) ?_
          refine va_get (D := D) (ci := 7) (v := .ref (mm 11)) (C := RX7) (T := TX7) (N := 23) hx hb hw iX7 hown hK hP2 0 rfl rfl 19 (by decide) (hw _ kw_4_83) (fun _ h9 => h9) rfl dX7_copy_48 ?_
          refine lv_iload_n hx hb dX7_copy_51 rfl (lv_at hl0 1 rfl) ?_
          refine ald_i (f := bi) hx hb hK hP2 2 0 rfl rfl i0 rfl (by first | omega | assumption) (by decide) dX7_copy_52 ?_
          refine lv_aload_n hx hb dX7_copy_53 rfl (lv_at hl0 0 rfl) ?_
          refine va_get (D := D) (ci := 7) (v := .ref (mm 11)) (C := RX7) (T := TX7) (N := 23) hx hb hw iX7 hown hK hP2 0 rfl rfl 19 (by decide) (hw _ kw_4_83) (fun _ h9 => h9) rfl dX7_copy_54 ?_
          refine lv_iload_n hx hb dX7_copy_57 rfl (lv_at hl0 3 rfl) ?_
          refine ald_i (f := bi) hx hb hK hP2 2 0 rfl rfl i3 rfl (by first | omega | assumption) (by decide) dX7_copy_58 ?_
          refine lv_icmp_eq (tgt := 69) hx hb dX7_copy_59 (by decide) (fun c_59 => ?_) (fun c_59 => ?_)
          · refine lv_iload_n hx hb dX7_copy_69 rfl (lv_at hl0 2 rfl) ?_
            refine lv_if_lt (tgt := 110) hx hb dX7_copy_70 (by decide) (fun c_70 => ?_) (fun c_70 => ?_)
            · refine lv_aload_n hx hb dX7_copy_110 rfl (lv_at hl0 0 rfl) ?_
              refine lv_ldc (v := (-1000000001)) hx hb hown (hw _ kw_4_143) dX7_copy_111 ?_
              refine cV_i (wc := [mO cy mm ik tl fm tz vl iw rm rr om, ia cy (mm 4) 7 C]) (wr := [ia cy (mm 11) 4 bi, ia cy (mm 12) 4 si, la cy (mm 13) 160 (numF f), la cy (mm 14) 40 mv]) (rest := []) hx hb hml hown hw hG hK hP2 hD2 hS2 hA hl0 kc_X7_finds kw_4_139 [.int (-1000000001)] (c_X7_finds l D cy G H2.size mm ik tl fm tz vl iw rm rr om C 0 (-1000000001) (by decide) (by decide)) [0, 1] [2, 3, 4, 5] rfl rfl rfl rfl rfl 0 rfl rfl rfl rfl rfl (Nat.le_of_ble_eq_true rfl) ⟨Nat.le_of_ble_eq_true rfl, Nat.le_of_ble_eq_true rfl⟩ dX7_copy_113 ⟨Nat.le_of_ble_eq_true rfl, Nat.le_of_ble_eq_true rfl⟩ (fun r_113 u9 H3 locs3 hu9 hP3 hD3 hS3 => ?_)
              clear hP2 hD2 hS2 locs2 H2
              have hr_113 := hu9
              replace hP3 : va_P D vwCl ([ia cy (mm 11) 4 bi, ia cy (mm 12) 4 si, la cy (mm 13) 160 (numF f), la cy (mm 14) 40 mv, mO cy mm ik tl fm tz vl iw rm rr om, ia cy (mm 4) 7 (upd C 0 (C 0 + 1))]) H3 := hP3
              replace hD3 : va_D (va_A _ sz) ([ia cy (mm 11) 4 bi, ia cy (mm 12) 4 si, la cy (mm 13) 160 (numF f), la cy (mm 14) 40 mv, mO cy mm ik tl fm tz vl iw rm rr om, ia cy (mm 4) 7 (upd C 0 (C 0 + 1))]) := hD3
              replace hP3 := hP3.sub (ws' := [mO cy mm ik tl fm tz vl iw rm rr om, ia cy (mm 4) 7 (upd C 0 (C 0 + 1)), ia cy (mm 11) 4 bi, ia cy (mm 12) 4 si, la cy (mm 13) 160 (numF f), la cy (mm 14) 40 mv]) [4, 5, 0, 1, 2, 3] rfl
              replace hD3 := hD3.sub (ws' := [mO cy mm ik tl fm tz vl iw rm rr om, ia cy (mm 4) 7 (upd C 0 (C 0 + 1)), ia cy (mm 11) 4 bi, ia cy (mm 12) 4 si, la cy (mm 13) 160 (numF f), la cy (mm 14) 40 mv]) [4, 5, 0, 1, 2, 3] (by decide) rfl
              subst hr_113
              have hcd : cCopy bi si (nI i0) x2 (nI i3) x4 x5 = 0 := by unfold cCopy; rw [hbi, hbi3]; clear hx hb hml hown hr hlocks hw hsz hA hG hK hP3 hD3 hS3 hl0; grind
              have hq9 : ([mO cy mm ik tl fm tz vl iw rm rr om, ia cy (mm 4) 7 (upd C 0 (C 0 + 1)), ia cy (mm 11) 4 bi, ia cy (mm 12) 4 si, la cy (mm 13) 160 (numF f), la cy (mm 14) 40 mv]) = ([mO cy mm ik tl fm tz vl iw rm rr om, ia cy (mm 4) 7 (fnd C (cCopy bi si (nI i0) x2 (nI i3) x4 x5)), ia cy (mm 11) 4 bi, ia cy (mm 12) 4 si, la cy (mm 13) 160 (numF f), la cy (mm 14) 40 mv]) := congrArg (fun z9 => [mO cy mm ik tl fm tz vl iw rm rr om, ia cy (mm 4) 7 z9, ia cy (mm 11) 4 bi, ia cy (mm 12) 4 si, la cy (mm 13) 160 (numF f), la cy (mm 14) 40 mv]) (show (upd C 0 (C 0 + 1)) = (fnd C (cCopy bi si (nI i0) x2 (nI i3) x4 x5)) from fnd_f hcd (by decide))
              replace hP3 := (congrArg (fun z9 => va_P D vwCl z9 _) hq9).mp hP3
              replace hD3 := (congrArg (fun z9 => va_D _ z9) hq9).mp hD3
              clear hq9
              have hq9 : ([mO cy mm ik tl fm tz vl iw rm rr om, ia cy (mm 4) 7 (fnd C (cCopy bi si (nI i0) x2 (nI i3) x4 x5)), ia cy (mm 11) 4 bi, ia cy (mm 12) 4 si, la cy (mm 13) 160 (numF f), la cy (mm 14) 40 mv]) = ([mO cy mm ik tl fm tz vl iw rm rr om, ia cy (mm 4) 7 (fnd C (cCopy bi si (nI i0) x2 (nI i3) x4 x5)), ia cy (mm 11) 4 bi, ia cy (mm 12) 4 si, la cy (mm 13) 160 (if cCopy bi si (nI i0) x2 (nI i3) x4 x5 = 7 then numF (va_up f (bstN (nI i3)) (va_cpy (f (bstN (nI i0))) (f (bstN (nI i3))) (bstN x2) (bstN x4) (bstN x5))) else numF f), la cy (mm 14) 40 mv]) := congrArg (fun z9 => [mO cy mm ik tl fm tz vl iw rm rr om, ia cy (mm 4) 7 (fnd C (cCopy bi si (nI i0) x2 (nI i3) x4 x5)), ia cy (mm 11) 4 bi, ia cy (mm 12) 4 si, la cy (mm 13) 160 z9, la cy (mm 14) 40 mv]) (show (numF f) = (if cCopy bi si (nI i0) x2 (nI i3) x4 x5 = 7 then numF (va_up f (bstN (nI i3)) (va_cpy (f (bstN (nI i0))) (f (bstN (nI i3))) (bstN x2) (bstN x4) (bstN x5))) else numF f) from (if_neg (fun z9 => absurd (hcd.symm.trans z9) (by decide))).symm)
              replace hP3 := (congrArg (fun z9 => va_P D vwCl z9 _) hq9).mp hP3
              replace hD3 := (congrArg (fun z9 => va_D _ z9) hq9).mp hD3
              clear hq9
              refine re_i mv hx hb hr hlocks hP3 hD3 hS3 dX7_copy_116 ?_
              exact (ans_f hcd (by decide) rfl)
            · refine lv_iload hx hb dX7_copy_73 (lv_at hl0 4 rfl) ?_
              refine lv_if_lt (tgt := 110) hx hb dX7_copy_75 (by decide) (fun c_75 => ?_) (fun c_75 => ?_)
              · refine lv_aload_n hx hb dX7_copy_110 rfl (lv_at hl0 0 rfl) ?_
                refine lv_ldc (v := (-1000000001)) hx hb hown (hw _ kw_4_143) dX7_copy_111 ?_
                refine cV_i (wc := [mO cy mm ik tl fm tz vl iw rm rr om, ia cy (mm 4) 7 C]) (wr := [ia cy (mm 11) 4 bi, ia cy (mm 12) 4 si, la cy (mm 13) 160 (numF f), la cy (mm 14) 40 mv]) (rest := []) hx hb hml hown hw hG hK hP2 hD2 hS2 hA hl0 kc_X7_finds kw_4_139 [.int (-1000000001)] (c_X7_finds l D cy G H2.size mm ik tl fm tz vl iw rm rr om C 0 (-1000000001) (by decide) (by decide)) [0, 1] [2, 3, 4, 5] rfl rfl rfl rfl rfl 0 rfl rfl rfl rfl rfl (Nat.le_of_ble_eq_true rfl) ⟨Nat.le_of_ble_eq_true rfl, Nat.le_of_ble_eq_true rfl⟩ dX7_copy_113 ⟨Nat.le_of_ble_eq_true rfl, Nat.le_of_ble_eq_true rfl⟩ (fun r_113 u9 H3 locs3 hu9 hP3 hD3 hS3 => ?_)
                clear hP2 hD2 hS2 locs2 H2
                have hr_113 := hu9
                replace hP3 : va_P D vwCl ([ia cy (mm 11) 4 bi, ia cy (mm 12) 4 si, la cy (mm 13) 160 (numF f), la cy (mm 14) 40 mv, mO cy mm ik tl fm tz vl iw rm rr om, ia cy (mm 4) 7 (upd C 0 (C 0 + 1))]) H3 := hP3
                replace hD3 : va_D (va_A _ sz) ([ia cy (mm 11) 4 bi, ia cy (mm 12) 4 si, la cy (mm 13) 160 (numF f), la cy (mm 14) 40 mv, mO cy mm ik tl fm tz vl iw rm rr om, ia cy (mm 4) 7 (upd C 0 (C 0 + 1))]) := hD3
                replace hP3 := hP3.sub (ws' := [mO cy mm ik tl fm tz vl iw rm rr om, ia cy (mm 4) 7 (upd C 0 (C 0 + 1)), ia cy (mm 11) 4 bi, ia cy (mm 12) 4 si, la cy (mm 13) 160 (numF f), la cy (mm 14) 40 mv]) [4, 5, 0, 1, 2, 3] rfl
                replace hD3 := hD3.sub (ws' := [mO cy mm ik tl fm tz vl iw rm rr om, ia cy (mm 4) 7 (upd C 0 (C 0 + 1)), ia cy (mm 11) 4 bi, ia cy (mm 12) 4 si, la cy (mm 13) 160 (numF f), la cy (mm 14) 40 mv]) [4, 5, 0, 1, 2, 3] (by decide) rfl
                subst hr_113
                have hcd : cCopy bi si (nI i0) x2 (nI i3) x4 x5 = 0 := by unfold cCopy; rw [hbi, hbi3]; clear hx hb hml hown hr hlocks hw hsz hA hG hK hP3 hD3 hS3 hl0; grind
                have hq9 : ([mO cy mm ik tl fm tz vl iw rm rr om, ia cy (mm 4) 7 (upd C 0 (C 0 + 1)), ia cy (mm 11) 4 bi, ia cy (mm 12) 4 si, la cy (mm 13) 160 (numF f), la cy (mm 14) 40 mv]) = ([mO cy mm ik tl fm tz vl iw rm rr om, ia cy (mm 4) 7 (fnd C (cCopy bi si (nI i0) x2 (nI i3) x4 x5)), ia cy (mm 11) 4 bi, ia cy (mm 12) 4 si, la cy (mm 13) 160 (numF f), la cy (mm 14) 40 mv]) := congrArg (fun z9 => [mO cy mm ik tl fm tz vl iw rm rr om, ia cy (mm 4) 7 z9, ia cy (mm 11) 4 bi, ia cy (mm 12) 4 si, la cy (mm 13) 160 (numF f), la cy (mm 14) 40 mv]) (show (upd C 0 (C 0 + 1)) = (fnd C (cCopy bi si (nI i0) x2 (nI i3) x4 x5)) from fnd_f hcd (by decide))
                replace hP3 := (congrArg (fun z9 => va_P D vwCl z9 _) hq9).mp hP3
                replace hD3 := (congrArg (fun z9 => va_D _ z9) hq9).mp hD3
                clear hq9
                have hq9 : ([mO cy mm ik tl fm tz vl iw rm rr om, ia cy (mm 4) 7 (fnd C (cCopy bi si (nI i0) x2 (nI i3) x4 x5)), ia cy (mm 11) 4 bi, ia cy (mm 12) 4 si, la cy (mm 13) 160 (numF f), la cy (mm 14) 40 mv]) = ([mO cy mm ik tl fm tz vl iw rm rr om, ia cy (mm 4) 7 (fnd C (cCopy bi si (nI i0) x2 (nI i3) x4 x5)), ia cy (mm 11) 4 bi, ia cy (mm 12) 4 si, la cy (mm 13) 160 (if cCopy bi si (nI i0) x2 (nI i3) x4 x5 = 7 then numF (va_up f (bstN (nI i3)) (va_cpy (f (bstN (nI i0))) (f (bstN (nI i3))) (bstN x2) (bstN x4) (bstN x5))) else numF f), la cy (mm 14) 40 mv]) := congrArg (fun z9 => [mO cy mm ik tl fm tz vl iw rm rr om, ia cy (mm 4) 7 (fnd C (cCopy bi si (nI i0) x2 (nI i3) x4 x5)), ia cy (mm 11) 4 bi, ia cy (mm 12) 4 si, la cy (mm 13) 160 z9, la cy (mm 14) 40 mv]) (show (numF f) = (if cCopy bi si (nI i0) x2 (nI i3) x4 x5 = 7 then numF (va_up f (bstN (nI i3)) (va_cpy (f (bstN (nI i0))) (f (bstN (nI i3))) (bstN x2) (bstN x4) (bstN x5))) else numF f) from (if_neg (fun z9 => absurd (hcd.symm.trans z9) (by decide))).symm)
                replace hP3 := (congrArg (fun z9 => va_P D vwCl z9 _) hq9).mp hP3
                replace hD3 := (congrArg (fun z9 => va_D _ z9) hq9).mp hD3
                clear hq9
                refine re_i mv hx hb hr hlocks hP3 hD3 hS3 dX7_copy_116 ?_
                exact (ans_f hcd (by decide) rfl)
              · refine lv_iload hx hb dX7_copy_78 (lv_at hl0 5 rfl) ?_
                refine lv_if_lt (tgt := 110) hx hb dX7_copy_80 (by decide) (fun c_80 => ?_) (fun c_80 => ?_)
                · refine lv_aload_n hx hb dX7_copy_110 rfl (lv_at hl0 0 rfl) ?_
                  refine lv_ldc (v := (-1000000001)) hx hb hown (hw _ kw_4_143) dX7_copy_111 ?_
                  refine cV_i (wc := [mO cy mm ik tl fm tz vl iw rm rr om, ia cy (mm 4) 7 C]) (wr := [ia cy (mm 11) 4 bi, ia cy (mm 12) 4 si, la cy (mm 13) 160 (numF f), la cy (mm 14) 40 mv]) (rest := []) hx hb hml hown hw hG hK hP2 hD2 hS2 hA hl0 kc_X7_finds kw_4_139 [.int (-1000000001)] (c_X7_finds l D cy G H2.size mm ik tl fm tz vl iw rm rr om C 0 (-1000000001) (by decide) (by decide)) [0, 1] [2, 3, 4, 5] rfl rfl rfl rfl rfl 0 rfl rfl rfl rfl rfl (Nat.le_of_ble_eq_true rfl) ⟨Nat.le_of_ble_eq_true rfl, Nat.le_of_ble_eq_true rfl⟩ dX7_copy_113 ⟨Nat.le_of_ble_eq_true rfl, Nat.le_of_ble_eq_true rfl⟩ (fun r_113 u9 H3 locs3 hu9 hP3 hD3 hS3 => ?_)
                  clear hP2 hD2 hS2 locs2 H2
                  have hr_113 := hu9
                  replace hP3 : va_P D vwCl ([ia cy (mm 11) 4 bi, ia cy (mm 12) 4 si, la cy (mm 13) 160 (numF f), la cy (mm 14) 40 mv, mO cy mm ik tl fm tz vl iw rm rr om, ia cy (mm 4) 7 (upd C 0 (C 0 + 1))]) H3 := hP3
                  replace hD3 : va_D (va_A _ sz) ([ia cy (mm 11) 4 bi, ia cy (mm 12) 4 si, la cy (mm 13) 160 (numF f), la cy (mm 14) 40 mv, mO cy mm ik tl fm tz vl iw rm rr om, ia cy (mm 4) 7 (upd C 0 (C 0 + 1))]) := hD3
                  replace hP3 := hP3.sub (ws' := [mO cy mm ik tl fm tz vl iw rm rr om, ia cy (mm 4) 7 (upd C 0 (C 0 + 1)), ia cy (mm 11) 4 bi, ia cy (mm 12) 4 si, la cy (mm 13) 160 (numF f), la cy (mm 14) 40 mv]) [4, 5, 0, 1, 2, 3] rfl
                  replace hD3 := hD3.sub (ws' := [mO cy mm ik tl fm tz vl iw rm rr om, ia cy (mm 4) 7 (upd C 0 (C 0 + 1)), ia cy (mm 11) 4 bi, ia cy (mm 12) 4 si, la cy (mm 13) 160 (numF f), la cy (mm 14) 40 mv]) [4, 5, 0, 1, 2, 3] (by decide) rfl
                  subst hr_113
                  have hcd : cCopy bi si (nI i0) x2 (nI i3) x4 x5 = 0 := by unfold cCopy; rw [hbi, hbi3]; clear hx hb hml hown hr hlocks hw hsz hA hG hK hP3 hD3 hS3 hl0; grind
                  have hq9 : ([mO cy mm ik tl fm tz vl iw rm rr om, ia cy (mm 4) 7 (upd C 0 (C 0 + 1)), ia cy (mm 11) 4 bi, ia cy (mm 12) 4 si, la cy (mm 13) 160 (numF f), la cy (mm 14) 40 mv]) = ([mO cy mm ik tl fm tz vl iw rm rr om, ia cy (mm 4) 7 (fnd C (cCopy bi si (nI i0) x2 (nI i3) x4 x5)), ia cy (mm 11) 4 bi, ia cy (mm 12) 4 si, la cy (mm 13) 160 (numF f), la cy (mm 14) 40 mv]) := congrArg (fun z9 => [mO cy mm ik tl fm tz vl iw rm rr om, ia cy (mm 4) 7 z9, ia cy (mm 11) 4 bi, ia cy (mm 12) 4 si, la cy (mm 13) 160 (numF f), la cy (mm 14) 40 mv]) (show (upd C 0 (C 0 + 1)) = (fnd C (cCopy bi si (nI i0) x2 (nI i3) x4 x5)) from fnd_f hcd (by decide))
                  replace hP3 := (congrArg (fun z9 => va_P D vwCl z9 _) hq9).mp hP3
                  replace hD3 := (congrArg (fun z9 => va_D _ z9) hq9).mp hD3
                  clear hq9
                  have hq9 : ([mO cy mm ik tl fm tz vl iw rm rr om, ia cy (mm 4) 7 (fnd C (cCopy bi si (nI i0) x2 (nI i3) x4 x5)), ia cy (mm 11) 4 bi, ia cy (mm 12) 4 si, la cy (mm 13) 160 (numF f), la cy (mm 14) 40 mv]) = ([mO cy mm ik tl fm tz vl iw rm rr om, ia cy (mm 4) 7 (fnd C (cCopy bi si (nI i0) x2 (nI i3) x4 x5)), ia cy (mm 11) 4 bi, ia cy (mm 12) 4 si, la cy (mm 13) 160 (if cCopy bi si (nI i0) x2 (nI i3) x4 x5 = 7 then numF (va_up f (bstN (nI i3)) (va_cpy (f (bstN (nI i0))) (f (bstN (nI i3))) (bstN x2) (bstN x4) (bstN x5))) else numF f), la cy (mm 14) 40 mv]) := congrArg (fun z9 => [mO cy mm ik tl fm tz vl iw rm rr om, ia cy (mm 4) 7 (fnd C (cCopy bi si (nI i0) x2 (nI i3) x4 x5)), ia cy (mm 11) 4 bi, ia cy (mm 12) 4 si, la cy (mm 13) 160 z9, la cy (mm 14) 40 mv]) (show (numF f) = (if cCopy bi si (nI i0) x2 (nI i3) x4 x5 = 7 then numF (va_up f (bstN (nI i3)) (va_cpy (f (bstN (nI i0))) (f (bstN (nI i3))) (bstN x2) (bstN x4) (bstN x5))) else numF f) from (if_neg (fun z9 => absurd (hcd.symm.trans z9) (by decide))).symm)
                  replace hP3 := (congrArg (fun z9 => va_P D vwCl z9 _) hq9).mp hP3
                  replace hD3 := (congrArg (fun z9 => va_D _ z9) hq9).mp hD3
                  clear hq9
                  refine re_i mv hx hb hr hlocks hP3 hD3 hS3 dX7_copy_116 ?_
                  exact (ans_f hcd (by decide) rfl)
                · refine lv_iload hx hb dX7_copy_83 (lv_at hl0 5 rfl) ?_
                  refine lv_aload_n hx hb dX7_copy_85 rfl (lv_at hl0 0 rfl) ?_
                  refine va_get (D := D) (ci := 7) (v := .ref (mm 12)) (C := RX7) (T := TX7) (N := 23) hx hb hw iX7 hown hK hP2 0 rfl rfl 20 (by decide) (hw _ kw_4_84) (fun _ h9 => h9) rfl dX7_copy_86 ?_
                  refine lv_iload_n hx hb dX7_copy_89 rfl (lv_at hl0 1 rfl) ?_
                  refine ald_i (f := si) hx hb hK hP2 3 0 rfl rfl i0 rfl (by first | omega | assumption) (by decide) dX7_copy_90 ?_
                  refine tp (show (si i0) = nI (bstN (si i0)) from hs0.1) ?_
                  refine lv_iload_n hx hb dX7_copy_91 rfl (lv_at hl0 2 rfl) ?_
                  refine lv_isub hx hb dX7_copy_92 ?_
                  refine lv_icmp_gt (tgt := 110) hx hb dX7_copy_93 (by decide) (fun c_93 => ?_) (fun c_93 => ?_)
                  · refine lv_aload_n hx hb dX7_copy_110 rfl (lv_at hl0 0 rfl) ?_
                    refine lv_ldc (v := (-1000000001)) hx hb hown (hw _ kw_4_143) dX7_copy_111 ?_
                    refine cV_i (wc := [mO cy mm ik tl fm tz vl iw rm rr om, ia cy (mm 4) 7 C]) (wr := [ia cy (mm 11) 4 bi, ia cy (mm 12) 4 si, la cy (mm 13) 160 (numF f), la cy (mm 14) 40 mv]) (rest := []) hx hb hml hown hw hG hK hP2 hD2 hS2 hA hl0 kc_X7_finds kw_4_139 [.int (-1000000001)] (c_X7_finds l D cy G H2.size mm ik tl fm tz vl iw rm rr om C 0 (-1000000001) (by decide) (by decide)) [0, 1] [2, 3, 4, 5] rfl rfl rfl rfl rfl 0 rfl rfl rfl rfl rfl (Nat.le_of_ble_eq_true rfl) ⟨Nat.le_of_ble_eq_true rfl, Nat.le_of_ble_eq_true rfl⟩ dX7_copy_113 ⟨Nat.le_of_ble_eq_true rfl, Nat.le_of_ble_eq_true rfl⟩ (fun r_113 u9 H3 locs3 hu9 hP3 hD3 hS3 => ?_)
                    clear hP2 hD2 hS2 locs2 H2
                    have hr_113 := hu9
                    replace hP3 : va_P D vwCl ([ia cy (mm 11) 4 bi, ia cy (mm 12) 4 si, la cy (mm 13) 160 (numF f), la cy (mm 14) 40 mv, mO cy mm ik tl fm tz vl iw rm rr om, ia cy (mm 4) 7 (upd C 0 (C 0 + 1))]) H3 := hP3
                    replace hD3 : va_D (va_A _ sz) ([ia cy (mm 11) 4 bi, ia cy (mm 12) 4 si, la cy (mm 13) 160 (numF f), la cy (mm 14) 40 mv, mO cy mm ik tl fm tz vl iw rm rr om, ia cy (mm 4) 7 (upd C 0 (C 0 + 1))]) := hD3
                    replace hP3 := hP3.sub (ws' := [mO cy mm ik tl fm tz vl iw rm rr om, ia cy (mm 4) 7 (upd C 0 (C 0 + 1)), ia cy (mm 11) 4 bi, ia cy (mm 12) 4 si, la cy (mm 13) 160 (numF f), la cy (mm 14) 40 mv]) [4, 5, 0, 1, 2, 3] rfl
                    replace hD3 := hD3.sub (ws' := [mO cy mm ik tl fm tz vl iw rm rr om, ia cy (mm 4) 7 (upd C 0 (C 0 + 1)), ia cy (mm 11) 4 bi, ia cy (mm 12) 4 si, la cy (mm 13) 160 (numF f), la cy (mm 14) 40 mv]) [4, 5, 0, 1, 2, 3] (by decide) rfl
                    subst hr_113
                    have hcd : cCopy bi si (nI i0) x2 (nI i3) x4 x5 = 0 := by unfold cCopy; rw [hbi, hbi3]; clear hx hb hml hown hr hlocks hw hsz hA hG hK hP3 hD3 hS3 hl0; grind
                    have hq9 : ([mO cy mm ik tl fm tz vl iw rm rr om, ia cy (mm 4) 7 (upd C 0 (C 0 + 1)), ia cy (mm 11) 4 bi, ia cy (mm 12) 4 si, la cy (mm 13) 160 (numF f), la cy (mm 14) 40 mv]) = ([mO cy mm ik tl fm tz vl iw rm rr om, ia cy (mm 4) 7 (fnd C (cCopy bi si (nI i0) x2 (nI i3) x4 x5)), ia cy (mm 11) 4 bi, ia cy (mm 12) 4 si, la cy (mm 13) 160 (numF f), la cy (mm 14) 40 mv]) := congrArg (fun z9 => [mO cy mm ik tl fm tz vl iw rm rr om, ia cy (mm 4) 7 z9, ia cy (mm 11) 4 bi, ia cy (mm 12) 4 si, la cy (mm 13) 160 (numF f), la cy (mm 14) 40 mv]) (show (upd C 0 (C 0 + 1)) = (fnd C (cCopy bi si (nI i0) x2 (nI i3) x4 x5)) from fnd_f hcd (by decide))
                    replace hP3 := (congrArg (fun z9 => va_P D vwCl z9 _) hq9).mp hP3
                    replace hD3 := (congrArg (fun z9 => va_D _ z9) hq9).mp hD3
                    clear hq9
                    have hq9 : ([mO cy mm ik tl fm tz vl iw rm rr om, ia cy (mm 4) 7 (fnd C (cCopy bi si (nI i0) x2 (nI i3) x4 x5)), ia cy (mm 11) 4 bi, ia cy (mm 12) 4 si, la cy (mm 13) 160 (numF f), la cy (mm 14) 40 mv]) = ([mO cy mm ik tl fm tz vl iw rm rr om, ia cy (mm 4) 7 (fnd C (cCopy bi si (nI i0) x2 (nI i3) x4 x5)), ia cy (mm 11) 4 bi, ia cy (mm 12) 4 si, la cy (mm 13) 160 (if cCopy bi si (nI i0) x2 (nI i3) x4 x5 = 7 then numF (va_up f (bstN (nI i3)) (va_cpy (f (bstN (nI i0))) (f (bstN (nI i3))) (bstN x2) (bstN x4) (bstN x5))) else numF f), la cy (mm 14) 40 mv]) := congrArg (fun z9 => [mO cy mm ik tl fm tz vl iw rm rr om, ia cy (mm 4) 7 (fnd C (cCopy bi si (nI i0) x2 (nI i3) x4 x5)), ia cy (mm 11) 4 bi, ia cy (mm 12) 4 si, la cy (mm 13) 160 z9, la cy (mm 14) 40 mv]) (show (numF f) = (if cCopy bi si (nI i0) x2 (nI i3) x4 x5 = 7 then numF (va_up f (bstN (nI i3)) (va_cpy (f (bstN (nI i0))) (f (bstN (nI i3))) (bstN x2) (bstN x4) (bstN x5))) else numF f) from (if_neg (fun z9 => absurd (hcd.symm.trans z9) (by decide))).symm)
                    replace hP3 := (congrArg (fun z9 => va_P D vwCl z9 _) hq9).mp hP3
                    replace hD3 := (congrArg (fun z9 => va_D _ z9) hq9).mp hD3
                    clear hq9
                    refine re_i mv hx hb hr hlocks hP3 hD3 hS3 dX7_copy_116 ?_
                    exact (ans_f hcd (by decide) rfl)
                  · refine lv_iload hx hb dX7_copy_96 (lv_at hl0 5 rfl) ?_
                    refine lv_aload_n hx hb dX7_copy_98 rfl (lv_at hl0 0 rfl) ?_
                    refine va_get (D := D) (ci := 7) (v := .ref (mm 12)) (C := RX7) (T := TX7) (N := 23) hx hb hw iX7 hown hK hP2 0 rfl rfl 20 (by decide) (hw _ kw_4_84) (fun _ h9 => h9) rfl dX7_copy_99 ?_
                    refine lv_iload_n hx hb dX7_copy_102 rfl (lv_at hl0 3 rfl) ?_
                    refine ald_i (f := si) hx hb hK hP2 3 0 rfl rfl i3 rfl (by first | omega | assumption) (by decide) dX7_copy_103 ?_
                    refine tp (show (si i3) = nI (bstN (si i3)) from hs3.1) ?_
                    refine lv_iload hx hb dX7_copy_104 (lv_at hl0 4 rfl) ?_
                    refine lv_isub hx hb dX7_copy_106 ?_
                    refine lv_icmp_le (tgt := 117) hx hb dX7_copy_107 (by decide) (fun c_107 => ?_) (fun c_107 => ?_)
                    · have h8 := hre.mpr ⟨Int32.not_lt.mp c_70, Int32.not_lt.mp c_80, Int32.not_lt.mp c_93⟩
                      have h9 := hre3.mpr ⟨Int32.not_lt.mp c_75, Int32.not_lt.mp c_80, c_107⟩
                      have h8s := h8
                      have h9s := h9
                      rw [← hs0.1] at h8s
                      rw [← hs3.1] at h9s
                      clear hre hre3
                      obtain ⟨a1, n1, hab, rfl, rfl⟩ := row_at (by omega) h8
                      obtain ⟨a2, n2, hab2, rfl, e4⟩ := row_at (by omega) h9
                      obtain rfl : n1 = n2 := (nI_eq (by omega) (by omega)).mp e4
                      have hba1 : bstN (nI a1) = a1 := bst_n (by omega)
                      have hba2 : bstN (nI a2) = a2 := bst_n (by omega)
                      have hbn : bstN (nI n1) = n1 := bst_n (by omega)
                      refine lv_iconst (v := 0) hx hb dX7_copy_117 (by decide) ?_
                      refine lv_istore (lv' := [(6, .int 0), (0, .ref (mm 0)), (1, .int (nI i0)), (2, .int (nI a1)), (3, .int (nI i3)), (4, .int (nI a2)), (5, .int (nI n1))]) hx hb dX7_copy_118 hl0 (by decide) rfl (fun ls1 hl1 => ?_)
                      clear hl0 ls0
                      have hq9 : ([mO cy mm ik tl fm tz vl iw rm rr om, ia cy (mm 4) 7 C, ia cy (mm 11) 4 bi, ia cy (mm 12) 4 si, la cy (mm 13) 160 (numF f), la cy (mm 14) 40 mv]) = ([mO cy mm ik tl fm tz vl iw rm rr om, ia cy (mm 4) 7 C, ia cy (mm 11) 4 bi, ia cy (mm 12) 4 si, la cy (mm 13) 160 (numF f), la cy (mm 14) 40 (filL (fun k => f i0 (a1 + k)) mv 0)]) := congrArg (fun z9 => [mO cy mm ik tl fm tz vl iw rm rr om, ia cy (mm 4) 7 C, ia cy (mm 11) 4 bi, ia cy (mm 12) 4 si, la cy (mm 13) 160 (numF f), la cy (mm 14) 40 z9]) (show mv = (filL (fun k => f i0 (a1 + k)) mv 0) from filL_0 _ mv)
                      replace hP2 := (congrArg (fun z9 => va_P D vwCl z9 _) hq9).mp hP2
                      replace hD2 := (congrArg (fun z9 => va_D _ z9) hq9).mp hD2
                      clear hq9
                      refine wlp (ι := Nat) (nL := 7) (fun x9 => (x9 ≤ n1)) (fun x9 => [mO cy mm ik tl fm tz vl iw rm rr om, ia cy (mm 4) 7 C, ia cy (mm 11) 4 bi, ia cy (mm 12) 4 si, la cy (mm 13) 160 (numF f), la cy (mm 14) 40 (filL (fun k => f i0 (a1 + k)) mv x9)]) (fun x9 => [(6, .int (nI x9)), (0, .ref (mm 0)), (1, .int (nI i0)), (2, .int (nI a1)), (3, .int (nI i3)), (4, .int (nI a2)), (5, .int (nI n1))]) (fun x9 => []) (fun x9 => n1 - x9) 120 ?_ 0 (by first | omega | assumption | rfl | simp_all) rfl hP2 hD2 hS2 (lv_sub hl1 [0, 1, 2, 3, 4, 5, 6] rfl)
                      clear hP2 hD2 hS2 locs2 H2 hl1 ls1
                      intro x9 hI ih_120 H3 locs3 ls2 hP3 hD3 hS3 hl2
                      obtain ⟨i, rfl⟩ : ∃ z9, z9 = x9 := ⟨_, rfl⟩
                      have hi := hI
                      replace hi : i ≤ n1 := hi
                      replace hP3 : va_P D vwCl ([mO cy mm ik tl fm tz vl iw rm rr om, ia cy (mm 4) 7 C, ia cy (mm 11) 4 bi, ia cy (mm 12) 4 si, la cy (mm 13) 160 (numF f), la cy (mm 14) 40 (filL (fun k => f i0 (a1 + k)) mv i)]) H3 := hP3
                      replace hD3 : va_D (va_A _ sz) ([mO cy mm ik tl fm tz vl iw rm rr om, ia cy (mm 4) 7 C, ia cy (mm 11) 4 bi, ia cy (mm 12) 4 si, la cy (mm 13) 160 (numF f), la cy (mm 14) 40 (filL (fun k => f i0 (a1 + k)) mv i)]) := hD3
                      replace hl2 : lv_has ls2 7 [(6, .int (nI i)), (0, .ref (mm 0)), (1, .int (nI i0)), (2, .int (nI a1)), (3, .int (nI i3)), (4, .int (nI a2)), (5, .int (nI n1))] := hl2
                      show W p l e _ s m _ below meth c _ _ _ _ _ (F0 m 120 ls2 [])
                      refine lv_iload hx hb dX7_copy_120 (lv_at hl2 0 rfl) ?_
                      refine lv_iload hx hb dX7_copy_122 (lv_at hl2 6 rfl) ?_
                      refine ln_ge (tgt := 154) i n1 rfl rfl (by omega) (by omega) hx hb dX7_copy_124 (by decide) (fun c_124 => ?_) (fun c_124 => ?_)
                      · have hie : i = n1 := (by omega)
                        have hq9 : ([mO cy mm ik tl fm tz vl iw rm rr om, ia cy (mm 4) 7 C, ia cy (mm 11) 4 bi, ia cy (mm 12) 4 si, la cy (mm 13) 160 (numF f), la cy (mm 14) 40 (filL (fun k => f i0 (a1 + k)) mv i)]) = ([mO cy mm ik tl fm tz vl iw rm rr om, ia cy (mm 4) 7 C, ia cy (mm 11) 4 bi, ia cy (mm 12) 4 si, la cy (mm 13) 160 (numF f), la cy (mm 14) 40 (filL (fun k => f i0 (a1 + k)) mv n1)]) := congrArg (fun z9 => [mO cy mm ik tl fm tz vl iw rm rr om, ia cy (mm 4) 7 C, ia cy (mm 11) 4 bi, ia cy (mm 12) 4 si, la cy (mm 13) 160 (numF f), la cy (mm 14) 40 z9]) (show (filL (fun k => f i0 (a1 + k)) mv i) = (filL (fun k => f i0 (a1 + k)) mv n1) from by rw [hie])
                        replace hP3 := (congrArg (fun z9 => va_P D vwCl z9 _) hq9).mp hP3
                        replace hD3 := (congrArg (fun z9 => va_D _ z9) hq9).mp hD3
                        clear hq9
                        refine lv_iconst (v := 0) hx hb dX7_copy_154 (by decide) ?_
                        refine lv_istore (lv' := [(6, .int 0), (0, .ref (mm 0)), (1, .int (nI i0)), (2, .int (nI a1)), (3, .int (nI i3)), (4, .int (nI a2)), (5, .int (nI n1))]) hx hb dX7_copy_155 hl2 (by decide) rfl (fun ls3 hl3 => ?_)
                        clear hl2 ls2
                        have hq9 : ([mO cy mm ik tl fm tz vl iw rm rr om, ia cy (mm 4) 7 C, ia cy (mm 11) 4 bi, ia cy (mm 12) 4 si, la cy (mm 13) 160 (numF f), la cy (mm 14) 40 (filL (fun k => f i0 (a1 + k)) mv n1)]) = ([mO cy mm ik tl fm tz vl iw rm rr om, ia cy (mm 4) 7 C, ia cy (mm 11) 4 bi, ia cy (mm 12) 4 si, la cy (mm 13) 160 (numF (va_up f i3 (va_cpy (f i0) (f i3) a1 a2 0))), la cy (mm 14) 40 (filL (fun k => f i0 (a1 + k)) mv n1)]) := congrArg (fun z9 => [mO cy mm ik tl fm tz vl iw rm rr om, ia cy (mm 4) 7 C, ia cy (mm 11) 4 bi, ia cy (mm 12) 4 si, la cy (mm 13) 160 z9, la cy (mm 14) 40 (filL (fun k => f i0 (a1 + k)) mv n1)]) (show (numF f) = (numF (va_up f i3 (va_cpy (f i0) (f i3) a1 a2 0))) from by rw [← va_cpy_0, va_up_s])
                        replace hP3 := (congrArg (fun z9 => va_P D vwCl z9 _) hq9).mp hP3
                        replace hD3 := (congrArg (fun z9 => va_D _ z9) hq9).mp hD3
                        clear hq9
                        refine wlp (ι := Nat) (nL := 7) (fun x9 => (x9 ≤ n1)) (fun x9 => [mO cy mm ik tl fm tz vl iw rm rr om, ia cy (mm 4) 7 C, ia cy (mm 11) 4 bi, ia cy (mm 12) 4 si, la cy (mm 13) 160 (numF (va_up f i3 (va_cpy (f i0) (f i3) a1 a2 x9))), la cy (mm 14) 40 (filL (fun k => f i0 (a1 + k)) mv n1)]) (fun x9 => [(6, .int (nI x9)), (0, .ref (mm 0)), (1, .int (nI i0)), (2, .int (nI a1)), (3, .int (nI i3)), (4, .int (nI a2)), (5, .int (nI n1))]) (fun x9 => []) (fun x9 => n1 - x9) 157 ?_ 0 (by first | omega | assumption | rfl | simp_all) rfl hP3 hD3 hS3 (lv_sub hl3 [0, 1, 2, 3, 4, 5, 6] rfl)
                        clear hP3 hD3 hS3 locs3 H3 hl3 ls3
                        intro x9 hI ih_157 H4 locs4 ls4 hP4 hD4 hS4 hl4
                        obtain ⟨i, rfl⟩ : ∃ z9, z9 = x9 := ⟨_, rfl⟩
                        have hi := hI
                        replace hi : i ≤ n1 := hi
                        replace hP4 : va_P D vwCl ([mO cy mm ik tl fm tz vl iw rm rr om, ia cy (mm 4) 7 C, ia cy (mm 11) 4 bi, ia cy (mm 12) 4 si, la cy (mm 13) 160 (numF (va_up f i3 (va_cpy (f i0) (f i3) a1 a2 i))), la cy (mm 14) 40 (filL (fun k => f i0 (a1 + k)) mv n1)]) H4 := hP4
                        replace hD4 : va_D (va_A _ sz) ([mO cy mm ik tl fm tz vl iw rm rr om, ia cy (mm 4) 7 C, ia cy (mm 11) 4 bi, ia cy (mm 12) 4 si, la cy (mm 13) 160 (numF (va_up f i3 (va_cpy (f i0) (f i3) a1 a2 i))), la cy (mm 14) 40 (filL (fun k => f i0 (a1 + k)) mv n1)]) := hD4
                        replace hl4 : lv_has ls4 7 [(6, .int (nI i)), (0, .ref (mm 0)), (1, .int (nI i0)), (2, .int (nI a1)), (3, .int (nI i3)), (4, .int (nI a2)), (5, .int (nI n1))] := hl4
                        show W p l e _ s m _ below meth c _ _ _ _ _ (F0 m 157 ls4 [])
                        refine lv_iload hx hb dX7_copy_157 (lv_at hl4 0 rfl) ?_
                        refine lv_iload hx hb dX7_copy_159 (lv_at hl4 6 rfl) ?_
                        refine ln_ge (tgt := 192) i n1 rfl rfl (by omega) (by omega) hx hb dX7_copy_161 (by decide) (fun c_161 => ?_) (fun c_161 => ?_)
                        · have hie2 : i = n1 := (by omega)
                          have hq9 : ([mO cy mm ik tl fm tz vl iw rm rr om, ia cy (mm 4) 7 C, ia cy (mm 11) 4 bi, ia cy (mm 12) 4 si, la cy (mm 13) 160 (numF (va_up f i3 (va_cpy (f i0) (f i3) a1 a2 i))), la cy (mm 14) 40 (filL (fun k => f i0 (a1 + k)) mv n1)]) = ([mO cy mm ik tl fm tz vl iw rm rr om, ia cy (mm 4) 7 C, ia cy (mm 11) 4 bi, ia cy (mm 12) 4 si, la cy (mm 13) 160 (numF (va_up f i3 (va_cpy (f i0) (f i3) a1 a2 n1))), la cy (mm 14) 40 (filL (fun k => f i0 (a1 + k)) mv n1)]) := congrArg (fun z9 => [mO cy mm ik tl fm tz vl iw rm rr om, ia cy (mm 4) 7 C, ia cy (mm 11) 4 bi, ia cy (mm 12) 4 si, la cy (mm 13) 160 z9, la cy (mm 14) 40 (filL (fun k => f i0 (a1 + k)) mv n1)]) (show (numF (va_up f i3 (va_cpy (f i0) (f i3) a1 a2 i))) = (numF (va_up f i3 (va_cpy (f i0) (f i3) a1 a2 n1))) from by rw [hie2])
                          replace hP4 := (congrArg (fun z9 => va_P D vwCl z9 _) hq9).mp hP4
                          replace hD4 := (congrArg (fun z9 => va_D _ z9) hq9).mp hD4
                          clear hq9
                          refine lv_iload hx hb dX7_copy_192 (lv_at hl4 6 rfl) ?_
                          have hcd : cCopy bi si (nI i0) (nI a1) (nI i3) (nI a2) (nI n1) = 7 := by unfold cCopy; rw [hbi, hbi3]; clear hx hb hml hown hr hlocks hw hsz hA hG hK hP4 hD4 hS4 hl4 ih_120 ih_157; grind
                          have hq9 : ([mO cy mm ik tl fm tz vl iw rm rr om, ia cy (mm 4) 7 C, ia cy (mm 11) 4 bi, ia cy (mm 12) 4 si, la cy (mm 13) 160 (numF (va_up f i3 (va_cpy (f i0) (f i3) a1 a2 n1))), la cy (mm 14) 40 (filL (fun k => f i0 (a1 + k)) mv n1)]) = ([mO cy mm ik tl fm tz vl iw rm rr om, ia cy (mm 4) 7 (fnd C (cCopy bi si (nI i0) (nI a1) (nI i3) (nI a2) (nI n1))), ia cy (mm 11) 4 bi, ia cy (mm 12) 4 si, la cy (mm 13) 160 (numF (va_up f i3 (va_cpy (f i0) (f i3) a1 a2 n1))), la cy (mm 14) 40 (filL (fun k => f i0 (a1 + k)) mv n1)]) := congrArg (fun z9 => [mO cy mm ik tl fm tz vl iw rm rr om, ia cy (mm 4) 7 z9, ia cy (mm 11) 4 bi, ia cy (mm 12) 4 si, la cy (mm 13) 160 (numF (va_up f i3 (va_cpy (f i0) (f i3) a1 a2 n1))), la cy (mm 14) 40 (filL (fun k => f i0 (a1 + k)) mv n1)]) (show C = (fnd C (cCopy bi si (nI i0) (nI a1) (nI i3) (nI a2) (nI n1))) from fnd_o hcd)
                          replace hP4 := (congrArg (fun z9 => va_P D vwCl z9 _) hq9).mp hP4
                          replace hD4 := (congrArg (fun z9 => va_D _ z9) hq9).mp hD4
                          clear hq9
                          have hq9 : ([mO cy mm ik tl fm tz vl iw rm rr om, ia cy (mm 4) 7 (fnd C (cCopy bi si (nI i0) (nI a1) (nI i3) (nI a2) (nI n1))), ia cy (mm 11) 4 bi, ia cy (mm 12) 4 si, la cy (mm 13) 160 (numF (va_up f i3 (va_cpy (f i0) (f i3) a1 a2 n1))), la cy (mm 14) 40 (filL (fun k => f i0 (a1 + k)) mv n1)]) = ([mO cy mm ik tl fm tz vl iw rm rr om, ia cy (mm 4) 7 (fnd C (cCopy bi si (nI i0) (nI a1) (nI i3) (nI a2) (nI n1))), ia cy (mm 11) 4 bi, ia cy (mm 12) 4 si, la cy (mm 13) 160 (if cCopy bi si (nI i0) (nI a1) (nI i3) (nI a2) (nI n1) = 7 then numF (va_up f (bstN (nI i3)) (va_cpy (f (bstN (nI i0))) (f (bstN (nI i3))) (bstN (nI a1)) (bstN (nI a2)) (bstN (nI n1)))) else numF f), la cy (mm 14) 40 (filL (fun k => f i0 (a1 + k)) mv n1)]) := congrArg (fun z9 => [mO cy mm ik tl fm tz vl iw rm rr om, ia cy (mm 4) 7 (fnd C (cCopy bi si (nI i0) (nI a1) (nI i3) (nI a2) (nI n1))), ia cy (mm 11) 4 bi, ia cy (mm 12) 4 si, la cy (mm 13) 160 z9, la cy (mm 14) 40 (filL (fun k => f i0 (a1 + k)) mv n1)]) (show (numF (va_up f i3 (va_cpy (f i0) (f i3) a1 a2 n1))) = (if cCopy bi si (nI i0) (nI a1) (nI i3) (nI a2) (nI n1) = 7 then numF (va_up f (bstN (nI i3)) (va_cpy (f (bstN (nI i0))) (f (bstN (nI i3))) (bstN (nI a1)) (bstN (nI a2)) (bstN (nI n1)))) else numF f) from by rw [if_pos hcd]; simp only [hba1, hba2, hbn, hbi, hbi3])
                          replace hP4 := (congrArg (fun z9 => va_P D vwCl z9 _) hq9).mp hP4
                          replace hD4 := (congrArg (fun z9 => va_D _ z9) hq9).mp hD4
                          clear hq9
                          refine re_i (filL (fun k => f i0 (a1 + k)) mv n1) hx hb hr hlocks hP4 hD4 hS4 dX7_copy_194 ?_
                          exact (ans_o hcd (rfl))
                        · refine lv_aload_n hx hb dX7_copy_164 rfl (lv_at hl4 1 rfl) ?_
                          refine va_get (D := D) (ci := 7) (v := .ref (mm 13)) (C := RX7) (T := TX7) (N := 23) hx hb hw iX7 hown hK hP4 0 rfl rfl 21 (by decide) (hw _ kw_4_85) (fun _ h9 => h9) rfl dX7_copy_165 ?_
                          refine lv_bipush (v := 40) hx hb dX7_copy_168 (by decide) ?_
                          refine lv_iload_n hx hb dX7_copy_170 rfl (lv_at hl4 4 rfl) ?_
                          refine lv_imul hx hb dX7_copy_171 ?_
                          refine tp (show (40 * (nI i3)) = nI (40 * i3) from pk_mul _ _) ?_
                          refine lv_iload hx hb dX7_copy_172 (lv_at hl4 5 rfl) ?_
                          refine lv_iadd hx hb dX7_copy_174 ?_
                          refine tp (show ((nI (40 * i3)) + (nI a2)) = nI (40 * i3 + a2) from nI_add _ _) ?_
                          refine lv_iload hx hb dX7_copy_175 (lv_at hl4 0 rfl) ?_
                          refine lv_iadd hx hb dX7_copy_177 ?_
                          refine tp (show ((nI (40 * i3 + a2)) + (nI i)) = nI (40 * i3 + a2 + i) from nI_add _ _) ?_
                          refine lv_aload_n hx hb dX7_copy_178 rfl (lv_at hl4 1 rfl) ?_
                          refine va_get (D := D) (ci := 7) (v := .ref (mm 14)) (C := RX7) (T := TX7) (N := 23) hx hb hw iX7 hown hK hP4 0 rfl rfl 22 (by decide) (hw _ kw_4_86) (fun _ h9 => h9) rfl dX7_copy_179 ?_
                          refine lv_iload hx hb dX7_copy_182 (lv_at hl4 0 rfl) ?_
                          refine ald_l (f := filL (fun k => f i0 (a1 + k)) mv n1) hx hb hK hP4 5 1 rfl rfl i rfl (by first | omega | assumption) (by decide) dX7_copy_184 ?_
                          refine tpl (show ((filL (fun k => f i0 (a1 + k)) mv n1) i) = f i0 (a1 + i) from filL_in (by omega)) ?_
                          refine ast_l (f := numF (va_up f i3 (va_cpy (f i0) (f i3) a1 a2 i))) (ws' := [mO cy mm ik tl fm tz vl iw rm rr om, ia cy (mm 4) 7 C, ia cy (mm 11) 4 bi, ia cy (mm 12) 4 si, la cy (mm 13) 160 (vp_updL (numF (va_up f i3 (va_cpy (f i0) (f i3) a1 a2 i))) (40 * i3 + a2 + i) (f i0 (a1 + i))), la cy (mm 14) 40 (filL (fun k => f i0 (a1 + k)) mv n1)]) hx hb hK hP4 hD4 hS4 4 1 rfl rfl (40 * i3 + a2 + i) rfl (by first | omega | assumption) (by decide) rfl dX7_copy_185 (fun H5 locs5 hP5 hD5 hS5 => ?_)
                          clear hP4 hD4 hS4 locs4 H4
                          have hq9 : ([mO cy mm ik tl fm tz vl iw rm rr om, ia cy (mm 4) 7 C, ia cy (mm 11) 4 bi, ia cy (mm 12) 4 si, la cy (mm 13) 160 (vp_updL (numF (va_up f i3 (va_cpy (f i0) (f i3) a1 a2 i))) (40 * i3 + a2 + i) (f i0 (a1 + i))), la cy (mm 14) 40 (filL (fun k => f i0 (a1 + k)) mv n1)]) = ([mO cy mm ik tl fm tz vl iw rm rr om, ia cy (mm 4) 7 C, ia cy (mm 11) 4 bi, ia cy (mm 12) 4 si, la cy (mm 13) 160 (numF (va_up f i3 (va_cpy (f i0) (f i3) a1 a2 (i + 1)))), la cy (mm 14) 40 (filL (fun k => f i0 (a1 + k)) mv n1)]) := congrArg (fun z9 => [mO cy mm ik tl fm tz vl iw rm rr om, ia cy (mm 4) 7 C, ia cy (mm 11) 4 bi, ia cy (mm 12) 4 si, la cy (mm 13) 160 z9, la cy (mm 14) 40 (filL (fun k => f i0 (a1 + k)) mv n1)]) (show (vp_updL (numF (va_up f i3 (va_cpy (f i0) (f i3) a1 a2 i))) (40 * i3 + a2 + i) (f i0 (a1 + i))) = (numF (va_up f i3 (va_cpy (f i0) (f i3) a1 a2 (i + 1)))) from by rw [Nat.add_assoc, numF_up _ _ (by omega), va_up_i, va_cpy_s, va_up_up])
                          replace hP5 := (congrArg (fun z9 => va_P D vwCl z9 _) hq9).mp hP5
                          replace hD5 := (congrArg (fun z9 => va_D _ z9) hq9).mp hD5
                          clear hq9
                          refine lv_iinc (v := nI (i + 1)) (lv' := [(6, .int (nI (i + 1))), (0, .ref (mm 0)), (1, .int (nI i0)), (2, .int (nI a1)), (3, .int (nI i3)), (4, .int (nI a2)), (5, .int (nI n1))]) hx hb dX7_copy_186 hl4 (k := 0) rfl (nI_inc _) (by decide) rfl (fun ls5 hl5 => ?_)
                          clear hl4 ls4
                          refine lv_goto (tgt := 157) hx hb dX7_copy_189 (by decide) ?_
                          exact ih_157 (i + 1) (by first | omega | assumption | rfl | simp_all) (by (try dsimp only); omega) H5 locs5 ls5 hP5 hD5 hS5 (lv_sub hl5 [0, 1, 2, 3, 4, 5, 6] rfl)
                      · refine lv_aload_n hx hb dX7_copy_127 rfl (lv_at hl2 1 rfl) ?_
                        refine va_get (D := D) (ci := 7) (v := .ref (mm 14)) (C := RX7) (T := TX7) (N := 23) hx hb hw iX7 hown hK hP3 0 rfl rfl 22 (by decide) (hw _ kw_4_86) (fun _ h9 => h9) rfl dX7_copy_128 ?_
                        refine lv_iload hx hb dX7_copy_131 (lv_at hl2 0 rfl) ?_
                        refine lv_aload_n hx hb dX7_copy_133 rfl (lv_at hl2 1 rfl) ?_
                        refine va_get (D := D) (ci := 7) (v := .ref (mm 13)) (C := RX7) (T := TX7) (N := 23) hx hb hw iX7 hown hK hP3 0 rfl rfl 21 (by decide) (hw _ kw_4_85) (fun _ h9 => h9) rfl dX7_copy_134 ?_
                        refine lv_bipush (v := 40) hx hb dX7_copy_137 (by decide) ?_
                        refine lv_iload_n hx hb dX7_copy_139 rfl (lv_at hl2 2 rfl) ?_
                        refine lv_imul hx hb dX7_copy_140 ?_
                        refine tp (show (40 * (nI i0)) = nI (40 * i0) from pk_mul _ _) ?_
                        refine lv_iload_n hx hb dX7_copy_141 rfl (lv_at hl2 3 rfl) ?_
                        refine lv_iadd hx hb dX7_copy_142 ?_
                        refine tp (show ((nI (40 * i0)) + (nI a1)) = nI (40 * i0 + a1) from nI_add _ _) ?_
                        refine lv_iload hx hb dX7_copy_143 (lv_at hl2 0 rfl) ?_
                        refine lv_iadd hx hb dX7_copy_145 ?_
                        refine tp (show ((nI (40 * i0 + a1)) + (nI i)) = nI (40 * i0 + a1 + i) from nI_add _ _) ?_
                        refine ald_l (f := numF f) hx hb hK hP3 4 1 rfl rfl (40 * i0 + a1 + i) rfl (by first | omega | assumption) (by decide) dX7_copy_146 ?_
                        refine tpl (show ((numF f) (40 * i0 + a1 + i)) = f i0 (a1 + i) from (congrArg (numF f) (Nat.add_assoc _ _ _)).trans (numF_at f (by omega))) ?_
                        refine ast_l (f := filL (fun k => f i0 (a1 + k)) mv i) (ws' := [mO cy mm ik tl fm tz vl iw rm rr om, ia cy (mm 4) 7 C, ia cy (mm 11) 4 bi, ia cy (mm 12) 4 si, la cy (mm 13) 160 (numF f), la cy (mm 14) 40 (vp_updL (filL (fun k => f i0 (a1 + k)) mv i) i (f i0 (a1 + i)))]) hx hb hK hP3 hD3 hS3 5 1 rfl rfl i rfl (by first | omega | assumption) (by decide) rfl dX7_copy_147 (fun H4 locs4 hP4 hD4 hS4 => ?_)
                        clear hP3 hD3 hS3 locs3 H3
                        have hq9 : ([mO cy mm ik tl fm tz vl iw rm rr om, ia cy (mm 4) 7 C, ia cy (mm 11) 4 bi, ia cy (mm 12) 4 si, la cy (mm 13) 160 (numF f), la cy (mm 14) 40 (vp_updL (filL (fun k => f i0 (a1 + k)) mv i) i (f i0 (a1 + i)))]) = ([mO cy mm ik tl fm tz vl iw rm rr om, ia cy (mm 4) 7 C, ia cy (mm 11) 4 bi, ia cy (mm 12) 4 si, la cy (mm 13) 160 (numF f), la cy (mm 14) 40 (filL (fun k => f i0 (a1 + k)) mv (i + 1))]) := congrArg (fun z9 => [mO cy mm ik tl fm tz vl iw rm rr om, ia cy (mm 4) 7 C, ia cy (mm 11) 4 bi, ia cy (mm 12) 4 si, la cy (mm 13) 160 (numF f), la cy (mm 14) 40 z9]) (show (vp_updL (filL (fun k => f i0 (a1 + k)) mv i) i (f i0 (a1 + i))) = (filL (fun k => f i0 (a1 + k)) mv (i + 1)) from filL_s (fun k => f i0 (a1 + k)) mv i)
                        replace hP4 := (congrArg (fun z9 => va_P D vwCl z9 _) hq9).mp hP4
                        replace hD4 := (congrArg (fun z9 => va_D _ z9) hq9).mp hD4
                        clear hq9
                        refine lv_iinc (v := nI (i + 1)) (lv' := [(6, .int (nI (i + 1))), (0, .ref (mm 0)), (1, .int (nI i0)), (2, .int (nI a1)), (3, .int (nI i3)), (4, .int (nI a2)), (5, .int (nI n1))]) hx hb dX7_copy_148 hl2 (k := 0) rfl (nI_inc _) (by decide) rfl (fun ls3 hl3 => ?_)
                        clear hl2 ls2
                        refine lv_goto (tgt := 120) hx hb dX7_copy_151 (by decide) ?_
                        exact ih_120 (i + 1) (by first | omega | assumption | rfl | simp_all) (by (try dsimp only); omega) H4 locs4 ls3 hP4 hD4 hS4 (lv_sub hl3 [0, 1, 2, 3, 4, 5, 6] rfl)
                    · refine lv_aload_n hx hb dX7_copy_110 rfl (lv_at hl0 0 rfl) ?_
                      refine lv_ldc (v := (-1000000001)) hx hb hown (hw _ kw_4_143) dX7_copy_111 ?_
                      refine cV_i (wc := [mO cy mm ik tl fm tz vl iw rm rr om, ia cy (mm 4) 7 C]) (wr := [ia cy (mm 11) 4 bi, ia cy (mm 12) 4 si, la cy (mm 13) 160 (numF f), la cy (mm 14) 40 mv]) (rest := []) hx hb hml hown hw hG hK hP2 hD2 hS2 hA hl0 kc_X7_finds kw_4_139 [.int (-1000000001)] (c_X7_finds l D cy G H2.size mm ik tl fm tz vl iw rm rr om C 0 (-1000000001) (by decide) (by decide)) [0, 1] [2, 3, 4, 5] rfl rfl rfl rfl rfl 0 rfl rfl rfl rfl rfl (Nat.le_of_ble_eq_true rfl) ⟨Nat.le_of_ble_eq_true rfl, Nat.le_of_ble_eq_true rfl⟩ dX7_copy_113 ⟨Nat.le_of_ble_eq_true rfl, Nat.le_of_ble_eq_true rfl⟩ (fun r_113 u9 H3 locs3 hu9 hP3 hD3 hS3 => ?_)
                      clear hP2 hD2 hS2 locs2 H2
                      have hr_113 := hu9
                      replace hP3 : va_P D vwCl ([ia cy (mm 11) 4 bi, ia cy (mm 12) 4 si, la cy (mm 13) 160 (numF f), la cy (mm 14) 40 mv, mO cy mm ik tl fm tz vl iw rm rr om, ia cy (mm 4) 7 (upd C 0 (C 0 + 1))]) H3 := hP3
                      replace hD3 : va_D (va_A _ sz) ([ia cy (mm 11) 4 bi, ia cy (mm 12) 4 si, la cy (mm 13) 160 (numF f), la cy (mm 14) 40 mv, mO cy mm ik tl fm tz vl iw rm rr om, ia cy (mm 4) 7 (upd C 0 (C 0 + 1))]) := hD3
                      replace hP3 := hP3.sub (ws' := [mO cy mm ik tl fm tz vl iw rm rr om, ia cy (mm 4) 7 (upd C 0 (C 0 + 1)), ia cy (mm 11) 4 bi, ia cy (mm 12) 4 si, la cy (mm 13) 160 (numF f), la cy (mm 14) 40 mv]) [4, 5, 0, 1, 2, 3] rfl
                      replace hD3 := hD3.sub (ws' := [mO cy mm ik tl fm tz vl iw rm rr om, ia cy (mm 4) 7 (upd C 0 (C 0 + 1)), ia cy (mm 11) 4 bi, ia cy (mm 12) 4 si, la cy (mm 13) 160 (numF f), la cy (mm 14) 40 mv]) [4, 5, 0, 1, 2, 3] (by decide) rfl
                      subst hr_113
                      have hcd : cCopy bi si (nI i0) x2 (nI i3) x4 x5 = 0 := by unfold cCopy; rw [hbi, hbi3]; clear hx hb hml hown hr hlocks hw hsz hA hG hK hP3 hD3 hS3 hl0; grind
                      have hq9 : ([mO cy mm ik tl fm tz vl iw rm rr om, ia cy (mm 4) 7 (upd C 0 (C 0 + 1)), ia cy (mm 11) 4 bi, ia cy (mm 12) 4 si, la cy (mm 13) 160 (numF f), la cy (mm 14) 40 mv]) = ([mO cy mm ik tl fm tz vl iw rm rr om, ia cy (mm 4) 7 (fnd C (cCopy bi si (nI i0) x2 (nI i3) x4 x5)), ia cy (mm 11) 4 bi, ia cy (mm 12) 4 si, la cy (mm 13) 160 (numF f), la cy (mm 14) 40 mv]) := congrArg (fun z9 => [mO cy mm ik tl fm tz vl iw rm rr om, ia cy (mm 4) 7 z9, ia cy (mm 11) 4 bi, ia cy (mm 12) 4 si, la cy (mm 13) 160 (numF f), la cy (mm 14) 40 mv]) (show (upd C 0 (C 0 + 1)) = (fnd C (cCopy bi si (nI i0) x2 (nI i3) x4 x5)) from fnd_f hcd (by decide))
                      replace hP3 := (congrArg (fun z9 => va_P D vwCl z9 _) hq9).mp hP3
                      replace hD3 := (congrArg (fun z9 => va_D _ z9) hq9).mp hD3
                      clear hq9
                      have hq9 : ([mO cy mm ik tl fm tz vl iw rm rr om, ia cy (mm 4) 7 (fnd C (cCopy bi si (nI i0) x2 (nI i3) x4 x5)), ia cy (mm 11) 4 bi, ia cy (mm 12) 4 si, la cy (mm 13) 160 (numF f), la cy (mm 14) 40 mv]) = ([mO cy mm ik tl fm tz vl iw rm rr om, ia cy (mm 4) 7 (fnd C (cCopy bi si (nI i0) x2 (nI i3) x4 x5)), ia cy (mm 11) 4 bi, ia cy (mm 12) 4 si, la cy (mm 13) 160 (if cCopy bi si (nI i0) x2 (nI i3) x4 x5 = 7 then numF (va_up f (bstN (nI i3)) (va_cpy (f (bstN (nI i0))) (f (bstN (nI i3))) (bstN x2) (bstN x4) (bstN x5))) else numF f), la cy (mm 14) 40 mv]) := congrArg (fun z9 => [mO cy mm ik tl fm tz vl iw rm rr om, ia cy (mm 4) 7 (fnd C (cCopy bi si (nI i0) x2 (nI i3) x4 x5)), ia cy (mm 11) 4 bi, ia cy (mm 12) 4 si, la cy (mm 13) 160 z9, la cy (mm 14) 40 mv]) (show (numF f) = (if cCopy bi si (nI i0) x2 (nI i3) x4 x5 = 7 then numF (va_up f (bstN (nI i3)) (va_cpy (f (bstN (nI i0))) (f (bstN (nI i3))) (bstN x2) (bstN x4) (bstN x5))) else numF f) from (if_neg (fun z9 => absurd (hcd.symm.trans z9) (by decide))).symm)
                      replace hP3 := (congrArg (fun z9 => va_P D vwCl z9 _) hq9).mp hP3
                      replace hD3 := (congrArg (fun z9 => va_D _ z9) hq9).mp hD3
                      clear hq9
                      refine re_i mv hx hb hr hlocks hP3 hD3 hS3 dX7_copy_116 ?_
                      exact (ans_f hcd (by decide) rfl)
          · refine lv_aload_n hx hb dX7_copy_62 rfl (lv_at hl0 0 rfl) ?_
            refine lv_ldc (v := (-1000000003)) hx hb hown (hw _ kw_4_203) dX7_copy_63 ?_
            refine cV_i (wc := [mO cy mm ik tl fm tz vl iw rm rr om, ia cy (mm 4) 7 C]) (wr := [ia cy (mm 11) 4 bi, ia cy (mm 12) 4 si, la cy (mm 13) 160 (numF f), la cy (mm 14) 40 mv]) (rest := []) hx hb hml hown hw hG hK hP2 hD2 hS2 hA hl0 kc_X7_finds kw_4_139 [.int (-1000000003)] (c_X7_finds l D cy G H2.size mm ik tl fm tz vl iw rm rr om C 2 (-1000000003) (by decide) (by decide)) [0, 1] [2, 3, 4, 5] rfl rfl rfl rfl rfl 0 rfl rfl rfl rfl rfl (Nat.le_of_ble_eq_true rfl) ⟨Nat.le_of_ble_eq_true rfl, Nat.le_of_ble_eq_true rfl⟩ dX7_copy_65 ⟨Nat.le_of_ble_eq_true rfl, Nat.le_of_ble_eq_true rfl⟩ (fun r_65 u9 H3 locs3 hu9 hP3 hD3 hS3 => ?_)
            clear hP2 hD2 hS2 locs2 H2
            have hr_65 := hu9
            replace hP3 : va_P D vwCl ([ia cy (mm 11) 4 bi, ia cy (mm 12) 4 si, la cy (mm 13) 160 (numF f), la cy (mm 14) 40 mv, mO cy mm ik tl fm tz vl iw rm rr om, ia cy (mm 4) 7 (upd C 2 (C 2 + 1))]) H3 := hP3
            replace hD3 : va_D (va_A _ sz) ([ia cy (mm 11) 4 bi, ia cy (mm 12) 4 si, la cy (mm 13) 160 (numF f), la cy (mm 14) 40 mv, mO cy mm ik tl fm tz vl iw rm rr om, ia cy (mm 4) 7 (upd C 2 (C 2 + 1))]) := hD3
            replace hP3 := hP3.sub (ws' := [mO cy mm ik tl fm tz vl iw rm rr om, ia cy (mm 4) 7 (upd C 2 (C 2 + 1)), ia cy (mm 11) 4 bi, ia cy (mm 12) 4 si, la cy (mm 13) 160 (numF f), la cy (mm 14) 40 mv]) [4, 5, 0, 1, 2, 3] rfl
            replace hD3 := hD3.sub (ws' := [mO cy mm ik tl fm tz vl iw rm rr om, ia cy (mm 4) 7 (upd C 2 (C 2 + 1)), ia cy (mm 11) 4 bi, ia cy (mm 12) 4 si, la cy (mm 13) 160 (numF f), la cy (mm 14) 40 mv]) [4, 5, 0, 1, 2, 3] (by decide) rfl
            subst hr_65
            have hcd : cCopy bi si (nI i0) x2 (nI i3) x4 x5 = 2 := by unfold cCopy; rw [hbi, hbi3]; clear hx hb hml hown hr hlocks hw hsz hA hG hK hP3 hD3 hS3 hl0; grind
            have hq9 : ([mO cy mm ik tl fm tz vl iw rm rr om, ia cy (mm 4) 7 (upd C 2 (C 2 + 1)), ia cy (mm 11) 4 bi, ia cy (mm 12) 4 si, la cy (mm 13) 160 (numF f), la cy (mm 14) 40 mv]) = ([mO cy mm ik tl fm tz vl iw rm rr om, ia cy (mm 4) 7 (fnd C (cCopy bi si (nI i0) x2 (nI i3) x4 x5)), ia cy (mm 11) 4 bi, ia cy (mm 12) 4 si, la cy (mm 13) 160 (numF f), la cy (mm 14) 40 mv]) := congrArg (fun z9 => [mO cy mm ik tl fm tz vl iw rm rr om, ia cy (mm 4) 7 z9, ia cy (mm 11) 4 bi, ia cy (mm 12) 4 si, la cy (mm 13) 160 (numF f), la cy (mm 14) 40 mv]) (show (upd C 2 (C 2 + 1)) = (fnd C (cCopy bi si (nI i0) x2 (nI i3) x4 x5)) from fnd_f hcd (by decide))
            replace hP3 := (congrArg (fun z9 => va_P D vwCl z9 _) hq9).mp hP3
            replace hD3 := (congrArg (fun z9 => va_D _ z9) hq9).mp hD3
            clear hq9
            have hq9 : ([mO cy mm ik tl fm tz vl iw rm rr om, ia cy (mm 4) 7 (fnd C (cCopy bi si (nI i0) x2 (nI i3) x4 x5)), ia cy (mm 11) 4 bi, ia cy (mm 12) 4 si, la cy (mm 13) 160 (numF f), la cy (mm 14) 40 mv]) = ([mO cy mm ik tl fm tz vl iw rm rr om, ia cy (mm 4) 7 (fnd C (cCopy bi si (nI i0) x2 (nI i3) x4 x5)), ia cy (mm 11) 4 bi, ia cy (mm 12) 4 si, la cy (mm 13) 160 (if cCopy bi si (nI i0) x2 (nI i3) x4 x5 = 7 then numF (va_up f (bstN (nI i3)) (va_cpy (f (bstN (nI i0))) (f (bstN (nI i3))) (bstN x2) (bstN x4) (bstN x5))) else numF f), la cy (mm 14) 40 mv]) := congrArg (fun z9 => [mO cy mm ik tl fm tz vl iw rm rr om, ia cy (mm 4) 7 (fnd C (cCopy bi si (nI i0) x2 (nI i3) x4 x5)), ia cy (mm 11) 4 bi, ia cy (mm 12) 4 si, la cy (mm 13) 160 z9, la cy (mm 14) 40 mv]) (show (numF f) = (if cCopy bi si (nI i0) x2 (nI i3) x4 x5 = 7 then numF (va_up f (bstN (nI i3)) (va_cpy (f (bstN (nI i0))) (f (bstN (nI i3))) (bstN x2) (bstN x4) (bstN x5))) else numF f) from (if_neg (fun z9 => absurd (hcd.symm.trans z9) (by decide))).symm)
            replace hP3 := (congrArg (fun z9 => va_P D vwCl z9 _) hq9).mp hP3
            replace hD3 := (congrArg (fun z9 => va_D _ z9) hq9).mp hD3
            clear hq9
            refine re_i mv hx hb hr hlocks hP3 hD3 hS3 dX7_copy_68 ?_
            exact (ans_f hcd (by decide) rfl)
        · refine lv_aload_n hx hb dX7_copy_39 rfl (lv_at hl0 0 rfl) ?_
          refine lv_ldcw (v := (-1000000006)) hx hb hown (hw _ kw_5_208) dX7_copy_40 ?_
          refine cV_i (wc := [mO cy mm ik tl fm tz vl iw rm rr om, ia cy (mm 4) 7 C]) (wr := [ia cy (mm 11) 4 bi, ia cy (mm 12) 4 si, la cy (mm 13) 160 (numF f), la cy (mm 14) 40 mv]) (rest := []) hx hb hml hown hw hG hK hP2 hD2 hS2 hA hl0 kc_X7_finds kw_4_139 [.int (-1000000006)] (c_X7_finds l D cy G H2.size mm ik tl fm tz vl iw rm rr om C 5 (-1000000006) (by decide) (by decide)) [0, 1] [2, 3, 4, 5] rfl rfl rfl rfl rfl 0 rfl rfl rfl rfl rfl (Nat.le_of_ble_eq_true rfl) ⟨Nat.le_of_ble_eq_true rfl, Nat.le_of_ble_eq_true rfl⟩ dX7_copy_43 ⟨Nat.le_of_ble_eq_true rfl, Nat.le_of_ble_eq_true rfl⟩ (fun r_43 u9 H3 locs3 hu9 hP3 hD3 hS3 => ?_)
          clear hP2 hD2 hS2 locs2 H2
          have hr_43 := hu9
          replace hP3 : va_P D vwCl ([ia cy (mm 11) 4 bi, ia cy (mm 12) 4 si, la cy (mm 13) 160 (numF f), la cy (mm 14) 40 mv, mO cy mm ik tl fm tz vl iw rm rr om, ia cy (mm 4) 7 (upd C 5 (C 5 + 1))]) H3 := hP3
          replace hD3 : va_D (va_A _ sz) ([ia cy (mm 11) 4 bi, ia cy (mm 12) 4 si, la cy (mm 13) 160 (numF f), la cy (mm 14) 40 mv, mO cy mm ik tl fm tz vl iw rm rr om, ia cy (mm 4) 7 (upd C 5 (C 5 + 1))]) := hD3
          replace hP3 := hP3.sub (ws' := [mO cy mm ik tl fm tz vl iw rm rr om, ia cy (mm 4) 7 (upd C 5 (C 5 + 1)), ia cy (mm 11) 4 bi, ia cy (mm 12) 4 si, la cy (mm 13) 160 (numF f), la cy (mm 14) 40 mv]) [4, 5, 0, 1, 2, 3] rfl
          replace hD3 := hD3.sub (ws' := [mO cy mm ik tl fm tz vl iw rm rr om, ia cy (mm 4) 7 (upd C 5 (C 5 + 1)), ia cy (mm 11) 4 bi, ia cy (mm 12) 4 si, la cy (mm 13) 160 (numF f), la cy (mm 14) 40 mv]) [4, 5, 0, 1, 2, 3] (by decide) rfl
          subst hr_43
          have hcd : cCopy bi si (nI i0) x2 (nI i3) x4 x5 = 5 := by unfold cCopy; rw [hbi, hbi3]; clear hx hb hml hown hr hlocks hw hsz hA hG hK hP3 hD3 hS3 hl0; grind
          have hq9 : ([mO cy mm ik tl fm tz vl iw rm rr om, ia cy (mm 4) 7 (upd C 5 (C 5 + 1)), ia cy (mm 11) 4 bi, ia cy (mm 12) 4 si, la cy (mm 13) 160 (numF f), la cy (mm 14) 40 mv]) = ([mO cy mm ik tl fm tz vl iw rm rr om, ia cy (mm 4) 7 (fnd C (cCopy bi si (nI i0) x2 (nI i3) x4 x5)), ia cy (mm 11) 4 bi, ia cy (mm 12) 4 si, la cy (mm 13) 160 (numF f), la cy (mm 14) 40 mv]) := congrArg (fun z9 => [mO cy mm ik tl fm tz vl iw rm rr om, ia cy (mm 4) 7 z9, ia cy (mm 11) 4 bi, ia cy (mm 12) 4 si, la cy (mm 13) 160 (numF f), la cy (mm 14) 40 mv]) (show (upd C 5 (C 5 + 1)) = (fnd C (cCopy bi si (nI i0) x2 (nI i3) x4 x5)) from fnd_f hcd (by decide))
          replace hP3 := (congrArg (fun z9 => va_P D vwCl z9 _) hq9).mp hP3
          replace hD3 := (congrArg (fun z9 => va_D _ z9) hq9).mp hD3
          clear hq9
          have hq9 : ([mO cy mm ik tl fm tz vl iw rm rr om, ia cy (mm 4) 7 (fnd C (cCopy bi si (nI i0) x2 (nI i3) x4 x5)), ia cy (mm 11) 4 bi, ia cy (mm 12) 4 si, la cy (mm 13) 160 (numF f), la cy (mm 14) 40 mv]) = ([mO cy mm ik tl fm tz vl iw rm rr om, ia cy (mm 4) 7 (fnd C (cCopy bi si (nI i0) x2 (nI i3) x4 x5)), ia cy (mm 11) 4 bi, ia cy (mm 12) 4 si, la cy (mm 13) 160 (if cCopy bi si (nI i0) x2 (nI i3) x4 x5 = 7 then numF (va_up f (bstN (nI i3)) (va_cpy (f (bstN (nI i0))) (f (bstN (nI i3))) (bstN x2) (bstN x4) (bstN x5))) else numF f), la cy (mm 14) 40 mv]) := congrArg (fun z9 => [mO cy mm ik tl fm tz vl iw rm rr om, ia cy (mm 4) 7 (fnd C (cCopy bi si (nI i0) x2 (nI i3) x4 x5)), ia cy (mm 11) 4 bi, ia cy (mm 12) 4 si, la cy (mm 13) 160 z9, la cy (mm 14) 40 mv]) (show (numF f) = (if cCopy bi si (nI i0) x2 (nI i3) x4 x5 = 7 then numF (va_up f (bstN (nI i3)) (va_cpy (f (bstN (nI i0))) (f (bstN (nI i3))) (bstN x2) (bstN x4) (bstN x5))) else numF f) from (if_neg (fun z9 => absurd (hcd.symm.trans z9) (by decide))).symm)
          replace hP3 := (congrArg (fun z9 => va_P D vwCl z9 _) hq9).mp hP3
          replace hD3 := (congrArg (fun z9 => va_D _ z9) hq9).mp hD3
          clear hq9
          refine re_i mv hx hb hr hlocks hP3 hD3 hS3 dX7_copy_46 ?_
          exact (ans_f hcd (by decide) rfl)
    · refine lv_aload_n hx hb dX7_copy_14 rfl (lv_at hl0 0 rfl) ?_
      refine lv_ldc (v := (-1000000001)) hx hb hown (hw _ kw_4_143) dX7_copy_15 ?_
      refine cV_i (wc := [mO cy mm ik tl fm tz vl iw rm rr om, ia cy (mm 4) 7 C]) (wr := [ia cy (mm 11) 4 bi, ia cy (mm 12) 4 si, la cy (mm 13) 160 (numF f), la cy (mm 14) 40 mv]) (rest := []) hx hb hml hown hw hG hK hP2 hD2 hS2 hA hl0 kc_X7_finds kw_4_139 [.int (-1000000001)] (c_X7_finds l D cy G H2.size mm ik tl fm tz vl iw rm rr om C 0 (-1000000001) (by decide) (by decide)) [0, 1] [2, 3, 4, 5] rfl rfl rfl rfl rfl 0 rfl rfl rfl rfl rfl (Nat.le_of_ble_eq_true rfl) ⟨Nat.le_of_ble_eq_true rfl, Nat.le_of_ble_eq_true rfl⟩ dX7_copy_17 ⟨Nat.le_of_ble_eq_true rfl, Nat.le_of_ble_eq_true rfl⟩ (fun r_17 u9 H3 locs3 hu9 hP3 hD3 hS3 => ?_)
      clear hP2 hD2 hS2 locs2 H2
      have hr_17 := hu9
      replace hP3 : va_P D vwCl ([ia cy (mm 11) 4 bi, ia cy (mm 12) 4 si, la cy (mm 13) 160 (numF f), la cy (mm 14) 40 mv, mO cy mm ik tl fm tz vl iw rm rr om, ia cy (mm 4) 7 (upd C 0 (C 0 + 1))]) H3 := hP3
      replace hD3 : va_D (va_A _ sz) ([ia cy (mm 11) 4 bi, ia cy (mm 12) 4 si, la cy (mm 13) 160 (numF f), la cy (mm 14) 40 mv, mO cy mm ik tl fm tz vl iw rm rr om, ia cy (mm 4) 7 (upd C 0 (C 0 + 1))]) := hD3
      replace hP3 := hP3.sub (ws' := [mO cy mm ik tl fm tz vl iw rm rr om, ia cy (mm 4) 7 (upd C 0 (C 0 + 1)), ia cy (mm 11) 4 bi, ia cy (mm 12) 4 si, la cy (mm 13) 160 (numF f), la cy (mm 14) 40 mv]) [4, 5, 0, 1, 2, 3] rfl
      replace hD3 := hD3.sub (ws' := [mO cy mm ik tl fm tz vl iw rm rr om, ia cy (mm 4) 7 (upd C 0 (C 0 + 1)), ia cy (mm 11) 4 bi, ia cy (mm 12) 4 si, la cy (mm 13) 160 (numF f), la cy (mm 14) 40 mv]) [4, 5, 0, 1, 2, 3] (by decide) rfl
      subst hr_17
      have hcd : cCopy bi si x1 x2 x3 x4 x5 = 0 := by unfold cCopy; clear hx hb hml hown hr hlocks hw hsz hA hG hK hP3 hD3 hS3 hl0; grind
      have hq9 : ([mO cy mm ik tl fm tz vl iw rm rr om, ia cy (mm 4) 7 (upd C 0 (C 0 + 1)), ia cy (mm 11) 4 bi, ia cy (mm 12) 4 si, la cy (mm 13) 160 (numF f), la cy (mm 14) 40 mv]) = ([mO cy mm ik tl fm tz vl iw rm rr om, ia cy (mm 4) 7 (fnd C (cCopy bi si x1 x2 x3 x4 x5)), ia cy (mm 11) 4 bi, ia cy (mm 12) 4 si, la cy (mm 13) 160 (numF f), la cy (mm 14) 40 mv]) := congrArg (fun z9 => [mO cy mm ik tl fm tz vl iw rm rr om, ia cy (mm 4) 7 z9, ia cy (mm 11) 4 bi, ia cy (mm 12) 4 si, la cy (mm 13) 160 (numF f), la cy (mm 14) 40 mv]) (show (upd C 0 (C 0 + 1)) = (fnd C (cCopy bi si x1 x2 x3 x4 x5)) from fnd_f hcd (by decide))
      replace hP3 := (congrArg (fun z9 => va_P D vwCl z9 _) hq9).mp hP3
      replace hD3 := (congrArg (fun z9 => va_D _ z9) hq9).mp hD3
      clear hq9
      have hq9 : ([mO cy mm ik tl fm tz vl iw rm rr om, ia cy (mm 4) 7 (fnd C (cCopy bi si x1 x2 x3 x4 x5)), ia cy (mm 11) 4 bi, ia cy (mm 12) 4 si, la cy (mm 13) 160 (numF f), la cy (mm 14) 40 mv]) = ([mO cy mm ik tl fm tz vl iw rm rr om, ia cy (mm 4) 7 (fnd C (cCopy bi si x1 x2 x3 x4 x5)), ia cy (mm 11) 4 bi, ia cy (mm 12) 4 si, la cy (mm 13) 160 (if cCopy bi si x1 x2 x3 x4 x5 = 7 then numF (va_up f (bstN x3) (va_cpy (f (bstN x1)) (f (bstN x3)) (bstN x2) (bstN x4) (bstN x5))) else numF f), la cy (mm 14) 40 mv]) := congrArg (fun z9 => [mO cy mm ik tl fm tz vl iw rm rr om, ia cy (mm 4) 7 (fnd C (cCopy bi si x1 x2 x3 x4 x5)), ia cy (mm 11) 4 bi, ia cy (mm 12) 4 si, la cy (mm 13) 160 z9, la cy (mm 14) 40 mv]) (show (numF f) = (if cCopy bi si x1 x2 x3 x4 x5 = 7 then numF (va_up f (bstN x3) (va_cpy (f (bstN x1)) (f (bstN x3)) (bstN x2) (bstN x4) (bstN x5))) else numF f) from (if_neg (fun z9 => absurd (hcd.symm.trans z9) (by decide))).symm)
      replace hP3 := (congrArg (fun z9 => va_P D vwCl z9 _) hq9).mp hP3
      replace hD3 := (congrArg (fun z9 => va_D _ z9) hq9).mp hD3
      clear hq9
      refine re_i mv hx hb hr hlocks hP3 hD3 hS3 dX7_copy_20 ?_
      exact (ans_f hcd (by decide) rfl)

theorem kc_X7_sticks : kV yX7_sticks cX7_sticks 5 (some .int) 1 := ⟨kw_5_217, kw_5_218, kw_1_8, kw_5_219, by decide, by decide, by decide +kernel⟩
set_option maxHeartbeats 4000000 in
set_option maxRecDepth 100000 in
theorem c_X7_sticks (l : Launch) (D : va_G) (cy : Nat → ClassId) (G : Nat → Nat) (sz : Nat) (mm : Nat → Nat) (ik : Int32) (tl : Int32) (fm : Int32) (tz : Int32) (vl : Int32) (iw : Int32) (rm : Int32) (rr : Int32) (om : Int32) (S : Nat → Int32) (C : Nat → Int32) (P : Nat → Int32) (N : Nat → Int32) (bi : Nat → Int32) (si : Nat → Int32) (f : Nat → Nat → Int64) (x1 : Int32) (hso : shOk si f) (wf : wf S) : Met l yX7_sticks (wm yX7_sticks cX7_sticks 5 (some .int)) { frames := 5, cells := 0, slots := 0, locals := 113 } (va_Pc [.ref (mm 0), .int x1] (pr D (TY cy) G ([mO cy mm ik tl fm tz vl iw rm rr om, ia cy (mm 1) 169 S, ia cy (mm 4) 7 C, ia cy (mm 6) 6 P, ia cy (mm 7) 6 N, ia cy (mm 11) 4 bi, ia cy (mm 12) 4 si, la cy (mm 13) 160 (numF f)]) sz)) (va_Qi (fun (r : Int32) (u : (Nat → Int32) × (Nat → Int32) × Int32 × Int32) => r = ans (cSh bi x1) (nI (minN (bstN (si (bstN x1))) (gcN S)))) (fun (u : (Nat → Int32) × (Nat → Int32) × Int32 × Int32) t => po D (va_A ([mO cy mm ik tl fm tz vl iw rm rr om, ia cy (mm 1) 169 S, ia cy (mm 4) 7 C, ia cy (mm 6) 6 P, ia cy (mm 7) 6 N, ia cy (mm 11) 4 bi, ia cy (mm 12) 4 si, la cy (mm 13) 160 (numF f)]) sz) ([mO cy mm ik tl fm tz vl iw u.2.2.1 u.2.2.2 om, ia cy (mm 1) 169 (if cSh bi x1 = 7 then drwN S (minN (bstN (si (bstN x1))) (gcN S)) else S), ia cy (mm 4) 7 (fnd C (cSh bi x1)), ia cy (mm 6) 6 u.1, ia cy (mm 7) 6 u.2.1, ia cy (mm 11) 4 bi, ia cy (mm 12) 4 si, la cy (mm 13) 160 (if cSh bi x1 = 7 then numF (va_up f (bstN x1) (stkF S (f (bstN x1)) (minN (bstN (si (bstN x1))) (gcN S)))) else numF f)]) t) (va_A ([mO cy mm ik tl fm tz vl iw rm rr om, ia cy (mm 1) 169 S, ia cy (mm 4) 7 C, ia cy (mm 6) 6 P, ia cy (mm 7) 6 N, ia cy (mm 11) 4 bi, ia cy (mm 12) 4 si, la cy (mm 13) 160 (numF f)]) sz)) 0 0 (va_A ([mO cy mm ik tl fm tz vl iw rm rr om, ia cy (mm 1) 169 S, ia cy (mm 4) 7 C, ia cy (mm 6) 6 P, ia cy (mm 7) 6 N, ia cy (mm 11) 4 bi, ia cy (mm 12) 4 si, la cy (mm 13) 160 (numF f)]) sz) := by
  refine mk_rw (by decide) RX7 rfl (Nat.le_of_ble_eq_true rfl) [(0, .ref (mm 0)), (1, .int x1)] rfl ?_
  intro p e s m below meth c hx hb hml hown hr hlocks hin hw hsz hA hG hK H0 locs0 hP0 hD0 hS0 ls0 hl0
  clear hin
  have hg20 := wf_g20 wf
  have hr6 := wf_r6 wf
  refine lv_aload_n hx hb dX7_sticks_0 rfl (lv_at hl0 0 rfl) ?_
  refine lv_iload_n hx hb dX7_sticks_1 rfl (lv_at hl0 1 rfl) ?_
  refine rV_i (wc := [mO cy mm ik tl fm tz vl iw rm rr om, ia cy (mm 11) 4 bi]) (rest := []) hx hb hml hown hw hG hK hP0 hS0 hA hl0 kc_X7_wrong kw_5_204 [.int x1] (c_X7_wrong l D cy G H0.size mm ik tl fm tz vl iw rm rr om bi x1) [0, 5] rfl 0 rfl rfl rfl rfl rfl (Nat.le_of_ble_eq_true rfl) ⟨Nat.le_of_ble_eq_true rfl, Nat.le_of_ble_eq_true rfl⟩ dX7_sticks_2 ⟨Nat.le_of_ble_eq_true rfl, Nat.le_of_ble_eq_true rfl⟩ (fun r_2 H1 locs1 hr_2 hP1 hS1 => ?_)
  have hD1 := hD0
  clear hP0 hD0 hS0 locs0 H0
  subst hr_2
  rcases wr_c bi x1 with ⟨hwr, ew9⟩ | ⟨hwr, hw0, ew9⟩ | ⟨hwr, hw0, ew9⟩
  · refine tp (show wrR bi x1 = -1000000001 from ew9) ?_
    refine lv_istore_n (lv' := [(2, .int (-1000000001)), (0, .ref (mm 0)), (1, .int x1)]) hx hb dX7_sticks_5 rfl hl0 (by decide) rfl (fun ls1 hl1 => ?_)
    clear hl0 ls0
    refine lv_iload_n hx hb dX7_sticks_6 rfl (lv_at hl1 0 rfl) ?_
    refine lv_if_eq (tgt := 16) hx hb dX7_sticks_7 (by decide) (fun c => absurd c (by decide)) (fun _ => ?_)
    refine lv_aload_n hx hb dX7_sticks_10 rfl (lv_at hl1 1 rfl) ?_
    refine lv_iload_n hx hb dX7_sticks_11 rfl (lv_at hl1 0 rfl) ?_
    refine cV_i (wc := [mO cy mm ik tl fm tz vl iw rm rr om, ia cy (mm 4) 7 C]) (wr := [ia cy (mm 1) 169 S, ia cy (mm 6) 6 P, ia cy (mm 7) 6 N, ia cy (mm 11) 4 bi, ia cy (mm 12) 4 si, la cy (mm 13) 160 (numF f)]) (rest := []) hx hb hml hown hw hG hK hP1 hD1 hS1 hA hl1 kc_X7_finds kw_4_139 [.int (-1000000001)] (c_X7_finds l D cy G H1.size mm ik tl fm tz vl iw rm rr om C 0 (-1000000001) (by decide) (by decide)) [0, 2] [1, 3, 4, 5, 6, 7] rfl rfl rfl rfl rfl 0 rfl rfl rfl rfl rfl (Nat.le_of_ble_eq_true rfl) ⟨Nat.le_of_ble_eq_true rfl, Nat.le_of_ble_eq_true rfl⟩ dX7_sticks_12 ⟨Nat.le_of_ble_eq_true rfl, Nat.le_of_ble_eq_true rfl⟩ (fun r_12 u9 H2 locs2 hu9 hP2 hD2 hS2 => ?_)
    clear hP1 hD1 hS1 locs1 H1
    have hr_12 := hu9
    replace hP2 : va_P D vwCl ([ia cy (mm 1) 169 S, ia cy (mm 6) 6 P, ia cy (mm 7) 6 N, ia cy (mm 11) 4 bi, ia cy (mm 12) 4 si, la cy (mm 13) 160 (numF f), mO cy mm ik tl fm tz vl iw rm rr om, ia cy (mm 4) 7 (upd C 0 (C 0 + 1))]) H2 := hP2
    replace hD2 : va_D (va_A _ sz) ([ia cy (mm 1) 169 S, ia cy (mm 6) 6 P, ia cy (mm 7) 6 N, ia cy (mm 11) 4 bi, ia cy (mm 12) 4 si, la cy (mm 13) 160 (numF f), mO cy mm ik tl fm tz vl iw rm rr om, ia cy (mm 4) 7 (upd C 0 (C 0 + 1))]) := hD2
    replace hP2 := hP2.sub (ws' := [mO cy mm ik tl fm tz vl iw rm rr om, ia cy (mm 1) 169 S, ia cy (mm 4) 7 (upd C 0 (C 0 + 1)), ia cy (mm 6) 6 P, ia cy (mm 7) 6 N, ia cy (mm 11) 4 bi, ia cy (mm 12) 4 si, la cy (mm 13) 160 (numF f)]) [6, 0, 7, 1, 2, 3, 4, 5] rfl
    replace hD2 := hD2.sub (ws' := [mO cy mm ik tl fm tz vl iw rm rr om, ia cy (mm 1) 169 S, ia cy (mm 4) 7 (upd C 0 (C 0 + 1)), ia cy (mm 6) 6 P, ia cy (mm 7) 6 N, ia cy (mm 11) 4 bi, ia cy (mm 12) 4 si, la cy (mm 13) 160 (numF f)]) [6, 0, 7, 1, 2, 3, 4, 5] (by decide) rfl
    subst hr_12
    have hcd : cSh bi x1 = 0 := by unfold cSh; clear hx hb hml hown hr hlocks hw hsz hA hG hK hP2 hD2 hS2 hl1; grind
    have hq9 : ([mO cy mm ik tl fm tz vl iw rm rr om, ia cy (mm 1) 169 S, ia cy (mm 4) 7 (upd C 0 (C 0 + 1)), ia cy (mm 6) 6 P, ia cy (mm 7) 6 N, ia cy (mm 11) 4 bi, ia cy (mm 12) 4 si, la cy (mm 13) 160 (numF f)]) = ([mO cy mm ik tl fm tz vl iw rm rr om, ia cy (mm 1) 169 S, ia cy (mm 4) 7 (fnd C (cSh bi x1)), ia cy (mm 6) 6 P, ia cy (mm 7) 6 N, ia cy (mm 11) 4 bi, ia cy (mm 12) 4 si, la cy (mm 13) 160 (numF f)]) := congrArg (fun z9 => [mO cy mm ik tl fm tz vl iw rm rr om, ia cy (mm 1) 169 S, ia cy (mm 4) 7 z9, ia cy (mm 6) 6 P, ia cy (mm 7) 6 N, ia cy (mm 11) 4 bi, ia cy (mm 12) 4 si, la cy (mm 13) 160 (numF f)]) (show (upd C 0 (C 0 + 1)) = (fnd C (cSh bi x1)) from fnd_f hcd (by decide))
    replace hP2 := (congrArg (fun z9 => va_P D vwCl z9 _) hq9).mp hP2
    replace hD2 := (congrArg (fun z9 => va_D _ z9) hq9).mp hD2
    clear hq9
    have hq9 : ([mO cy mm ik tl fm tz vl iw rm rr om, ia cy (mm 1) 169 S, ia cy (mm 4) 7 (fnd C (cSh bi x1)), ia cy (mm 6) 6 P, ia cy (mm 7) 6 N, ia cy (mm 11) 4 bi, ia cy (mm 12) 4 si, la cy (mm 13) 160 (numF f)]) = ([mO cy mm ik tl fm tz vl iw rm rr om, ia cy (mm 1) 169 (if cSh bi x1 = 7 then drwN S (minN (bstN (si (bstN x1))) (gcN S)) else S), ia cy (mm 4) 7 (fnd C (cSh bi x1)), ia cy (mm 6) 6 P, ia cy (mm 7) 6 N, ia cy (mm 11) 4 bi, ia cy (mm 12) 4 si, la cy (mm 13) 160 (numF f)]) := congrArg (fun z9 => [mO cy mm ik tl fm tz vl iw rm rr om, ia cy (mm 1) 169 z9, ia cy (mm 4) 7 (fnd C (cSh bi x1)), ia cy (mm 6) 6 P, ia cy (mm 7) 6 N, ia cy (mm 11) 4 bi, ia cy (mm 12) 4 si, la cy (mm 13) 160 (numF f)]) (show S = (if cSh bi x1 = 7 then drwN S (minN (bstN (si (bstN x1))) (gcN S)) else S) from (if_neg (fun z9 => absurd (hcd.symm.trans z9) (by decide))).symm)
    replace hP2 := (congrArg (fun z9 => va_P D vwCl z9 _) hq9).mp hP2
    replace hD2 := (congrArg (fun z9 => va_D _ z9) hq9).mp hD2
    clear hq9
    have hq9 : ([mO cy mm ik tl fm tz vl iw rm rr om, ia cy (mm 1) 169 (if cSh bi x1 = 7 then drwN S (minN (bstN (si (bstN x1))) (gcN S)) else S), ia cy (mm 4) 7 (fnd C (cSh bi x1)), ia cy (mm 6) 6 P, ia cy (mm 7) 6 N, ia cy (mm 11) 4 bi, ia cy (mm 12) 4 si, la cy (mm 13) 160 (numF f)]) = ([mO cy mm ik tl fm tz vl iw rm rr om, ia cy (mm 1) 169 (if cSh bi x1 = 7 then drwN S (minN (bstN (si (bstN x1))) (gcN S)) else S), ia cy (mm 4) 7 (fnd C (cSh bi x1)), ia cy (mm 6) 6 P, ia cy (mm 7) 6 N, ia cy (mm 11) 4 bi, ia cy (mm 12) 4 si, la cy (mm 13) 160 (if cSh bi x1 = 7 then numF (va_up f (bstN x1) (stkF S (f (bstN x1)) (minN (bstN (si (bstN x1))) (gcN S)))) else numF f)]) := congrArg (fun z9 => [mO cy mm ik tl fm tz vl iw rm rr om, ia cy (mm 1) 169 (if cSh bi x1 = 7 then drwN S (minN (bstN (si (bstN x1))) (gcN S)) else S), ia cy (mm 4) 7 (fnd C (cSh bi x1)), ia cy (mm 6) 6 P, ia cy (mm 7) 6 N, ia cy (mm 11) 4 bi, ia cy (mm 12) 4 si, la cy (mm 13) 160 z9]) (show (numF f) = (if cSh bi x1 = 7 then numF (va_up f (bstN x1) (stkF S (f (bstN x1)) (minN (bstN (si (bstN x1))) (gcN S)))) else numF f) from (if_neg (fun z9 => absurd (hcd.symm.trans z9) (by decide))).symm)
    replace hP2 := (congrArg (fun z9 => va_P D vwCl z9 _) hq9).mp hP2
    replace hD2 := (congrArg (fun z9 => va_D _ z9) hq9).mp hD2
    clear hq9
    refine re_i (P, N, rm, rr) hx hb hr hlocks hP2 hD2 hS2 dX7_sticks_15 ?_
    exact (ans_f hcd (by decide) rfl)
  · refine tp (show wrR bi x1 = -1000000006 from ew9) ?_
    refine lv_istore_n (lv' := [(2, .int (-1000000006)), (0, .ref (mm 0)), (1, .int x1)]) hx hb dX7_sticks_5 rfl hl0 (by decide) rfl (fun ls1 hl1 => ?_)
    clear hl0 ls0
    refine lv_iload_n hx hb dX7_sticks_6 rfl (lv_at hl1 0 rfl) ?_
    refine lv_if_eq (tgt := 16) hx hb dX7_sticks_7 (by decide) (fun c => absurd c (by decide)) (fun _ => ?_)
    refine lv_aload_n hx hb dX7_sticks_10 rfl (lv_at hl1 1 rfl) ?_
    refine lv_iload_n hx hb dX7_sticks_11 rfl (lv_at hl1 0 rfl) ?_
    refine cV_i (wc := [mO cy mm ik tl fm tz vl iw rm rr om, ia cy (mm 4) 7 C]) (wr := [ia cy (mm 1) 169 S, ia cy (mm 6) 6 P, ia cy (mm 7) 6 N, ia cy (mm 11) 4 bi, ia cy (mm 12) 4 si, la cy (mm 13) 160 (numF f)]) (rest := []) hx hb hml hown hw hG hK hP1 hD1 hS1 hA hl1 kc_X7_finds kw_4_139 [.int (-1000000006)] (c_X7_finds l D cy G H1.size mm ik tl fm tz vl iw rm rr om C 5 (-1000000006) (by decide) (by decide)) [0, 2] [1, 3, 4, 5, 6, 7] rfl rfl rfl rfl rfl 0 rfl rfl rfl rfl rfl (Nat.le_of_ble_eq_true rfl) ⟨Nat.le_of_ble_eq_true rfl, Nat.le_of_ble_eq_true rfl⟩ dX7_sticks_12 ⟨Nat.le_of_ble_eq_true rfl, Nat.le_of_ble_eq_true rfl⟩ (fun r_12 u9 H2 locs2 hu9 hP2 hD2 hS2 => ?_)
    clear hP1 hD1 hS1 locs1 H1
    have hr_12 := hu9
    replace hP2 : va_P D vwCl ([ia cy (mm 1) 169 S, ia cy (mm 6) 6 P, ia cy (mm 7) 6 N, ia cy (mm 11) 4 bi, ia cy (mm 12) 4 si, la cy (mm 13) 160 (numF f), mO cy mm ik tl fm tz vl iw rm rr om, ia cy (mm 4) 7 (upd C 5 (C 5 + 1))]) H2 := hP2
    replace hD2 : va_D (va_A _ sz) ([ia cy (mm 1) 169 S, ia cy (mm 6) 6 P, ia cy (mm 7) 6 N, ia cy (mm 11) 4 bi, ia cy (mm 12) 4 si, la cy (mm 13) 160 (numF f), mO cy mm ik tl fm tz vl iw rm rr om, ia cy (mm 4) 7 (upd C 5 (C 5 + 1))]) := hD2
    replace hP2 := hP2.sub (ws' := [mO cy mm ik tl fm tz vl iw rm rr om, ia cy (mm 1) 169 S, ia cy (mm 4) 7 (upd C 5 (C 5 + 1)), ia cy (mm 6) 6 P, ia cy (mm 7) 6 N, ia cy (mm 11) 4 bi, ia cy (mm 12) 4 si, la cy (mm 13) 160 (numF f)]) [6, 0, 7, 1, 2, 3, 4, 5] rfl
    replace hD2 := hD2.sub (ws' := [mO cy mm ik tl fm tz vl iw rm rr om, ia cy (mm 1) 169 S, ia cy (mm 4) 7 (upd C 5 (C 5 + 1)), ia cy (mm 6) 6 P, ia cy (mm 7) 6 N, ia cy (mm 11) 4 bi, ia cy (mm 12) 4 si, la cy (mm 13) 160 (numF f)]) [6, 0, 7, 1, 2, 3, 4, 5] (by decide) rfl
    subst hr_12
    have hcd : cSh bi x1 = 5 := by unfold cSh; clear hx hb hml hown hr hlocks hw hsz hA hG hK hP2 hD2 hS2 hl1; grind
    have hq9 : ([mO cy mm ik tl fm tz vl iw rm rr om, ia cy (mm 1) 169 S, ia cy (mm 4) 7 (upd C 5 (C 5 + 1)), ia cy (mm 6) 6 P, ia cy (mm 7) 6 N, ia cy (mm 11) 4 bi, ia cy (mm 12) 4 si, la cy (mm 13) 160 (numF f)]) = ([mO cy mm ik tl fm tz vl iw rm rr om, ia cy (mm 1) 169 S, ia cy (mm 4) 7 (fnd C (cSh bi x1)), ia cy (mm 6) 6 P, ia cy (mm 7) 6 N, ia cy (mm 11) 4 bi, ia cy (mm 12) 4 si, la cy (mm 13) 160 (numF f)]) := congrArg (fun z9 => [mO cy mm ik tl fm tz vl iw rm rr om, ia cy (mm 1) 169 S, ia cy (mm 4) 7 z9, ia cy (mm 6) 6 P, ia cy (mm 7) 6 N, ia cy (mm 11) 4 bi, ia cy (mm 12) 4 si, la cy (mm 13) 160 (numF f)]) (show (upd C 5 (C 5 + 1)) = (fnd C (cSh bi x1)) from fnd_f hcd (by decide))
    replace hP2 := (congrArg (fun z9 => va_P D vwCl z9 _) hq9).mp hP2
    replace hD2 := (congrArg (fun z9 => va_D _ z9) hq9).mp hD2
    clear hq9
    have hq9 : ([mO cy mm ik tl fm tz vl iw rm rr om, ia cy (mm 1) 169 S, ia cy (mm 4) 7 (fnd C (cSh bi x1)), ia cy (mm 6) 6 P, ia cy (mm 7) 6 N, ia cy (mm 11) 4 bi, ia cy (mm 12) 4 si, la cy (mm 13) 160 (numF f)]) = ([mO cy mm ik tl fm tz vl iw rm rr om, ia cy (mm 1) 169 (if cSh bi x1 = 7 then drwN S (minN (bstN (si (bstN x1))) (gcN S)) else S), ia cy (mm 4) 7 (fnd C (cSh bi x1)), ia cy (mm 6) 6 P, ia cy (mm 7) 6 N, ia cy (mm 11) 4 bi, ia cy (mm 12) 4 si, la cy (mm 13) 160 (numF f)]) := congrArg (fun z9 => [mO cy mm ik tl fm tz vl iw rm rr om, ia cy (mm 1) 169 z9, ia cy (mm 4) 7 (fnd C (cSh bi x1)), ia cy (mm 6) 6 P, ia cy (mm 7) 6 N, ia cy (mm 11) 4 bi, ia cy (mm 12) 4 si, la cy (mm 13) 160 (numF f)]) (show S = (if cSh bi x1 = 7 then drwN S (minN (bstN (si (bstN x1))) (gcN S)) else S) from (if_neg (fun z9 => absurd (hcd.symm.trans z9) (by decide))).symm)
    replace hP2 := (congrArg (fun z9 => va_P D vwCl z9 _) hq9).mp hP2
    replace hD2 := (congrArg (fun z9 => va_D _ z9) hq9).mp hD2
    clear hq9
    have hq9 : ([mO cy mm ik tl fm tz vl iw rm rr om, ia cy (mm 1) 169 (if cSh bi x1 = 7 then drwN S (minN (bstN (si (bstN x1))) (gcN S)) else S), ia cy (mm 4) 7 (fnd C (cSh bi x1)), ia cy (mm 6) 6 P, ia cy (mm 7) 6 N, ia cy (mm 11) 4 bi, ia cy (mm 12) 4 si, la cy (mm 13) 160 (numF f)]) = ([mO cy mm ik tl fm tz vl iw rm rr om, ia cy (mm 1) 169 (if cSh bi x1 = 7 then drwN S (minN (bstN (si (bstN x1))) (gcN S)) else S), ia cy (mm 4) 7 (fnd C (cSh bi x1)), ia cy (mm 6) 6 P, ia cy (mm 7) 6 N, ia cy (mm 11) 4 bi, ia cy (mm 12) 4 si, la cy (mm 13) 160 (if cSh bi x1 = 7 then numF (va_up f (bstN x1) (stkF S (f (bstN x1)) (minN (bstN (si (bstN x1))) (gcN S)))) else numF f)]) := congrArg (fun z9 => [mO cy mm ik tl fm tz vl iw rm rr om, ia cy (mm 1) 169 (if cSh bi x1 = 7 then drwN S (minN (bstN (si (bstN x1))) (gcN S)) else S), ia cy (mm 4) 7 (fnd C (cSh bi x1)), ia cy (mm 6) 6 P, ia cy (mm 7) 6 N, ia cy (mm 11) 4 bi, ia cy (mm 12) 4 si, la cy (mm 13) 160 z9]) (show (numF f) = (if cSh bi x1 = 7 then numF (va_up f (bstN x1) (stkF S (f (bstN x1)) (minN (bstN (si (bstN x1))) (gcN S)))) else numF f) from (if_neg (fun z9 => absurd (hcd.symm.trans z9) (by decide))).symm)
    replace hP2 := (congrArg (fun z9 => va_P D vwCl z9 _) hq9).mp hP2
    replace hD2 := (congrArg (fun z9 => va_D _ z9) hq9).mp hD2
    clear hq9
    refine re_i (P, N, rm, rr) hx hb hr hlocks hP2 hD2 hS2 dX7_sticks_15 ?_
    exact (ans_f hcd (by decide) rfl)
  · refine tp (show wrR bi x1 = 0 from ew9) ?_
    obtain ⟨i0, hi4, rfl⟩ := nI_rn (n := 4) (by decide) (x := x1) ⟨hwr.1, Int32.lt_of_le_of_lt hwr.2 (by decide)⟩
    have hbi : bstN (nI i0) = i0 := bst_n (by omega)
    rw [hbi] at hw0
    have hs0 := hso i0 hi4
    have hs40 := hs0.2.1
    refine lv_istore_n (lv' := [(2, .int 0), (0, .ref (mm 0)), (1, .int (nI i0))]) hx hb dX7_sticks_5 rfl hl0 (by decide) rfl (fun ls1 hl1 => ?_)
    clear hl0 ls0
    refine lv_iload_n hx hb dX7_sticks_6 rfl (lv_at hl1 0 rfl) ?_
    refine lv_if_eq (tgt := 16) hx hb dX7_sticks_7 (by decide) (fun _ => ?_) (fun c => absurd (by decide) c)
    refine lv_aload_n hx hb dX7_sticks_16 rfl (lv_at hl1 1 rfl) ?_
    refine va_get (D := D) (ci := 7) (v := .ref (mm 12)) (C := RX7) (T := TX7) (N := 23) hx hb hw iX7 hown hK hP1 0 rfl rfl 20 (by decide) (hw _ kw_4_84) (fun _ h9 => h9) rfl dX7_sticks_17 ?_
    refine lv_iload_n hx hb dX7_sticks_20 rfl (lv_at hl1 2 rfl) ?_
    refine ald_i (f := si) hx hb hK hP1 6 0 rfl rfl i0 rfl (by first | omega | assumption) (by decide) dX7_sticks_21 ?_
    refine tp (show (si i0) = nI (bstN (si i0)) from hs0.1) ?_
    refine lv_aload_n hx hb dX7_sticks_22 rfl (lv_at hl1 1 rfl) ?_
    refine va_get (D := D) (ci := 7) (v := .ref (mm 1)) (C := RX7) (T := TX7) (N := 23) hx hb hw iX7 hown hK hP1 0 rfl rfl 0 (by decide) (hw _ kw_4_64) (fun _ h9 => h9) rfl dX7_sticks_23 ?_
    refine lv_iconst (v := 1) hx hb dX7_sticks_26 (by decide) ?_
    refine ald_i (f := S) hx hb hK hP1 1 0 rfl rfl 1 rfl (by first | omega | assumption) (by decide) dX7_sticks_27 ?_
    refine tp (show (S 1) = nI (gcN S) from wf_g wf) ?_
    refine ln_ge (tgt := 40) (bstN (si i0)) (gcN S) rfl rfl (by omega) (by omega) hx hb dX7_sticks_28 (by decide) (fun c_28 => ?_) (fun c_28 => ?_)
    · refine lv_aload_n hx hb dX7_sticks_40 rfl (lv_at hl1 1 rfl) ?_
      refine va_get (D := D) (ci := 7) (v := .ref (mm 1)) (C := RX7) (T := TX7) (N := 23) hx hb hw iX7 hown hK hP1 0 rfl rfl 0 (by decide) (hw _ kw_4_64) (fun _ h9 => h9) rfl dX7_sticks_41 ?_
      refine lv_iconst (v := 1) hx hb dX7_sticks_44 (by decide) ?_
      refine ald_i (f := S) hx hb hK hP1 1 0 rfl rfl 1 rfl (by first | omega | assumption) (by decide) dX7_sticks_45 ?_
      refine tp (show (S 1) = nI (gcN S) from wf_g wf) ?_
      refine lv_istore_n (lv' := [(3, .int (nI (gcN S))), (2, .int 0), (0, .ref (mm 0)), (1, .int (nI i0))]) hx hb dX7_sticks_46 rfl hl1 (by decide) rfl (fun ls2 hl2 => ?_)
      clear hl1 ls1
      have hmn := minN_l (bstN (si i0)) (gcN S)
      have hq9 : nI (minN (bstN (si i0)) (gcN S)) = nI (gcN S) := congrArg nI (minN_u (by omega) (by omega) (by omega))
      replace hl2 : lv_has ls2 5 [(3, .int (nI (minN (bstN (si i0)) (gcN S)))), (2, .int 0), (0, .ref (mm 0)), (1, .int (nI i0))] := (congrArg (fun z9 => lv_has ls2 5 [(3, .int z9), (2, .int 0), (0, .ref (mm 0)), (1, .int (nI i0))]) hq9).mpr hl2
      clear hq9
      refine lv_aload_n hx hb dX7_sticks_47 rfl (lv_at hl2 2 rfl) ?_
      refine cV_v (wc := [mO cy mm ik tl fm tz vl iw rm rr om, ia cy (mm 1) 169 S, ia cy (mm 6) 6 P, ia cy (mm 7) 6 N]) (wr := [ia cy (mm 4) 7 C, ia cy (mm 11) 4 bi, ia cy (mm 12) 4 si, la cy (mm 13) 160 (numF f)]) (rest := []) hx hb hml hown hw hG hK hP1 hD1 hS1 hA hl2 kc_X7_rests kw_5_57 [] (c_X7_rests l D cy G H1.size mm ik tl fm tz vl iw rm rr om S P N (by first | omega | assumption)) [0, 1, 3, 4] [2, 5, 6, 7] rfl rfl rfl rfl rfl 0 rfl rfl rfl rfl rfl (Nat.le_of_ble_eq_true rfl) ⟨Nat.le_of_ble_eq_true rfl, Nat.le_of_ble_eq_true rfl⟩ dX7_sticks_48 ⟨Nat.le_of_ble_eq_true rfl, Nat.le_of_ble_eq_true rfl⟩ (fun u9 H2 locs2 hu9 hP2 hD2 hS2 => ?_)
      clear hP1 hD1 hS1 locs1 H1
      obtain ⟨N1_48, rfl⟩ : ∃ z9, z9 = u9 := ⟨_, rfl⟩
      replace hP2 : va_P D vwCl ([ia cy (mm 4) 7 C, ia cy (mm 11) 4 bi, ia cy (mm 12) 4 si, la cy (mm 13) 160 (numF f), mO cy mm ik tl fm tz vl iw (nI (RC S)) (b2i (RC S = 60)) om, ia cy (mm 1) 169 S, ia cy (mm 6) 6 (PR S), ia cy (mm 7) 6 N1_48]) H2 := hP2
      replace hD2 : va_D (va_A _ sz) ([ia cy (mm 4) 7 C, ia cy (mm 11) 4 bi, ia cy (mm 12) 4 si, la cy (mm 13) 160 (numF f), mO cy mm ik tl fm tz vl iw (nI (RC S)) (b2i (RC S = 60)) om, ia cy (mm 1) 169 S, ia cy (mm 6) 6 (PR S), ia cy (mm 7) 6 N1_48]) := hD2
      replace hP2 := hP2.sub (ws' := [mO cy mm ik tl fm tz vl iw (nI (RC S)) (b2i (RC S = 60)) om, ia cy (mm 1) 169 S, ia cy (mm 4) 7 C, ia cy (mm 6) 6 (PR S), ia cy (mm 7) 6 N1_48, ia cy (mm 11) 4 bi, ia cy (mm 12) 4 si, la cy (mm 13) 160 (numF f)]) [4, 5, 0, 6, 7, 1, 2, 3] rfl
      replace hD2 := hD2.sub (ws' := [mO cy mm ik tl fm tz vl iw (nI (RC S)) (b2i (RC S = 60)) om, ia cy (mm 1) 169 S, ia cy (mm 4) 7 C, ia cy (mm 6) 6 (PR S), ia cy (mm 7) 6 N1_48, ia cy (mm 11) 4 bi, ia cy (mm 12) 4 si, la cy (mm 13) 160 (numF f)]) [4, 5, 0, 6, 7, 1, 2, 3] (by decide) rfl
      refine lv_iconst (v := 0) hx hb dX7_sticks_51 (by decide) ?_
      refine lv_istore (lv' := [(4, .int 0), (3, .int (nI (minN (bstN (si i0)) (gcN S)))), (2, .int 0), (0, .ref (mm 0)), (1, .int (nI i0))]) hx hb dX7_sticks_52 hl2 (by decide) rfl (fun ls3 hl3 => ?_)
      clear hl2 ls2
      have hq9 : ([mO cy mm ik tl fm tz vl iw (nI (RC S)) (b2i (RC S = 60)) om, ia cy (mm 1) 169 S, ia cy (mm 4) 7 C, ia cy (mm 6) 6 (PR S), ia cy (mm 7) 6 N1_48, ia cy (mm 11) 4 bi, ia cy (mm 12) 4 si, la cy (mm 13) 160 (numF f)]) = ([mO cy mm ik tl fm tz vl iw (nI (RC S)) (b2i (RC S = 60)) om, ia cy (mm 1) 169 (drwN S 0), ia cy (mm 4) 7 C, ia cy (mm 6) 6 (PR S), ia cy (mm 7) 6 N1_48, ia cy (mm 11) 4 bi, ia cy (mm 12) 4 si, la cy (mm 13) 160 (numF f)]) := congrArg (fun z9 => [mO cy mm ik tl fm tz vl iw (nI (RC S)) (b2i (RC S = 60)) om, ia cy (mm 1) 169 z9, ia cy (mm 4) 7 C, ia cy (mm 6) 6 (PR S), ia cy (mm 7) 6 N1_48, ia cy (mm 11) 4 bi, ia cy (mm 12) 4 si, la cy (mm 13) 160 (numF f)]) (show S = (drwN S 0) from rfl)
      replace hP2 := (congrArg (fun z9 => va_P D vwCl z9 _) hq9).mp hP2
      replace hD2 := (congrArg (fun z9 => va_D _ z9) hq9).mp hD2
      clear hq9
      have hq9 : ([mO cy mm ik tl fm tz vl iw (nI (RC S)) (b2i (RC S = 60)) om, ia cy (mm 1) 169 (drwN S 0), ia cy (mm 4) 7 C, ia cy (mm 6) 6 (PR S), ia cy (mm 7) 6 N1_48, ia cy (mm 11) 4 bi, ia cy (mm 12) 4 si, la cy (mm 13) 160 (numF f)]) = ([mO cy mm ik tl fm tz vl iw (nI (RC S)) (b2i (RC S = 60)) om, ia cy (mm 1) 169 (drwN S 0), ia cy (mm 4) 7 C, ia cy (mm 6) 6 (PR S), ia cy (mm 7) 6 N1_48, ia cy (mm 11) 4 bi, ia cy (mm 12) 4 si, la cy (mm 13) 160 (numF (va_up f i0 (stkF S (f i0) 0)))]) := congrArg (fun z9 => [mO cy mm ik tl fm tz vl iw (nI (RC S)) (b2i (RC S = 60)) om, ia cy (mm 1) 169 (drwN S 0), ia cy (mm 4) 7 C, ia cy (mm 6) 6 (PR S), ia cy (mm 7) 6 N1_48, ia cy (mm 11) 4 bi, ia cy (mm 12) 4 si, la cy (mm 13) 160 z9]) (show (numF f) = (numF (va_up f i0 (stkF S (f i0) 0))) from by rw [show stkF S (f i0) 0 = f i0 from rfl, va_up_s])
      replace hP2 := (congrArg (fun z9 => va_P D vwCl z9 _) hq9).mp hP2
      replace hD2 := (congrArg (fun z9 => va_D _ z9) hq9).mp hD2
      clear hq9
      refine wlp (ι := Nat) (nL := 5) (fun x9 => (x9 ≤ (minN (bstN (si i0)) (gcN S)))) (fun x9 => [mO cy mm ik tl fm tz vl iw (nI (RC S)) (b2i (RC S = 60)) om, ia cy (mm 1) 169 (drwN S x9), ia cy (mm 4) 7 C, ia cy (mm 6) 6 (PR S), ia cy (mm 7) 6 N1_48, ia cy (mm 11) 4 bi, ia cy (mm 12) 4 si, la cy (mm 13) 160 (numF (va_up f i0 (stkF S (f i0) x9)))]) (fun x9 => [(4, .int (nI x9)), (3, .int (nI (minN (bstN (si i0)) (gcN S)))), (2, .int 0), (0, .ref (mm 0)), (1, .int (nI i0))]) (fun x9 => []) (fun x9 => (minN (bstN (si i0)) (gcN S)) - x9) 54 ?_ 0 (by first | omega | assumption | rfl | simp_all) rfl hP2 hD2 hS2 (lv_sub hl3 [0, 1, 2, 3, 4] rfl)
      clear hP2 hD2 hS2 locs2 H2 hl3 ls3
      intro x9 hI ih_54 H3 locs3 ls4 hP3 hD3 hS3 hl4
      obtain ⟨i, rfl⟩ : ∃ z9, z9 = x9 := ⟨_, rfl⟩
      have hi := hI
      replace hi : i ≤ (minN (bstN (si i0)) (gcN S)) := hi
      replace hP3 : va_P D vwCl ([mO cy mm ik tl fm tz vl iw (nI (RC S)) (b2i (RC S = 60)) om, ia cy (mm 1) 169 (drwN S i), ia cy (mm 4) 7 C, ia cy (mm 6) 6 (PR S), ia cy (mm 7) 6 N1_48, ia cy (mm 11) 4 bi, ia cy (mm 12) 4 si, la cy (mm 13) 160 (numF (va_up f i0 (stkF S (f i0) i)))]) H3 := hP3
      replace hD3 : va_D (va_A _ sz) ([mO cy mm ik tl fm tz vl iw (nI (RC S)) (b2i (RC S = 60)) om, ia cy (mm 1) 169 (drwN S i), ia cy (mm 4) 7 C, ia cy (mm 6) 6 (PR S), ia cy (mm 7) 6 N1_48, ia cy (mm 11) 4 bi, ia cy (mm 12) 4 si, la cy (mm 13) 160 (numF (va_up f i0 (stkF S (f i0) i)))]) := hD3
      replace hl4 : lv_has ls4 5 [(4, .int (nI i)), (3, .int (nI (minN (bstN (si i0)) (gcN S)))), (2, .int 0), (0, .ref (mm 0)), (1, .int (nI i0))] := hl4
      show W p l e _ s m _ below meth c _ _ _ _ _ (F0 m 54 ls4 [])
      refine lv_iload hx hb dX7_sticks_54 (lv_at hl4 0 rfl) ?_
      refine lv_iload_n hx hb dX7_sticks_56 rfl (lv_at hl4 1 rfl) ?_
      refine ln_ge (tgt := 85) i (minN (bstN (si i0)) (gcN S)) rfl rfl (by omega) (by omega) hx hb dX7_sticks_57 (by decide) (fun c_57 => ?_) (fun c_57 => ?_)
      · have hie : i = (minN (bstN (si i0)) (gcN S)) := (by omega)
        have hq9 : ([mO cy mm ik tl fm tz vl iw (nI (RC S)) (b2i (RC S = 60)) om, ia cy (mm 1) 169 (drwN S i), ia cy (mm 4) 7 C, ia cy (mm 6) 6 (PR S), ia cy (mm 7) 6 N1_48, ia cy (mm 11) 4 bi, ia cy (mm 12) 4 si, la cy (mm 13) 160 (numF (va_up f i0 (stkF S (f i0) i)))]) = ([mO cy mm ik tl fm tz vl iw (nI (RC S)) (b2i (RC S = 60)) om, ia cy (mm 1) 169 (drwN S (minN (bstN (si i0)) (gcN S))), ia cy (mm 4) 7 C, ia cy (mm 6) 6 (PR S), ia cy (mm 7) 6 N1_48, ia cy (mm 11) 4 bi, ia cy (mm 12) 4 si, la cy (mm 13) 160 (numF (va_up f i0 (stkF S (f i0) i)))]) := congrArg (fun z9 => [mO cy mm ik tl fm tz vl iw (nI (RC S)) (b2i (RC S = 60)) om, ia cy (mm 1) 169 z9, ia cy (mm 4) 7 C, ia cy (mm 6) 6 (PR S), ia cy (mm 7) 6 N1_48, ia cy (mm 11) 4 bi, ia cy (mm 12) 4 si, la cy (mm 13) 160 (numF (va_up f i0 (stkF S (f i0) i)))]) (show (drwN S i) = (drwN S (minN (bstN (si i0)) (gcN S))) from by rw [hie])
        replace hP3 := (congrArg (fun z9 => va_P D vwCl z9 _) hq9).mp hP3
        replace hD3 := (congrArg (fun z9 => va_D _ z9) hq9).mp hD3
        clear hq9
        have hq9 : ([mO cy mm ik tl fm tz vl iw (nI (RC S)) (b2i (RC S = 60)) om, ia cy (mm 1) 169 (drwN S (minN (bstN (si i0)) (gcN S))), ia cy (mm 4) 7 C, ia cy (mm 6) 6 (PR S), ia cy (mm 7) 6 N1_48, ia cy (mm 11) 4 bi, ia cy (mm 12) 4 si, la cy (mm 13) 160 (numF (va_up f i0 (stkF S (f i0) i)))]) = ([mO cy mm ik tl fm tz vl iw (nI (RC S)) (b2i (RC S = 60)) om, ia cy (mm 1) 169 (drwN S (minN (bstN (si i0)) (gcN S))), ia cy (mm 4) 7 C, ia cy (mm 6) 6 (PR S), ia cy (mm 7) 6 N1_48, ia cy (mm 11) 4 bi, ia cy (mm 12) 4 si, la cy (mm 13) 160 (numF (va_up f i0 (stkF S (f i0) (minN (bstN (si i0)) (gcN S)))))]) := congrArg (fun z9 => [mO cy mm ik tl fm tz vl iw (nI (RC S)) (b2i (RC S = 60)) om, ia cy (mm 1) 169 (drwN S (minN (bstN (si i0)) (gcN S))), ia cy (mm 4) 7 C, ia cy (mm 6) 6 (PR S), ia cy (mm 7) 6 N1_48, ia cy (mm 11) 4 bi, ia cy (mm 12) 4 si, la cy (mm 13) 160 z9]) (show (numF (va_up f i0 (stkF S (f i0) i))) = (numF (va_up f i0 (stkF S (f i0) (minN (bstN (si i0)) (gcN S))))) from by rw [hie])
        replace hP3 := (congrArg (fun z9 => va_P D vwCl z9 _) hq9).mp hP3
        replace hD3 := (congrArg (fun z9 => va_D _ z9) hq9).mp hD3
        clear hq9
        refine lv_iload_n hx hb dX7_sticks_85 rfl (lv_at hl4 1 rfl) ?_
        have hcd : cSh bi (nI i0) = 7 := by unfold cSh; rw [hbi]; clear hx hb hml hown hr hlocks hw hsz hA hG hK hP3 hD3 hS3 hl4 ih_54; grind
        have hq9 : ([mO cy mm ik tl fm tz vl iw (nI (RC S)) (b2i (RC S = 60)) om, ia cy (mm 1) 169 (drwN S (minN (bstN (si i0)) (gcN S))), ia cy (mm 4) 7 C, ia cy (mm 6) 6 (PR S), ia cy (mm 7) 6 N1_48, ia cy (mm 11) 4 bi, ia cy (mm 12) 4 si, la cy (mm 13) 160 (numF (va_up f i0 (stkF S (f i0) (minN (bstN (si i0)) (gcN S)))))]) = ([mO cy mm ik tl fm tz vl iw (nI (RC S)) (b2i (RC S = 60)) om, ia cy (mm 1) 169 (drwN S (minN (bstN (si i0)) (gcN S))), ia cy (mm 4) 7 (fnd C (cSh bi (nI i0))), ia cy (mm 6) 6 (PR S), ia cy (mm 7) 6 N1_48, ia cy (mm 11) 4 bi, ia cy (mm 12) 4 si, la cy (mm 13) 160 (numF (va_up f i0 (stkF S (f i0) (minN (bstN (si i0)) (gcN S)))))]) := congrArg (fun z9 => [mO cy mm ik tl fm tz vl iw (nI (RC S)) (b2i (RC S = 60)) om, ia cy (mm 1) 169 (drwN S (minN (bstN (si i0)) (gcN S))), ia cy (mm 4) 7 z9, ia cy (mm 6) 6 (PR S), ia cy (mm 7) 6 N1_48, ia cy (mm 11) 4 bi, ia cy (mm 12) 4 si, la cy (mm 13) 160 (numF (va_up f i0 (stkF S (f i0) (minN (bstN (si i0)) (gcN S)))))]) (show C = (fnd C (cSh bi (nI i0))) from fnd_o hcd)
        replace hP3 := (congrArg (fun z9 => va_P D vwCl z9 _) hq9).mp hP3
        replace hD3 := (congrArg (fun z9 => va_D _ z9) hq9).mp hD3
        clear hq9
        have hq9 : ([mO cy mm ik tl fm tz vl iw (nI (RC S)) (b2i (RC S = 60)) om, ia cy (mm 1) 169 (drwN S (minN (bstN (si i0)) (gcN S))), ia cy (mm 4) 7 (fnd C (cSh bi (nI i0))), ia cy (mm 6) 6 (PR S), ia cy (mm 7) 6 N1_48, ia cy (mm 11) 4 bi, ia cy (mm 12) 4 si, la cy (mm 13) 160 (numF (va_up f i0 (stkF S (f i0) (minN (bstN (si i0)) (gcN S)))))]) = ([mO cy mm ik tl fm tz vl iw (nI (RC S)) (b2i (RC S = 60)) om, ia cy (mm 1) 169 (if cSh bi (nI i0) = 7 then drwN S (minN (bstN (si (bstN (nI i0)))) (gcN S)) else S), ia cy (mm 4) 7 (fnd C (cSh bi (nI i0))), ia cy (mm 6) 6 (PR S), ia cy (mm 7) 6 N1_48, ia cy (mm 11) 4 bi, ia cy (mm 12) 4 si, la cy (mm 13) 160 (numF (va_up f i0 (stkF S (f i0) (minN (bstN (si i0)) (gcN S)))))]) := congrArg (fun z9 => [mO cy mm ik tl fm tz vl iw (nI (RC S)) (b2i (RC S = 60)) om, ia cy (mm 1) 169 z9, ia cy (mm 4) 7 (fnd C (cSh bi (nI i0))), ia cy (mm 6) 6 (PR S), ia cy (mm 7) 6 N1_48, ia cy (mm 11) 4 bi, ia cy (mm 12) 4 si, la cy (mm 13) 160 (numF (va_up f i0 (stkF S (f i0) (minN (bstN (si i0)) (gcN S)))))]) (show (drwN S (minN (bstN (si i0)) (gcN S))) = (if cSh bi (nI i0) = 7 then drwN S (minN (bstN (si (bstN (nI i0)))) (gcN S)) else S) from by rw [if_pos hcd]; simp only [hbi])
        replace hP3 := (congrArg (fun z9 => va_P D vwCl z9 _) hq9).mp hP3
        replace hD3 := (congrArg (fun z9 => va_D _ z9) hq9).mp hD3
        clear hq9
        have hq9 : ([mO cy mm ik tl fm tz vl iw (nI (RC S)) (b2i (RC S = 60)) om, ia cy (mm 1) 169 (if cSh bi (nI i0) = 7 then drwN S (minN (bstN (si (bstN (nI i0)))) (gcN S)) else S), ia cy (mm 4) 7 (fnd C (cSh bi (nI i0))), ia cy (mm 6) 6 (PR S), ia cy (mm 7) 6 N1_48, ia cy (mm 11) 4 bi, ia cy (mm 12) 4 si, la cy (mm 13) 160 (numF (va_up f i0 (stkF S (f i0) (minN (bstN (si i0)) (gcN S)))))]) = ([mO cy mm ik tl fm tz vl iw (nI (RC S)) (b2i (RC S = 60)) om, ia cy (mm 1) 169 (if cSh bi (nI i0) = 7 then drwN S (minN (bstN (si (bstN (nI i0)))) (gcN S)) else S), ia cy (mm 4) 7 (fnd C (cSh bi (nI i0))), ia cy (mm 6) 6 (PR S), ia cy (mm 7) 6 N1_48, ia cy (mm 11) 4 bi, ia cy (mm 12) 4 si, la cy (mm 13) 160 (if cSh bi (nI i0) = 7 then numF (va_up f (bstN (nI i0)) (stkF S (f (bstN (nI i0))) (minN (bstN (si (bstN (nI i0)))) (gcN S)))) else numF f)]) := congrArg (fun z9 => [mO cy mm ik tl fm tz vl iw (nI (RC S)) (b2i (RC S = 60)) om, ia cy (mm 1) 169 (if cSh bi (nI i0) = 7 then drwN S (minN (bstN (si (bstN (nI i0)))) (gcN S)) else S), ia cy (mm 4) 7 (fnd C (cSh bi (nI i0))), ia cy (mm 6) 6 (PR S), ia cy (mm 7) 6 N1_48, ia cy (mm 11) 4 bi, ia cy (mm 12) 4 si, la cy (mm 13) 160 z9]) (show (numF (va_up f i0 (stkF S (f i0) (minN (bstN (si i0)) (gcN S))))) = (if cSh bi (nI i0) = 7 then numF (va_up f (bstN (nI i0)) (stkF S (f (bstN (nI i0))) (minN (bstN (si (bstN (nI i0)))) (gcN S)))) else numF f) from by rw [if_pos hcd]; simp only [hbi])
        replace hP3 := (congrArg (fun z9 => va_P D vwCl z9 _) hq9).mp hP3
        replace hD3 := (congrArg (fun z9 => va_D _ z9) hq9).mp hD3
        clear hq9
        refine re_i (PR S, N1_48, nI (RC S), b2i (RC S = 60)) hx hb hr hlocks hP3 hD3 hS3 dX7_sticks_86 ?_
        exact (ans_o hcd (by rw [hbi]))
      · refine lv_aload_n hx hb dX7_sticks_60 rfl (lv_at hl4 3 rfl) ?_
        refine va_get (D := D) (ci := 7) (v := .ref (mm 13)) (C := RX7) (T := TX7) (N := 23) hx hb hw iX7 hown hK hP3 0 rfl rfl 21 (by decide) (hw _ kw_4_85) (fun _ h9 => h9) rfl dX7_sticks_61 ?_
        refine lv_bipush (v := 40) hx hb dX7_sticks_64 (by decide) ?_
        refine lv_iload_n hx hb dX7_sticks_66 rfl (lv_at hl4 4 rfl) ?_
        refine lv_imul hx hb dX7_sticks_67 ?_
        refine tp (show (40 * (nI i0)) = nI (40 * i0) from pk_mul _ _) ?_
        refine lv_iload hx hb dX7_sticks_68 (lv_at hl4 0 rfl) ?_
        refine lv_iadd hx hb dX7_sticks_70 ?_
        refine tp (show ((nI (40 * i0)) + (nI i)) = nI (40 * i0 + i) from nI_add _ _) ?_
        refine lv_aload_n hx hb dX7_sticks_71 rfl (lv_at hl4 3 rfl) ?_
        refine lv_iload hx hb dX7_sticks_72 (lv_at hl4 0 rfl) ?_
        refine cV_i (wc := [mO cy mm ik tl fm tz vl iw (nI (RC S)) (b2i (RC S = 60)) om, ia cy (mm 1) 169 (drwN S i), ia cy (mm 6) 6 (PR S)]) (wr := [ia cy (mm 4) 7 C, ia cy (mm 7) 6 N1_48, ia cy (mm 11) 4 bi, ia cy (mm 12) 4 si, la cy (mm 13) 160 (numF (va_up f i0 (stkF S (f i0) i)))]) (rest := [.int (nI (40 * i0 + i)), .ref (mm 13)]) hx hb hml hown hw hG hK hP3 hD3 hS3 hA hl4 kc_X7_seen kw_5_121 [.int (nI i)] (c_X7_seen l D cy G H3.size mm ik tl fm tz vl iw (nI (RC S)) (b2i (RC S = 60)) om (drwN S i) (PR S) i ((drwN_wf wf i).1) (by rw [(drwN_wf wf i).2.2]; omega)) [0, 1, 3] [2, 4, 5, 6, 7] rfl rfl rfl rfl rfl 0 rfl rfl rfl rfl rfl (Nat.le_of_ble_eq_true rfl) ⟨Nat.le_of_ble_eq_true rfl, Nat.le_of_ble_eq_true rfl⟩ dX7_sticks_74 ⟨Nat.le_of_ble_eq_true rfl, Nat.le_of_ble_eq_true rfl⟩ (fun r_74 u9 H4 locs4 hu9 hP4 hD4 hS4 => ?_)
        clear hP3 hD3 hS3 locs3 H3
        have hr_74 := hu9
        replace hP4 : va_P D vwCl ([ia cy (mm 4) 7 C, ia cy (mm 7) 6 N1_48, ia cy (mm 11) 4 bi, ia cy (mm 12) 4 si, la cy (mm 13) 160 (numF (va_up f i0 (stkF S (f i0) i))), mO cy mm ik tl fm tz vl iw (nI (RC S)) (b2i (RC S = 60)) om, ia cy (mm 1) 169 (drw (drwN S i)), ia cy (mm 6) 6 (PR S)]) H4 := hP4
        replace hD4 : va_D (va_A _ sz) ([ia cy (mm 4) 7 C, ia cy (mm 7) 6 N1_48, ia cy (mm 11) 4 bi, ia cy (mm 12) 4 si, la cy (mm 13) 160 (numF (va_up f i0 (stkF S (f i0) i))), mO cy mm ik tl fm tz vl iw (nI (RC S)) (b2i (RC S = 60)) om, ia cy (mm 1) 169 (drw (drwN S i)), ia cy (mm 6) 6 (PR S)]) := hD4
        replace hP4 := hP4.sub (ws' := [mO cy mm ik tl fm tz vl iw (nI (RC S)) (b2i (RC S = 60)) om, ia cy (mm 1) 169 (drw (drwN S i)), ia cy (mm 4) 7 C, ia cy (mm 6) 6 (PR S), ia cy (mm 7) 6 N1_48, ia cy (mm 11) 4 bi, ia cy (mm 12) 4 si, la cy (mm 13) 160 (numF (va_up f i0 (stkF S (f i0) i)))]) [5, 6, 0, 7, 1, 2, 3, 4] rfl
        replace hD4 := hD4.sub (ws' := [mO cy mm ik tl fm tz vl iw (nI (RC S)) (b2i (RC S = 60)) om, ia cy (mm 1) 169 (drw (drwN S i)), ia cy (mm 4) 7 C, ia cy (mm 6) 6 (PR S), ia cy (mm 7) 6 N1_48, ia cy (mm 11) 4 bi, ia cy (mm 12) 4 si, la cy (mm 13) 160 (numF (va_up f i0 (stkF S (f i0) i)))]) [5, 6, 0, 7, 1, 2, 3, 4] (by decide) rfl
        subst hr_74
        refine tp (show (seenV (drwN S i) (flow (drwN S i) (PR S) i) i) = seenK S i from congrArg (fun z9 => seenV (drwN S i) z9 i) (drwN_flow S (PR S) i i)) ?_
        refine lv_i2l hx hb dX7_sticks_77 rfl ?_
        refine ast_l (f := numF (va_up f i0 (stkF S (f i0) i))) (ws' := [mO cy mm ik tl fm tz vl iw (nI (RC S)) (b2i (RC S = 60)) om, ia cy (mm 1) 169 (drw (drwN S i)), ia cy (mm 4) 7 C, ia cy (mm 6) 6 (PR S), ia cy (mm 7) 6 N1_48, ia cy (mm 11) 4 bi, ia cy (mm 12) 4 si, la cy (mm 13) 160 (vp_updL (numF (va_up f i0 (stkF S (f i0) i))) (40 * i0 + i) ((seenK S i).toInt64))]) hx hb hK hP4 hD4 hS4 7 1 rfl rfl (40 * i0 + i) rfl (by first | omega | assumption) (by decide) rfl dX7_sticks_78 (fun H5 locs5 hP5 hD5 hS5 => ?_)
        clear hP4 hD4 hS4 locs4 H4
        have hq9 : ([mO cy mm ik tl fm tz vl iw (nI (RC S)) (b2i (RC S = 60)) om, ia cy (mm 1) 169 (drw (drwN S i)), ia cy (mm 4) 7 C, ia cy (mm 6) 6 (PR S), ia cy (mm 7) 6 N1_48, ia cy (mm 11) 4 bi, ia cy (mm 12) 4 si, la cy (mm 13) 160 (vp_updL (numF (va_up f i0 (stkF S (f i0) i))) (40 * i0 + i) ((seenK S i).toInt64))]) = ([mO cy mm ik tl fm tz vl iw (nI (RC S)) (b2i (RC S = 60)) om, ia cy (mm 1) 169 (drwN S (i + 1)), ia cy (mm 4) 7 C, ia cy (mm 6) 6 (PR S), ia cy (mm 7) 6 N1_48, ia cy (mm 11) 4 bi, ia cy (mm 12) 4 si, la cy (mm 13) 160 (vp_updL (numF (va_up f i0 (stkF S (f i0) i))) (40 * i0 + i) ((seenK S i).toInt64))]) := congrArg (fun z9 => [mO cy mm ik tl fm tz vl iw (nI (RC S)) (b2i (RC S = 60)) om, ia cy (mm 1) 169 z9, ia cy (mm 4) 7 C, ia cy (mm 6) 6 (PR S), ia cy (mm 7) 6 N1_48, ia cy (mm 11) 4 bi, ia cy (mm 12) 4 si, la cy (mm 13) 160 (vp_updL (numF (va_up f i0 (stkF S (f i0) i))) (40 * i0 + i) ((seenK S i).toInt64))]) (show (drw (drwN S i)) = (drwN S (i + 1)) from rfl)
        replace hP5 := (congrArg (fun z9 => va_P D vwCl z9 _) hq9).mp hP5
        replace hD5 := (congrArg (fun z9 => va_D _ z9) hq9).mp hD5
        clear hq9
        have hq9 : ([mO cy mm ik tl fm tz vl iw (nI (RC S)) (b2i (RC S = 60)) om, ia cy (mm 1) 169 (drwN S (i + 1)), ia cy (mm 4) 7 C, ia cy (mm 6) 6 (PR S), ia cy (mm 7) 6 N1_48, ia cy (mm 11) 4 bi, ia cy (mm 12) 4 si, la cy (mm 13) 160 (vp_updL (numF (va_up f i0 (stkF S (f i0) i))) (40 * i0 + i) ((seenK S i).toInt64))]) = ([mO cy mm ik tl fm tz vl iw (nI (RC S)) (b2i (RC S = 60)) om, ia cy (mm 1) 169 (drwN S (i + 1)), ia cy (mm 4) 7 C, ia cy (mm 6) 6 (PR S), ia cy (mm 7) 6 N1_48, ia cy (mm 11) 4 bi, ia cy (mm 12) 4 si, la cy (mm 13) 160 (numF (va_up f i0 (stkF S (f i0) (i + 1))))]) := congrArg (fun z9 => [mO cy mm ik tl fm tz vl iw (nI (RC S)) (b2i (RC S = 60)) om, ia cy (mm 1) 169 (drwN S (i + 1)), ia cy (mm 4) 7 C, ia cy (mm 6) 6 (PR S), ia cy (mm 7) 6 N1_48, ia cy (mm 11) 4 bi, ia cy (mm 12) 4 si, la cy (mm 13) 160 z9]) (show (vp_updL (numF (va_up f i0 (stkF S (f i0) i))) (40 * i0 + i) ((seenK S i).toInt64)) = (numF (va_up f i0 (stkF S (f i0) (i + 1)))) from by rw [numF_up _ _ (by omega), va_up_i, va_up_up]; rfl)
        replace hP5 := (congrArg (fun z9 => va_P D vwCl z9 _) hq9).mp hP5
        replace hD5 := (congrArg (fun z9 => va_D _ z9) hq9).mp hD5
        clear hq9
        refine lv_iinc (v := nI (i + 1)) (lv' := [(4, .int (nI (i + 1))), (3, .int (nI (minN (bstN (si i0)) (gcN S)))), (2, .int 0), (0, .ref (mm 0)), (1, .int (nI i0))]) hx hb dX7_sticks_79 hl4 (k := 0) rfl (nI_inc _) (by decide) rfl (fun ls5 hl5 => ?_)
        clear hl4 ls4
        refine lv_goto (tgt := 54) hx hb dX7_sticks_82 (by decide) ?_
        exact ih_54 (i + 1) (by first | omega | assumption | rfl | simp_all) (by (try dsimp only); omega) H5 locs5 ls5 hP5 hD5 hS5 (lv_sub hl5 [0, 1, 2, 3, 4] rfl)
    · refine lv_aload_n hx hb dX7_sticks_31 rfl (lv_at hl1 1 rfl) ?_
      refine va_get (D := D) (ci := 7) (v := .ref (mm 12)) (C := RX7) (T := TX7) (N := 23) hx hb hw iX7 hown hK hP1 0 rfl rfl 20 (by decide) (hw _ kw_4_84) (fun _ h9 => h9) rfl dX7_sticks_32 ?_
      refine lv_iload_n hx hb dX7_sticks_35 rfl (lv_at hl1 2 rfl) ?_
      refine ald_i (f := si) hx hb hK hP1 6 0 rfl rfl i0 rfl (by first | omega | assumption) (by decide) dX7_sticks_36 ?_
      refine tp (show (si i0) = nI (bstN (si i0)) from hs0.1) ?_
      refine lv_goto (tgt := 46) hx hb dX7_sticks_37 (by decide) ?_
      refine lv_istore_n (lv' := [(3, .int (nI (bstN (si i0)))), (2, .int 0), (0, .ref (mm 0)), (1, .int (nI i0))]) hx hb dX7_sticks_46 rfl hl1 (by decide) rfl (fun ls2 hl2 => ?_)
      clear hl1 ls1
      have hmn := minN_l (bstN (si i0)) (gcN S)
      have hq9 : nI (minN (bstN (si i0)) (gcN S)) = nI (bstN (si i0)) := congrArg nI (minN_u (by omega) (by omega) (by omega))
      replace hl2 : lv_has ls2 5 [(3, .int (nI (minN (bstN (si i0)) (gcN S)))), (2, .int 0), (0, .ref (mm 0)), (1, .int (nI i0))] := (congrArg (fun z9 => lv_has ls2 5 [(3, .int z9), (2, .int 0), (0, .ref (mm 0)), (1, .int (nI i0))]) hq9).mpr hl2
      clear hq9
      refine lv_aload_n hx hb dX7_sticks_47 rfl (lv_at hl2 2 rfl) ?_
      refine cV_v (wc := [mO cy mm ik tl fm tz vl iw rm rr om, ia cy (mm 1) 169 S, ia cy (mm 6) 6 P, ia cy (mm 7) 6 N]) (wr := [ia cy (mm 4) 7 C, ia cy (mm 11) 4 bi, ia cy (mm 12) 4 si, la cy (mm 13) 160 (numF f)]) (rest := []) hx hb hml hown hw hG hK hP1 hD1 hS1 hA hl2 kc_X7_rests kw_5_57 [] (c_X7_rests l D cy G H1.size mm ik tl fm tz vl iw rm rr om S P N (by first | omega | assumption)) [0, 1, 3, 4] [2, 5, 6, 7] rfl rfl rfl rfl rfl 0 rfl rfl rfl rfl rfl (Nat.le_of_ble_eq_true rfl) ⟨Nat.le_of_ble_eq_true rfl, Nat.le_of_ble_eq_true rfl⟩ dX7_sticks_48 ⟨Nat.le_of_ble_eq_true rfl, Nat.le_of_ble_eq_true rfl⟩ (fun u9 H2 locs2 hu9 hP2 hD2 hS2 => ?_)
      clear hP1 hD1 hS1 locs1 H1
      obtain ⟨N1_48, rfl⟩ : ∃ z9, z9 = u9 := ⟨_, rfl⟩
      replace hP2 : va_P D vwCl ([ia cy (mm 4) 7 C, ia cy (mm 11) 4 bi, ia cy (mm 12) 4 si, la cy (mm 13) 160 (numF f), mO cy mm ik tl fm tz vl iw (nI (RC S)) (b2i (RC S = 60)) om, ia cy (mm 1) 169 S, ia cy (mm 6) 6 (PR S), ia cy (mm 7) 6 N1_48]) H2 := hP2
      replace hD2 : va_D (va_A _ sz) ([ia cy (mm 4) 7 C, ia cy (mm 11) 4 bi, ia cy (mm 12) 4 si, la cy (mm 13) 160 (numF f), mO cy mm ik tl fm tz vl iw (nI (RC S)) (b2i (RC S = 60)) om, ia cy (mm 1) 169 S, ia cy (mm 6) 6 (PR S), ia cy (mm 7) 6 N1_48]) := hD2
      replace hP2 := hP2.sub (ws' := [mO cy mm ik tl fm tz vl iw (nI (RC S)) (b2i (RC S = 60)) om, ia cy (mm 1) 169 S, ia cy (mm 4) 7 C, ia cy (mm 6) 6 (PR S), ia cy (mm 7) 6 N1_48, ia cy (mm 11) 4 bi, ia cy (mm 12) 4 si, la cy (mm 13) 160 (numF f)]) [4, 5, 0, 6, 7, 1, 2, 3] rfl
      replace hD2 := hD2.sub (ws' := [mO cy mm ik tl fm tz vl iw (nI (RC S)) (b2i (RC S = 60)) om, ia cy (mm 1) 169 S, ia cy (mm 4) 7 C, ia cy (mm 6) 6 (PR S), ia cy (mm 7) 6 N1_48, ia cy (mm 11) 4 bi, ia cy (mm 12) 4 si, la cy (mm 13) 160 (numF f)]) [4, 5, 0, 6, 7, 1, 2, 3] (by decide) rfl
      refine lv_iconst (v := 0) hx hb dX7_sticks_51 (by decide) ?_
      refine lv_istore (lv' := [(4, .int 0), (3, .int (nI (minN (bstN (si i0)) (gcN S)))), (2, .int 0), (0, .ref (mm 0)), (1, .int (nI i0))]) hx hb dX7_sticks_52 hl2 (by decide) rfl (fun ls3 hl3 => ?_)
      clear hl2 ls2
      have hq9 : ([mO cy mm ik tl fm tz vl iw (nI (RC S)) (b2i (RC S = 60)) om, ia cy (mm 1) 169 S, ia cy (mm 4) 7 C, ia cy (mm 6) 6 (PR S), ia cy (mm 7) 6 N1_48, ia cy (mm 11) 4 bi, ia cy (mm 12) 4 si, la cy (mm 13) 160 (numF f)]) = ([mO cy mm ik tl fm tz vl iw (nI (RC S)) (b2i (RC S = 60)) om, ia cy (mm 1) 169 (drwN S 0), ia cy (mm 4) 7 C, ia cy (mm 6) 6 (PR S), ia cy (mm 7) 6 N1_48, ia cy (mm 11) 4 bi, ia cy (mm 12) 4 si, la cy (mm 13) 160 (numF f)]) := congrArg (fun z9 => [mO cy mm ik tl fm tz vl iw (nI (RC S)) (b2i (RC S = 60)) om, ia cy (mm 1) 169 z9, ia cy (mm 4) 7 C, ia cy (mm 6) 6 (PR S), ia cy (mm 7) 6 N1_48, ia cy (mm 11) 4 bi, ia cy (mm 12) 4 si, la cy (mm 13) 160 (numF f)]) (show S = (drwN S 0) from rfl)
      replace hP2 := (congrArg (fun z9 => va_P D vwCl z9 _) hq9).mp hP2
      replace hD2 := (congrArg (fun z9 => va_D _ z9) hq9).mp hD2
      clear hq9
      have hq9 : ([mO cy mm ik tl fm tz vl iw (nI (RC S)) (b2i (RC S = 60)) om, ia cy (mm 1) 169 (drwN S 0), ia cy (mm 4) 7 C, ia cy (mm 6) 6 (PR S), ia cy (mm 7) 6 N1_48, ia cy (mm 11) 4 bi, ia cy (mm 12) 4 si, la cy (mm 13) 160 (numF f)]) = ([mO cy mm ik tl fm tz vl iw (nI (RC S)) (b2i (RC S = 60)) om, ia cy (mm 1) 169 (drwN S 0), ia cy (mm 4) 7 C, ia cy (mm 6) 6 (PR S), ia cy (mm 7) 6 N1_48, ia cy (mm 11) 4 bi, ia cy (mm 12) 4 si, la cy (mm 13) 160 (numF (va_up f i0 (stkF S (f i0) 0)))]) := congrArg (fun z9 => [mO cy mm ik tl fm tz vl iw (nI (RC S)) (b2i (RC S = 60)) om, ia cy (mm 1) 169 (drwN S 0), ia cy (mm 4) 7 C, ia cy (mm 6) 6 (PR S), ia cy (mm 7) 6 N1_48, ia cy (mm 11) 4 bi, ia cy (mm 12) 4 si, la cy (mm 13) 160 z9]) (show (numF f) = (numF (va_up f i0 (stkF S (f i0) 0))) from by rw [show stkF S (f i0) 0 = f i0 from rfl, va_up_s])
      replace hP2 := (congrArg (fun z9 => va_P D vwCl z9 _) hq9).mp hP2
      replace hD2 := (congrArg (fun z9 => va_D _ z9) hq9).mp hD2
      clear hq9
      refine wlp (ι := Nat) (nL := 5) (fun x9 => (x9 ≤ (minN (bstN (si i0)) (gcN S)))) (fun x9 => [mO cy mm ik tl fm tz vl iw (nI (RC S)) (b2i (RC S = 60)) om, ia cy (mm 1) 169 (drwN S x9), ia cy (mm 4) 7 C, ia cy (mm 6) 6 (PR S), ia cy (mm 7) 6 N1_48, ia cy (mm 11) 4 bi, ia cy (mm 12) 4 si, la cy (mm 13) 160 (numF (va_up f i0 (stkF S (f i0) x9)))]) (fun x9 => [(4, .int (nI x9)), (3, .int (nI (minN (bstN (si i0)) (gcN S)))), (2, .int 0), (0, .ref (mm 0)), (1, .int (nI i0))]) (fun x9 => []) (fun x9 => (minN (bstN (si i0)) (gcN S)) - x9) 54 ?_ 0 (by first | omega | assumption | rfl | simp_all) rfl hP2 hD2 hS2 (lv_sub hl3 [0, 1, 2, 3, 4] rfl)
      clear hP2 hD2 hS2 locs2 H2 hl3 ls3
      intro x9 hI ih_54 H3 locs3 ls4 hP3 hD3 hS3 hl4
      obtain ⟨i, rfl⟩ : ∃ z9, z9 = x9 := ⟨_, rfl⟩
      have hi := hI
      replace hi : i ≤ (minN (bstN (si i0)) (gcN S)) := hi
      replace hP3 : va_P D vwCl ([mO cy mm ik tl fm tz vl iw (nI (RC S)) (b2i (RC S = 60)) om, ia cy (mm 1) 169 (drwN S i), ia cy (mm 4) 7 C, ia cy (mm 6) 6 (PR S), ia cy (mm 7) 6 N1_48, ia cy (mm 11) 4 bi, ia cy (mm 12) 4 si, la cy (mm 13) 160 (numF (va_up f i0 (stkF S (f i0) i)))]) H3 := hP3
      replace hD3 : va_D (va_A _ sz) ([mO cy mm ik tl fm tz vl iw (nI (RC S)) (b2i (RC S = 60)) om, ia cy (mm 1) 169 (drwN S i), ia cy (mm 4) 7 C, ia cy (mm 6) 6 (PR S), ia cy (mm 7) 6 N1_48, ia cy (mm 11) 4 bi, ia cy (mm 12) 4 si, la cy (mm 13) 160 (numF (va_up f i0 (stkF S (f i0) i)))]) := hD3
      replace hl4 : lv_has ls4 5 [(4, .int (nI i)), (3, .int (nI (minN (bstN (si i0)) (gcN S)))), (2, .int 0), (0, .ref (mm 0)), (1, .int (nI i0))] := hl4
      show W p l e _ s m _ below meth c _ _ _ _ _ (F0 m 54 ls4 [])
      refine lv_iload hx hb dX7_sticks_54 (lv_at hl4 0 rfl) ?_
      refine lv_iload_n hx hb dX7_sticks_56 rfl (lv_at hl4 1 rfl) ?_
      refine ln_ge (tgt := 85) i (minN (bstN (si i0)) (gcN S)) rfl rfl (by omega) (by omega) hx hb dX7_sticks_57 (by decide) (fun c_57 => ?_) (fun c_57 => ?_)
      · have hie : i = (minN (bstN (si i0)) (gcN S)) := (by omega)
        have hq9 : ([mO cy mm ik tl fm tz vl iw (nI (RC S)) (b2i (RC S = 60)) om, ia cy (mm 1) 169 (drwN S i), ia cy (mm 4) 7 C, ia cy (mm 6) 6 (PR S), ia cy (mm 7) 6 N1_48, ia cy (mm 11) 4 bi, ia cy (mm 12) 4 si, la cy (mm 13) 160 (numF (va_up f i0 (stkF S (f i0) i)))]) = ([mO cy mm ik tl fm tz vl iw (nI (RC S)) (b2i (RC S = 60)) om, ia cy (mm 1) 169 (drwN S (minN (bstN (si i0)) (gcN S))), ia cy (mm 4) 7 C, ia cy (mm 6) 6 (PR S), ia cy (mm 7) 6 N1_48, ia cy (mm 11) 4 bi, ia cy (mm 12) 4 si, la cy (mm 13) 160 (numF (va_up f i0 (stkF S (f i0) i)))]) := congrArg (fun z9 => [mO cy mm ik tl fm tz vl iw (nI (RC S)) (b2i (RC S = 60)) om, ia cy (mm 1) 169 z9, ia cy (mm 4) 7 C, ia cy (mm 6) 6 (PR S), ia cy (mm 7) 6 N1_48, ia cy (mm 11) 4 bi, ia cy (mm 12) 4 si, la cy (mm 13) 160 (numF (va_up f i0 (stkF S (f i0) i)))]) (show (drwN S i) = (drwN S (minN (bstN (si i0)) (gcN S))) from by rw [hie])
        replace hP3 := (congrArg (fun z9 => va_P D vwCl z9 _) hq9).mp hP3
        replace hD3 := (congrArg (fun z9 => va_D _ z9) hq9).mp hD3
        clear hq9
        have hq9 : ([mO cy mm ik tl fm tz vl iw (nI (RC S)) (b2i (RC S = 60)) om, ia cy (mm 1) 169 (drwN S (minN (bstN (si i0)) (gcN S))), ia cy (mm 4) 7 C, ia cy (mm 6) 6 (PR S), ia cy (mm 7) 6 N1_48, ia cy (mm 11) 4 bi, ia cy (mm 12) 4 si, la cy (mm 13) 160 (numF (va_up f i0 (stkF S (f i0) i)))]) = ([mO cy mm ik tl fm tz vl iw (nI (RC S)) (b2i (RC S = 60)) om, ia cy (mm 1) 169 (drwN S (minN (bstN (si i0)) (gcN S))), ia cy (mm 4) 7 C, ia cy (mm 6) 6 (PR S), ia cy (mm 7) 6 N1_48, ia cy (mm 11) 4 bi, ia cy (mm 12) 4 si, la cy (mm 13) 160 (numF (va_up f i0 (stkF S (f i0) (minN (bstN (si i0)) (gcN S)))))]) := congrArg (fun z9 => [mO cy mm ik tl fm tz vl iw (nI (RC S)) (b2i (RC S = 60)) om, ia cy (mm 1) 169 (drwN S (minN (bstN (si i0)) (gcN S))), ia cy (mm 4) 7 C, ia cy (mm 6) 6 (PR S), ia cy (mm 7) 6 N1_48, ia cy (mm 11) 4 bi, ia cy (mm 12) 4 si, la cy (mm 13) 160 z9]) (show (numF (va_up f i0 (stkF S (f i0) i))) = (numF (va_up f i0 (stkF S (f i0) (minN (bstN (si i0)) (gcN S))))) from by rw [hie])
        replace hP3 := (congrArg (fun z9 => va_P D vwCl z9 _) hq9).mp hP3
        replace hD3 := (congrArg (fun z9 => va_D _ z9) hq9).mp hD3
        clear hq9
        refine lv_iload_n hx hb dX7_sticks_85 rfl (lv_at hl4 1 rfl) ?_
        have hcd : cSh bi (nI i0) = 7 := by unfold cSh; rw [hbi]; clear hx hb hml hown hr hlocks hw hsz hA hG hK hP3 hD3 hS3 hl4 ih_54; grind
        have hq9 : ([mO cy mm ik tl fm tz vl iw (nI (RC S)) (b2i (RC S = 60)) om, ia cy (mm 1) 169 (drwN S (minN (bstN (si i0)) (gcN S))), ia cy (mm 4) 7 C, ia cy (mm 6) 6 (PR S), ia cy (mm 7) 6 N1_48, ia cy (mm 11) 4 bi, ia cy (mm 12) 4 si, la cy (mm 13) 160 (numF (va_up f i0 (stkF S (f i0) (minN (bstN (si i0)) (gcN S)))))]) = ([mO cy mm ik tl fm tz vl iw (nI (RC S)) (b2i (RC S = 60)) om, ia cy (mm 1) 169 (drwN S (minN (bstN (si i0)) (gcN S))), ia cy (mm 4) 7 (fnd C (cSh bi (nI i0))), ia cy (mm 6) 6 (PR S), ia cy (mm 7) 6 N1_48, ia cy (mm 11) 4 bi, ia cy (mm 12) 4 si, la cy (mm 13) 160 (numF (va_up f i0 (stkF S (f i0) (minN (bstN (si i0)) (gcN S)))))]) := congrArg (fun z9 => [mO cy mm ik tl fm tz vl iw (nI (RC S)) (b2i (RC S = 60)) om, ia cy (mm 1) 169 (drwN S (minN (bstN (si i0)) (gcN S))), ia cy (mm 4) 7 z9, ia cy (mm 6) 6 (PR S), ia cy (mm 7) 6 N1_48, ia cy (mm 11) 4 bi, ia cy (mm 12) 4 si, la cy (mm 13) 160 (numF (va_up f i0 (stkF S (f i0) (minN (bstN (si i0)) (gcN S)))))]) (show C = (fnd C (cSh bi (nI i0))) from fnd_o hcd)
        replace hP3 := (congrArg (fun z9 => va_P D vwCl z9 _) hq9).mp hP3
        replace hD3 := (congrArg (fun z9 => va_D _ z9) hq9).mp hD3
        clear hq9
        have hq9 : ([mO cy mm ik tl fm tz vl iw (nI (RC S)) (b2i (RC S = 60)) om, ia cy (mm 1) 169 (drwN S (minN (bstN (si i0)) (gcN S))), ia cy (mm 4) 7 (fnd C (cSh bi (nI i0))), ia cy (mm 6) 6 (PR S), ia cy (mm 7) 6 N1_48, ia cy (mm 11) 4 bi, ia cy (mm 12) 4 si, la cy (mm 13) 160 (numF (va_up f i0 (stkF S (f i0) (minN (bstN (si i0)) (gcN S)))))]) = ([mO cy mm ik tl fm tz vl iw (nI (RC S)) (b2i (RC S = 60)) om, ia cy (mm 1) 169 (if cSh bi (nI i0) = 7 then drwN S (minN (bstN (si (bstN (nI i0)))) (gcN S)) else S), ia cy (mm 4) 7 (fnd C (cSh bi (nI i0))), ia cy (mm 6) 6 (PR S), ia cy (mm 7) 6 N1_48, ia cy (mm 11) 4 bi, ia cy (mm 12) 4 si, la cy (mm 13) 160 (numF (va_up f i0 (stkF S (f i0) (minN (bstN (si i0)) (gcN S)))))]) := congrArg (fun z9 => [mO cy mm ik tl fm tz vl iw (nI (RC S)) (b2i (RC S = 60)) om, ia cy (mm 1) 169 z9, ia cy (mm 4) 7 (fnd C (cSh bi (nI i0))), ia cy (mm 6) 6 (PR S), ia cy (mm 7) 6 N1_48, ia cy (mm 11) 4 bi, ia cy (mm 12) 4 si, la cy (mm 13) 160 (numF (va_up f i0 (stkF S (f i0) (minN (bstN (si i0)) (gcN S)))))]) (show (drwN S (minN (bstN (si i0)) (gcN S))) = (if cSh bi (nI i0) = 7 then drwN S (minN (bstN (si (bstN (nI i0)))) (gcN S)) else S) from by rw [if_pos hcd]; simp only [hbi])
        replace hP3 := (congrArg (fun z9 => va_P D vwCl z9 _) hq9).mp hP3
        replace hD3 := (congrArg (fun z9 => va_D _ z9) hq9).mp hD3
        clear hq9
        have hq9 : ([mO cy mm ik tl fm tz vl iw (nI (RC S)) (b2i (RC S = 60)) om, ia cy (mm 1) 169 (if cSh bi (nI i0) = 7 then drwN S (minN (bstN (si (bstN (nI i0)))) (gcN S)) else S), ia cy (mm 4) 7 (fnd C (cSh bi (nI i0))), ia cy (mm 6) 6 (PR S), ia cy (mm 7) 6 N1_48, ia cy (mm 11) 4 bi, ia cy (mm 12) 4 si, la cy (mm 13) 160 (numF (va_up f i0 (stkF S (f i0) (minN (bstN (si i0)) (gcN S)))))]) = ([mO cy mm ik tl fm tz vl iw (nI (RC S)) (b2i (RC S = 60)) om, ia cy (mm 1) 169 (if cSh bi (nI i0) = 7 then drwN S (minN (bstN (si (bstN (nI i0)))) (gcN S)) else S), ia cy (mm 4) 7 (fnd C (cSh bi (nI i0))), ia cy (mm 6) 6 (PR S), ia cy (mm 7) 6 N1_48, ia cy (mm 11) 4 bi, ia cy (mm 12) 4 si, la cy (mm 13) 160 (if cSh bi (nI i0) = 7 then numF (va_up f (bstN (nI i0)) (stkF S (f (bstN (nI i0))) (minN (bstN (si (bstN (nI i0)))) (gcN S)))) else numF f)]) := congrArg (fun z9 => [mO cy mm ik tl fm tz vl iw (nI (RC S)) (b2i (RC S = 60)) om, ia cy (mm 1) 169 (if cSh bi (nI i0) = 7 then drwN S (minN (bstN (si (bstN (nI i0)))) (gcN S)) else S), ia cy (mm 4) 7 (fnd C (cSh bi (nI i0))), ia cy (mm 6) 6 (PR S), ia cy (mm 7) 6 N1_48, ia cy (mm 11) 4 bi, ia cy (mm 12) 4 si, la cy (mm 13) 160 z9]) (show (numF (va_up f i0 (stkF S (f i0) (minN (bstN (si i0)) (gcN S))))) = (if cSh bi (nI i0) = 7 then numF (va_up f (bstN (nI i0)) (stkF S (f (bstN (nI i0))) (minN (bstN (si (bstN (nI i0)))) (gcN S)))) else numF f) from by rw [if_pos hcd]; simp only [hbi])
        replace hP3 := (congrArg (fun z9 => va_P D vwCl z9 _) hq9).mp hP3
        replace hD3 := (congrArg (fun z9 => va_D _ z9) hq9).mp hD3
        clear hq9
        refine re_i (PR S, N1_48, nI (RC S), b2i (RC S = 60)) hx hb hr hlocks hP3 hD3 hS3 dX7_sticks_86 ?_
        exact (ans_o hcd (by rw [hbi]))
      · refine lv_aload_n hx hb dX7_sticks_60 rfl (lv_at hl4 3 rfl) ?_
        refine va_get (D := D) (ci := 7) (v := .ref (mm 13)) (C := RX7) (T := TX7) (N := 23) hx hb hw iX7 hown hK hP3 0 rfl rfl 21 (by decide) (hw _ kw_4_85) (fun _ h9 => h9) rfl dX7_sticks_61 ?_
        refine lv_bipush (v := 40) hx hb dX7_sticks_64 (by decide) ?_
        refine lv_iload_n hx hb dX7_sticks_66 rfl (lv_at hl4 4 rfl) ?_
        refine lv_imul hx hb dX7_sticks_67 ?_
        refine tp (show (40 * (nI i0)) = nI (40 * i0) from pk_mul _ _) ?_
        refine lv_iload hx hb dX7_sticks_68 (lv_at hl4 0 rfl) ?_
        refine lv_iadd hx hb dX7_sticks_70 ?_
        refine tp (show ((nI (40 * i0)) + (nI i)) = nI (40 * i0 + i) from nI_add _ _) ?_
        refine lv_aload_n hx hb dX7_sticks_71 rfl (lv_at hl4 3 rfl) ?_
        refine lv_iload hx hb dX7_sticks_72 (lv_at hl4 0 rfl) ?_
        refine cV_i (wc := [mO cy mm ik tl fm tz vl iw (nI (RC S)) (b2i (RC S = 60)) om, ia cy (mm 1) 169 (drwN S i), ia cy (mm 6) 6 (PR S)]) (wr := [ia cy (mm 4) 7 C, ia cy (mm 7) 6 N1_48, ia cy (mm 11) 4 bi, ia cy (mm 12) 4 si, la cy (mm 13) 160 (numF (va_up f i0 (stkF S (f i0) i)))]) (rest := [.int (nI (40 * i0 + i)), .ref (mm 13)]) hx hb hml hown hw hG hK hP3 hD3 hS3 hA hl4 kc_X7_seen kw_5_121 [.int (nI i)] (c_X7_seen l D cy G H3.size mm ik tl fm tz vl iw (nI (RC S)) (b2i (RC S = 60)) om (drwN S i) (PR S) i ((drwN_wf wf i).1) (by rw [(drwN_wf wf i).2.2]; omega)) [0, 1, 3] [2, 4, 5, 6, 7] rfl rfl rfl rfl rfl 0 rfl rfl rfl rfl rfl (Nat.le_of_ble_eq_true rfl) ⟨Nat.le_of_ble_eq_true rfl, Nat.le_of_ble_eq_true rfl⟩ dX7_sticks_74 ⟨Nat.le_of_ble_eq_true rfl, Nat.le_of_ble_eq_true rfl⟩ (fun r_74 u9 H4 locs4 hu9 hP4 hD4 hS4 => ?_)
        clear hP3 hD3 hS3 locs3 H3
        have hr_74 := hu9
        replace hP4 : va_P D vwCl ([ia cy (mm 4) 7 C, ia cy (mm 7) 6 N1_48, ia cy (mm 11) 4 bi, ia cy (mm 12) 4 si, la cy (mm 13) 160 (numF (va_up f i0 (stkF S (f i0) i))), mO cy mm ik tl fm tz vl iw (nI (RC S)) (b2i (RC S = 60)) om, ia cy (mm 1) 169 (drw (drwN S i)), ia cy (mm 6) 6 (PR S)]) H4 := hP4
        replace hD4 : va_D (va_A _ sz) ([ia cy (mm 4) 7 C, ia cy (mm 7) 6 N1_48, ia cy (mm 11) 4 bi, ia cy (mm 12) 4 si, la cy (mm 13) 160 (numF (va_up f i0 (stkF S (f i0) i))), mO cy mm ik tl fm tz vl iw (nI (RC S)) (b2i (RC S = 60)) om, ia cy (mm 1) 169 (drw (drwN S i)), ia cy (mm 6) 6 (PR S)]) := hD4
        replace hP4 := hP4.sub (ws' := [mO cy mm ik tl fm tz vl iw (nI (RC S)) (b2i (RC S = 60)) om, ia cy (mm 1) 169 (drw (drwN S i)), ia cy (mm 4) 7 C, ia cy (mm 6) 6 (PR S), ia cy (mm 7) 6 N1_48, ia cy (mm 11) 4 bi, ia cy (mm 12) 4 si, la cy (mm 13) 160 (numF (va_up f i0 (stkF S (f i0) i)))]) [5, 6, 0, 7, 1, 2, 3, 4] rfl
        replace hD4 := hD4.sub (ws' := [mO cy mm ik tl fm tz vl iw (nI (RC S)) (b2i (RC S = 60)) om, ia cy (mm 1) 169 (drw (drwN S i)), ia cy (mm 4) 7 C, ia cy (mm 6) 6 (PR S), ia cy (mm 7) 6 N1_48, ia cy (mm 11) 4 bi, ia cy (mm 12) 4 si, la cy (mm 13) 160 (numF (va_up f i0 (stkF S (f i0) i)))]) [5, 6, 0, 7, 1, 2, 3, 4] (by decide) rfl
        subst hr_74
        refine tp (show (seenV (drwN S i) (flow (drwN S i) (PR S) i) i) = seenK S i from congrArg (fun z9 => seenV (drwN S i) z9 i) (drwN_flow S (PR S) i i)) ?_
        refine lv_i2l hx hb dX7_sticks_77 rfl ?_
        refine ast_l (f := numF (va_up f i0 (stkF S (f i0) i))) (ws' := [mO cy mm ik tl fm tz vl iw (nI (RC S)) (b2i (RC S = 60)) om, ia cy (mm 1) 169 (drw (drwN S i)), ia cy (mm 4) 7 C, ia cy (mm 6) 6 (PR S), ia cy (mm 7) 6 N1_48, ia cy (mm 11) 4 bi, ia cy (mm 12) 4 si, la cy (mm 13) 160 (vp_updL (numF (va_up f i0 (stkF S (f i0) i))) (40 * i0 + i) ((seenK S i).toInt64))]) hx hb hK hP4 hD4 hS4 7 1 rfl rfl (40 * i0 + i) rfl (by first | omega | assumption) (by decide) rfl dX7_sticks_78 (fun H5 locs5 hP5 hD5 hS5 => ?_)
        clear hP4 hD4 hS4 locs4 H4
        have hq9 : ([mO cy mm ik tl fm tz vl iw (nI (RC S)) (b2i (RC S = 60)) om, ia cy (mm 1) 169 (drw (drwN S i)), ia cy (mm 4) 7 C, ia cy (mm 6) 6 (PR S), ia cy (mm 7) 6 N1_48, ia cy (mm 11) 4 bi, ia cy (mm 12) 4 si, la cy (mm 13) 160 (vp_updL (numF (va_up f i0 (stkF S (f i0) i))) (40 * i0 + i) ((seenK S i).toInt64))]) = ([mO cy mm ik tl fm tz vl iw (nI (RC S)) (b2i (RC S = 60)) om, ia cy (mm 1) 169 (drwN S (i + 1)), ia cy (mm 4) 7 C, ia cy (mm 6) 6 (PR S), ia cy (mm 7) 6 N1_48, ia cy (mm 11) 4 bi, ia cy (mm 12) 4 si, la cy (mm 13) 160 (vp_updL (numF (va_up f i0 (stkF S (f i0) i))) (40 * i0 + i) ((seenK S i).toInt64))]) := congrArg (fun z9 => [mO cy mm ik tl fm tz vl iw (nI (RC S)) (b2i (RC S = 60)) om, ia cy (mm 1) 169 z9, ia cy (mm 4) 7 C, ia cy (mm 6) 6 (PR S), ia cy (mm 7) 6 N1_48, ia cy (mm 11) 4 bi, ia cy (mm 12) 4 si, la cy (mm 13) 160 (vp_updL (numF (va_up f i0 (stkF S (f i0) i))) (40 * i0 + i) ((seenK S i).toInt64))]) (show (drw (drwN S i)) = (drwN S (i + 1)) from rfl)
        replace hP5 := (congrArg (fun z9 => va_P D vwCl z9 _) hq9).mp hP5
        replace hD5 := (congrArg (fun z9 => va_D _ z9) hq9).mp hD5
        clear hq9
        have hq9 : ([mO cy mm ik tl fm tz vl iw (nI (RC S)) (b2i (RC S = 60)) om, ia cy (mm 1) 169 (drwN S (i + 1)), ia cy (mm 4) 7 C, ia cy (mm 6) 6 (PR S), ia cy (mm 7) 6 N1_48, ia cy (mm 11) 4 bi, ia cy (mm 12) 4 si, la cy (mm 13) 160 (vp_updL (numF (va_up f i0 (stkF S (f i0) i))) (40 * i0 + i) ((seenK S i).toInt64))]) = ([mO cy mm ik tl fm tz vl iw (nI (RC S)) (b2i (RC S = 60)) om, ia cy (mm 1) 169 (drwN S (i + 1)), ia cy (mm 4) 7 C, ia cy (mm 6) 6 (PR S), ia cy (mm 7) 6 N1_48, ia cy (mm 11) 4 bi, ia cy (mm 12) 4 si, la cy (mm 13) 160 (numF (va_up f i0 (stkF S (f i0) (i + 1))))]) := congrArg (fun z9 => [mO cy mm ik tl fm tz vl iw (nI (RC S)) (b2i (RC S = 60)) om, ia cy (mm 1) 169 (drwN S (i + 1)), ia cy (mm 4) 7 C, ia cy (mm 6) 6 (PR S), ia cy (mm 7) 6 N1_48, ia cy (mm 11) 4 bi, ia cy (mm 12) 4 si, la cy (mm 13) 160 z9]) (show (vp_updL (numF (va_up f i0 (stkF S (f i0) i))) (40 * i0 + i) ((seenK S i).toInt64)) = (numF (va_up f i0 (stkF S (f i0) (i + 1)))) from by rw [numF_up _ _ (by omega), va_up_i, va_up_up]; rfl)
        replace hP5 := (congrArg (fun z9 => va_P D vwCl z9 _) hq9).mp hP5
        replace hD5 := (congrArg (fun z9 => va_D _ z9) hq9).mp hD5
        clear hq9
        refine lv_iinc (v := nI (i + 1)) (lv' := [(4, .int (nI (i + 1))), (3, .int (nI (minN (bstN (si i0)) (gcN S)))), (2, .int 0), (0, .ref (mm 0)), (1, .int (nI i0))]) hx hb dX7_sticks_79 hl4 (k := 0) rfl (nI_inc _) (by decide) rfl (fun ls5 hl5 => ?_)
        clear hl4 ls4
        refine lv_goto (tgt := 54) hx hb dX7_sticks_82 (by decide) ?_
        exact ih_54 (i + 1) (by first | omega | assumption | rfl | simp_all) (by (try dsimp only); omega) H5 locs5 ls5 hP5 hD5 hS5 (lv_sub hl5 [0, 1, 2, 3, 4] rfl)

theorem kc_X7_lays : kV yX7_lays cX7_lays 7 (some .int) 1 := ⟨kw_5_221, kw_5_222, kw_1_8, kw_5_223, by decide, by decide, by decide +kernel⟩
set_option maxHeartbeats 4000000 in
set_option maxRecDepth 100000 in
theorem c_X7_lays (l : Launch) (D : va_G) (cy : Nat → ClassId) (G : Nat → Nat) (sz : Nat) (mm : Nat → Nat) (ik : Int32) (tl : Int32) (fm : Int32) (tz : Int32) (vl : Int32) (iw : Int32) (rm : Int32) (rr : Int32) (om : Int32) (S : Nat → Int32) (C : Nat → Int32) (bi : Nat → Int32) (si : Nat → Int32) (f : Nat → Nat → Int64) (x1 : Int32) (hso : shOk si f) (wf : wf S) : Met l yX7_lays (wm yX7_lays cX7_lays 7 (some .int)) { frames := 3, cells := 0, slots := 0, locals := 66 } (va_Pc [.ref (mm 0), .int x1] (pr D (TY cy) G ([mO cy mm ik tl fm tz vl iw rm rr om, ia cy (mm 1) 169 S, ia cy (mm 4) 7 C, ia cy (mm 11) 4 bi, ia cy (mm 12) 4 si, la cy (mm 13) 160 (numF f)]) sz)) (va_Qi (fun (r : Int32) (u : Unit) => r = ans (cSh bi x1) (nI (lysC (f (bstN x1)) (minN (bstN (si (bstN x1))) (gcN S))))) (fun (u : Unit) t => po D (va_A ([mO cy mm ik tl fm tz vl iw rm rr om, ia cy (mm 1) 169 S, ia cy (mm 4) 7 C, ia cy (mm 11) 4 bi, ia cy (mm 12) 4 si, la cy (mm 13) 160 (numF f)]) sz) ([mO cy mm ik tl fm tz vl iw rm rr om, ia cy (mm 1) 169 (if cSh bi x1 = 7 then lysS (f (bstN x1)) S (minN (bstN (si (bstN x1))) (gcN S)) else S), ia cy (mm 4) 7 (fnd C (cSh bi x1)), ia cy (mm 11) 4 bi, ia cy (mm 12) 4 si, la cy (mm 13) 160 (numF f)]) t) (va_A ([mO cy mm ik tl fm tz vl iw rm rr om, ia cy (mm 1) 169 S, ia cy (mm 4) 7 C, ia cy (mm 11) 4 bi, ia cy (mm 12) 4 si, la cy (mm 13) 160 (numF f)]) sz)) 0 0 (va_A ([mO cy mm ik tl fm tz vl iw rm rr om, ia cy (mm 1) 169 S, ia cy (mm 4) 7 C, ia cy (mm 11) 4 bi, ia cy (mm 12) 4 si, la cy (mm 13) 160 (numF f)]) sz) := by
  refine mk_rw (by decide) RX7 rfl (Nat.le_of_ble_eq_true rfl) [(0, .ref (mm 0)), (1, .int x1)] rfl ?_
  intro p e s m below meth c hx hb hml hown hr hlocks hin hw hsz hA hG hK H0 locs0 hP0 hD0 hS0 ls0 hl0
  clear hin
  have hg20 := wf_g20 wf
  have hr6 := wf_r6 wf
  refine lv_aload_n hx hb dX7_lays_0 rfl (lv_at hl0 0 rfl) ?_
  refine lv_iload_n hx hb dX7_lays_1 rfl (lv_at hl0 1 rfl) ?_
  refine rV_i (wc := [mO cy mm ik tl fm tz vl iw rm rr om, ia cy (mm 11) 4 bi]) (rest := []) hx hb hml hown hw hG hK hP0 hS0 hA hl0 kc_X7_wrong kw_5_204 [.int x1] (c_X7_wrong l D cy G H0.size mm ik tl fm tz vl iw rm rr om bi x1) [0, 3] rfl 0 rfl rfl rfl rfl rfl (Nat.le_of_ble_eq_true rfl) ⟨Nat.le_of_ble_eq_true rfl, Nat.le_of_ble_eq_true rfl⟩ dX7_lays_2 ⟨Nat.le_of_ble_eq_true rfl, Nat.le_of_ble_eq_true rfl⟩ (fun r_2 H1 locs1 hr_2 hP1 hS1 => ?_)
  have hD1 := hD0
  clear hP0 hD0 hS0 locs0 H0
  subst hr_2
  rcases wr_c bi x1 with ⟨hwr, ew9⟩ | ⟨hwr, hw0, ew9⟩ | ⟨hwr, hw0, ew9⟩
  · refine tp (show wrR bi x1 = -1000000001 from ew9) ?_
    refine lv_istore_n (lv' := [(2, .int (-1000000001)), (0, .ref (mm 0)), (1, .int x1)]) hx hb dX7_lays_5 rfl hl0 (by decide) rfl (fun ls1 hl1 => ?_)
    clear hl0 ls0
    refine lv_iload_n hx hb dX7_lays_6 rfl (lv_at hl1 0 rfl) ?_
    refine lv_if_eq (tgt := 16) hx hb dX7_lays_7 (by decide) (fun c => absurd c (by decide)) (fun _ => ?_)
    refine lv_aload_n hx hb dX7_lays_10 rfl (lv_at hl1 1 rfl) ?_
    refine lv_iload_n hx hb dX7_lays_11 rfl (lv_at hl1 0 rfl) ?_
    refine cV_i (wc := [mO cy mm ik tl fm tz vl iw rm rr om, ia cy (mm 4) 7 C]) (wr := [ia cy (mm 1) 169 S, ia cy (mm 11) 4 bi, ia cy (mm 12) 4 si, la cy (mm 13) 160 (numF f)]) (rest := []) hx hb hml hown hw hG hK hP1 hD1 hS1 hA hl1 kc_X7_finds kw_4_139 [.int (-1000000001)] (c_X7_finds l D cy G H1.size mm ik tl fm tz vl iw rm rr om C 0 (-1000000001) (by decide) (by decide)) [0, 2] [1, 3, 4, 5] rfl rfl rfl rfl rfl 0 rfl rfl rfl rfl rfl (Nat.le_of_ble_eq_true rfl) ⟨Nat.le_of_ble_eq_true rfl, Nat.le_of_ble_eq_true rfl⟩ dX7_lays_12 ⟨Nat.le_of_ble_eq_true rfl, Nat.le_of_ble_eq_true rfl⟩ (fun r_12 u9 H2 locs2 hu9 hP2 hD2 hS2 => ?_)
    clear hP1 hD1 hS1 locs1 H1
    have hr_12 := hu9
    replace hP2 : va_P D vwCl ([ia cy (mm 1) 169 S, ia cy (mm 11) 4 bi, ia cy (mm 12) 4 si, la cy (mm 13) 160 (numF f), mO cy mm ik tl fm tz vl iw rm rr om, ia cy (mm 4) 7 (upd C 0 (C 0 + 1))]) H2 := hP2
    replace hD2 : va_D (va_A _ sz) ([ia cy (mm 1) 169 S, ia cy (mm 11) 4 bi, ia cy (mm 12) 4 si, la cy (mm 13) 160 (numF f), mO cy mm ik tl fm tz vl iw rm rr om, ia cy (mm 4) 7 (upd C 0 (C 0 + 1))]) := hD2
    replace hP2 := hP2.sub (ws' := [mO cy mm ik tl fm tz vl iw rm rr om, ia cy (mm 1) 169 S, ia cy (mm 4) 7 (upd C 0 (C 0 + 1)), ia cy (mm 11) 4 bi, ia cy (mm 12) 4 si, la cy (mm 13) 160 (numF f)]) [4, 0, 5, 1, 2, 3] rfl
    replace hD2 := hD2.sub (ws' := [mO cy mm ik tl fm tz vl iw rm rr om, ia cy (mm 1) 169 S, ia cy (mm 4) 7 (upd C 0 (C 0 + 1)), ia cy (mm 11) 4 bi, ia cy (mm 12) 4 si, la cy (mm 13) 160 (numF f)]) [4, 0, 5, 1, 2, 3] (by decide) rfl
    subst hr_12
    have hcd : cSh bi x1 = 0 := by unfold cSh; clear hx hb hml hown hr hlocks hw hsz hA hG hK hP2 hD2 hS2 hl1; grind
    have hq9 : ([mO cy mm ik tl fm tz vl iw rm rr om, ia cy (mm 1) 169 S, ia cy (mm 4) 7 (upd C 0 (C 0 + 1)), ia cy (mm 11) 4 bi, ia cy (mm 12) 4 si, la cy (mm 13) 160 (numF f)]) = ([mO cy mm ik tl fm tz vl iw rm rr om, ia cy (mm 1) 169 S, ia cy (mm 4) 7 (fnd C (cSh bi x1)), ia cy (mm 11) 4 bi, ia cy (mm 12) 4 si, la cy (mm 13) 160 (numF f)]) := congrArg (fun z9 => [mO cy mm ik tl fm tz vl iw rm rr om, ia cy (mm 1) 169 S, ia cy (mm 4) 7 z9, ia cy (mm 11) 4 bi, ia cy (mm 12) 4 si, la cy (mm 13) 160 (numF f)]) (show (upd C 0 (C 0 + 1)) = (fnd C (cSh bi x1)) from fnd_f hcd (by decide))
    replace hP2 := (congrArg (fun z9 => va_P D vwCl z9 _) hq9).mp hP2
    replace hD2 := (congrArg (fun z9 => va_D _ z9) hq9).mp hD2
    clear hq9
    have hq9 : ([mO cy mm ik tl fm tz vl iw rm rr om, ia cy (mm 1) 169 S, ia cy (mm 4) 7 (fnd C (cSh bi x1)), ia cy (mm 11) 4 bi, ia cy (mm 12) 4 si, la cy (mm 13) 160 (numF f)]) = ([mO cy mm ik tl fm tz vl iw rm rr om, ia cy (mm 1) 169 (if cSh bi x1 = 7 then lysS (f (bstN x1)) S (minN (bstN (si (bstN x1))) (gcN S)) else S), ia cy (mm 4) 7 (fnd C (cSh bi x1)), ia cy (mm 11) 4 bi, ia cy (mm 12) 4 si, la cy (mm 13) 160 (numF f)]) := congrArg (fun z9 => [mO cy mm ik tl fm tz vl iw rm rr om, ia cy (mm 1) 169 z9, ia cy (mm 4) 7 (fnd C (cSh bi x1)), ia cy (mm 11) 4 bi, ia cy (mm 12) 4 si, la cy (mm 13) 160 (numF f)]) (show S = (if cSh bi x1 = 7 then lysS (f (bstN x1)) S (minN (bstN (si (bstN x1))) (gcN S)) else S) from (if_neg (fun z9 => absurd (hcd.symm.trans z9) (by decide))).symm)
    replace hP2 := (congrArg (fun z9 => va_P D vwCl z9 _) hq9).mp hP2
    replace hD2 := (congrArg (fun z9 => va_D _ z9) hq9).mp hD2
    clear hq9
    refine re_i () hx hb hr hlocks hP2 hD2 hS2 dX7_lays_15 ?_
    exact (ans_f hcd (by decide) rfl)
  · refine tp (show wrR bi x1 = -1000000006 from ew9) ?_
    refine lv_istore_n (lv' := [(2, .int (-1000000006)), (0, .ref (mm 0)), (1, .int x1)]) hx hb dX7_lays_5 rfl hl0 (by decide) rfl (fun ls1 hl1 => ?_)
    clear hl0 ls0
    refine lv_iload_n hx hb dX7_lays_6 rfl (lv_at hl1 0 rfl) ?_
    refine lv_if_eq (tgt := 16) hx hb dX7_lays_7 (by decide) (fun c => absurd c (by decide)) (fun _ => ?_)
    refine lv_aload_n hx hb dX7_lays_10 rfl (lv_at hl1 1 rfl) ?_
    refine lv_iload_n hx hb dX7_lays_11 rfl (lv_at hl1 0 rfl) ?_
    refine cV_i (wc := [mO cy mm ik tl fm tz vl iw rm rr om, ia cy (mm 4) 7 C]) (wr := [ia cy (mm 1) 169 S, ia cy (mm 11) 4 bi, ia cy (mm 12) 4 si, la cy (mm 13) 160 (numF f)]) (rest := []) hx hb hml hown hw hG hK hP1 hD1 hS1 hA hl1 kc_X7_finds kw_4_139 [.int (-1000000006)] (c_X7_finds l D cy G H1.size mm ik tl fm tz vl iw rm rr om C 5 (-1000000006) (by decide) (by decide)) [0, 2] [1, 3, 4, 5] rfl rfl rfl rfl rfl 0 rfl rfl rfl rfl rfl (Nat.le_of_ble_eq_true rfl) ⟨Nat.le_of_ble_eq_true rfl, Nat.le_of_ble_eq_true rfl⟩ dX7_lays_12 ⟨Nat.le_of_ble_eq_true rfl, Nat.le_of_ble_eq_true rfl⟩ (fun r_12 u9 H2 locs2 hu9 hP2 hD2 hS2 => ?_)
    clear hP1 hD1 hS1 locs1 H1
    have hr_12 := hu9
    replace hP2 : va_P D vwCl ([ia cy (mm 1) 169 S, ia cy (mm 11) 4 bi, ia cy (mm 12) 4 si, la cy (mm 13) 160 (numF f), mO cy mm ik tl fm tz vl iw rm rr om, ia cy (mm 4) 7 (upd C 5 (C 5 + 1))]) H2 := hP2
    replace hD2 : va_D (va_A _ sz) ([ia cy (mm 1) 169 S, ia cy (mm 11) 4 bi, ia cy (mm 12) 4 si, la cy (mm 13) 160 (numF f), mO cy mm ik tl fm tz vl iw rm rr om, ia cy (mm 4) 7 (upd C 5 (C 5 + 1))]) := hD2
    replace hP2 := hP2.sub (ws' := [mO cy mm ik tl fm tz vl iw rm rr om, ia cy (mm 1) 169 S, ia cy (mm 4) 7 (upd C 5 (C 5 + 1)), ia cy (mm 11) 4 bi, ia cy (mm 12) 4 si, la cy (mm 13) 160 (numF f)]) [4, 0, 5, 1, 2, 3] rfl
    replace hD2 := hD2.sub (ws' := [mO cy mm ik tl fm tz vl iw rm rr om, ia cy (mm 1) 169 S, ia cy (mm 4) 7 (upd C 5 (C 5 + 1)), ia cy (mm 11) 4 bi, ia cy (mm 12) 4 si, la cy (mm 13) 160 (numF f)]) [4, 0, 5, 1, 2, 3] (by decide) rfl
    subst hr_12
    have hcd : cSh bi x1 = 5 := by unfold cSh; clear hx hb hml hown hr hlocks hw hsz hA hG hK hP2 hD2 hS2 hl1; grind
    have hq9 : ([mO cy mm ik tl fm tz vl iw rm rr om, ia cy (mm 1) 169 S, ia cy (mm 4) 7 (upd C 5 (C 5 + 1)), ia cy (mm 11) 4 bi, ia cy (mm 12) 4 si, la cy (mm 13) 160 (numF f)]) = ([mO cy mm ik tl fm tz vl iw rm rr om, ia cy (mm 1) 169 S, ia cy (mm 4) 7 (fnd C (cSh bi x1)), ia cy (mm 11) 4 bi, ia cy (mm 12) 4 si, la cy (mm 13) 160 (numF f)]) := congrArg (fun z9 => [mO cy mm ik tl fm tz vl iw rm rr om, ia cy (mm 1) 169 S, ia cy (mm 4) 7 z9, ia cy (mm 11) 4 bi, ia cy (mm 12) 4 si, la cy (mm 13) 160 (numF f)]) (show (upd C 5 (C 5 + 1)) = (fnd C (cSh bi x1)) from fnd_f hcd (by decide))
    replace hP2 := (congrArg (fun z9 => va_P D vwCl z9 _) hq9).mp hP2
    replace hD2 := (congrArg (fun z9 => va_D _ z9) hq9).mp hD2
    clear hq9
    have hq9 : ([mO cy mm ik tl fm tz vl iw rm rr om, ia cy (mm 1) 169 S, ia cy (mm 4) 7 (fnd C (cSh bi x1)), ia cy (mm 11) 4 bi, ia cy (mm 12) 4 si, la cy (mm 13) 160 (numF f)]) = ([mO cy mm ik tl fm tz vl iw rm rr om, ia cy (mm 1) 169 (if cSh bi x1 = 7 then lysS (f (bstN x1)) S (minN (bstN (si (bstN x1))) (gcN S)) else S), ia cy (mm 4) 7 (fnd C (cSh bi x1)), ia cy (mm 11) 4 bi, ia cy (mm 12) 4 si, la cy (mm 13) 160 (numF f)]) := congrArg (fun z9 => [mO cy mm ik tl fm tz vl iw rm rr om, ia cy (mm 1) 169 z9, ia cy (mm 4) 7 (fnd C (cSh bi x1)), ia cy (mm 11) 4 bi, ia cy (mm 12) 4 si, la cy (mm 13) 160 (numF f)]) (show S = (if cSh bi x1 = 7 then lysS (f (bstN x1)) S (minN (bstN (si (bstN x1))) (gcN S)) else S) from (if_neg (fun z9 => absurd (hcd.symm.trans z9) (by decide))).symm)
    replace hP2 := (congrArg (fun z9 => va_P D vwCl z9 _) hq9).mp hP2
    replace hD2 := (congrArg (fun z9 => va_D _ z9) hq9).mp hD2
    clear hq9
    refine re_i () hx hb hr hlocks hP2 hD2 hS2 dX7_lays_15 ?_
    exact (ans_f hcd (by decide) rfl)
  · refine tp (show wrR bi x1 = 0 from ew9) ?_
    obtain ⟨i0, hi4, rfl⟩ := nI_rn (n := 4) (by decide) (x := x1) ⟨hwr.1, Int32.lt_of_le_of_lt hwr.2 (by decide)⟩
    have hbi : bstN (nI i0) = i0 := bst_n (by omega)
    rw [hbi] at hw0
    have hs0 := hso i0 hi4
    have hs40 := hs0.2.1
    refine lv_istore_n (lv' := [(2, .int 0), (0, .ref (mm 0)), (1, .int (nI i0))]) hx hb dX7_lays_5 rfl hl0 (by decide) rfl (fun ls1 hl1 => ?_)
    clear hl0 ls0
    refine lv_iload_n hx hb dX7_lays_6 rfl (lv_at hl1 0 rfl) ?_
    refine lv_if_eq (tgt := 16) hx hb dX7_lays_7 (by decide) (fun _ => ?_) (fun c => absurd (by decide) c)
    refine lv_iconst (v := 0) hx hb dX7_lays_16 (by decide) ?_
    refine lv_istore_n (lv' := [(3, .int 0), (2, .int 0), (0, .ref (mm 0)), (1, .int (nI i0))]) hx hb dX7_lays_17 rfl hl1 (by decide) rfl (fun ls2 hl2 => ?_)
    clear hl1 ls1
    refine lv_iconst (v := 0) hx hb dX7_lays_18 (by decide) ?_
    refine lv_istore (lv' := [(4, .int 0), (3, .int 0), (2, .int 0), (0, .ref (mm 0)), (1, .int (nI i0))]) hx hb dX7_lays_19 hl2 (by decide) rfl (fun ls3 hl3 => ?_)
    clear hl2 ls2
    have hq9 : nI (lysC (f i0) 0) = 0 := rfl
    replace hl3 : lv_has ls3 7 [(4, .int 0), (3, .int (nI (lysC (f i0) 0))), (2, .int 0), (0, .ref (mm 0)), (1, .int (nI i0))] := (congrArg (fun z9 => lv_has ls3 7 [(4, .int 0), (3, .int z9), (2, .int 0), (0, .ref (mm 0)), (1, .int (nI i0))]) hq9).mpr hl3
    clear hq9
    have hq9 : ([mO cy mm ik tl fm tz vl iw rm rr om, ia cy (mm 1) 169 S, ia cy (mm 4) 7 C, ia cy (mm 11) 4 bi, ia cy (mm 12) 4 si, la cy (mm 13) 160 (numF f)]) = ([mO cy mm ik tl fm tz vl iw rm rr om, ia cy (mm 1) 169 (lysS (f i0) S 0), ia cy (mm 4) 7 C, ia cy (mm 11) 4 bi, ia cy (mm 12) 4 si, la cy (mm 13) 160 (numF f)]) := congrArg (fun z9 => [mO cy mm ik tl fm tz vl iw rm rr om, ia cy (mm 1) 169 z9, ia cy (mm 4) 7 C, ia cy (mm 11) 4 bi, ia cy (mm 12) 4 si, la cy (mm 13) 160 (numF f)]) (show S = (lysS (f i0) S 0) from rfl)
    replace hP1 := (congrArg (fun z9 => va_P D vwCl z9 _) hq9).mp hP1
    replace hD1 := (congrArg (fun z9 => va_D _ z9) hq9).mp hD1
    clear hq9
    refine wlp (ι := Nat) (nL := 7) (fun x9 => (x9 ≤ gcN S) ∧ (x9 ≤ bstN (si i0))) (fun x9 => [mO cy mm ik tl fm tz vl iw rm rr om, ia cy (mm 1) 169 (lysS (f i0) S x9), ia cy (mm 4) 7 C, ia cy (mm 11) 4 bi, ia cy (mm 12) 4 si, la cy (mm 13) 160 (numF f)]) (fun x9 => [(4, .int (nI x9)), (3, .int (nI (lysC (f i0) x9))), (2, .int 0), (0, .ref (mm 0)), (1, .int (nI i0))]) (fun x9 => []) (fun x9 => gcN S - x9) 21 ?_ 0 (⟨by first | omega | assumption | rfl | simp_all, by first | omega | assumption | rfl | simp_all⟩) rfl hP1 hD1 hS1 (lv_sub hl3 [0, 1, 2, 3, 4] rfl)
    clear hP1 hD1 hS1 locs1 H1 hl3 ls3
    intro x9 hI ih_21 H2 locs2 ls4 hP2 hD2 hS2 hl4
    obtain ⟨i, rfl⟩ : ∃ z9, z9 = x9 := ⟨_, rfl⟩
    obtain ⟨hi, hi2⟩ := hI
    replace hi : i ≤ gcN S := hi
    replace hi2 : i ≤ bstN (si i0) := hi2
    replace hP2 : va_P D vwCl ([mO cy mm ik tl fm tz vl iw rm rr om, ia cy (mm 1) 169 (lysS (f i0) S i), ia cy (mm 4) 7 C, ia cy (mm 11) 4 bi, ia cy (mm 12) 4 si, la cy (mm 13) 160 (numF f)]) H2 := hP2
    replace hD2 : va_D (va_A _ sz) ([mO cy mm ik tl fm tz vl iw rm rr om, ia cy (mm 1) 169 (lysS (f i0) S i), ia cy (mm 4) 7 C, ia cy (mm 11) 4 bi, ia cy (mm 12) 4 si, la cy (mm 13) 160 (numF f)]) := hD2
    replace hl4 : lv_has ls4 7 [(4, .int (nI i)), (3, .int (nI (lysC (f i0) i))), (2, .int 0), (0, .ref (mm 0)), (1, .int (nI i0))] := hl4
    show W p l e _ s m _ below meth c _ _ _ _ _ (F0 m 21 ls4 [])
    refine lv_iload hx hb dX7_lays_21 (lv_at hl4 0 rfl) ?_
    refine lv_aload_n hx hb dX7_lays_23 rfl (lv_at hl4 3 rfl) ?_
    refine va_get (D := D) (ci := 7) (v := .ref (mm 12)) (C := RX7) (T := TX7) (N := 23) hx hb hw iX7 hown hK hP2 0 rfl rfl 20 (by decide) (hw _ kw_4_84) (fun _ h9 => h9) rfl dX7_lays_24 ?_
    refine lv_iload_n hx hb dX7_lays_27 rfl (lv_at hl4 4 rfl) ?_
    refine ald_i (f := si) hx hb hK hP2 4 0 rfl rfl i0 rfl (by first | omega | assumption) (by decide) dX7_lays_28 ?_
    refine tp (show (si i0) = nI (bstN (si i0)) from hs0.1) ?_
    refine ln_ge (tgt := 96) i (bstN (si i0)) rfl rfl (by omega) (by omega) hx hb dX7_lays_29 (by decide) (fun c_29 => ?_) (fun c_29 => ?_)
    · have hie : (minN (bstN (si i0)) (gcN S)) = i := minN_u (by omega) (by omega) (by omega)
      have hq9 : ([mO cy mm ik tl fm tz vl iw rm rr om, ia cy (mm 1) 169 (lysS (f i0) S i), ia cy (mm 4) 7 C, ia cy (mm 11) 4 bi, ia cy (mm 12) 4 si, la cy (mm 13) 160 (numF f)]) = ([mO cy mm ik tl fm tz vl iw rm rr om, ia cy (mm 1) 169 (lysS (f i0) S (minN (bstN (si i0)) (gcN S))), ia cy (mm 4) 7 C, ia cy (mm 11) 4 bi, ia cy (mm 12) 4 si, la cy (mm 13) 160 (numF f)]) := congrArg (fun z9 => [mO cy mm ik tl fm tz vl iw rm rr om, ia cy (mm 1) 169 z9, ia cy (mm 4) 7 C, ia cy (mm 11) 4 bi, ia cy (mm 12) 4 si, la cy (mm 13) 160 (numF f)]) (show (lysS (f i0) S i) = (lysS (f i0) S (minN (bstN (si i0)) (gcN S))) from by rw [hie])
      replace hP2 := (congrArg (fun z9 => va_P D vwCl z9 _) hq9).mp hP2
      replace hD2 := (congrArg (fun z9 => va_D _ z9) hq9).mp hD2
      clear hq9
      have hq9 : nI (lysC (f i0) (minN (bstN (si i0)) (gcN S))) = nI (lysC (f i0) i) := by rw [hie]
      replace hl4 : lv_has ls4 7 [(4, .int (nI i)), (3, .int (nI (lysC (f i0) (minN (bstN (si i0)) (gcN S))))), (2, .int 0), (0, .ref (mm 0)), (1, .int (nI i0))] := (congrArg (fun z9 => lv_has ls4 7 [(4, .int (nI i)), (3, .int z9), (2, .int 0), (0, .ref (mm 0)), (1, .int (nI i0))]) hq9).mpr hl4
      clear hq9
      refine lv_iload_n hx hb dX7_lays_96 rfl (lv_at hl4 1 rfl) ?_
      have hcd : cSh bi (nI i0) = 7 := by unfold cSh; rw [hbi]; clear hx hb hml hown hr hlocks hw hsz hA hG hK hP2 hD2 hS2 hl4 ih_21; grind
      have hq9 : ([mO cy mm ik tl fm tz vl iw rm rr om, ia cy (mm 1) 169 (lysS (f i0) S (minN (bstN (si i0)) (gcN S))), ia cy (mm 4) 7 C, ia cy (mm 11) 4 bi, ia cy (mm 12) 4 si, la cy (mm 13) 160 (numF f)]) = ([mO cy mm ik tl fm tz vl iw rm rr om, ia cy (mm 1) 169 (lysS (f i0) S (minN (bstN (si i0)) (gcN S))), ia cy (mm 4) 7 (fnd C (cSh bi (nI i0))), ia cy (mm 11) 4 bi, ia cy (mm 12) 4 si, la cy (mm 13) 160 (numF f)]) := congrArg (fun z9 => [mO cy mm ik tl fm tz vl iw rm rr om, ia cy (mm 1) 169 (lysS (f i0) S (minN (bstN (si i0)) (gcN S))), ia cy (mm 4) 7 z9, ia cy (mm 11) 4 bi, ia cy (mm 12) 4 si, la cy (mm 13) 160 (numF f)]) (show C = (fnd C (cSh bi (nI i0))) from fnd_o hcd)
      replace hP2 := (congrArg (fun z9 => va_P D vwCl z9 _) hq9).mp hP2
      replace hD2 := (congrArg (fun z9 => va_D _ z9) hq9).mp hD2
      clear hq9
      have hq9 : ([mO cy mm ik tl fm tz vl iw rm rr om, ia cy (mm 1) 169 (lysS (f i0) S (minN (bstN (si i0)) (gcN S))), ia cy (mm 4) 7 (fnd C (cSh bi (nI i0))), ia cy (mm 11) 4 bi, ia cy (mm 12) 4 si, la cy (mm 13) 160 (numF f)]) = ([mO cy mm ik tl fm tz vl iw rm rr om, ia cy (mm 1) 169 (if cSh bi (nI i0) = 7 then lysS (f (bstN (nI i0))) S (minN (bstN (si (bstN (nI i0)))) (gcN S)) else S), ia cy (mm 4) 7 (fnd C (cSh bi (nI i0))), ia cy (mm 11) 4 bi, ia cy (mm 12) 4 si, la cy (mm 13) 160 (numF f)]) := congrArg (fun z9 => [mO cy mm ik tl fm tz vl iw rm rr om, ia cy (mm 1) 169 z9, ia cy (mm 4) 7 (fnd C (cSh bi (nI i0))), ia cy (mm 11) 4 bi, ia cy (mm 12) 4 si, la cy (mm 13) 160 (numF f)]) (show (lysS (f i0) S (minN (bstN (si i0)) (gcN S))) = (if cSh bi (nI i0) = 7 then lysS (f (bstN (nI i0))) S (minN (bstN (si (bstN (nI i0)))) (gcN S)) else S) from by rw [if_pos hcd]; simp only [hbi])
      replace hP2 := (congrArg (fun z9 => va_P D vwCl z9 _) hq9).mp hP2
      replace hD2 := (congrArg (fun z9 => va_D _ z9) hq9).mp hD2
      clear hq9
      refine re_i () hx hb hr hlocks hP2 hD2 hS2 dX7_lays_97 ?_
      exact (ans_o hcd (by rw [hbi]))
    · refine lv_iload hx hb dX7_lays_32 (lv_at hl4 0 rfl) ?_
      refine lv_aload_n hx hb dX7_lays_34 rfl (lv_at hl4 3 rfl) ?_
      refine va_get (D := D) (ci := 7) (v := .ref (mm 1)) (C := RX7) (T := TX7) (N := 23) hx hb hw iX7 hown hK hP2 0 rfl rfl 0 (by decide) (hw _ kw_4_64) (fun _ h9 => h9) rfl dX7_lays_35 ?_
      refine lv_iconst (v := 1) hx hb dX7_lays_38 (by decide) ?_
      refine ald_i (f := lysS (f i0) S i) hx hb hK hP2 1 0 rfl rfl 1 rfl (by first | omega | assumption) (by decide) dX7_lays_39 ?_
      refine tp (show ((lysS (f i0) S i) 1) = nI (gcN S) from (lysS_lo (f i0) S (by decide) i).trans (wf_g wf)) ?_
      refine ln_ge (tgt := 96) i (gcN S) rfl rfl (by omega) (by omega) hx hb dX7_lays_40 (by decide) (fun c_40 => ?_) (fun c_40 => ?_)
      · have hie : (minN (bstN (si i0)) (gcN S)) = i := minN_u (by omega) (by omega) (by omega)
        have hq9 : ([mO cy mm ik tl fm tz vl iw rm rr om, ia cy (mm 1) 169 (lysS (f i0) S i), ia cy (mm 4) 7 C, ia cy (mm 11) 4 bi, ia cy (mm 12) 4 si, la cy (mm 13) 160 (numF f)]) = ([mO cy mm ik tl fm tz vl iw rm rr om, ia cy (mm 1) 169 (lysS (f i0) S (minN (bstN (si i0)) (gcN S))), ia cy (mm 4) 7 C, ia cy (mm 11) 4 bi, ia cy (mm 12) 4 si, la cy (mm 13) 160 (numF f)]) := congrArg (fun z9 => [mO cy mm ik tl fm tz vl iw rm rr om, ia cy (mm 1) 169 z9, ia cy (mm 4) 7 C, ia cy (mm 11) 4 bi, ia cy (mm 12) 4 si, la cy (mm 13) 160 (numF f)]) (show (lysS (f i0) S i) = (lysS (f i0) S (minN (bstN (si i0)) (gcN S))) from by rw [hie])
        replace hP2 := (congrArg (fun z9 => va_P D vwCl z9 _) hq9).mp hP2
        replace hD2 := (congrArg (fun z9 => va_D _ z9) hq9).mp hD2
        clear hq9
        have hq9 : nI (lysC (f i0) (minN (bstN (si i0)) (gcN S))) = nI (lysC (f i0) i) := by rw [hie]
        replace hl4 : lv_has ls4 7 [(4, .int (nI i)), (3, .int (nI (lysC (f i0) (minN (bstN (si i0)) (gcN S))))), (2, .int 0), (0, .ref (mm 0)), (1, .int (nI i0))] := (congrArg (fun z9 => lv_has ls4 7 [(4, .int (nI i)), (3, .int z9), (2, .int 0), (0, .ref (mm 0)), (1, .int (nI i0))]) hq9).mpr hl4
        clear hq9
        refine lv_iload_n hx hb dX7_lays_96 rfl (lv_at hl4 1 rfl) ?_
        have hcd : cSh bi (nI i0) = 7 := by unfold cSh; rw [hbi]; clear hx hb hml hown hr hlocks hw hsz hA hG hK hP2 hD2 hS2 hl4 ih_21; grind
        have hq9 : ([mO cy mm ik tl fm tz vl iw rm rr om, ia cy (mm 1) 169 (lysS (f i0) S (minN (bstN (si i0)) (gcN S))), ia cy (mm 4) 7 C, ia cy (mm 11) 4 bi, ia cy (mm 12) 4 si, la cy (mm 13) 160 (numF f)]) = ([mO cy mm ik tl fm tz vl iw rm rr om, ia cy (mm 1) 169 (lysS (f i0) S (minN (bstN (si i0)) (gcN S))), ia cy (mm 4) 7 (fnd C (cSh bi (nI i0))), ia cy (mm 11) 4 bi, ia cy (mm 12) 4 si, la cy (mm 13) 160 (numF f)]) := congrArg (fun z9 => [mO cy mm ik tl fm tz vl iw rm rr om, ia cy (mm 1) 169 (lysS (f i0) S (minN (bstN (si i0)) (gcN S))), ia cy (mm 4) 7 z9, ia cy (mm 11) 4 bi, ia cy (mm 12) 4 si, la cy (mm 13) 160 (numF f)]) (show C = (fnd C (cSh bi (nI i0))) from fnd_o hcd)
        replace hP2 := (congrArg (fun z9 => va_P D vwCl z9 _) hq9).mp hP2
        replace hD2 := (congrArg (fun z9 => va_D _ z9) hq9).mp hD2
        clear hq9
        have hq9 : ([mO cy mm ik tl fm tz vl iw rm rr om, ia cy (mm 1) 169 (lysS (f i0) S (minN (bstN (si i0)) (gcN S))), ia cy (mm 4) 7 (fnd C (cSh bi (nI i0))), ia cy (mm 11) 4 bi, ia cy (mm 12) 4 si, la cy (mm 13) 160 (numF f)]) = ([mO cy mm ik tl fm tz vl iw rm rr om, ia cy (mm 1) 169 (if cSh bi (nI i0) = 7 then lysS (f (bstN (nI i0))) S (minN (bstN (si (bstN (nI i0)))) (gcN S)) else S), ia cy (mm 4) 7 (fnd C (cSh bi (nI i0))), ia cy (mm 11) 4 bi, ia cy (mm 12) 4 si, la cy (mm 13) 160 (numF f)]) := congrArg (fun z9 => [mO cy mm ik tl fm tz vl iw rm rr om, ia cy (mm 1) 169 z9, ia cy (mm 4) 7 (fnd C (cSh bi (nI i0))), ia cy (mm 11) 4 bi, ia cy (mm 12) 4 si, la cy (mm 13) 160 (numF f)]) (show (lysS (f i0) S (minN (bstN (si i0)) (gcN S))) = (if cSh bi (nI i0) = 7 then lysS (f (bstN (nI i0))) S (minN (bstN (si (bstN (nI i0)))) (gcN S)) else S) from by rw [if_pos hcd]; simp only [hbi])
        replace hP2 := (congrArg (fun z9 => va_P D vwCl z9 _) hq9).mp hP2
        replace hD2 := (congrArg (fun z9 => va_D _ z9) hq9).mp hD2
        clear hq9
        refine re_i () hx hb hr hlocks hP2 hD2 hS2 dX7_lays_97 ?_
        exact (ans_o hcd (by rw [hbi]))
      · refine lv_aload_n hx hb dX7_lays_43 rfl (lv_at hl4 3 rfl) ?_
        refine va_get (D := D) (ci := 7) (v := .ref (mm 13)) (C := RX7) (T := TX7) (N := 23) hx hb hw iX7 hown hK hP2 0 rfl rfl 21 (by decide) (hw _ kw_4_85) (fun _ h9 => h9) rfl dX7_lays_44 ?_
        refine lv_bipush (v := 40) hx hb dX7_lays_47 (by decide) ?_
        refine lv_iload_n hx hb dX7_lays_49 rfl (lv_at hl4 4 rfl) ?_
        refine lv_imul hx hb dX7_lays_50 ?_
        refine tp (show (40 * (nI i0)) = nI (40 * i0) from pk_mul _ _) ?_
        refine lv_iload hx hb dX7_lays_51 (lv_at hl4 0 rfl) ?_
        refine lv_iadd hx hb dX7_lays_53 ?_
        refine tp (show ((nI (40 * i0)) + (nI i)) = nI (40 * i0 + i) from nI_add _ _) ?_
        refine ald_l (f := numF f) hx hb hK hP2 5 1 rfl rfl (40 * i0 + i) rfl (by first | omega | assumption) (by decide) dX7_lays_54 ?_
        refine tpl (show ((numF f) (40 * i0 + i)) = f i0 i from numF_at _ (by omega)) ?_
        refine lv_lstore (lv' := [(5, .long (f i0 i)), (4, .int (nI i)), (3, .int (nI (lysC (f i0) i))), (2, .int 0), (0, .ref (mm 0)), (1, .int (nI i0))]) hx hb dX7_lays_55 hl4 (by decide) rfl (fun ls5 hl5 => ?_)
        clear hl4 ls4
        refine lv_lload hx hb dX7_lays_57 (lv_at hl5 0 rfl) ?_
        refine lv_lconst (v := 0) hx hb dX7_lays_59 (by decide) ?_
        refine lv_ldc2 (v := 99) hx hb hown (hw _ kw_4_190) dX7_lays_60 ?_
        refine rT_i (wc := []) (rest := []) hx hb hml hown hw hG hK hP2 hS2 hA hl5 kc_X7_in kw_4_153 [.long (f i0 i), .long 0, .long 99] (c_X7_in l D cy G H2.size (f i0 i) 0 99) [] rfl rfl rfl (Nat.le_of_ble_eq_true rfl) ⟨Nat.le_of_ble_eq_true rfl, Nat.le_of_ble_eq_true rfl⟩ dX7_lays_63 ⟨Nat.le_of_ble_eq_true rfl, Nat.le_of_ble_eq_true rfl⟩ (fun r_63 H3 locs3 hr_63 hP3 hS3 => ?_)
        have hD3 := hD2
        clear hP2 hD2 hS2 locs2 H2
        subst hr_63
        refine lb_eq (tgt := 90) hx hb dX7_lays_66 (by decide) (fun c_66 => ?_) (fun c_66 => ?_)
        · have hq9 : ([mO cy mm ik tl fm tz vl iw rm rr om, ia cy (mm 1) 169 (lysS (f i0) S i), ia cy (mm 4) 7 C, ia cy (mm 11) 4 bi, ia cy (mm 12) 4 si, la cy (mm 13) 160 (numF f)]) = ([mO cy mm ik tl fm tz vl iw rm rr om, ia cy (mm 1) 169 (lysS (f i0) S (i + 1)), ia cy (mm 4) 7 C, ia cy (mm 11) 4 bi, ia cy (mm 12) 4 si, la cy (mm 13) 160 (numF f)]) := congrArg (fun z9 => [mO cy mm ik tl fm tz vl iw rm rr om, ia cy (mm 1) 169 z9, ia cy (mm 4) 7 C, ia cy (mm 11) 4 bi, ia cy (mm 12) 4 si, la cy (mm 13) 160 (numF f)]) (show (lysS (f i0) S i) = (lysS (f i0) S (i + 1)) from (if_neg c_66).symm)
          replace hP3 := (congrArg (fun z9 => va_P D vwCl z9 _) hq9).mp hP3
          replace hD3 := (congrArg (fun z9 => va_D _ z9) hq9).mp hD3
          clear hq9
          have hq9 : nI (lysC (f i0) (i + 1)) = nI (lysC (f i0) i) := congrArg nI (if_neg c_66)
          replace hl5 : lv_has ls5 7 [(5, .long (f i0 i)), (4, .int (nI i)), (3, .int (nI (lysC (f i0) (i + 1)))), (2, .int 0), (0, .ref (mm 0)), (1, .int (nI i0))] := (congrArg (fun z9 => lv_has ls5 7 [(5, .long (f i0 i)), (4, .int (nI i)), (3, .int z9), (2, .int 0), (0, .ref (mm 0)), (1, .int (nI i0))]) hq9).mpr hl5
          clear hq9
          refine lv_iinc (v := nI (i + 1)) (lv' := [(4, .int (nI (i + 1))), (5, .long (f i0 i)), (3, .int (nI (lysC (f i0) (i + 1)))), (2, .int 0), (0, .ref (mm 0)), (1, .int (nI i0))]) hx hb dX7_lays_90 hl5 (k := 1) rfl (nI_inc _) (by decide) rfl (fun ls6 hl6 => ?_)
          clear hl5 ls5
          refine lv_goto (tgt := 21) hx hb dX7_lays_93 (by decide) ?_
          exact ih_21 (i + 1) (⟨by first | omega | assumption | rfl | simp_all, by first | omega | assumption | rfl | simp_all⟩) (by (try dsimp only); omega) H3 locs3 ls6 hP3 hD3 hS3 (lv_sub hl6 [0, 2, 3, 4, 5] rfl)
        · refine lv_aload_n hx hb dX7_lays_69 rfl (lv_at hl5 4 rfl) ?_
          refine va_get (D := D) (ci := 7) (v := .ref (mm 1)) (C := RX7) (T := TX7) (N := 23) hx hb hw iX7 hown hK hP3 0 rfl rfl 0 (by decide) (hw _ kw_4_64) (fun _ h9 => h9) rfl dX7_lays_70 ?_
          refine lv_bipush (v := 9) hx hb dX7_lays_73 (by decide) ?_
          refine lv_bipush (v := 8) hx hb dX7_lays_75 (by decide) ?_
          refine lv_iload hx hb dX7_lays_77 (lv_at hl5 1 rfl) ?_
          refine lv_imul hx hb dX7_lays_79 ?_
          refine tp (show (8 * (nI i)) = nI (8 * i) from pk_mul _ _) ?_
          refine lv_iadd hx hb dX7_lays_80 ?_
          refine tp (show (9 + (nI (8 * i))) = nI (9 + 8 * i) from nI_add _ _) ?_
          refine lv_iconst (v := 3) hx hb dX7_lays_81 (by decide) ?_
          refine lv_iadd hx hb dX7_lays_82 ?_
          refine tp (show ((nI (9 + 8 * i)) + 3) = nI (9 + 8 * i + 3) from nI_add _ _) ?_
          refine lv_lload hx hb dX7_lays_83 (lv_at hl5 0 rfl) ?_
          refine lv_l2i hx hb dX7_lays_85 rfl ?_
          refine ast_i (f := lysS (f i0) S i) (ws' := [mO cy mm ik tl fm tz vl iw rm rr om, ia cy (mm 1) 169 (upd (lysS (f i0) S i) (12 + 8 * i) ((f i0 i).toInt32)), ia cy (mm 4) 7 C, ia cy (mm 11) 4 bi, ia cy (mm 12) 4 si, la cy (mm 13) 160 (numF f)]) hx hb hK hP3 hD3 hS3 1 0 rfl rfl (12 + 8 * i) (congrArg nI (by omega)) (by omega) (by decide) rfl dX7_lays_86 (fun H4 locs4 hP4 hD4 hS4 => ?_)
          clear hP3 hD3 hS3 locs3 H3
          refine lv_iinc (v := nI (lysC (f i0) i + 1)) (lv' := [(3, .int (nI (lysC (f i0) i + 1))), (5, .long (f i0 i)), (4, .int (nI i)), (2, .int 0), (0, .ref (mm 0)), (1, .int (nI i0))]) hx hb dX7_lays_87 hl5 (k := 2) rfl (nI_inc _) (by decide) rfl (fun ls6 hl6 => ?_)
          clear hl5 ls5
          have hq9 : ([mO cy mm ik tl fm tz vl iw rm rr om, ia cy (mm 1) 169 (upd (lysS (f i0) S i) (12 + 8 * i) ((f i0 i).toInt32)), ia cy (mm 4) 7 C, ia cy (mm 11) 4 bi, ia cy (mm 12) 4 si, la cy (mm 13) 160 (numF f)]) = ([mO cy mm ik tl fm tz vl iw rm rr om, ia cy (mm 1) 169 (lysS (f i0) S (i + 1)), ia cy (mm 4) 7 C, ia cy (mm 11) 4 bi, ia cy (mm 12) 4 si, la cy (mm 13) 160 (numF f)]) := congrArg (fun z9 => [mO cy mm ik tl fm tz vl iw rm rr om, ia cy (mm 1) 169 z9, ia cy (mm 4) 7 C, ia cy (mm 11) 4 bi, ia cy (mm 12) 4 si, la cy (mm 13) 160 (numF f)]) (show (upd (lysS (f i0) S i) (12 + 8 * i) ((f i0 i).toInt32)) = (lysS (f i0) S (i + 1)) from (if_pos c_66).symm)
          replace hP4 := (congrArg (fun z9 => va_P D vwCl z9 _) hq9).mp hP4
          replace hD4 := (congrArg (fun z9 => va_D _ z9) hq9).mp hD4
          clear hq9
          have hq9 : nI (lysC (f i0) (i + 1)) = nI (lysC (f i0) i + 1) := congrArg nI (if_pos c_66)
          replace hl6 : lv_has ls6 7 [(3, .int (nI (lysC (f i0) (i + 1)))), (5, .long (f i0 i)), (4, .int (nI i)), (2, .int 0), (0, .ref (mm 0)), (1, .int (nI i0))] := (congrArg (fun z9 => lv_has ls6 7 [(3, .int z9), (5, .long (f i0 i)), (4, .int (nI i)), (2, .int 0), (0, .ref (mm 0)), (1, .int (nI i0))]) hq9).mpr hl6
          clear hq9
          refine lv_iinc (v := nI (i + 1)) (lv' := [(4, .int (nI (i + 1))), (3, .int (nI (lysC (f i0) (i + 1)))), (5, .long (f i0 i)), (2, .int 0), (0, .ref (mm 0)), (1, .int (nI i0))]) hx hb dX7_lays_90 hl6 (k := 2) rfl (nI_inc _) (by decide) rfl (fun ls7 hl7 => ?_)
          clear hl6 ls6
          refine lv_goto (tgt := 21) hx hb dX7_lays_93 (by decide) ?_
          exact ih_21 (i + 1) (⟨by first | omega | assumption | rfl | simp_all, by first | omega | assumption | rfl | simp_all⟩) (by (try dsimp only); omega) H4 locs4 ls7 hP4 hD4 hS4 (lv_sub hl7 [0, 1, 3, 4, 5] rfl)

theorem kc_X7_read : kV yX7_read cX7_read 4 (some .int) 1 := ⟨kw_5_225, kw_5_226, kw_1_8, kw_5_227, by decide, by decide, by decide +kernel⟩
set_option maxHeartbeats 4000000 in
set_option maxRecDepth 100000 in
theorem c_X7_read (l : Launch) (D : va_G) (cy : Nat → ClassId) (G : Nat → Nat) (sz : Nat) (mm : Nat → Nat) (ik : Int32) (tl : Int32) (fm : Int32) (tz : Int32) (vl : Int32) (iw : Int32) (rm : Int32) (rr : Int32) (om : Int32) (S : Nat → Int32) (C : Nat → Int32) (P : Nat → Int32) (N : Nat → Int32) (bi : Nat → Int32) (si : Nat → Int32) (f : Nat → Nat → Int64) (x1 : Int32) (hso : shOk si f) (wf : wf S) : Met l yX7_read (wm yX7_read cX7_read 4 (some .int)) { frames := 5, cells := 0, slots := 0, locals := 113 } (va_Pc [.ref (mm 0), .int x1] (pr D (TY cy) G ([mO cy mm ik tl fm tz vl iw rm rr om, ia cy (mm 1) 169 S, ia cy (mm 4) 7 C, ia cy (mm 6) 6 P, ia cy (mm 7) 6 N, ia cy (mm 11) 4 bi, ia cy (mm 12) 4 si, la cy (mm 13) 160 (numF f)]) sz)) (va_Qi (fun (r : Int32) (u : (Nat → Int32) × (Nat → Int32) × Int32 × Int32) => r = ans (cSh bi x1) (vRead S (f (bstN x1)) (bstN (si (bstN x1))))) (fun (u : (Nat → Int32) × (Nat → Int32) × Int32 × Int32) t => po D (va_A ([mO cy mm ik tl fm tz vl iw rm rr om, ia cy (mm 1) 169 S, ia cy (mm 4) 7 C, ia cy (mm 6) 6 P, ia cy (mm 7) 6 N, ia cy (mm 11) 4 bi, ia cy (mm 12) 4 si, la cy (mm 13) 160 (numF f)]) sz) ([mO cy mm ik tl fm tz vl iw u.2.2.1 u.2.2.2 om, ia cy (mm 1) 169 S, ia cy (mm 4) 7 (fnd C (cSh bi x1)), ia cy (mm 6) 6 u.1, ia cy (mm 7) 6 u.2.1, ia cy (mm 11) 4 bi, ia cy (mm 12) 4 si, la cy (mm 13) 160 (numF f)]) t) (va_A ([mO cy mm ik tl fm tz vl iw rm rr om, ia cy (mm 1) 169 S, ia cy (mm 4) 7 C, ia cy (mm 6) 6 P, ia cy (mm 7) 6 N, ia cy (mm 11) 4 bi, ia cy (mm 12) 4 si, la cy (mm 13) 160 (numF f)]) sz)) 0 0 (va_A ([mO cy mm ik tl fm tz vl iw rm rr om, ia cy (mm 1) 169 S, ia cy (mm 4) 7 C, ia cy (mm 6) 6 P, ia cy (mm 7) 6 N, ia cy (mm 11) 4 bi, ia cy (mm 12) 4 si, la cy (mm 13) 160 (numF f)]) sz) := by
  refine mk_rw (by decide) RX7 rfl (Nat.le_of_ble_eq_true rfl) [(0, .ref (mm 0)), (1, .int x1)] rfl ?_
  intro p e s m below meth c hx hb hml hown hr hlocks hin hw hsz hA hG hK H0 locs0 hP0 hD0 hS0 ls0 hl0
  clear hin
  have hg20 := wf_g20 wf
  have hr6 := wf_r6 wf
  refine lv_aload_n hx hb dX7_read_0 rfl (lv_at hl0 0 rfl) ?_
  refine lv_iload_n hx hb dX7_read_1 rfl (lv_at hl0 1 rfl) ?_
  refine rV_i (wc := [mO cy mm ik tl fm tz vl iw rm rr om, ia cy (mm 11) 4 bi]) (rest := []) hx hb hml hown hw hG hK hP0 hS0 hA hl0 kc_X7_wrong kw_5_204 [.int x1] (c_X7_wrong l D cy G H0.size mm ik tl fm tz vl iw rm rr om bi x1) [0, 5] rfl 0 rfl rfl rfl rfl rfl (Nat.le_of_ble_eq_true rfl) ⟨Nat.le_of_ble_eq_true rfl, Nat.le_of_ble_eq_true rfl⟩ dX7_read_2 ⟨Nat.le_of_ble_eq_true rfl, Nat.le_of_ble_eq_true rfl⟩ (fun r_2 H1 locs1 hr_2 hP1 hS1 => ?_)
  have hD1 := hD0
  clear hP0 hD0 hS0 locs0 H0
  subst hr_2
  rcases wr_c bi x1 with ⟨hwr, ew9⟩ | ⟨hwr, hw0, ew9⟩ | ⟨hwr, hw0, ew9⟩
  · refine tp (show wrR bi x1 = -1000000001 from ew9) ?_
    refine lv_istore_n (lv' := [(2, .int (-1000000001)), (0, .ref (mm 0)), (1, .int x1)]) hx hb dX7_read_5 rfl hl0 (by decide) rfl (fun ls1 hl1 => ?_)
    clear hl0 ls0
    refine lv_iload_n hx hb dX7_read_6 rfl (lv_at hl1 0 rfl) ?_
    refine lv_if_eq (tgt := 16) hx hb dX7_read_7 (by decide) (fun c => absurd c (by decide)) (fun _ => ?_)
    refine lv_aload_n hx hb dX7_read_10 rfl (lv_at hl1 1 rfl) ?_
    refine lv_iload_n hx hb dX7_read_11 rfl (lv_at hl1 0 rfl) ?_
    refine cV_i (wc := [mO cy mm ik tl fm tz vl iw rm rr om, ia cy (mm 4) 7 C]) (wr := [ia cy (mm 1) 169 S, ia cy (mm 6) 6 P, ia cy (mm 7) 6 N, ia cy (mm 11) 4 bi, ia cy (mm 12) 4 si, la cy (mm 13) 160 (numF f)]) (rest := []) hx hb hml hown hw hG hK hP1 hD1 hS1 hA hl1 kc_X7_finds kw_4_139 [.int (-1000000001)] (c_X7_finds l D cy G H1.size mm ik tl fm tz vl iw rm rr om C 0 (-1000000001) (by decide) (by decide)) [0, 2] [1, 3, 4, 5, 6, 7] rfl rfl rfl rfl rfl 0 rfl rfl rfl rfl rfl (Nat.le_of_ble_eq_true rfl) ⟨Nat.le_of_ble_eq_true rfl, Nat.le_of_ble_eq_true rfl⟩ dX7_read_12 ⟨Nat.le_of_ble_eq_true rfl, Nat.le_of_ble_eq_true rfl⟩ (fun r_12 u9 H2 locs2 hu9 hP2 hD2 hS2 => ?_)
    clear hP1 hD1 hS1 locs1 H1
    have hr_12 := hu9
    replace hP2 : va_P D vwCl ([ia cy (mm 1) 169 S, ia cy (mm 6) 6 P, ia cy (mm 7) 6 N, ia cy (mm 11) 4 bi, ia cy (mm 12) 4 si, la cy (mm 13) 160 (numF f), mO cy mm ik tl fm tz vl iw rm rr om, ia cy (mm 4) 7 (upd C 0 (C 0 + 1))]) H2 := hP2
    replace hD2 : va_D (va_A _ sz) ([ia cy (mm 1) 169 S, ia cy (mm 6) 6 P, ia cy (mm 7) 6 N, ia cy (mm 11) 4 bi, ia cy (mm 12) 4 si, la cy (mm 13) 160 (numF f), mO cy mm ik tl fm tz vl iw rm rr om, ia cy (mm 4) 7 (upd C 0 (C 0 + 1))]) := hD2
    replace hP2 := hP2.sub (ws' := [mO cy mm ik tl fm tz vl iw rm rr om, ia cy (mm 1) 169 S, ia cy (mm 4) 7 (upd C 0 (C 0 + 1)), ia cy (mm 6) 6 P, ia cy (mm 7) 6 N, ia cy (mm 11) 4 bi, ia cy (mm 12) 4 si, la cy (mm 13) 160 (numF f)]) [6, 0, 7, 1, 2, 3, 4, 5] rfl
    replace hD2 := hD2.sub (ws' := [mO cy mm ik tl fm tz vl iw rm rr om, ia cy (mm 1) 169 S, ia cy (mm 4) 7 (upd C 0 (C 0 + 1)), ia cy (mm 6) 6 P, ia cy (mm 7) 6 N, ia cy (mm 11) 4 bi, ia cy (mm 12) 4 si, la cy (mm 13) 160 (numF f)]) [6, 0, 7, 1, 2, 3, 4, 5] (by decide) rfl
    subst hr_12
    have hcd : cSh bi x1 = 0 := by unfold cSh; clear hx hb hml hown hr hlocks hw hsz hA hG hK hP2 hD2 hS2 hl1; grind
    have hq9 : ([mO cy mm ik tl fm tz vl iw rm rr om, ia cy (mm 1) 169 S, ia cy (mm 4) 7 (upd C 0 (C 0 + 1)), ia cy (mm 6) 6 P, ia cy (mm 7) 6 N, ia cy (mm 11) 4 bi, ia cy (mm 12) 4 si, la cy (mm 13) 160 (numF f)]) = ([mO cy mm ik tl fm tz vl iw rm rr om, ia cy (mm 1) 169 S, ia cy (mm 4) 7 (fnd C (cSh bi x1)), ia cy (mm 6) 6 P, ia cy (mm 7) 6 N, ia cy (mm 11) 4 bi, ia cy (mm 12) 4 si, la cy (mm 13) 160 (numF f)]) := congrArg (fun z9 => [mO cy mm ik tl fm tz vl iw rm rr om, ia cy (mm 1) 169 S, ia cy (mm 4) 7 z9, ia cy (mm 6) 6 P, ia cy (mm 7) 6 N, ia cy (mm 11) 4 bi, ia cy (mm 12) 4 si, la cy (mm 13) 160 (numF f)]) (show (upd C 0 (C 0 + 1)) = (fnd C (cSh bi x1)) from fnd_f hcd (by decide))
    replace hP2 := (congrArg (fun z9 => va_P D vwCl z9 _) hq9).mp hP2
    replace hD2 := (congrArg (fun z9 => va_D _ z9) hq9).mp hD2
    clear hq9
    refine re_i (P, N, rm, rr) hx hb hr hlocks hP2 hD2 hS2 dX7_read_15 ?_
    exact (ans_f hcd (by decide) rfl)
  · refine tp (show wrR bi x1 = -1000000006 from ew9) ?_
    refine lv_istore_n (lv' := [(2, .int (-1000000006)), (0, .ref (mm 0)), (1, .int x1)]) hx hb dX7_read_5 rfl hl0 (by decide) rfl (fun ls1 hl1 => ?_)
    clear hl0 ls0
    refine lv_iload_n hx hb dX7_read_6 rfl (lv_at hl1 0 rfl) ?_
    refine lv_if_eq (tgt := 16) hx hb dX7_read_7 (by decide) (fun c => absurd c (by decide)) (fun _ => ?_)
    refine lv_aload_n hx hb dX7_read_10 rfl (lv_at hl1 1 rfl) ?_
    refine lv_iload_n hx hb dX7_read_11 rfl (lv_at hl1 0 rfl) ?_
    refine cV_i (wc := [mO cy mm ik tl fm tz vl iw rm rr om, ia cy (mm 4) 7 C]) (wr := [ia cy (mm 1) 169 S, ia cy (mm 6) 6 P, ia cy (mm 7) 6 N, ia cy (mm 11) 4 bi, ia cy (mm 12) 4 si, la cy (mm 13) 160 (numF f)]) (rest := []) hx hb hml hown hw hG hK hP1 hD1 hS1 hA hl1 kc_X7_finds kw_4_139 [.int (-1000000006)] (c_X7_finds l D cy G H1.size mm ik tl fm tz vl iw rm rr om C 5 (-1000000006) (by decide) (by decide)) [0, 2] [1, 3, 4, 5, 6, 7] rfl rfl rfl rfl rfl 0 rfl rfl rfl rfl rfl (Nat.le_of_ble_eq_true rfl) ⟨Nat.le_of_ble_eq_true rfl, Nat.le_of_ble_eq_true rfl⟩ dX7_read_12 ⟨Nat.le_of_ble_eq_true rfl, Nat.le_of_ble_eq_true rfl⟩ (fun r_12 u9 H2 locs2 hu9 hP2 hD2 hS2 => ?_)
    clear hP1 hD1 hS1 locs1 H1
    have hr_12 := hu9
    replace hP2 : va_P D vwCl ([ia cy (mm 1) 169 S, ia cy (mm 6) 6 P, ia cy (mm 7) 6 N, ia cy (mm 11) 4 bi, ia cy (mm 12) 4 si, la cy (mm 13) 160 (numF f), mO cy mm ik tl fm tz vl iw rm rr om, ia cy (mm 4) 7 (upd C 5 (C 5 + 1))]) H2 := hP2
    replace hD2 : va_D (va_A _ sz) ([ia cy (mm 1) 169 S, ia cy (mm 6) 6 P, ia cy (mm 7) 6 N, ia cy (mm 11) 4 bi, ia cy (mm 12) 4 si, la cy (mm 13) 160 (numF f), mO cy mm ik tl fm tz vl iw rm rr om, ia cy (mm 4) 7 (upd C 5 (C 5 + 1))]) := hD2
    replace hP2 := hP2.sub (ws' := [mO cy mm ik tl fm tz vl iw rm rr om, ia cy (mm 1) 169 S, ia cy (mm 4) 7 (upd C 5 (C 5 + 1)), ia cy (mm 6) 6 P, ia cy (mm 7) 6 N, ia cy (mm 11) 4 bi, ia cy (mm 12) 4 si, la cy (mm 13) 160 (numF f)]) [6, 0, 7, 1, 2, 3, 4, 5] rfl
    replace hD2 := hD2.sub (ws' := [mO cy mm ik tl fm tz vl iw rm rr om, ia cy (mm 1) 169 S, ia cy (mm 4) 7 (upd C 5 (C 5 + 1)), ia cy (mm 6) 6 P, ia cy (mm 7) 6 N, ia cy (mm 11) 4 bi, ia cy (mm 12) 4 si, la cy (mm 13) 160 (numF f)]) [6, 0, 7, 1, 2, 3, 4, 5] (by decide) rfl
    subst hr_12
    have hcd : cSh bi x1 = 5 := by unfold cSh; clear hx hb hml hown hr hlocks hw hsz hA hG hK hP2 hD2 hS2 hl1; grind
    have hq9 : ([mO cy mm ik tl fm tz vl iw rm rr om, ia cy (mm 1) 169 S, ia cy (mm 4) 7 (upd C 5 (C 5 + 1)), ia cy (mm 6) 6 P, ia cy (mm 7) 6 N, ia cy (mm 11) 4 bi, ia cy (mm 12) 4 si, la cy (mm 13) 160 (numF f)]) = ([mO cy mm ik tl fm tz vl iw rm rr om, ia cy (mm 1) 169 S, ia cy (mm 4) 7 (fnd C (cSh bi x1)), ia cy (mm 6) 6 P, ia cy (mm 7) 6 N, ia cy (mm 11) 4 bi, ia cy (mm 12) 4 si, la cy (mm 13) 160 (numF f)]) := congrArg (fun z9 => [mO cy mm ik tl fm tz vl iw rm rr om, ia cy (mm 1) 169 S, ia cy (mm 4) 7 z9, ia cy (mm 6) 6 P, ia cy (mm 7) 6 N, ia cy (mm 11) 4 bi, ia cy (mm 12) 4 si, la cy (mm 13) 160 (numF f)]) (show (upd C 5 (C 5 + 1)) = (fnd C (cSh bi x1)) from fnd_f hcd (by decide))
    replace hP2 := (congrArg (fun z9 => va_P D vwCl z9 _) hq9).mp hP2
    replace hD2 := (congrArg (fun z9 => va_D _ z9) hq9).mp hD2
    clear hq9
    refine re_i (P, N, rm, rr) hx hb hr hlocks hP2 hD2 hS2 dX7_read_15 ?_
    exact (ans_f hcd (by decide) rfl)
  · refine tp (show wrR bi x1 = 0 from ew9) ?_
    obtain ⟨i0, hi4, rfl⟩ := nI_rn (n := 4) (by decide) (x := x1) ⟨hwr.1, Int32.lt_of_le_of_lt hwr.2 (by decide)⟩
    have hbi : bstN (nI i0) = i0 := bst_n (by omega)
    rw [hbi] at hw0
    have hs0 := hso i0 hi4
    have hs40 := hs0.2.1
    refine lv_istore_n (lv' := [(2, .int 0), (0, .ref (mm 0)), (1, .int (nI i0))]) hx hb dX7_read_5 rfl hl0 (by decide) rfl (fun ls1 hl1 => ?_)
    clear hl0 ls0
    refine lv_iload_n hx hb dX7_read_6 rfl (lv_at hl1 0 rfl) ?_
    refine lv_if_eq (tgt := 16) hx hb dX7_read_7 (by decide) (fun _ => ?_) (fun c => absurd (by decide) c)
    refine lv_aload_n hx hb dX7_read_16 rfl (lv_at hl1 1 rfl) ?_
    refine cV_v (wc := [mO cy mm ik tl fm tz vl iw rm rr om, ia cy (mm 1) 169 S, ia cy (mm 6) 6 P, ia cy (mm 7) 6 N]) (wr := [ia cy (mm 4) 7 C, ia cy (mm 11) 4 bi, ia cy (mm 12) 4 si, la cy (mm 13) 160 (numF f)]) (rest := []) hx hb hml hown hw hG hK hP1 hD1 hS1 hA hl1 kc_X7_rests kw_5_57 [] (c_X7_rests l D cy G H1.size mm ik tl fm tz vl iw rm rr om S P N (by first | omega | assumption)) [0, 1, 3, 4] [2, 5, 6, 7] rfl rfl rfl rfl rfl 0 rfl rfl rfl rfl rfl (Nat.le_of_ble_eq_true rfl) ⟨Nat.le_of_ble_eq_true rfl, Nat.le_of_ble_eq_true rfl⟩ dX7_read_17 ⟨Nat.le_of_ble_eq_true rfl, Nat.le_of_ble_eq_true rfl⟩ (fun u9 H2 locs2 hu9 hP2 hD2 hS2 => ?_)
    clear hP1 hD1 hS1 locs1 H1
    obtain ⟨N1_17, rfl⟩ : ∃ z9, z9 = u9 := ⟨_, rfl⟩
    replace hP2 : va_P D vwCl ([ia cy (mm 4) 7 C, ia cy (mm 11) 4 bi, ia cy (mm 12) 4 si, la cy (mm 13) 160 (numF f), mO cy mm ik tl fm tz vl iw (nI (RC S)) (b2i (RC S = 60)) om, ia cy (mm 1) 169 S, ia cy (mm 6) 6 (PR S), ia cy (mm 7) 6 N1_17]) H2 := hP2
    replace hD2 : va_D (va_A _ sz) ([ia cy (mm 4) 7 C, ia cy (mm 11) 4 bi, ia cy (mm 12) 4 si, la cy (mm 13) 160 (numF f), mO cy mm ik tl fm tz vl iw (nI (RC S)) (b2i (RC S = 60)) om, ia cy (mm 1) 169 S, ia cy (mm 6) 6 (PR S), ia cy (mm 7) 6 N1_17]) := hD2
    replace hP2 := hP2.sub (ws' := [mO cy mm ik tl fm tz vl iw (nI (RC S)) (b2i (RC S = 60)) om, ia cy (mm 1) 169 S, ia cy (mm 4) 7 C, ia cy (mm 6) 6 (PR S), ia cy (mm 7) 6 N1_17, ia cy (mm 11) 4 bi, ia cy (mm 12) 4 si, la cy (mm 13) 160 (numF f)]) [4, 5, 0, 6, 7, 1, 2, 3] rfl
    replace hD2 := hD2.sub (ws' := [mO cy mm ik tl fm tz vl iw (nI (RC S)) (b2i (RC S = 60)) om, ia cy (mm 1) 169 S, ia cy (mm 4) 7 C, ia cy (mm 6) 6 (PR S), ia cy (mm 7) 6 N1_17, ia cy (mm 11) 4 bi, ia cy (mm 12) 4 si, la cy (mm 13) 160 (numF f)]) [4, 5, 0, 6, 7, 1, 2, 3] (by decide) rfl
    refine lv_iconst (v := 0) hx hb dX7_read_20 (by decide) ?_
    refine lv_istore_n (lv' := [(3, .int 0), (2, .int 0), (0, .ref (mm 0)), (1, .int (nI i0))]) hx hb dX7_read_21 rfl hl1 (by decide) rfl (fun ls2 hl2 => ?_)
    clear hl1 ls1
    refine wlp (ι := Nat) (nL := 4) (fun x9 => (x9 ≤ bstN (si i0)) ∧ (∀ g, g < x9 → okR S (f i0) g = true)) (fun x9 => [mO cy mm ik tl fm tz vl iw (nI (RC S)) (b2i (RC S = 60)) om, ia cy (mm 1) 169 S, ia cy (mm 4) 7 C, ia cy (mm 6) 6 (PR S), ia cy (mm 7) 6 N1_17, ia cy (mm 11) 4 bi, ia cy (mm 12) 4 si, la cy (mm 13) 160 (numF f)]) (fun x9 => [(3, .int (nI x9)), (2, .int 0), (0, .ref (mm 0)), (1, .int (nI i0))]) (fun x9 => []) (fun x9 => bstN (si i0) - x9) 22 ?_ 0 (⟨by first | omega | assumption | rfl | simp_all, fun g hg => absurd hg (Nat.not_lt_zero g)⟩) rfl hP2 hD2 hS2 (lv_sub hl2 [0, 1, 2, 3] rfl)
    clear hP2 hD2 hS2 locs2 H2 hl2 ls2
    intro x9 hI ih_22 H3 locs3 ls3 hP3 hD3 hS3 hl3
    obtain ⟨i, rfl⟩ : ∃ z9, z9 = x9 := ⟨_, rfl⟩
    obtain ⟨hi, hok⟩ := hI
    replace hi : i ≤ bstN (si i0) := hi
    replace hok : ∀ g, g < i → okR S (f i0) g = true := hok
    replace hP3 : va_P D vwCl ([mO cy mm ik tl fm tz vl iw (nI (RC S)) (b2i (RC S = 60)) om, ia cy (mm 1) 169 S, ia cy (mm 4) 7 C, ia cy (mm 6) 6 (PR S), ia cy (mm 7) 6 N1_17, ia cy (mm 11) 4 bi, ia cy (mm 12) 4 si, la cy (mm 13) 160 (numF f)]) H3 := hP3
    replace hD3 : va_D (va_A _ sz) ([mO cy mm ik tl fm tz vl iw (nI (RC S)) (b2i (RC S = 60)) om, ia cy (mm 1) 169 S, ia cy (mm 4) 7 C, ia cy (mm 6) 6 (PR S), ia cy (mm 7) 6 N1_17, ia cy (mm 11) 4 bi, ia cy (mm 12) 4 si, la cy (mm 13) 160 (numF f)]) := hD3
    replace hl3 : lv_has ls3 4 [(3, .int (nI i)), (2, .int 0), (0, .ref (mm 0)), (1, .int (nI i0))] := hl3
    show W p l e _ s m _ below meth c _ _ _ _ _ (F0 m 22 ls3 [])
    refine lv_iload_n hx hb dX7_read_22 rfl (lv_at hl3 0 rfl) ?_
    refine lv_aload_n hx hb dX7_read_23 rfl (lv_at hl3 2 rfl) ?_
    refine va_get (D := D) (ci := 7) (v := .ref (mm 12)) (C := RX7) (T := TX7) (N := 23) hx hb hw iX7 hown hK hP3 0 rfl rfl 20 (by decide) (hw _ kw_4_84) (fun _ h9 => h9) rfl dX7_read_24 ?_
    refine lv_iload_n hx hb dX7_read_27 rfl (lv_at hl3 3 rfl) ?_
    refine ald_i (f := si) hx hb hK hP3 6 0 rfl rfl i0 rfl (by first | omega | assumption) (by decide) dX7_read_28 ?_
    refine tp (show (si i0) = nI (bstN (si i0)) from hs0.1) ?_
    refine ln_ge (tgt := 71) i (bstN (si i0)) rfl rfl (by omega) (by omega) hx hb dX7_read_29 (by decide) (fun c_29 => ?_) (fun c_29 => ?_)
    · refine lv_iconst (v := 0) hx hb dX7_read_71 (by decide) ?_
      have hcd : cSh bi (nI i0) = 7 := by unfold cSh; rw [hbi]; clear hx hb hml hown hr hlocks hw hsz hA hG hK hP3 hD3 hS3 hl3 ih_22; grind
      have hq9 : ([mO cy mm ik tl fm tz vl iw (nI (RC S)) (b2i (RC S = 60)) om, ia cy (mm 1) 169 S, ia cy (mm 4) 7 C, ia cy (mm 6) 6 (PR S), ia cy (mm 7) 6 N1_17, ia cy (mm 11) 4 bi, ia cy (mm 12) 4 si, la cy (mm 13) 160 (numF f)]) = ([mO cy mm ik tl fm tz vl iw (nI (RC S)) (b2i (RC S = 60)) om, ia cy (mm 1) 169 S, ia cy (mm 4) 7 (fnd C (cSh bi (nI i0))), ia cy (mm 6) 6 (PR S), ia cy (mm 7) 6 N1_17, ia cy (mm 11) 4 bi, ia cy (mm 12) 4 si, la cy (mm 13) 160 (numF f)]) := congrArg (fun z9 => [mO cy mm ik tl fm tz vl iw (nI (RC S)) (b2i (RC S = 60)) om, ia cy (mm 1) 169 S, ia cy (mm 4) 7 z9, ia cy (mm 6) 6 (PR S), ia cy (mm 7) 6 N1_17, ia cy (mm 11) 4 bi, ia cy (mm 12) 4 si, la cy (mm 13) 160 (numF f)]) (show C = (fnd C (cSh bi (nI i0))) from fnd_o hcd)
      replace hP3 := (congrArg (fun z9 => va_P D vwCl z9 _) hq9).mp hP3
      replace hD3 := (congrArg (fun z9 => va_D _ z9) hq9).mp hD3
      clear hq9
      refine re_i (PR S, N1_17, nI (RC S), b2i (RC S = 60)) hx hb hr hlocks hP3 hD3 hS3 dX7_read_72 ?_
      exact (ans_o hcd (by rw [hbi]; obtain rfl : i = bstN (si i0) := (by omega); exact vRead_no hok))
    · refine lv_aload_n hx hb dX7_read_32 rfl (lv_at hl3 2 rfl) ?_
      refine lv_iload_n hx hb dX7_read_33 rfl (lv_at hl3 0 rfl) ?_
      refine rV_i (wc := [mO cy mm ik tl fm tz vl iw (nI (RC S)) (b2i (RC S = 60)) om, ia cy (mm 1) 169 S]) (rest := []) hx hb hml hown hw hG hK hP3 hS3 hA hl3 kc_X7_isGap kw_4_169 [.int (nI i)] (c_X7_isGap l D cy G H3.size mm ik tl fm tz vl iw (nI (RC S)) (b2i (RC S = 60)) om S (nI i) (by first | omega | assumption)) [0, 1] rfl 0 rfl rfl rfl rfl rfl (Nat.le_of_ble_eq_true rfl) ⟨Nat.le_of_ble_eq_true rfl, Nat.le_of_ble_eq_true rfl⟩ dX7_read_34 ⟨Nat.le_of_ble_eq_true rfl, Nat.le_of_ble_eq_true rfl⟩ (fun r_34 H4 locs4 hr_34 hP4 hS4 => ?_)
      have hD4 := hD3
      clear hP3 hD3 hS3 locs3 H3
      subst hr_34
      refine lb_eq (tgt := 61) hx hb dX7_read_37 (by decide) (fun c_37 => ?_) (fun c_37 => ?_)
      · refine lv_iload_n hx hb dX7_read_61 rfl (lv_at hl3 0 rfl) ?_
        refine lv_iconst (v := 1) hx hb dX7_read_62 (by decide) ?_
        refine lv_iadd hx hb dX7_read_63 ?_
        refine tp (show ((nI i) + 1) = nI (i + 1) from nI_add _ _) ?_
        have hcd : cSh bi (nI i0) = 7 := by unfold cSh; rw [hbi]; clear hx hb hml hown hr hlocks hw hsz hA hG hK hP4 hD4 hS4 hl3 ih_22; grind
        have hq9 : ([mO cy mm ik tl fm tz vl iw (nI (RC S)) (b2i (RC S = 60)) om, ia cy (mm 1) 169 S, ia cy (mm 4) 7 C, ia cy (mm 6) 6 (PR S), ia cy (mm 7) 6 N1_17, ia cy (mm 11) 4 bi, ia cy (mm 12) 4 si, la cy (mm 13) 160 (numF f)]) = ([mO cy mm ik tl fm tz vl iw (nI (RC S)) (b2i (RC S = 60)) om, ia cy (mm 1) 169 S, ia cy (mm 4) 7 (fnd C (cSh bi (nI i0))), ia cy (mm 6) 6 (PR S), ia cy (mm 7) 6 N1_17, ia cy (mm 11) 4 bi, ia cy (mm 12) 4 si, la cy (mm 13) 160 (numF f)]) := congrArg (fun z9 => [mO cy mm ik tl fm tz vl iw (nI (RC S)) (b2i (RC S = 60)) om, ia cy (mm 1) 169 S, ia cy (mm 4) 7 z9, ia cy (mm 6) 6 (PR S), ia cy (mm 7) 6 N1_17, ia cy (mm 11) 4 bi, ia cy (mm 12) 4 si, la cy (mm 13) 160 (numF f)]) (show C = (fnd C (cSh bi (nI i0))) from fnd_o hcd)
        replace hP4 := (congrArg (fun z9 => va_P D vwCl z9 _) hq9).mp hP4
        replace hD4 := (congrArg (fun z9 => va_D _ z9) hq9).mp hD4
        clear hq9
        refine re_i (PR S, N1_17, nI (RC S), b2i (RC S = 60)) hx hb hr hlocks hP4 hD4 hS4 dX7_read_64 ?_
        exact (ans_o hcd (by rw [hbi]; exact vRead_at (by omega) hok (decide_eq_false (fun z9 => c_37 ⟨nI_pos' (by omega), by rw [wf_g wf]; exact (nI_ltI (by omega) (by omega)).mpr z9.1⟩))))
      · have hig : i < gcN S := by have h9 := c_37.2; rw [wf_g wf] at h9; exact (nI_ltI (by omega) (by omega)).mp h9
        refine lv_aload_n hx hb dX7_read_40 rfl (lv_at hl3 2 rfl) ?_
        refine va_get (D := D) (ci := 7) (v := .ref (mm 13)) (C := RX7) (T := TX7) (N := 23) hx hb hw iX7 hown hK hP4 0 rfl rfl 21 (by decide) (hw _ kw_4_85) (fun _ h9 => h9) rfl dX7_read_41 ?_
        refine lv_bipush (v := 40) hx hb dX7_read_44 (by decide) ?_
        refine lv_iload_n hx hb dX7_read_46 rfl (lv_at hl3 3 rfl) ?_
        refine lv_imul hx hb dX7_read_47 ?_
        refine tp (show (40 * (nI i0)) = nI (40 * i0) from pk_mul _ _) ?_
        refine lv_iload_n hx hb dX7_read_48 rfl (lv_at hl3 0 rfl) ?_
        refine lv_iadd hx hb dX7_read_49 ?_
        refine tp (show ((nI (40 * i0)) + (nI i)) = nI (40 * i0 + i) from nI_add _ _) ?_
        refine ald_l (f := numF f) hx hb hK hP4 7 1 rfl rfl (40 * i0 + i) rfl (by first | omega | assumption) (by decide) dX7_read_50 ?_
        refine tpl (show ((numF f) (40 * i0 + i)) = f i0 i from numF_at _ (by omega)) ?_
        refine lv_aload_n hx hb dX7_read_51 rfl (lv_at hl3 2 rfl) ?_
        refine lv_iload_n hx hb dX7_read_52 rfl (lv_at hl3 0 rfl) ?_
        refine rV_i (wc := [mO cy mm ik tl fm tz vl iw (nI (RC S)) (b2i (RC S = 60)) om, ia cy (mm 1) 169 S, ia cy (mm 6) 6 (PR S)]) (rest := [.long (f i0 i)]) hx hb hml hown hw hG hK hP4 hS4 hA hl3 kc_X7_leanOf kw_5_81 [.int (nI i)] (c_X7_leanOf l D cy G H4.size mm ik tl fm tz vl iw (nI (RC S)) (b2i (RC S = 60)) om S (PR S) i wf hig) [0, 1, 3] rfl 0 rfl rfl rfl rfl rfl (Nat.le_of_ble_eq_true rfl) ⟨Nat.le_of_ble_eq_true rfl, Nat.le_of_ble_eq_true rfl⟩ dX7_read_53 ⟨Nat.le_of_ble_eq_true rfl, Nat.le_of_ble_eq_true rfl⟩ (fun r_53 H5 locs5 hr_53 hP5 hS5 => ?_)
        have hD5 := hD4
        clear hP4 hD4 hS4 locs4 H4
        subst hr_53
        refine lv_i2l hx hb dX7_read_56 rfl ?_
        refine W.lcmp hx hb dX7_read_57 ?_
        refine lv_if_eq (tgt := 65) hx hb dX7_read_58 (by decide) (fun c_58 => ?_) (fun c_58 => ?_)
        · refine lv_iinc (v := nI (i + 1)) (lv' := [(3, .int (nI (i + 1))), (2, .int 0), (0, .ref (mm 0)), (1, .int (nI i0))]) hx hb dX7_read_65 hl3 (k := 0) rfl (nI_inc _) (by decide) rfl (fun ls4 hl4 => ?_)
          clear hl3 ls3
          refine lv_goto (tgt := 22) hx hb dX7_read_68 (by decide) ?_
          exact ih_22 (i + 1) (⟨by first | omega | assumption | rfl | simp_all, fun g hg => by
              by_cases e9 : g = i
              · subst e9; exact decide_eq_true ⟨hig, lg_eq.mp c_58⟩
              · exact hok g (by omega)⟩) (by (try dsimp only); omega) H5 locs5 ls4 hP5 hD5 hS5 (lv_sub hl4 [0, 1, 2, 3] rfl)
        · refine lv_iload_n hx hb dX7_read_61 rfl (lv_at hl3 0 rfl) ?_
          refine lv_iconst (v := 1) hx hb dX7_read_62 (by decide) ?_
          refine lv_iadd hx hb dX7_read_63 ?_
          refine tp (show ((nI i) + 1) = nI (i + 1) from nI_add _ _) ?_
          have hcd : cSh bi (nI i0) = 7 := by unfold cSh; rw [hbi]; clear hx hb hml hown hr hlocks hw hsz hA hG hK hP5 hD5 hS5 hl3 ih_22; grind
          have hq9 : ([mO cy mm ik tl fm tz vl iw (nI (RC S)) (b2i (RC S = 60)) om, ia cy (mm 1) 169 S, ia cy (mm 4) 7 C, ia cy (mm 6) 6 (PR S), ia cy (mm 7) 6 N1_17, ia cy (mm 11) 4 bi, ia cy (mm 12) 4 si, la cy (mm 13) 160 (numF f)]) = ([mO cy mm ik tl fm tz vl iw (nI (RC S)) (b2i (RC S = 60)) om, ia cy (mm 1) 169 S, ia cy (mm 4) 7 (fnd C (cSh bi (nI i0))), ia cy (mm 6) 6 (PR S), ia cy (mm 7) 6 N1_17, ia cy (mm 11) 4 bi, ia cy (mm 12) 4 si, la cy (mm 13) 160 (numF f)]) := congrArg (fun z9 => [mO cy mm ik tl fm tz vl iw (nI (RC S)) (b2i (RC S = 60)) om, ia cy (mm 1) 169 S, ia cy (mm 4) 7 z9, ia cy (mm 6) 6 (PR S), ia cy (mm 7) 6 N1_17, ia cy (mm 11) 4 bi, ia cy (mm 12) 4 si, la cy (mm 13) 160 (numF f)]) (show C = (fnd C (cSh bi (nI i0))) from fnd_o hcd)
          replace hP5 := (congrArg (fun z9 => va_P D vwCl z9 _) hq9).mp hP5
          replace hD5 := (congrArg (fun z9 => va_D _ z9) hq9).mp hD5
          clear hq9
          refine re_i (PR S, N1_17, nI (RC S), b2i (RC S = 60)) hx hb hr hlocks hP5 hD5 hS5 dX7_read_64 ?_
          exact (ans_o hcd (by rw [hbi]; exact vRead_at (by omega) hok (decide_eq_false (fun z9 => c_58 (lg_eq.mpr z9.2)))))
