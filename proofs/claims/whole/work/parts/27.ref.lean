theorem kc_X7_in : kT yX7_in cX7_in 6 (some .boolean) 3 := ⟨kw_4_154, kw_1_8, kw_4_155, by decide, by decide, by decide +kernel⟩
set_option maxHeartbeats 4000000 in
set_option maxRecDepth 100000 in
theorem c_X7_in (l : Launch) (D : va_G) (cy : Nat → ClassId) (G : Nat → Nat) (sz : Nat) (xv : Int64) (xl : Int64) (xh : Int64)  : Met l yX7_in (wm yX7_in cX7_in 6 (some .boolean)) { frames := 0, cells := 0, slots := 0, locals := 0 } (va_Pc [.long xv, .long xl, .long xh] (pd D (TY cy) G ([]) sz)) (va_Qi (fun r (_ : Unit) => r = b2i (xl ≤ xv ∧ xv ≤ xh)) (fun _ _ => True) (va_A [] sz)) 0 0 (va_A [] sz) := by
  refine mk_rd (by decide) RX7 rfl (Nat.le_of_ble_eq_true rfl) [(0, .long xv), (2, .long xl), (4, .long xh)] rfl ?_
  intro p e s m below meth c hx hb hml hown hr hlocks hw hsz hA hG hK H0 locs0 hP0 hS0 ls0 hl0
  refine lv_lload_n hx hb dX7_in_0 rfl (lv_at hl0 0 rfl) ?_
  refine lv_lload_n hx hb dX7_in_1 rfl (lv_at hl0 1 rfl) ?_
  refine W.lcmp hx hb dX7_in_2 ?_
  refine lv_if_lt (tgt := 17) hx hb dX7_in_3 (by decide) (fun c_3 => ?_) (fun c_3 => ?_)
  · refine lv_iconst (v := 0) hx hb dX7_in_17 (by decide) ?_
    exact rd_z hx hb hr hlocks hS0 dX7_in_18 rfl ((b2i_f (fun z9 => (lt_in.mpr z9).1 c_3)).symm)
  · refine lv_lload_n hx hb dX7_in_6 rfl (lv_at hl0 0 rfl) ?_
    refine lv_lload hx hb dX7_in_7 (lv_at hl0 2 rfl) ?_
    refine W.lcmp hx hb dX7_in_9 ?_
    refine lv_if_gt (tgt := 17) hx hb dX7_in_10 (by decide) (fun c_10 => ?_) (fun c_10 => ?_)
    · refine lv_iconst (v := 0) hx hb dX7_in_17 (by decide) ?_
      exact rd_z hx hb hr hlocks hS0 dX7_in_18 rfl ((b2i_f (fun z9 => (lt_in.mpr z9).2 c_10)).symm)
    · refine lv_iconst (v := 1) hx hb dX7_in_13 (by decide) ?_
      refine lv_goto (tgt := 18) hx hb dX7_in_14 (by decide) ?_
      exact rd_z hx hb hr hlocks hS0 dX7_in_18 rfl ((b2i_t (lt_in.mp ⟨c_3, c_10⟩)).symm)

theorem kc_X7_finds : kV yX7_finds cX7_finds 2 (some .int) 1 := ⟨kw_4_141, kw_s_26, kw_1_8, kw_4_142, by decide, by decide, by decide +kernel⟩
set_option maxHeartbeats 4000000 in
set_option maxRecDepth 100000 in
theorem c_X7_finds (l : Launch) (D : va_G) (cy : Nat → ClassId) (G : Nat → Nat) (sz : Nat) (mm : Nat → Nat) (ik : Int32) (tl : Int32) (fm : Int32) (tz : Int32) (vl : Int32) (iw : Int32) (rm : Int32) (rr : Int32) (om : Int32) (C : Nat → Int32) (k : Nat) (f : Int32) (hf : -1000000001 - f = nI k) (hk : k < 7) : Met l yX7_finds (wm yX7_finds cX7_finds 2 (some .int)) { frames := 0, cells := 0, slots := 0, locals := 0 } (va_Pc [.ref (mm 0), .int f] (pr D (TY cy) G ([mO cy mm ik tl fm tz vl iw rm rr om, ia cy (mm 4) 7 C]) sz)) (va_Qi (fun (r : Int32) (u : Unit) => r = f) (fun (u : Unit) t => po D (va_A ([mO cy mm ik tl fm tz vl iw rm rr om, ia cy (mm 4) 7 C]) sz) ([mO cy mm ik tl fm tz vl iw rm rr om, ia cy (mm 4) 7 (upd C k (C k + 1))]) t) (va_A ([mO cy mm ik tl fm tz vl iw rm rr om, ia cy (mm 4) 7 C]) sz)) 0 0 (va_A ([mO cy mm ik tl fm tz vl iw rm rr om, ia cy (mm 4) 7 C]) sz) := by
  refine mk_rw (by decide) RX7 rfl (Nat.le_of_ble_eq_true rfl) [(0, .ref (mm 0)), (1, .int f)] rfl ?_
  intro p e s m below meth c hx hb hml hown hr hlocks hin hw hsz hA hG hK H0 locs0 hP0 hD0 hS0 ls0 hl0
  clear hin
  refine lv_aload_n hx hb dX7_finds_0 rfl (lv_at hl0 0 rfl) ?_
  refine va_get (D := D) (ci := 7) (v := .ref (mm 4)) (C := RX7) (T := TX7) (N := 23) hx hb hw iX7 hown hK hP0 0 rfl rfl 3 (by decide) (hw _ kw_4_67) (fun _ h9 => h9) rfl dX7_finds_1 ?_
  refine lv_ldc (v := (-1000000001)) hx hb hown (hw _ kw_4_143) dX7_finds_4 ?_
  refine lv_iload_n hx hb dX7_finds_6 rfl (lv_at hl0 1 rfl) ?_
  refine lv_isub hx hb dX7_finds_7 ?_
  refine tp (show ((-1000000001) - f) = nI k from hf) ?_
  refine lv_dup2_11 hx hb dX7_finds_8 rfl rfl ?_
  refine ald_i (f := C) hx hb hK hP0 1 0 rfl rfl k rfl (by first | omega | assumption) (by decide) dX7_finds_9 ?_
  refine lv_iconst (v := 1) hx hb dX7_finds_10 (by decide) ?_
  refine lv_iadd hx hb dX7_finds_11 ?_
  refine ast_i (f := C) (ws' := [mO cy mm ik tl fm tz vl iw rm rr om, ia cy (mm 4) 7 (upd C k ((C k) + 1))]) hx hb hK hP0 hD0 hS0 1 0 rfl rfl k rfl (by first | omega | assumption) (by decide) rfl dX7_finds_12 (fun H1 locs1 hP1 hD1 hS1 => ?_)
  clear hP0 hD0 hS0 locs0 H0
  refine lv_iload_n hx hb dX7_finds_13 rfl (lv_at hl0 1 rfl) ?_
  have hq9 : ([mO cy mm ik tl fm tz vl iw rm rr om, ia cy (mm 4) 7 (upd C k ((C k) + 1))]) = [mO cy mm ik tl fm tz vl iw rm rr om, ia cy (mm 4) 7 (upd C k (C k + 1))] := by rfl
  replace hP1 := (congrArg (fun z9 => va_P D vwCl z9 _) hq9).mp hP1
  replace hD1 := (congrArg (fun z9 => va_D _ z9) hq9).mp hD1
  refine re_i () hx hb hr hlocks hP1 hD1 hS1 dX7_finds_14 ?_
  exact (rfl)

theorem kc_X7_has : kV yX7_has cX7_has 3 (some .int) 2 := ⟨kw_4_176, kw_s_31, kw_1_8, kw_4_177, by decide, by decide, by decide +kernel⟩
set_option maxHeartbeats 4000000 in
set_option maxRecDepth 100000 in
theorem c_X7_has (l : Launch) (D : va_G) (cy : Nat → ClassId) (G : Nat → Nat) (sz : Nat) (mm : Nat → Nat) (ik : Int32) (tl : Int32) (fm : Int32) (tz : Int32) (vl : Int32) (iw : Int32) (rm : Int32) (rr : Int32) (om : Int32) (S : Nat → Int32) (j : Nat) (k : Nat) (hj : j < 20) (hk : k < 8) : Met l yX7_has (wm yX7_has cX7_has 3 (some .int)) { frames := 0, cells := 0, slots := 0, locals := 0 } (va_Pc [.ref (mm 0), .int (nI j), .int (nI k)] (pd D (TY cy) G ([mO cy mm ik tl fm tz vl iw rm rr om, ia cy (mm 1) 169 S]) sz)) (va_Qi (fun r (_ : Unit) => r = S (9 + 8 * j + k)) (fun _ _ => True) (va_A [] sz)) 0 0 (va_A [] sz) := by
  refine mk_rd (by decide) RX7 rfl (Nat.le_of_ble_eq_true rfl) [(0, .ref (mm 0)), (1, .int (nI j)), (2, .int (nI k))] rfl ?_
  intro p e s m below meth c hx hb hml hown hr hlocks hw hsz hA hG hK H0 locs0 hP0 hS0 ls0 hl0
  refine lv_aload_n hx hb dX7_has_0 rfl (lv_at hl0 0 rfl) ?_
  refine va_get (D := D) (ci := 7) (v := .ref (mm 1)) (C := RX7) (T := TX7) (N := 23) hx hb hw iX7 hown hK hP0 0 rfl rfl 0 (by decide) (hw _ kw_4_64) (fun _ h9 => h9) rfl dX7_has_1 ?_
  refine lv_bipush (v := 9) hx hb dX7_has_4 (by decide) ?_
  refine lv_bipush (v := 8) hx hb dX7_has_6 (by decide) ?_
  refine lv_iload_n hx hb dX7_has_8 rfl (lv_at hl0 1 rfl) ?_
  refine lv_imul hx hb dX7_has_9 ?_
  refine tp (show (8 * (nI j)) = nI (8 * j) from pk_mul _ _) ?_
  refine lv_iadd hx hb dX7_has_10 ?_
  refine tp (show (9 + (nI (8 * j))) = nI (9 + 8 * j) from nI_add _ _) ?_
  refine lv_iload_n hx hb dX7_has_11 rfl (lv_at hl0 2 rfl) ?_
  refine lv_iadd hx hb dX7_has_12 ?_
  refine tp (show ((nI (9 + 8 * j)) + (nI k)) = nI (9 + 8 * j + k) from nI_add _ _) ?_
  refine ald_i (f := S) hx hb hK hP0 1 0 rfl rfl (9 + 8 * j + k) rfl (by first | omega | assumption) (by decide) dX7_has_13 ?_
  exact rd_i hx hb hr hlocks hS0 dX7_has_14 (rfl)

theorem kc_X7_isGap : kV yX7_isGap cX7_isGap 2 (some .boolean) 1 := ⟨kw_4_171, kw_s_30, kw_1_8, kw_4_172, by decide, by decide, by decide +kernel⟩
set_option maxHeartbeats 4000000 in
set_option maxRecDepth 100000 in
theorem c_X7_isGap (l : Launch) (D : va_G) (cy : Nat → ClassId) (G : Nat → Nat) (sz : Nat) (mm : Nat → Nat) (ik : Int32) (tl : Int32) (fm : Int32) (tz : Int32) (vl : Int32) (iw : Int32) (rm : Int32) (rr : Int32) (om : Int32) (S : Nat → Int32) (g : Int32) (wf : wf S) : Met l yX7_isGap (wm yX7_isGap cX7_isGap 2 (some .boolean)) { frames := 1, cells := 0, slots := 0, locals := 25 } (va_Pc [.ref (mm 0), .int g] (pd D (TY cy) G ([mO cy mm ik tl fm tz vl iw rm rr om, ia cy (mm 1) 169 S]) sz)) (va_Qi (fun r (_ : Unit) => r = b2i (0 ≤ g ∧ g < S 1)) (fun _ _ => True) (va_A [] sz)) 0 0 (va_A [] sz) := by
  refine mk_rd (by decide) RX7 rfl (Nat.le_of_ble_eq_true rfl) [(0, .ref (mm 0)), (1, .int g)] rfl ?_
  intro p e s m below meth c hx hb hml hown hr hlocks hw hsz hA hG hK H0 locs0 hP0 hS0 ls0 hl0
  have hg20 := wf_g20 wf
  refine lv_iload_n hx hb dX7_isGap_0 rfl (lv_at hl0 1 rfl) ?_
  refine lv_i2l hx hb dX7_isGap_1 rfl ?_
  refine lv_lconst (v := 0) hx hb dX7_isGap_2 (by decide) ?_
  refine lv_aload_n hx hb dX7_isGap_3 rfl (lv_at hl0 0 rfl) ?_
  refine va_get (D := D) (ci := 7) (v := .ref (mm 1)) (C := RX7) (T := TX7) (N := 23) hx hb hw iX7 hown hK hP0 0 rfl rfl 0 (by decide) (hw _ kw_4_64) (fun _ h9 => h9) rfl dX7_isGap_4 ?_
  refine lv_iconst (v := 1) hx hb dX7_isGap_7 (by decide) ?_
  refine ald_i (f := S) hx hb hK hP0 1 0 rfl rfl 1 rfl (by first | omega | assumption) (by decide) dX7_isGap_8 ?_
  refine tp (show (S 1) = nI (gcN S) from wf_g wf) ?_
  refine lv_iconst (v := 1) hx hb dX7_isGap_9 (by decide) ?_
  refine lv_isub hx hb dX7_isGap_10 ?_
  refine lv_i2l hx hb dX7_isGap_11 rfl ?_
  refine rT_i (wc := []) (rest := []) hx hb hml hown hw hG hK hP0 hS0 hA hl0 kc_X7_in kw_4_153 [.long g.toInt64, .long 0, .long (((nI (gcN S)) - 1).toInt64)] (c_X7_in l D cy G H0.size g.toInt64 0 (((nI (gcN S)) - 1).toInt64)) [] rfl rfl rfl (Nat.le_of_ble_eq_true rfl) ⟨Nat.le_of_ble_eq_true rfl, Nat.le_of_ble_eq_true rfl⟩ dX7_isGap_12 ⟨Nat.le_of_ble_eq_true rfl, Nat.le_of_ble_eq_true rfl⟩ (fun r_12 H1 locs1 hr_12 hP1 hS1 => ?_)
  clear hP0 hS0 locs0 H0
  subst hr_12
  refine tp (show (b2i (0 ≤ g.toInt64 ∧ g.toInt64 ≤ (((nI (gcN S)) - 1).toInt64))) = b2i (0 ≤ g ∧ g ≤ (nI (gcN S)) - 1) from b2i_iff (in_c (by decide) rfl)) ?_
  exact rd_z hx hb hr hlocks hS1 dX7_isGap_15 (b2i_z _) (b2i_iff (by rw [wf_g wf, pred_lt (by omega)]))

theorem kc_X7_isRoom : kV yX7_isRoom cX7_isRoom 2 (some .boolean) 1 := ⟨kw_4_158, kw_s_28, kw_1_8, kw_4_159, by decide, by decide, by decide +kernel⟩
set_option maxHeartbeats 4000000 in
set_option maxRecDepth 100000 in
theorem c_X7_isRoom (l : Launch) (D : va_G) (cy : Nat → ClassId) (G : Nat → Nat) (sz : Nat) (mm : Nat → Nat) (ik : Int32) (tl : Int32) (fm : Int32) (tz : Int32) (vl : Int32) (iw : Int32) (rm : Int32) (rr : Int32) (om : Int32) (S : Nat → Int32) (x : Int32) (wf : wf S) : Met l yX7_isRoom (wm yX7_isRoom cX7_isRoom 2 (some .boolean)) { frames := 1, cells := 0, slots := 0, locals := 25 } (va_Pc [.ref (mm 0), .int x] (pd D (TY cy) G ([mO cy mm ik tl fm tz vl iw rm rr om, ia cy (mm 1) 169 S]) sz)) (va_Qi (fun r (_ : Unit) => r = b2i (0 ≤ x ∧ x < S 0)) (fun _ _ => True) (va_A [] sz)) 0 0 (va_A [] sz) := by
  refine mk_rd (by decide) RX7 rfl (Nat.le_of_ble_eq_true rfl) [(0, .ref (mm 0)), (1, .int x)] rfl ?_
  intro p e s m below meth c hx hb hml hown hr hlocks hw hsz hA hG hK H0 locs0 hP0 hS0 ls0 hl0
  have hr6 := wf_r6 wf
  refine lv_iload_n hx hb dX7_isRoom_0 rfl (lv_at hl0 1 rfl) ?_
  refine lv_i2l hx hb dX7_isRoom_1 rfl ?_
  refine lv_lconst (v := 0) hx hb dX7_isRoom_2 (by decide) ?_
  refine lv_aload_n hx hb dX7_isRoom_3 rfl (lv_at hl0 0 rfl) ?_
  refine va_get (D := D) (ci := 7) (v := .ref (mm 1)) (C := RX7) (T := TX7) (N := 23) hx hb hw iX7 hown hK hP0 0 rfl rfl 0 (by decide) (hw _ kw_4_64) (fun _ h9 => h9) rfl dX7_isRoom_4 ?_
  refine lv_iconst (v := 0) hx hb dX7_isRoom_7 (by decide) ?_
  refine ald_i (f := S) hx hb hK hP0 1 0 rfl rfl 0 rfl (by first | omega | assumption) (by decide) dX7_isRoom_8 ?_
  refine tp (show (S 0) = nI (rcN S) from wf_r wf) ?_
  refine lv_iconst (v := 1) hx hb dX7_isRoom_9 (by decide) ?_
  refine lv_isub hx hb dX7_isRoom_10 ?_
  refine lv_i2l hx hb dX7_isRoom_11 rfl ?_
  refine rT_i (wc := []) (rest := []) hx hb hml hown hw hG hK hP0 hS0 hA hl0 kc_X7_in kw_4_153 [.long x.toInt64, .long 0, .long (((nI (rcN S)) - 1).toInt64)] (c_X7_in l D cy G H0.size x.toInt64 0 (((nI (rcN S)) - 1).toInt64)) [] rfl rfl rfl (Nat.le_of_ble_eq_true rfl) ⟨Nat.le_of_ble_eq_true rfl, Nat.le_of_ble_eq_true rfl⟩ dX7_isRoom_12 ⟨Nat.le_of_ble_eq_true rfl, Nat.le_of_ble_eq_true rfl⟩ (fun r_12 H1 locs1 hr_12 hP1 hS1 => ?_)
  clear hP0 hS0 locs0 H0
  subst hr_12
  refine tp (show (b2i (0 ≤ x.toInt64 ∧ x.toInt64 ≤ (((nI (rcN S)) - 1).toInt64))) = b2i (0 ≤ x ∧ x ≤ (nI (rcN S)) - 1) from b2i_iff (in_c (by decide) rfl)) ?_
  exact rd_z hx hb hr hlocks hS1 dX7_isRoom_15 (b2i_z _) (b2i_iff (by rw [wf_r wf, pred_lt (by omega)]))

theorem kc_X7_newRoom : kV yX7_newRoom cX7_newRoom 1 (some .int) 0 := ⟨kw_4_146, kw_s_27, kw_1_8, kw_4_147, by decide, by decide, by decide +kernel⟩
set_option maxHeartbeats 4000000 in
set_option maxRecDepth 100000 in
theorem c_X7_newRoom (l : Launch) (D : va_G) (cy : Nat → ClassId) (G : Nat → Nat) (sz : Nat) (mm : Nat → Nat) (ik : Int32) (tl : Int32) (fm : Int32) (tz : Int32) (vl : Int32) (iw : Int32) (rm : Int32) (rr : Int32) (om : Int32) (S : Nat → Int32) (wf : wf S) : Met l yX7_newRoom (wm yX7_newRoom cX7_newRoom 1 (some .int)) { frames := 0, cells := 0, slots := 0, locals := 0 } (va_Pc [.ref (mm 0)] (pr D (TY cy) G ([mO cy mm ik tl fm tz vl iw rm rr om, ia cy (mm 1) 169 S]) sz)) (va_Qi (fun (r : Int32) (u : Unit) => r = nI (rcN S)) (fun (u : Unit) t => po D (va_A ([mO cy mm ik tl fm tz vl iw rm rr om, ia cy (mm 1) 169 S]) sz) ([mO cy mm ik tl fm tz vl iw rm rr om, ia cy (mm 1) 169 (upd S 0 (nI (rcN S + 1)))]) t) (va_A ([mO cy mm ik tl fm tz vl iw rm rr om, ia cy (mm 1) 169 S]) sz)) 0 0 (va_A ([mO cy mm ik tl fm tz vl iw rm rr om, ia cy (mm 1) 169 S]) sz) := by
  refine mk_rw (by decide) RX7 rfl (Nat.le_of_ble_eq_true rfl) [(0, .ref (mm 0))] rfl ?_
  intro p e s m below meth c hx hb hml hown hr hlocks hin hw hsz hA hG hK H0 locs0 hP0 hD0 hS0 ls0 hl0
  clear hin
  have hr6 := wf_r6 wf
  refine lv_aload_n hx hb dX7_newRoom_0 rfl (lv_at hl0 0 rfl) ?_
  refine va_get (D := D) (ci := 7) (v := .ref (mm 1)) (C := RX7) (T := TX7) (N := 23) hx hb hw iX7 hown hK hP0 0 rfl rfl 0 (by decide) (hw _ kw_4_64) (fun _ h9 => h9) rfl dX7_newRoom_1 ?_
  refine lv_iconst (v := 0) hx hb dX7_newRoom_4 (by decide) ?_
  refine lv_dup2_11 hx hb dX7_newRoom_5 rfl rfl ?_
  refine ald_i (f := S) hx hb hK hP0 1 0 rfl rfl 0 rfl (by first | omega | assumption) (by decide) dX7_newRoom_6 ?_
  refine tp (show (S 0) = nI (rcN S) from wf_r wf) ?_
  refine lv_iconst (v := 1) hx hb dX7_newRoom_7 (by decide) ?_
  refine lv_iadd hx hb dX7_newRoom_8 ?_
  refine tp (show ((nI (rcN S)) + 1) = nI (rcN S + 1) from nI_add _ _) ?_
  refine ast_i (f := S) (ws' := [mO cy mm ik tl fm tz vl iw rm rr om, ia cy (mm 1) 169 (upd S 0 (nI (rcN S + 1)))]) hx hb hK hP0 hD0 hS0 1 0 rfl rfl 0 rfl (by first | omega | assumption) (by decide) rfl dX7_newRoom_9 (fun H1 locs1 hP1 hD1 hS1 => ?_)
  clear hP0 hD0 hS0 locs0 H0
  refine lv_aload_n hx hb dX7_newRoom_10 rfl (lv_at hl0 0 rfl) ?_
  refine va_get (D := D) (ci := 7) (v := .ref (mm 1)) (C := RX7) (T := TX7) (N := 23) hx hb hw iX7 hown hK hP1 0 rfl rfl 0 (by decide) (hw _ kw_4_64) (fun _ h9 => h9) rfl dX7_newRoom_11 ?_
  refine lv_iconst (v := 0) hx hb dX7_newRoom_14 (by decide) ?_
  refine ald_i (f := upd S 0 (nI (rcN S + 1))) hx hb hK hP1 1 0 rfl rfl 0 rfl (by first | omega | assumption) (by decide) dX7_newRoom_15 ?_
  refine tp (show ((upd S 0 (nI (rcN S + 1))) 0) = nI (rcN S + 1) from upd_s _ _ _) ?_
  refine lv_iconst (v := 1) hx hb dX7_newRoom_16 (by decide) ?_
  refine lv_isub hx hb dX7_newRoom_17 ?_
  refine tp (show ((nI (rcN S + 1)) - 1) = nI (rcN S) from nI_s1 _) ?_
  refine re_i () hx hb hr hlocks hP1 hD1 hS1 dX7_newRoom_18 ?_
  exact (rfl)

theorem kc_X7_newGap : kV yX7_newGap cX7_newGap 9 (some .int) 7 := ⟨kw_4_163, kw_s_29, kw_1_8, kw_4_164, by decide, by decide, by decide +kernel⟩
set_option maxHeartbeats 4000000 in
set_option maxRecDepth 100000 in
theorem c_X7_newGap (l : Launch) (D : va_G) (cy : Nat → ClassId) (G : Nat → Nat) (sz : Nat) (mm : Nat → Nat) (ik : Int32) (tl : Int32) (fm : Int32) (tz : Int32) (vl : Int32) (iw : Int32) (rm : Int32) (rr : Int32) (om : Int32) (S : Nat → Int32) (k1 : Int32) (r1 : Int32) (t1 : Int32) (w1 : Int32) (h1 : Int32) (d1 : Int32) (c1 : Int32) (wf : wf S) (hg : gcN S < 20) : Met l yX7_newGap (wm yX7_newGap cX7_newGap 9 (some .int)) { frames := 0, cells := 0, slots := 0, locals := 0 } (va_Pc [.ref (mm 0), .int k1, .int r1, .int t1, .int w1, .int h1, .int d1, .int c1] (pr D (TY cy) G ([mO cy mm ik tl fm tz vl iw rm rr om, ia cy (mm 1) 169 S]) sz)) (va_Qi (fun (r : Int32) (u : Unit) => r = nI (gcN S)) (fun (u : Unit) t => po D (va_A ([mO cy mm ik tl fm tz vl iw rm rr om, ia cy (mm 1) 169 S]) sz) ([mO cy mm ik tl fm tz vl iw rm rr om, ia cy (mm 1) 169 (newGap S (gcN S) k1 r1 t1 w1 h1 d1 c1)]) t) (va_A ([mO cy mm ik tl fm tz vl iw rm rr om, ia cy (mm 1) 169 S]) sz)) 0 0 (va_A ([mO cy mm ik tl fm tz vl iw rm rr om, ia cy (mm 1) 169 S]) sz) := by
  refine mk_rw (by decide) RX7 rfl (Nat.le_of_ble_eq_true rfl) [(0, .ref (mm 0)), (1, .int k1), (2, .int r1), (3, .int t1), (4, .int w1), (5, .int h1), (6, .int d1), (7, .int c1)] rfl ?_
  intro p e s m below meth c hx hb hml hown hr hlocks hin hw hsz hA hG hK H0 locs0 hP0 hD0 hS0 ls0 hl0
  clear hin
  refine lv_bipush (v := 9) hx hb dX7_newGap_0 (by decide) ?_
  refine lv_bipush (v := 8) hx hb dX7_newGap_2 (by decide) ?_
  refine lv_aload_n hx hb dX7_newGap_4 rfl (lv_at hl0 0 rfl) ?_
  refine va_get (D := D) (ci := 7) (v := .ref (mm 1)) (C := RX7) (T := TX7) (N := 23) hx hb hw iX7 hown hK hP0 0 rfl rfl 0 (by decide) (hw _ kw_4_64) (fun _ h9 => h9) rfl dX7_newGap_5 ?_
  refine lv_iconst (v := 1) hx hb dX7_newGap_8 (by decide) ?_
  refine ald_i (f := S) hx hb hK hP0 1 0 rfl rfl 1 rfl (by first | omega | assumption) (by decide) dX7_newGap_9 ?_
  refine tp (show (S 1) = nI (gcN S) from wf_g wf) ?_
  refine lv_imul hx hb dX7_newGap_10 ?_
  refine tp (show (8 * (nI (gcN S))) = nI (8 * (gcN S)) from pk_mul _ _) ?_
  refine lv_iadd hx hb dX7_newGap_11 ?_
  refine tp (show (9 + (nI (8 * (gcN S)))) = nI (9 + 8 * (gcN S)) from nI_add _ _) ?_
  refine lv_istore (lv' := [(8, .int (nI (9 + 8 * (gcN S)))), (0, .ref (mm 0)), (1, .int k1), (2, .int r1), (3, .int t1), (4, .int w1), (5, .int h1), (6, .int d1), (7, .int c1)]) hx hb dX7_newGap_12 hl0 (by decide) rfl (fun ls1 hl1 => ?_)
  clear hl0 ls0
  refine lv_aload_n hx hb dX7_newGap_14 rfl (lv_at hl1 1 rfl) ?_
  refine va_get (D := D) (ci := 7) (v := .ref (mm 1)) (C := RX7) (T := TX7) (N := 23) hx hb hw iX7 hown hK hP0 0 rfl rfl 0 (by decide) (hw _ kw_4_64) (fun _ h9 => h9) rfl dX7_newGap_15 ?_
  refine lv_iload hx hb dX7_newGap_18 (lv_at hl1 0 rfl) ?_
  refine lv_iconst (v := 0) hx hb dX7_newGap_20 (by decide) ?_
  refine lv_iadd hx hb dX7_newGap_21 ?_
  refine tp (show ((nI (9 + 8 * (gcN S))) + 0) = nI (9 + 8 * (gcN S) + 0) from nI_add _ _) ?_
  refine lv_iload_n hx hb dX7_newGap_22 rfl (lv_at hl1 2 rfl) ?_
  refine ast_i (f := S) (ws' := [mO cy mm ik tl fm tz vl iw rm rr om, ia cy (mm 1) 169 (upd S (9 + 8 * (gcN S)) k1)]) hx hb hK hP0 hD0 hS0 1 0 rfl rfl (9 + 8 * (gcN S)) (congrArg nI (by omega)) (by omega) (by decide) rfl dX7_newGap_23 (fun H1 locs1 hP1 hD1 hS1 => ?_)
  clear hP0 hD0 hS0 locs0 H0
  refine lv_aload_n hx hb dX7_newGap_24 rfl (lv_at hl1 1 rfl) ?_
  refine va_get (D := D) (ci := 7) (v := .ref (mm 1)) (C := RX7) (T := TX7) (N := 23) hx hb hw iX7 hown hK hP1 0 rfl rfl 0 (by decide) (hw _ kw_4_64) (fun _ h9 => h9) rfl dX7_newGap_25 ?_
  refine lv_iload hx hb dX7_newGap_28 (lv_at hl1 0 rfl) ?_
  refine lv_iconst (v := 1) hx hb dX7_newGap_30 (by decide) ?_
  refine lv_iadd hx hb dX7_newGap_31 ?_
  refine tp (show ((nI (9 + 8 * (gcN S))) + 1) = nI (9 + 8 * (gcN S) + 1) from nI_add _ _) ?_
  refine lv_iload_n hx hb dX7_newGap_32 rfl (lv_at hl1 3 rfl) ?_
  refine ast_i (f := upd S (9 + 8 * (gcN S)) k1) (ws' := [mO cy mm ik tl fm tz vl iw rm rr om, ia cy (mm 1) 169 (upd (upd S (9 + 8 * (gcN S)) k1) (10 + 8 * (gcN S)) r1)]) hx hb hK hP1 hD1 hS1 1 0 rfl rfl (10 + 8 * (gcN S)) (congrArg nI (by omega)) (by omega) (by decide) rfl dX7_newGap_33 (fun H2 locs2 hP2 hD2 hS2 => ?_)
  clear hP1 hD1 hS1 locs1 H1
  refine lv_aload_n hx hb dX7_newGap_34 rfl (lv_at hl1 1 rfl) ?_
  refine va_get (D := D) (ci := 7) (v := .ref (mm 1)) (C := RX7) (T := TX7) (N := 23) hx hb hw iX7 hown hK hP2 0 rfl rfl 0 (by decide) (hw _ kw_4_64) (fun _ h9 => h9) rfl dX7_newGap_35 ?_
  refine lv_iload hx hb dX7_newGap_38 (lv_at hl1 0 rfl) ?_
  refine lv_iconst (v := 2) hx hb dX7_newGap_40 (by decide) ?_
  refine lv_iadd hx hb dX7_newGap_41 ?_
  refine tp (show ((nI (9 + 8 * (gcN S))) + 2) = nI (9 + 8 * (gcN S) + 2) from nI_add _ _) ?_
  refine lv_iload_n hx hb dX7_newGap_42 rfl (lv_at hl1 4 rfl) ?_
  refine ast_i (f := upd (upd S (9 + 8 * (gcN S)) k1) (10 + 8 * (gcN S)) r1) (ws' := [mO cy mm ik tl fm tz vl iw rm rr om, ia cy (mm 1) 169 (upd (upd (upd S (9 + 8 * (gcN S)) k1) (10 + 8 * (gcN S)) r1) (11 + 8 * (gcN S)) t1)]) hx hb hK hP2 hD2 hS2 1 0 rfl rfl (11 + 8 * (gcN S)) (congrArg nI (by omega)) (by omega) (by decide) rfl dX7_newGap_43 (fun H3 locs3 hP3 hD3 hS3 => ?_)
  clear hP2 hD2 hS2 locs2 H2
  refine lv_aload_n hx hb dX7_newGap_44 rfl (lv_at hl1 1 rfl) ?_
  refine va_get (D := D) (ci := 7) (v := .ref (mm 1)) (C := RX7) (T := TX7) (N := 23) hx hb hw iX7 hown hK hP3 0 rfl rfl 0 (by decide) (hw _ kw_4_64) (fun _ h9 => h9) rfl dX7_newGap_45 ?_
  refine lv_iload hx hb dX7_newGap_48 (lv_at hl1 0 rfl) ?_
  refine lv_iconst (v := 3) hx hb dX7_newGap_50 (by decide) ?_
  refine lv_iadd hx hb dX7_newGap_51 ?_
  refine tp (show ((nI (9 + 8 * (gcN S))) + 3) = nI (9 + 8 * (gcN S) + 3) from nI_add _ _) ?_
  refine lv_iload hx hb dX7_newGap_52 (lv_at hl1 5 rfl) ?_
  refine ast_i (f := upd (upd (upd S (9 + 8 * (gcN S)) k1) (10 + 8 * (gcN S)) r1) (11 + 8 * (gcN S)) t1) (ws' := [mO cy mm ik tl fm tz vl iw rm rr om, ia cy (mm 1) 169 (upd (upd (upd (upd S (9 + 8 * (gcN S)) k1) (10 + 8 * (gcN S)) r1) (11 + 8 * (gcN S)) t1) (12 + 8 * (gcN S)) w1)]) hx hb hK hP3 hD3 hS3 1 0 rfl rfl (12 + 8 * (gcN S)) (congrArg nI (by omega)) (by omega) (by decide) rfl dX7_newGap_54 (fun H4 locs4 hP4 hD4 hS4 => ?_)
  clear hP3 hD3 hS3 locs3 H3
  refine lv_aload_n hx hb dX7_newGap_55 rfl (lv_at hl1 1 rfl) ?_
  refine va_get (D := D) (ci := 7) (v := .ref (mm 1)) (C := RX7) (T := TX7) (N := 23) hx hb hw iX7 hown hK hP4 0 rfl rfl 0 (by decide) (hw _ kw_4_64) (fun _ h9 => h9) rfl dX7_newGap_56 ?_
  refine lv_iload hx hb dX7_newGap_59 (lv_at hl1 0 rfl) ?_
  refine lv_iconst (v := 4) hx hb dX7_newGap_61 (by decide) ?_
  refine lv_iadd hx hb dX7_newGap_62 ?_
  refine tp (show ((nI (9 + 8 * (gcN S))) + 4) = nI (9 + 8 * (gcN S) + 4) from nI_add _ _) ?_
  refine lv_iload hx hb dX7_newGap_63 (lv_at hl1 6 rfl) ?_
  refine ast_i (f := upd (upd (upd (upd S (9 + 8 * (gcN S)) k1) (10 + 8 * (gcN S)) r1) (11 + 8 * (gcN S)) t1) (12 + 8 * (gcN S)) w1) (ws' := [mO cy mm ik tl fm tz vl iw rm rr om, ia cy (mm 1) 169 (upd (upd (upd (upd (upd S (9 + 8 * (gcN S)) k1) (10 + 8 * (gcN S)) r1) (11 + 8 * (gcN S)) t1) (12 + 8 * (gcN S)) w1) (13 + 8 * (gcN S)) h1)]) hx hb hK hP4 hD4 hS4 1 0 rfl rfl (13 + 8 * (gcN S)) (congrArg nI (by omega)) (by omega) (by decide) rfl dX7_newGap_65 (fun H5 locs5 hP5 hD5 hS5 => ?_)
  clear hP4 hD4 hS4 locs4 H4
  refine lv_aload_n hx hb dX7_newGap_66 rfl (lv_at hl1 1 rfl) ?_
  refine va_get (D := D) (ci := 7) (v := .ref (mm 1)) (C := RX7) (T := TX7) (N := 23) hx hb hw iX7 hown hK hP5 0 rfl rfl 0 (by decide) (hw _ kw_4_64) (fun _ h9 => h9) rfl dX7_newGap_67 ?_
  refine lv_iload hx hb dX7_newGap_70 (lv_at hl1 0 rfl) ?_
  refine lv_iconst (v := 5) hx hb dX7_newGap_72 (by decide) ?_
  refine lv_iadd hx hb dX7_newGap_73 ?_
  refine tp (show ((nI (9 + 8 * (gcN S))) + 5) = nI (9 + 8 * (gcN S) + 5) from nI_add _ _) ?_
  refine lv_iload hx hb dX7_newGap_74 (lv_at hl1 7 rfl) ?_
  refine ast_i (f := upd (upd (upd (upd (upd S (9 + 8 * (gcN S)) k1) (10 + 8 * (gcN S)) r1) (11 + 8 * (gcN S)) t1) (12 + 8 * (gcN S)) w1) (13 + 8 * (gcN S)) h1) (ws' := [mO cy mm ik tl fm tz vl iw rm rr om, ia cy (mm 1) 169 (upd (upd (upd (upd (upd (upd S (9 + 8 * (gcN S)) k1) (10 + 8 * (gcN S)) r1) (11 + 8 * (gcN S)) t1) (12 + 8 * (gcN S)) w1) (13 + 8 * (gcN S)) h1) (14 + 8 * (gcN S)) d1)]) hx hb hK hP5 hD5 hS5 1 0 rfl rfl (14 + 8 * (gcN S)) (congrArg nI (by omega)) (by omega) (by decide) rfl dX7_newGap_76 (fun H6 locs6 hP6 hD6 hS6 => ?_)
  clear hP5 hD5 hS5 locs5 H5
  refine lv_aload_n hx hb dX7_newGap_77 rfl (lv_at hl1 1 rfl) ?_
  refine va_get (D := D) (ci := 7) (v := .ref (mm 1)) (C := RX7) (T := TX7) (N := 23) hx hb hw iX7 hown hK hP6 0 rfl rfl 0 (by decide) (hw _ kw_4_64) (fun _ h9 => h9) rfl dX7_newGap_78 ?_
  refine lv_iload hx hb dX7_newGap_81 (lv_at hl1 0 rfl) ?_
  refine lv_bipush (v := 6) hx hb dX7_newGap_83 (by decide) ?_
  refine lv_iadd hx hb dX7_newGap_85 ?_
  refine tp (show ((nI (9 + 8 * (gcN S))) + 6) = nI (9 + 8 * (gcN S) + 6) from nI_add _ _) ?_
  refine lv_iload hx hb dX7_newGap_86 (lv_at hl1 8 rfl) ?_
  refine ast_i (f := upd (upd (upd (upd (upd (upd S (9 + 8 * (gcN S)) k1) (10 + 8 * (gcN S)) r1) (11 + 8 * (gcN S)) t1) (12 + 8 * (gcN S)) w1) (13 + 8 * (gcN S)) h1) (14 + 8 * (gcN S)) d1) (ws' := [mO cy mm ik tl fm tz vl iw rm rr om, ia cy (mm 1) 169 (upd (upd (upd (upd (upd (upd (upd S (9 + 8 * (gcN S)) k1) (10 + 8 * (gcN S)) r1) (11 + 8 * (gcN S)) t1) (12 + 8 * (gcN S)) w1) (13 + 8 * (gcN S)) h1) (14 + 8 * (gcN S)) d1) (15 + 8 * (gcN S)) c1)]) hx hb hK hP6 hD6 hS6 1 0 rfl rfl (15 + 8 * (gcN S)) (congrArg nI (by omega)) (by omega) (by decide) rfl dX7_newGap_88 (fun H7 locs7 hP7 hD7 hS7 => ?_)
  clear hP6 hD6 hS6 locs6 H6
  refine lv_aload_n hx hb dX7_newGap_89 rfl (lv_at hl1 1 rfl) ?_
  refine va_get (D := D) (ci := 7) (v := .ref (mm 1)) (C := RX7) (T := TX7) (N := 23) hx hb hw iX7 hown hK hP7 0 rfl rfl 0 (by decide) (hw _ kw_4_64) (fun _ h9 => h9) rfl dX7_newGap_90 ?_
  refine lv_iload hx hb dX7_newGap_93 (lv_at hl1 0 rfl) ?_
  refine lv_bipush (v := 7) hx hb dX7_newGap_95 (by decide) ?_
  refine lv_iadd hx hb dX7_newGap_97 ?_
  refine tp (show ((nI (9 + 8 * (gcN S))) + 7) = nI (9 + 8 * (gcN S) + 7) from nI_add _ _) ?_
  refine lv_iconst (v := 0) hx hb dX7_newGap_98 (by decide) ?_
  refine ast_i (f := upd (upd (upd (upd (upd (upd (upd S (9 + 8 * (gcN S)) k1) (10 + 8 * (gcN S)) r1) (11 + 8 * (gcN S)) t1) (12 + 8 * (gcN S)) w1) (13 + 8 * (gcN S)) h1) (14 + 8 * (gcN S)) d1) (15 + 8 * (gcN S)) c1) (ws' := [mO cy mm ik tl fm tz vl iw rm rr om, ia cy (mm 1) 169 (upd (upd (upd (upd (upd (upd (upd (upd S (9 + 8 * (gcN S)) k1) (10 + 8 * (gcN S)) r1) (11 + 8 * (gcN S)) t1) (12 + 8 * (gcN S)) w1) (13 + 8 * (gcN S)) h1) (14 + 8 * (gcN S)) d1) (15 + 8 * (gcN S)) c1) (16 + 8 * (gcN S)) 0)]) hx hb hK hP7 hD7 hS7 1 0 rfl rfl (16 + 8 * (gcN S)) (congrArg nI (by omega)) (by omega) (by decide) rfl dX7_newGap_99 (fun H8 locs8 hP8 hD8 hS8 => ?_)
  clear hP7 hD7 hS7 locs7 H7
  refine lv_aload_n hx hb dX7_newGap_100 rfl (lv_at hl1 1 rfl) ?_
  refine va_get (D := D) (ci := 7) (v := .ref (mm 1)) (C := RX7) (T := TX7) (N := 23) hx hb hw iX7 hown hK hP8 0 rfl rfl 0 (by decide) (hw _ kw_4_64) (fun _ h9 => h9) rfl dX7_newGap_101 ?_
  refine lv_iconst (v := 1) hx hb dX7_newGap_104 (by decide) ?_
  refine lv_dup2_11 hx hb dX7_newGap_105 rfl rfl ?_
  refine ald_i (f := upd (upd (upd (upd (upd (upd (upd (upd S (9 + 8 * (gcN S)) k1) (10 + 8 * (gcN S)) r1) (11 + 8 * (gcN S)) t1) (12 + 8 * (gcN S)) w1) (13 + 8 * (gcN S)) h1) (14 + 8 * (gcN S)) d1) (15 + 8 * (gcN S)) c1) (16 + 8 * (gcN S)) 0) hx hb hK hP8 1 0 rfl rfl 1 rfl (by first | omega | assumption) (by decide) dX7_newGap_106 ?_
  refine tp (show ((upd (upd (upd (upd (upd (upd (upd (upd S (9 + 8 * (gcN S)) k1) (10 + 8 * (gcN S)) r1) (11 + 8 * (gcN S)) t1) (12 + 8 * (gcN S)) w1) (13 + 8 * (gcN S)) h1) (14 + 8 * (gcN S)) d1) (15 + 8 * (gcN S)) c1) (16 + 8 * (gcN S)) 0) 1) = nI (gcN S) from by rw [upd_n (by omega), upd_n (by omega), upd_n (by omega), upd_n (by omega), upd_n (by omega), upd_n (by omega), upd_n (by omega), upd_n (by omega), wf_g wf]) ?_
  refine lv_iconst (v := 1) hx hb dX7_newGap_107 (by decide) ?_
  refine lv_iadd hx hb dX7_newGap_108 ?_
  refine tp (show ((nI (gcN S)) + 1) = nI (gcN S + 1) from nI_add _ _) ?_
  refine ast_i (f := upd (upd (upd (upd (upd (upd (upd (upd S (9 + 8 * (gcN S)) k1) (10 + 8 * (gcN S)) r1) (11 + 8 * (gcN S)) t1) (12 + 8 * (gcN S)) w1) (13 + 8 * (gcN S)) h1) (14 + 8 * (gcN S)) d1) (15 + 8 * (gcN S)) c1) (16 + 8 * (gcN S)) 0) (ws' := [mO cy mm ik tl fm tz vl iw rm rr om, ia cy (mm 1) 169 (upd (upd (upd (upd (upd (upd (upd (upd (upd S (9 + 8 * (gcN S)) k1) (10 + 8 * (gcN S)) r1) (11 + 8 * (gcN S)) t1) (12 + 8 * (gcN S)) w1) (13 + 8 * (gcN S)) h1) (14 + 8 * (gcN S)) d1) (15 + 8 * (gcN S)) c1) (16 + 8 * (gcN S)) 0) 1 (nI (gcN S + 1)))]) hx hb hK hP8 hD8 hS8 1 0 rfl rfl 1 rfl (by first | omega | assumption) (by decide) rfl dX7_newGap_109 (fun H9 locs9 hP9 hD9 hS9 => ?_)
  clear hP8 hD8 hS8 locs8 H8
  have hq9 : ([mO cy mm ik tl fm tz vl iw rm rr om, ia cy (mm 1) 169 (upd (upd (upd (upd (upd (upd (upd (upd (upd S (9 + 8 * (gcN S)) k1) (10 + 8 * (gcN S)) r1) (11 + 8 * (gcN S)) t1) (12 + 8 * (gcN S)) w1) (13 + 8 * (gcN S)) h1) (14 + 8 * (gcN S)) d1) (15 + 8 * (gcN S)) c1) (16 + 8 * (gcN S)) 0) 1 (nI (gcN S + 1)))]) = ([mO cy mm ik tl fm tz vl iw rm rr om, ia cy (mm 1) 169 (newGap S (gcN S) k1 r1 t1 w1 h1 d1 c1)]) := congrArg (fun z9 => [mO cy mm ik tl fm tz vl iw rm rr om, ia cy (mm 1) 169 z9]) (show (upd (upd (upd (upd (upd (upd (upd (upd (upd S (9 + 8 * (gcN S)) k1) (10 + 8 * (gcN S)) r1) (11 + 8 * (gcN S)) t1) (12 + 8 * (gcN S)) w1) (13 + 8 * (gcN S)) h1) (14 + 8 * (gcN S)) d1) (15 + 8 * (gcN S)) c1) (16 + 8 * (gcN S)) 0) 1 (nI (gcN S + 1))) = (newGap S (gcN S) k1 r1 t1 w1 h1 d1 c1) from rfl)
  replace hP9 := (congrArg (fun z9 => va_P D vwCl z9 _) hq9).mp hP9
  replace hD9 := (congrArg (fun z9 => va_D _ z9) hq9).mp hD9
  clear hq9
  refine lv_aload_n hx hb dX7_newGap_110 rfl (lv_at hl1 1 rfl) ?_
  refine va_get (D := D) (ci := 7) (v := .ref (mm 1)) (C := RX7) (T := TX7) (N := 23) hx hb hw iX7 hown hK hP9 0 rfl rfl 0 (by decide) (hw _ kw_4_64) (fun _ h9 => h9) rfl dX7_newGap_111 ?_
  refine lv_iconst (v := 1) hx hb dX7_newGap_114 (by decide) ?_
  refine ald_i (f := newGap S (gcN S) k1 r1 t1 w1 h1 d1 c1) hx hb hK hP9 1 0 rfl rfl 1 rfl (by first | omega | assumption) (by decide) dX7_newGap_115 ?_
  refine tp (show ((newGap S (gcN S) k1 r1 t1 w1 h1 d1 c1) 1) = nI (gcN S + 1) from upd_s _ _ _) ?_
  refine lv_iconst (v := 1) hx hb dX7_newGap_116 (by decide) ?_
  refine lv_isub hx hb dX7_newGap_117 ?_
  refine tp (show ((nI (gcN S + 1)) - 1) = nI (gcN S) from nI_s1 _) ?_
  refine re_i () hx hb hr hlocks hP9 hD9 hS9 dX7_newGap_118 ?_
  exact (rfl)

theorem kc_X7_breadth : kV yX7_breadth cX7_breadth 3 (some .int) 1 := ⟨kw_4_180, kw_s_32, kw_1_8, kw_4_181, by decide, by decide, by decide +kernel⟩
set_option maxHeartbeats 4000000 in
set_option maxRecDepth 100000 in
theorem c_X7_breadth (l : Launch) (D : va_G) (cy : Nat → ClassId) (G : Nat → Nat) (sz : Nat) (mm : Nat → Nat) (ik : Int32) (tl : Int32) (fm : Int32) (tz : Int32) (vl : Int32) (iw : Int32) (rm : Int32) (rr : Int32) (om : Int32) (S : Nat → Int32) (j : Nat) (wf : wf S) (hj : j < gcN S) : Met l yX7_breadth (wm yX7_breadth cX7_breadth 3 (some .int)) { frames := 1, cells := 0, slots := 0, locals := 22 } (va_Pc [.ref (mm 0), .int (nI j)] (pd D (TY cy) G ([mO cy mm ik tl fm tz vl iw rm rr om, ia cy (mm 1) 169 S]) sz)) (va_Qi (fun r (_ : Unit) => r = breadth S j) (fun _ _ => True) (va_A [] sz)) 0 0 (va_A [] sz) := by
  refine mk_rd (by decide) RX7 rfl (Nat.le_of_ble_eq_true rfl) [(0, .ref (mm 0)), (1, .int (nI j))] rfl ?_
  intro p e s m below meth c hx hb hml hown hr hlocks hw hsz hA hG hK H0 locs0 hP0 hS0 ls0 hl0
  have hg20 := wf_g20 wf
  have h01 := (wf_can wf).2 j
  refine lv_aload_n hx hb dX7_breadth_0 rfl (lv_at hl0 0 rfl) ?_
  refine lv_iload_n hx hb dX7_breadth_1 rfl (lv_at hl0 1 rfl) ?_
  refine lv_bipush (v := 7) hx hb dX7_breadth_2 (by decide) ?_
  refine rV_i (wc := [mO cy mm ik tl fm tz vl iw rm rr om, ia cy (mm 1) 169 S]) (rest := []) hx hb hml hown hw hG hK hP0 hS0 hA hl0 kc_X7_has kw_4_174 [.int (nI j), .int 7] (c_X7_has l D cy G H0.size mm ik tl fm tz vl iw rm rr om S j 7 (by first | omega | assumption) (by first | omega | assumption)) [0, 1] rfl 0 rfl rfl rfl rfl rfl (Nat.le_of_ble_eq_true rfl) ⟨Nat.le_of_ble_eq_true rfl, Nat.le_of_ble_eq_true rfl⟩ dX7_breadth_4 ⟨Nat.le_of_ble_eq_true rfl, Nat.le_of_ble_eq_true rfl⟩ (fun r_4 H1 locs1 hr_4 hP1 hS1 => ?_)
  clear hP0 hS0 locs0 H0
  subst hr_4
  refine tp (show (S (9 + 8 * j + 7)) = S (16 + 8 * j) from congrArg _ (by omega)) ?_
  refine lv_iconst (v := 1) hx hb dX7_breadth_7 (by decide) ?_
  refine lv_icmp_ne (tgt := 13) hx hb dX7_breadth_8 (by decide) (fun c_8 => ?_) (fun c_8 => ?_)
  · refine lv_aload_n hx hb dX7_breadth_13 rfl (lv_at hl0 0 rfl) ?_
    refine lv_iload_n hx hb dX7_breadth_14 rfl (lv_at hl0 1 rfl) ?_
    refine lv_iconst (v := 3) hx hb dX7_breadth_15 (by decide) ?_
    refine rV_i (wc := [mO cy mm ik tl fm tz vl iw rm rr om, ia cy (mm 1) 169 S]) (rest := []) hx hb hml hown hw hG hK hP1 hS1 hA hl0 kc_X7_has kw_4_174 [.int (nI j), .int 3] (c_X7_has l D cy G H1.size mm ik tl fm tz vl iw rm rr om S j 3 (by first | omega | assumption) (by first | omega | assumption)) [0, 1] rfl 0 rfl rfl rfl rfl rfl (Nat.le_of_ble_eq_true rfl) ⟨Nat.le_of_ble_eq_true rfl, Nat.le_of_ble_eq_true rfl⟩ dX7_breadth_16 ⟨Nat.le_of_ble_eq_true rfl, Nat.le_of_ble_eq_true rfl⟩ (fun r_16 H2 locs2 hr_16 hP2 hS2 => ?_)
    clear hP1 hS1 locs1 H1
    subst hr_16
    refine tp (show (S (9 + 8 * j + 3)) = S (12 + 8 * j) from congrArg _ (by omega)) ?_
    refine lv_istore_n (lv' := [(2, .int (S (12 + 8 * j))), (0, .ref (mm 0)), (1, .int (nI j))]) hx hb dX7_breadth_19 rfl hl0 (by decide) rfl (fun ls1 hl1 => ?_)
    clear hl0 ls0
    refine lv_aload_n hx hb dX7_breadth_20 rfl (lv_at hl1 1 rfl) ?_
    refine lv_iload_n hx hb dX7_breadth_21 rfl (lv_at hl1 2 rfl) ?_
    refine lv_iconst (v := 0) hx hb dX7_breadth_22 (by decide) ?_
    refine rV_i (wc := [mO cy mm ik tl fm tz vl iw rm rr om, ia cy (mm 1) 169 S]) (rest := []) hx hb hml hown hw hG hK hP2 hS2 hA hl1 kc_X7_has kw_4_174 [.int (nI j), .int 0] (c_X7_has l D cy G H2.size mm ik tl fm tz vl iw rm rr om S j 0 (by first | omega | assumption) (by first | omega | assumption)) [0, 1] rfl 0 rfl rfl rfl rfl rfl (Nat.le_of_ble_eq_true rfl) ⟨Nat.le_of_ble_eq_true rfl, Nat.le_of_ble_eq_true rfl⟩ dX7_breadth_23 ⟨Nat.le_of_ble_eq_true rfl, Nat.le_of_ble_eq_true rfl⟩ (fun r_23 H3 locs3 hr_23 hP3 hS3 => ?_)
    clear hP2 hS2 locs2 H2
    subst hr_23
    refine tp (show (S (9 + 8 * j + 0)) = S (9 + 8 * j) from congrArg _ (by omega)) ?_
    by_cases c_26_1 : S (9 + 8 * j) = 1
    · refine tp c_26_1 ?_
      refine lv_tableIn (off := 30) (tgt := 56) hx hb dX7_breadth_26 (by decide) (by decide) (by decide) (by decide) ?_
      refine lv_iload_n hx hb dX7_breadth_56 rfl (lv_at hl1 0 rfl) ?_
      refine lv_iconst (v := 2) hx hb dX7_breadth_57 (by decide) ?_
      refine lv_idiv hx hb dX7_breadth_58 (by decide) ?_
      exact rd_i hx hb hr hlocks hS3 dX7_breadth_59 (by clear hx hb hml hown hr hlocks hw hsz hA hG hK hP3 hS3 hl1; grind [breadth])
    by_cases c_26_2 : S (9 + 8 * j) = 2
    · refine tp c_26_2 ?_
      refine lv_tableIn (off := 84) (tgt := 110) hx hb dX7_breadth_26 (by decide) (by decide) (by decide) (by decide) ?_
      refine lv_iload_n hx hb dX7_breadth_110 rfl (lv_at hl1 0 rfl) ?_
      exact rd_i hx hb hr hlocks hS3 dX7_breadth_111 (by clear hx hb hml hown hr hlocks hw hsz hA hG hK hP3 hS3 hl1; grind [breadth])
    by_cases c_26_3 : S (9 + 8 * j) = 3
    · refine tp c_26_3 ?_
      refine lv_tableIn (off := 34) (tgt := 60) hx hb dX7_breadth_26 (by decide) (by decide) (by decide) (by decide) ?_
      refine lv_aload_n hx hb dX7_breadth_60 rfl (lv_at hl1 1 rfl) ?_
      refine va_get (D := D) (ci := 7) (v := .ref (mm 1)) (C := RX7) (T := TX7) (N := 23) hx hb hw iX7 hown hK hP3 0 rfl rfl 0 (by decide) (hw _ kw_4_64) (fun _ h9 => h9) rfl dX7_breadth_61 ?_
      refine lv_bipush (v := 6) hx hb dX7_breadth_64 (by decide) ?_
      refine ald_i (f := S) hx hb hK hP3 1 0 rfl rfl 6 rfl (by first | omega | assumption) (by decide) dX7_breadth_66 ?_
      exact rd_i hx hb hr hlocks hS3 dX7_breadth_67 (by clear hx hb hml hown hr hlocks hw hsz hA hG hK hP3 hS3 hl1; grind [breadth])
    by_cases c_26_4 : S (9 + 8 * j) = 4
    · refine tp c_26_4 ?_
      refine lv_tableIn (off := 42) (tgt := 68) hx hb dX7_breadth_26 (by decide) (by decide) (by decide) (by decide) ?_
      refine lv_aload_n hx hb dX7_breadth_68 rfl (lv_at hl1 1 rfl) ?_
      refine lv_iload_n hx hb dX7_breadth_69 rfl (lv_at hl1 2 rfl) ?_
      refine lv_iconst (v := 2) hx hb dX7_breadth_70 (by decide) ?_
      refine rV_i (wc := [mO cy mm ik tl fm tz vl iw rm rr om, ia cy (mm 1) 169 S]) (rest := []) hx hb hml hown hw hG hK hP3 hS3 hA hl1 kc_X7_has kw_4_174 [.int (nI j), .int 2] (c_X7_has l D cy G H3.size mm ik tl fm tz vl iw rm rr om S j 2 (by first | omega | assumption) (by first | omega | assumption)) [0, 1] rfl 0 rfl rfl rfl rfl rfl (Nat.le_of_ble_eq_true rfl) ⟨Nat.le_of_ble_eq_true rfl, Nat.le_of_ble_eq_true rfl⟩ dX7_breadth_71 ⟨Nat.le_of_ble_eq_true rfl, Nat.le_of_ble_eq_true rfl⟩ (fun r_71 H4 locs4 hr_71 hP4 hS4 => ?_)
      clear hP3 hS3 locs3 H3
      subst hr_71
      refine tp (show (S (9 + 8 * j + 2)) = S (11 + 8 * j) from congrArg _ (by omega)) ?_
      refine lv_iconst (v := (-1)) hx hb dX7_breadth_74 (by decide) ?_
      refine lv_icmp_ne (tgt := 108) hx hb dX7_breadth_75 (by decide) (fun c_75 => ?_) (fun c_75 => ?_)
      · refine lv_iload_n hx hb dX7_breadth_108 rfl (lv_at hl1 0 rfl) ?_
        exact rd_i hx hb hr hlocks hS4 dX7_breadth_109 (by clear hx hb hml hown hr hlocks hw hsz hA hG hK hP4 hS4 hl1; grind [breadth])
      · refine lv_aload_n hx hb dX7_breadth_78 rfl (lv_at hl1 1 rfl) ?_
        refine va_get (D := D) (ci := 7) (v := .ref (mm 1)) (C := RX7) (T := TX7) (N := 23) hx hb hw iX7 hown hK hP4 0 rfl rfl 0 (by decide) (hw _ kw_4_64) (fun _ h9 => h9) rfl dX7_breadth_79 ?_
        refine lv_iconst (v := 3) hx hb dX7_breadth_82 (by decide) ?_
        refine ald_i (f := S) hx hb hK hP4 1 0 rfl rfl 3 rfl (by first | omega | assumption) (by decide) dX7_breadth_83 ?_
        refine lv_if_le (tgt := 108) hx hb dX7_breadth_84 (by decide) (fun c_84 => ?_) (fun c_84 => ?_)
        · refine lv_iload_n hx hb dX7_breadth_108 rfl (lv_at hl1 0 rfl) ?_
          exact rd_i hx hb hr hlocks hS4 dX7_breadth_109 (by clear hx hb hml hown hr hlocks hw hsz hA hG hK hP4 hS4 hl1; grind [breadth])
        · refine lv_aload_n hx hb dX7_breadth_87 rfl (lv_at hl1 1 rfl) ?_
          refine va_get (D := D) (ci := 7) (v := .ref (mm 1)) (C := RX7) (T := TX7) (N := 23) hx hb hw iX7 hown hK hP4 0 rfl rfl 0 (by decide) (hw _ kw_4_64) (fun _ h9 => h9) rfl dX7_breadth_88 ?_
          refine lv_iconst (v := 4) hx hb dX7_breadth_91 (by decide) ?_
          refine ald_i (f := S) hx hb hK hP4 1 0 rfl rfl 4 rfl (by first | omega | assumption) (by decide) dX7_breadth_92 ?_
          refine lv_aload_n hx hb dX7_breadth_93 rfl (lv_at hl1 1 rfl) ?_
          refine lv_iload_n hx hb dX7_breadth_94 rfl (lv_at hl1 2 rfl) ?_
          refine lv_iconst (v := 5) hx hb dX7_breadth_95 (by decide) ?_
          refine rV_i (wc := [mO cy mm ik tl fm tz vl iw rm rr om, ia cy (mm 1) 169 S]) (rest := [.int (S 4)]) hx hb hml hown hw hG hK hP4 hS4 hA hl1 kc_X7_has kw_4_174 [.int (nI j), .int 5] (c_X7_has l D cy G H4.size mm ik tl fm tz vl iw rm rr om S j 5 (by first | omega | assumption) (by first | omega | assumption)) [0, 1] rfl 0 rfl rfl rfl rfl rfl (Nat.le_of_ble_eq_true rfl) ⟨Nat.le_of_ble_eq_true rfl, Nat.le_of_ble_eq_true rfl⟩ dX7_breadth_96 ⟨Nat.le_of_ble_eq_true rfl, Nat.le_of_ble_eq_true rfl⟩ (fun r_96 H5 locs5 hr_96 hP5 hS5 => ?_)
          clear hP4 hS4 locs4 H4
          subst hr_96
          refine tp (show (S (9 + 8 * j + 5)) = S (14 + 8 * j) from congrArg _ (by omega)) ?_
          refine lv_icmp_ne (tgt := 108) hx hb dX7_breadth_99 (by decide) (fun c_99 => ?_) (fun c_99 => ?_)
          · refine lv_iload_n hx hb dX7_breadth_108 rfl (lv_at hl1 0 rfl) ?_
            exact rd_i hx hb hr hlocks hS5 dX7_breadth_109 (by clear hx hb hml hown hr hlocks hw hsz hA hG hK hP5 hS5 hl1; grind [breadth])
          · refine lv_iconst (v := 2) hx hb dX7_breadth_102 (by decide) ?_
            refine lv_iload_n hx hb dX7_breadth_103 rfl (lv_at hl1 0 rfl) ?_
            refine lv_imul hx hb dX7_breadth_104 ?_
            refine lv_goto (tgt := 109) hx hb dX7_breadth_105 (by decide) ?_
            exact rd_i hx hb hr hlocks hS5 dX7_breadth_109 (by clear hx hb hml hown hr hlocks hw hsz hA hG hK hP5 hS5 hl1; grind [breadth])
    refine lv_tableOut (tgt := 110) hx hb dX7_breadth_26 (sw_out 1 4 (fun v h1 h2 e => ?_)) (by decide) ?_
    · have e := Int32.toInt_inj.mp (e.trans (show v = ((Int32.ofInt v).toInt) from by rcases (show v = 1 ∨ v = 2 ∨ v = 3 ∨ v = 4 by omega) with rfl | rfl | rfl | rfl <;> rfl))
      rcases (show v = 1 ∨ v = 2 ∨ v = 3 ∨ v = 4 by omega) with rfl | rfl | rfl | rfl
      · exact c_26_1 e
      · exact c_26_2 e
      · exact c_26_3 e
      · exact c_26_4 e
    · refine lv_iload_n hx hb dX7_breadth_110 rfl (lv_at hl1 0 rfl) ?_
      exact rd_i hx hb hr hlocks hS3 dX7_breadth_111 (by clear hx hb hml hown hr hlocks hw hsz hA hG hK hP3 hS3 hl1; grind [breadth])
  · refine lv_iconst (v := 0) hx hb dX7_breadth_11 (by decide) ?_
    exact rd_i hx hb hr hlocks hS1 dX7_breadth_12 (by clear hx hb hml hown hr hlocks hw hsz hA hG hK hP1 hS1 hl0; grind [breadth])

theorem kc_X7_push : kV yX7_push cX7_push 4 (some .int) 1 := ⟨kw_4_184, kw_s_33, kw_1_8, kw_4_185, by decide, by decide, by decide +kernel⟩
set_option maxHeartbeats 4000000 in
set_option maxRecDepth 100000 in
theorem c_X7_push (l : Launch) (D : va_G) (cy : Nat → ClassId) (G : Nat → Nat) (sz : Nat) (mm : Nat → Nat) (ik : Int32) (tl : Int32) (fm : Int32) (tz : Int32) (vl : Int32) (iw : Int32) (rm : Int32) (rr : Int32) (om : Int32) (S : Nat → Int32) (j : Nat) (wf : wf S) (hj : j < gcN S) : Met l yX7_push (wm yX7_push cX7_push 4 (some .int)) { frames := 1, cells := 0, slots := 0, locals := 22 } (va_Pc [.ref (mm 0), .int (nI j)] (pd D (TY cy) G ([mO cy mm ik tl fm tz vl iw rm rr om, ia cy (mm 1) 169 S]) sz)) (va_Qi (fun r (_ : Unit) => r = push S j) (fun _ _ => True) (va_A [] sz)) 0 0 (va_A [] sz) := by
  refine mk_rd (by decide) RX7 rfl (Nat.le_of_ble_eq_true rfl) [(0, .ref (mm 0)), (1, .int (nI j))] rfl ?_
  intro p e s m below meth c hx hb hml hown hr hlocks hw hsz hA hG hK H0 locs0 hP0 hS0 ls0 hl0
  have hg20 := wf_g20 wf
  have htw := turn_w (wf_fr wf) (wf_sd wf hj)
  refine lv_aload_n hx hb dX7_push_0 rfl (lv_at hl0 0 rfl) ?_
  refine lv_iload_n hx hb dX7_push_1 rfl (lv_at hl0 1 rfl) ?_
  refine lv_iconst (v := 2) hx hb dX7_push_2 (by decide) ?_
  refine rV_i (wc := [mO cy mm ik tl fm tz vl iw rm rr om, ia cy (mm 1) 169 S]) (rest := []) hx hb hml hown hw hG hK hP0 hS0 hA hl0 kc_X7_has kw_4_174 [.int (nI j), .int 2] (c_X7_has l D cy G H0.size mm ik tl fm tz vl iw rm rr om S j 2 (by first | omega | assumption) (by first | omega | assumption)) [0, 1] rfl 0 rfl rfl rfl rfl rfl (Nat.le_of_ble_eq_true rfl) ⟨Nat.le_of_ble_eq_true rfl, Nat.le_of_ble_eq_true rfl⟩ dX7_push_3 ⟨Nat.le_of_ble_eq_true rfl, Nat.le_of_ble_eq_true rfl⟩ (fun r_3 H1 locs1 hr_3 hP1 hS1 => ?_)
  clear hP0 hS0 locs0 H0
  subst hr_3
  refine tp (show (S (9 + 8 * j + 2)) = S (11 + 8 * j) from congrArg _ (by omega)) ?_
  refine lv_iconst (v := (-1)) hx hb dX7_push_6 (by decide) ?_
  refine lv_icmp_eq (tgt := 12) hx hb dX7_push_7 (by decide) (fun c_7 => ?_) (fun c_7 => ?_)
  · refine lv_aload_n hx hb dX7_push_12 rfl (lv_at hl0 0 rfl) ?_
    refine va_get (D := D) (ci := 7) (v := .ref (mm 1)) (C := RX7) (T := TX7) (N := 23) hx hb hw iX7 hown hK hP1 0 rfl rfl 0 (by decide) (hw _ kw_4_64) (fun _ h9 => h9) rfl dX7_push_13 ?_
    refine lv_iconst (v := 2) hx hb dX7_push_16 (by decide) ?_
    refine ald_i (f := S) hx hb hK hP1 1 0 rfl rfl 2 rfl (by first | omega | assumption) (by decide) dX7_push_17 ?_
    refine lv_iconst (v := 5) hx hb dX7_push_18 (by decide) ?_
    refine lv_aload_n hx hb dX7_push_19 rfl (lv_at hl0 0 rfl) ?_
    refine lv_iload_n hx hb dX7_push_20 rfl (lv_at hl0 1 rfl) ?_
    refine lv_iconst (v := 4) hx hb dX7_push_21 (by decide) ?_
    refine rV_i (wc := [mO cy mm ik tl fm tz vl iw rm rr om, ia cy (mm 1) 169 S]) (rest := [.int 5, .int (S 2)]) hx hb hml hown hw hG hK hP1 hS1 hA hl0 kc_X7_has kw_4_174 [.int (nI j), .int 4] (c_X7_has l D cy G H1.size mm ik tl fm tz vl iw rm rr om S j 4 (by first | omega | assumption) (by first | omega | assumption)) [0, 1] rfl 0 rfl rfl rfl rfl rfl (Nat.le_of_ble_eq_true rfl) ⟨Nat.le_of_ble_eq_true rfl, Nat.le_of_ble_eq_true rfl⟩ dX7_push_22 ⟨Nat.le_of_ble_eq_true rfl, Nat.le_of_ble_eq_true rfl⟩ (fun r_22 H2 locs2 hr_22 hP2 hS2 => ?_)
    clear hP1 hS1 locs1 H1
    subst hr_22
    refine tp (show (S (9 + 8 * j + 4)) = S (13 + 8 * j) from congrArg _ (by omega)) ?_
    refine lv_isub hx hb dX7_push_25 ?_
    refine lv_imul hx hb dX7_push_26 ?_
    refine lv_istore_n (lv' := [(2, .int ((S 2) * (5 - (S (13 + 8 * j))))), (0, .ref (mm 0)), (1, .int (nI j))]) hx hb dX7_push_27 rfl hl0 (by decide) rfl (fun ls1 hl1 => ?_)
    clear hl0 ls0
    refine lv_aload_n hx hb dX7_push_28 rfl (lv_at hl1 1 rfl) ?_
    refine va_get (D := D) (ci := 7) (v := .ref (mm 1)) (C := RX7) (T := TX7) (N := 23) hx hb hw iX7 hown hK hP2 0 rfl rfl 0 (by decide) (hw _ kw_4_64) (fun _ h9 => h9) rfl dX7_push_29 ?_
    refine lv_iconst (v := 4) hx hb dX7_push_32 (by decide) ?_
    refine ald_i (f := S) hx hb hK hP2 1 0 rfl rfl 4 rfl (by first | omega | assumption) (by decide) dX7_push_33 ?_
    refine lv_aload_n hx hb dX7_push_34 rfl (lv_at hl1 1 rfl) ?_
    refine lv_iload_n hx hb dX7_push_35 rfl (lv_at hl1 2 rfl) ?_
    refine lv_iconst (v := 5) hx hb dX7_push_36 (by decide) ?_
    refine rV_i (wc := [mO cy mm ik tl fm tz vl iw rm rr om, ia cy (mm 1) 169 S]) (rest := [.int (S 4)]) hx hb hml hown hw hG hK hP2 hS2 hA hl1 kc_X7_has kw_4_174 [.int (nI j), .int 5] (c_X7_has l D cy G H2.size mm ik tl fm tz vl iw rm rr om S j 5 (by first | omega | assumption) (by first | omega | assumption)) [0, 1] rfl 0 rfl rfl rfl rfl rfl (Nat.le_of_ble_eq_true rfl) ⟨Nat.le_of_ble_eq_true rfl, Nat.le_of_ble_eq_true rfl⟩ dX7_push_37 ⟨Nat.le_of_ble_eq_true rfl, Nat.le_of_ble_eq_true rfl⟩ (fun r_37 H3 locs3 hr_37 hP3 hS3 => ?_)
    clear hP2 hS2 locs2 H2
    subst hr_37
    refine tp (show (S (9 + 8 * j + 5)) = S (14 + 8 * j) from congrArg _ (by omega)) ?_
    refine lv_isub hx hb dX7_push_40 ?_
    refine lv_iconst (v := 4) hx hb dX7_push_41 (by decide) ?_
    refine lv_iadd hx hb dX7_push_42 ?_
    refine lv_iconst (v := 4) hx hb dX7_push_43 (by decide) ?_
    refine lv_irem hx hb dX7_push_44 (by decide) ?_
    refine lv_istore_n (lv' := [(3, .int ((((S 4) - (S (14 + 8 * j))) + 4) - (((S 4) - (S (14 + 8 * j))) + 4) / 4 * 4)), (2, .int ((S 2) * (5 - (S (13 + 8 * j))))), (0, .ref (mm 0)), (1, .int (nI j))]) hx hb dX7_push_45 rfl hl1 (by decide) rfl (fun ls2 hl2 => ?_)
    clear hl1 ls1
    refine lv_iload_n hx hb dX7_push_46 rfl (lv_at hl2 1 rfl) ?_
    refine lv_iload_n hx hb dX7_push_47 rfl (lv_at hl2 0 rfl) ?_
    refine lv_if_ne (tgt := 60) hx hb dX7_push_48 (by decide) (fun c_48 => ?_) (fun c_48 => ?_)
    · refine lv_iload_n hx hb dX7_push_60 rfl (lv_at hl2 0 rfl) ?_
      refine lv_iconst (v := 2) hx hb dX7_push_61 (by decide) ?_
      refine lv_icmp_ne (tgt := 78) hx hb dX7_push_62 (by decide) (fun c_62 => ?_) (fun c_62 => ?_)
      · refine lv_iconst (v := 0) hx hb dX7_push_78 (by decide) ?_
        refine lv_aload_n hx hb dX7_push_79 rfl (lv_at hl2 2 rfl) ?_
        refine va_get (D := D) (ci := 7) (v := .ref (mm 1)) (C := RX7) (T := TX7) (N := 23) hx hb hw iX7 hown hK hP3 0 rfl rfl 0 (by decide) (hw _ kw_4_64) (fun _ h9 => h9) rfl dX7_push_80 ?_
        refine lv_iconst (v := 3) hx hb dX7_push_83 (by decide) ?_
        refine ald_i (f := S) hx hb hK hP3 1 0 rfl rfl 3 rfl (by first | omega | assumption) (by decide) dX7_push_84 ?_
        refine lv_iconst (v := 4) hx hb dX7_push_85 (by decide) ?_
        refine lv_idiv hx hb dX7_push_86 (by decide) ?_
        refine lv_isub hx hb dX7_push_87 ?_
        refine lv_iadd hx hb dX7_push_88 ?_
        refine lv_istore_n (lv' := [(2, .int (((S 2) * (5 - (S (13 + 8 * j)))) + (0 - ((S 3) / 4)))), (3, .int ((((S 4) - (S (14 + 8 * j))) + 4) - (((S 4) - (S (14 + 8 * j))) + 4) / 4 * 4)), (0, .ref (mm 0)), (1, .int (nI j))]) hx hb dX7_push_89 rfl hl2 (by decide) rfl (fun ls3 hl3 => ?_)
        clear hl2 ls2
        refine lv_aload_n hx hb dX7_push_90 rfl (lv_at hl3 2 rfl) ?_
        refine lv_iload_n hx hb dX7_push_91 rfl (lv_at hl3 3 rfl) ?_
        refine lv_iconst (v := 0) hx hb dX7_push_92 (by decide) ?_
        refine rV_i (wc := [mO cy mm ik tl fm tz vl iw rm rr om, ia cy (mm 1) 169 S]) (rest := []) hx hb hml hown hw hG hK hP3 hS3 hA hl3 kc_X7_has kw_4_174 [.int (nI j), .int 0] (c_X7_has l D cy G H3.size mm ik tl fm tz vl iw rm rr om S j 0 (by first | omega | assumption) (by first | omega | assumption)) [0, 1] rfl 0 rfl rfl rfl rfl rfl (Nat.le_of_ble_eq_true rfl) ⟨Nat.le_of_ble_eq_true rfl, Nat.le_of_ble_eq_true rfl⟩ dX7_push_93 ⟨Nat.le_of_ble_eq_true rfl, Nat.le_of_ble_eq_true rfl⟩ (fun r_93 H4 locs4 hr_93 hP4 hS4 => ?_)
        clear hP3 hS3 locs3 H3
        subst hr_93
        refine tp (show (S (9 + 8 * j + 0)) = S (9 + 8 * j) from congrArg _ (by omega)) ?_
        refine lv_iconst (v := 5) hx hb dX7_push_96 (by decide) ?_
        refine lv_icmp_ne (tgt := 113) hx hb dX7_push_97 (by decide) (fun c_97 => ?_) (fun c_97 => ?_)
        · refine lv_iload_n hx hb dX7_push_113 rfl (lv_at hl3 0 rfl) ?_
          exact rd_i hx hb hr hlocks hS4 dX7_push_114 (by unfold push; rw [← htw]; clear hx hb hml hown hr hlocks hw hsz hA hG hK hP4 hS4 hl3; grind)
        · refine lv_iload_n hx hb dX7_push_100 rfl (lv_at hl3 0 rfl) ?_
          refine lv_iconst (v := 3) hx hb dX7_push_101 (by decide) ?_
          refine lv_aload_n hx hb dX7_push_102 rfl (lv_at hl3 2 rfl) ?_
          refine va_get (D := D) (ci := 7) (v := .ref (mm 1)) (C := RX7) (T := TX7) (N := 23) hx hb hw iX7 hown hK hP4 0 rfl rfl 0 (by decide) (hw _ kw_4_64) (fun _ h9 => h9) rfl dX7_push_103 ?_
          refine lv_iconst (v := 2) hx hb dX7_push_106 (by decide) ?_
          refine ald_i (f := S) hx hb hK hP4 1 0 rfl rfl 2 rfl (by first | omega | assumption) (by decide) dX7_push_107 ?_
          refine lv_imul hx hb dX7_push_108 ?_
          refine lv_isub hx hb dX7_push_109 ?_
          refine lv_goto (tgt := 114) hx hb dX7_push_110 (by decide) ?_
          exact rd_i hx hb hr hlocks hS4 dX7_push_114 (by unfold push; rw [← htw]; clear hx hb hml hown hr hlocks hw hsz hA hG hK hP4 hS4 hl3; grind)
      · refine lv_iconst (v := 0) hx hb dX7_push_65 (by decide) ?_
        refine lv_aload_n hx hb dX7_push_66 rfl (lv_at hl2 2 rfl) ?_
        refine va_get (D := D) (ci := 7) (v := .ref (mm 1)) (C := RX7) (T := TX7) (N := 23) hx hb hw iX7 hown hK hP3 0 rfl rfl 0 (by decide) (hw _ kw_4_64) (fun _ h9 => h9) rfl dX7_push_67 ?_
        refine lv_iconst (v := 3) hx hb dX7_push_70 (by decide) ?_
        refine ald_i (f := S) hx hb hK hP3 1 0 rfl rfl 3 rfl (by first | omega | assumption) (by decide) dX7_push_71 ?_
        refine lv_iconst (v := 2) hx hb dX7_push_72 (by decide) ?_
        refine lv_idiv hx hb dX7_push_73 (by decide) ?_
        refine lv_isub hx hb dX7_push_74 ?_
        refine lv_goto (tgt := 88) hx hb dX7_push_75 (by decide) ?_
        refine lv_iadd hx hb dX7_push_88 ?_
        refine lv_istore_n (lv' := [(2, .int (((S 2) * (5 - (S (13 + 8 * j)))) + (0 - ((S 3) / 2)))), (3, .int ((((S 4) - (S (14 + 8 * j))) + 4) - (((S 4) - (S (14 + 8 * j))) + 4) / 4 * 4)), (0, .ref (mm 0)), (1, .int (nI j))]) hx hb dX7_push_89 rfl hl2 (by decide) rfl (fun ls3 hl3 => ?_)
        clear hl2 ls2
        refine lv_aload_n hx hb dX7_push_90 rfl (lv_at hl3 2 rfl) ?_
        refine lv_iload_n hx hb dX7_push_91 rfl (lv_at hl3 3 rfl) ?_
        refine lv_iconst (v := 0) hx hb dX7_push_92 (by decide) ?_
        refine rV_i (wc := [mO cy mm ik tl fm tz vl iw rm rr om, ia cy (mm 1) 169 S]) (rest := []) hx hb hml hown hw hG hK hP3 hS3 hA hl3 kc_X7_has kw_4_174 [.int (nI j), .int 0] (c_X7_has l D cy G H3.size mm ik tl fm tz vl iw rm rr om S j 0 (by first | omega | assumption) (by first | omega | assumption)) [0, 1] rfl 0 rfl rfl rfl rfl rfl (Nat.le_of_ble_eq_true rfl) ⟨Nat.le_of_ble_eq_true rfl, Nat.le_of_ble_eq_true rfl⟩ dX7_push_93 ⟨Nat.le_of_ble_eq_true rfl, Nat.le_of_ble_eq_true rfl⟩ (fun r_93 H4 locs4 hr_93 hP4 hS4 => ?_)
        clear hP3 hS3 locs3 H3
        subst hr_93
        refine tp (show (S (9 + 8 * j + 0)) = S (9 + 8 * j) from congrArg _ (by omega)) ?_
        refine lv_iconst (v := 5) hx hb dX7_push_96 (by decide) ?_
        refine lv_icmp_ne (tgt := 113) hx hb dX7_push_97 (by decide) (fun c_97 => ?_) (fun c_97 => ?_)
        · refine lv_iload_n hx hb dX7_push_113 rfl (lv_at hl3 0 rfl) ?_
          exact rd_i hx hb hr hlocks hS4 dX7_push_114 (by unfold push; rw [← htw]; clear hx hb hml hown hr hlocks hw hsz hA hG hK hP4 hS4 hl3; grind)
        · refine lv_iload_n hx hb dX7_push_100 rfl (lv_at hl3 0 rfl) ?_
          refine lv_iconst (v := 3) hx hb dX7_push_101 (by decide) ?_
          refine lv_aload_n hx hb dX7_push_102 rfl (lv_at hl3 2 rfl) ?_
          refine va_get (D := D) (ci := 7) (v := .ref (mm 1)) (C := RX7) (T := TX7) (N := 23) hx hb hw iX7 hown hK hP4 0 rfl rfl 0 (by decide) (hw _ kw_4_64) (fun _ h9 => h9) rfl dX7_push_103 ?_
          refine lv_iconst (v := 2) hx hb dX7_push_106 (by decide) ?_
          refine ald_i (f := S) hx hb hK hP4 1 0 rfl rfl 2 rfl (by first | omega | assumption) (by decide) dX7_push_107 ?_
          refine lv_imul hx hb dX7_push_108 ?_
          refine lv_isub hx hb dX7_push_109 ?_
          refine lv_goto (tgt := 114) hx hb dX7_push_110 (by decide) ?_
          exact rd_i hx hb hr hlocks hS4 dX7_push_114 (by unfold push; rw [← htw]; clear hx hb hml hown hr hlocks hw hsz hA hG hK hP4 hS4 hl3; grind)
    · refine lv_aload_n hx hb dX7_push_51 rfl (lv_at hl2 2 rfl) ?_
      refine va_get (D := D) (ci := 7) (v := .ref (mm 1)) (C := RX7) (T := TX7) (N := 23) hx hb hw iX7 hown hK hP3 0 rfl rfl 0 (by decide) (hw _ kw_4_64) (fun _ h9 => h9) rfl dX7_push_52 ?_
      refine lv_iconst (v := 3) hx hb dX7_push_55 (by decide) ?_
      refine ald_i (f := S) hx hb hK hP3 1 0 rfl rfl 3 rfl (by first | omega | assumption) (by decide) dX7_push_56 ?_
      refine lv_goto (tgt := 88) hx hb dX7_push_57 (by decide) ?_
      refine lv_iadd hx hb dX7_push_88 ?_
      refine lv_istore_n (lv' := [(2, .int (((S 2) * (5 - (S (13 + 8 * j)))) + (S 3))), (3, .int ((((S 4) - (S (14 + 8 * j))) + 4) - (((S 4) - (S (14 + 8 * j))) + 4) / 4 * 4)), (0, .ref (mm 0)), (1, .int (nI j))]) hx hb dX7_push_89 rfl hl2 (by decide) rfl (fun ls3 hl3 => ?_)
      clear hl2 ls2
      refine lv_aload_n hx hb dX7_push_90 rfl (lv_at hl3 2 rfl) ?_
      refine lv_iload_n hx hb dX7_push_91 rfl (lv_at hl3 3 rfl) ?_
      refine lv_iconst (v := 0) hx hb dX7_push_92 (by decide) ?_
      refine rV_i (wc := [mO cy mm ik tl fm tz vl iw rm rr om, ia cy (mm 1) 169 S]) (rest := []) hx hb hml hown hw hG hK hP3 hS3 hA hl3 kc_X7_has kw_4_174 [.int (nI j), .int 0] (c_X7_has l D cy G H3.size mm ik tl fm tz vl iw rm rr om S j 0 (by first | omega | assumption) (by first | omega | assumption)) [0, 1] rfl 0 rfl rfl rfl rfl rfl (Nat.le_of_ble_eq_true rfl) ⟨Nat.le_of_ble_eq_true rfl, Nat.le_of_ble_eq_true rfl⟩ dX7_push_93 ⟨Nat.le_of_ble_eq_true rfl, Nat.le_of_ble_eq_true rfl⟩ (fun r_93 H4 locs4 hr_93 hP4 hS4 => ?_)
      clear hP3 hS3 locs3 H3
      subst hr_93
      refine tp (show (S (9 + 8 * j + 0)) = S (9 + 8 * j) from congrArg _ (by omega)) ?_
      refine lv_iconst (v := 5) hx hb dX7_push_96 (by decide) ?_
      refine lv_icmp_ne (tgt := 113) hx hb dX7_push_97 (by decide) (fun c_97 => ?_) (fun c_97 => ?_)
      · refine lv_iload_n hx hb dX7_push_113 rfl (lv_at hl3 0 rfl) ?_
        exact rd_i hx hb hr hlocks hS4 dX7_push_114 (by unfold push; rw [← htw]; clear hx hb hml hown hr hlocks hw hsz hA hG hK hP4 hS4 hl3; grind)
      · refine lv_iload_n hx hb dX7_push_100 rfl (lv_at hl3 0 rfl) ?_
        refine lv_iconst (v := 3) hx hb dX7_push_101 (by decide) ?_
        refine lv_aload_n hx hb dX7_push_102 rfl (lv_at hl3 2 rfl) ?_
        refine va_get (D := D) (ci := 7) (v := .ref (mm 1)) (C := RX7) (T := TX7) (N := 23) hx hb hw iX7 hown hK hP4 0 rfl rfl 0 (by decide) (hw _ kw_4_64) (fun _ h9 => h9) rfl dX7_push_103 ?_
        refine lv_iconst (v := 2) hx hb dX7_push_106 (by decide) ?_
        refine ald_i (f := S) hx hb hK hP4 1 0 rfl rfl 2 rfl (by first | omega | assumption) (by decide) dX7_push_107 ?_
        refine lv_imul hx hb dX7_push_108 ?_
        refine lv_isub hx hb dX7_push_109 ?_
        refine lv_goto (tgt := 114) hx hb dX7_push_110 (by decide) ?_
        exact rd_i hx hb hr hlocks hS4 dX7_push_114 (by unfold push; rw [← htw]; clear hx hb hml hown hr hlocks hw hsz hA hG hK hP4 hS4 hl3; grind)
  · refine lv_iconst (v := 0) hx hb dX7_push_10 (by decide) ?_
    exact rd_i hx hb hr hlocks hS1 dX7_push_11 (by unfold push; rw [← htw]; clear hx hb hml hown hr hlocks hw hsz hA hG hK hP1 hS1 hl0; grind)

theorem kc_X7_isNeeded : kV yX7_isNeeded cX7_isNeeded 2 (some .boolean) 1 := ⟨kw_4_201, kw_s_34, kw_1_8, kw_4_202, by decide, by decide, by decide +kernel⟩
set_option maxHeartbeats 4000000 in
set_option maxRecDepth 100000 in
theorem c_X7_isNeeded (l : Launch) (D : va_G) (cy : Nat → ClassId) (G : Nat → Nat) (sz : Nat) (mm : Nat → Nat) (ik : Int32) (tl : Int32) (fm : Int32) (tz : Int32) (vl : Int32) (iw : Int32) (rm : Int32) (rr : Int32) (om : Int32) (S : Nat → Int32) (j : Nat) (hj : j < 20) : Met l yX7_isNeeded (wm yX7_isNeeded cX7_isNeeded 2 (some .boolean)) { frames := 1, cells := 0, slots := 0, locals := 22 } (va_Pc [.ref (mm 0), .int (nI j)] (pd D (TY cy) G ([mO cy mm ik tl fm tz vl iw rm rr om, ia cy (mm 1) 169 S]) sz)) (va_Qi (fun r (_ : Unit) => r = b2i (needed (S (9 + 8 * j)))) (fun _ _ => True) (va_A [] sz)) 0 0 (va_A [] sz) := by
  refine mk_rd (by decide) RX7 rfl (Nat.le_of_ble_eq_true rfl) [(0, .ref (mm 0)), (1, .int (nI j))] rfl ?_
  intro p e s m below meth c hx hb hml hown hr hlocks hw hsz hA hG hK H0 locs0 hP0 hS0 ls0 hl0
  refine lv_aload_n hx hb dX7_isNeeded_0 rfl (lv_at hl0 0 rfl) ?_
  refine lv_iload_n hx hb dX7_isNeeded_1 rfl (lv_at hl0 1 rfl) ?_
  refine lv_iconst (v := 0) hx hb dX7_isNeeded_2 (by decide) ?_
  refine rV_i (wc := [mO cy mm ik tl fm tz vl iw rm rr om, ia cy (mm 1) 169 S]) (rest := []) hx hb hml hown hw hG hK hP0 hS0 hA hl0 kc_X7_has kw_4_174 [.int (nI j), .int 0] (c_X7_has l D cy G H0.size mm ik tl fm tz vl iw rm rr om S j 0 (by first | omega | assumption) (by first | omega | assumption)) [0, 1] rfl 0 rfl rfl rfl rfl rfl (Nat.le_of_ble_eq_true rfl) ⟨Nat.le_of_ble_eq_true rfl, Nat.le_of_ble_eq_true rfl⟩ dX7_isNeeded_3 ⟨Nat.le_of_ble_eq_true rfl, Nat.le_of_ble_eq_true rfl⟩ (fun r_3 H1 locs1 hr_3 hP1 hS1 => ?_)
  clear hP0 hS0 locs0 H0
  subst hr_3
  refine tp (show (S (9 + 8 * j + 0)) = S (9 + 8 * j) from congrArg _ (by omega)) ?_
  refine lv_iconst (v := 2) hx hb dX7_isNeeded_6 (by decide) ?_
  refine lv_icmp_eq (tgt := 20) hx hb dX7_isNeeded_7 (by decide) (fun c_7 => ?_) (fun c_7 => ?_)
  · refine lv_iconst (v := 1) hx hb dX7_isNeeded_20 (by decide) ?_
    refine lv_goto (tgt := 25) hx hb dX7_isNeeded_21 (by decide) ?_
    exact rd_z hx hb hr hlocks hS1 dX7_isNeeded_25 rfl (by clear hx hb hml hown hr hlocks hw hsz hA hG hK hP1 hS1 hl0; grind [b2i])
  · refine lv_aload_n hx hb dX7_isNeeded_10 rfl (lv_at hl0 0 rfl) ?_
    refine lv_iload_n hx hb dX7_isNeeded_11 rfl (lv_at hl0 1 rfl) ?_
    refine lv_iconst (v := 0) hx hb dX7_isNeeded_12 (by decide) ?_
    refine rV_i (wc := [mO cy mm ik tl fm tz vl iw rm rr om, ia cy (mm 1) 169 S]) (rest := []) hx hb hml hown hw hG hK hP1 hS1 hA hl0 kc_X7_has kw_4_174 [.int (nI j), .int 0] (c_X7_has l D cy G H1.size mm ik tl fm tz vl iw rm rr om S j 0 (by first | omega | assumption) (by first | omega | assumption)) [0, 1] rfl 0 rfl rfl rfl rfl rfl (Nat.le_of_ble_eq_true rfl) ⟨Nat.le_of_ble_eq_true rfl, Nat.le_of_ble_eq_true rfl⟩ dX7_isNeeded_13 ⟨Nat.le_of_ble_eq_true rfl, Nat.le_of_ble_eq_true rfl⟩ (fun r_13 H2 locs2 hr_13 hP2 hS2 => ?_)
    clear hP1 hS1 locs1 H1
    subst hr_13
    refine tp (show (S (9 + 8 * j + 0)) = S (9 + 8 * j) from congrArg _ (by omega)) ?_
    refine lv_iconst (v := 5) hx hb dX7_isNeeded_16 (by decide) ?_
    refine lv_icmp_ne (tgt := 24) hx hb dX7_isNeeded_17 (by decide) (fun c_17 => ?_) (fun c_17 => ?_)
    · refine lv_iconst (v := 0) hx hb dX7_isNeeded_24 (by decide) ?_
      exact rd_z hx hb hr hlocks hS2 dX7_isNeeded_25 rfl (by clear hx hb hml hown hr hlocks hw hsz hA hG hK hP2 hS2 hl0; grind [b2i])
    · refine lv_iconst (v := 1) hx hb dX7_isNeeded_20 (by decide) ?_
      refine lv_goto (tgt := 25) hx hb dX7_isNeeded_21 (by decide) ?_
      exact rd_z hx hb hr hlocks hS2 dX7_isNeeded_25 rfl (by clear hx hb hml hown hr hlocks hw hsz hA hG hK hP2 hS2 hl0; grind [b2i])

theorem kc_X7_leastOf : kT yX7_leastOf cX7_leastOf 1 (some .int) 1 := ⟨kw_4_209, kw_1_8, kw_4_210, by decide, by decide, by decide +kernel⟩
set_option maxHeartbeats 4000000 in
set_option maxRecDepth 100000 in
theorem c_X7_leastOf (l : Launch) (D : va_G) (cy : Nat → ClassId) (G : Nat → Nat) (sz : Nat) (f : Int32)  : Met l yX7_leastOf (wm yX7_leastOf cX7_leastOf 1 (some .int)) { frames := 0, cells := 0, slots := 0, locals := 0 } (va_Pc [.int f] (pd D (TY cy) G ([]) sz)) (va_Qi (fun r (_ : Unit) => r = if f = 3 then -99 else 0) (fun _ _ => True) (va_A [] sz)) 0 0 (va_A [] sz) := by
  refine mk_rd (by decide) RX7 rfl (Nat.le_of_ble_eq_true rfl) [(0, .int f)] rfl ?_
  intro p e s m below meth c hx hb hml hown hr hlocks hw hsz hA hG hK H0 locs0 hP0 hS0 ls0 hl0
  refine lv_iload_n hx hb dX7_leastOf_0 rfl (lv_at hl0 0 rfl) ?_
  refine lv_iconst (v := 3) hx hb dX7_leastOf_1 (by decide) ?_
  refine lv_icmp_ne (tgt := 10) hx hb dX7_leastOf_2 (by decide) (fun c_2 => ?_) (fun c_2 => ?_)
  · refine lv_iconst (v := 0) hx hb dX7_leastOf_10 (by decide) ?_
    exact rd_i hx hb hr hlocks hS0 dX7_leastOf_11 (by clear hx hb hml hown hr hlocks hw hsz hA hG hK hP0 hS0 hl0; grind)
  · refine lv_bipush (v := (-99)) hx hb dX7_leastOf_5 (by decide) ?_
    refine lv_goto (tgt := 11) hx hb dX7_leastOf_7 (by decide) ?_
    exact rd_i hx hb hr hlocks hS0 dX7_leastOf_11 (by clear hx hb hml hown hr hlocks hw hsz hA hG hK hP0 hS0 hl0; grind)

theorem kc_X7_mostOf : kT yX7_mostOf cX7_mostOf 1 (some .int) 1 := ⟨kw_4_212, kw_1_8, kw_4_213, by decide, by decide, by decide +kernel⟩
set_option maxHeartbeats 4000000 in
set_option maxRecDepth 100000 in
theorem c_X7_mostOf (l : Launch) (D : va_G) (cy : Nat → ClassId) (G : Nat → Nat) (sz : Nat) (f : Int32)  : Met l yX7_mostOf (wm yX7_mostOf cX7_mostOf 1 (some .int)) { frames := 0, cells := 0, slots := 0, locals := 0 } (va_Pc [.int f] (pd D (TY cy) G ([]) sz)) (va_Qi (fun r (_ : Unit) => r = if f = 0 then 40 else if f = 2 then 3 else if f = 5 then 100 else 99) (fun _ _ => True) (va_A [] sz)) 0 0 (va_A [] sz) := by
  refine mk_rd (by decide) RX7 rfl (Nat.le_of_ble_eq_true rfl) [(0, .int f)] rfl ?_
  intro p e s m below meth c hx hb hml hown hr hlocks hw hsz hA hG hK H0 locs0 hP0 hS0 ls0 hl0
  refine lv_iload_n hx hb dX7_mostOf_0 rfl (lv_at hl0 0 rfl) ?_
  refine lv_if_ne (tgt := 9) hx hb dX7_mostOf_1 (by decide) (fun c_1 => ?_) (fun c_1 => ?_)
  · refine lv_iload_n hx hb dX7_mostOf_9 rfl (lv_at hl0 0 rfl) ?_
    refine lv_iconst (v := 2) hx hb dX7_mostOf_10 (by decide) ?_
    refine lv_icmp_ne (tgt := 18) hx hb dX7_mostOf_11 (by decide) (fun c_11 => ?_) (fun c_11 => ?_)
    · refine lv_iload_n hx hb dX7_mostOf_18 rfl (lv_at hl0 0 rfl) ?_
      refine lv_iconst (v := 5) hx hb dX7_mostOf_19 (by decide) ?_
      refine lv_icmp_ne (tgt := 28) hx hb dX7_mostOf_20 (by decide) (fun c_20 => ?_) (fun c_20 => ?_)
      · refine lv_bipush (v := 99) hx hb dX7_mostOf_28 (by decide) ?_
        exact rd_i hx hb hr hlocks hS0 dX7_mostOf_30 (by clear hx hb hml hown hr hlocks hw hsz hA hG hK hP0 hS0 hl0; grind)
      · refine lv_bipush (v := 100) hx hb dX7_mostOf_23 (by decide) ?_
        refine lv_goto (tgt := 30) hx hb dX7_mostOf_25 (by decide) ?_
        exact rd_i hx hb hr hlocks hS0 dX7_mostOf_30 (by clear hx hb hml hown hr hlocks hw hsz hA hG hK hP0 hS0 hl0; grind)
    · refine lv_iconst (v := 3) hx hb dX7_mostOf_14 (by decide) ?_
      refine lv_goto (tgt := 30) hx hb dX7_mostOf_15 (by decide) ?_
      exact rd_i hx hb hr hlocks hS0 dX7_mostOf_30 (by clear hx hb hml hown hr hlocks hw hsz hA hG hK hP0 hS0 hl0; grind)
  · refine lv_bipush (v := 40) hx hb dX7_mostOf_4 (by decide) ?_
    refine lv_goto (tgt := 30) hx hb dX7_mostOf_6 (by decide) ?_
    exact rd_i hx hb hr hlocks hS0 dX7_mostOf_30 (by clear hx hb hml hown hr hlocks hw hsz hA hG hK hP0 hS0 hl0; grind)

theorem kc_X7_flowOf : kV yX7_flowOf cX7_flowOf 3 (some .int) 1 := ⟨kw_5_75, kw_s_52, kw_1_8, kw_5_76, by decide, by decide, by decide +kernel⟩
set_option maxHeartbeats 4000000 in
set_option maxRecDepth 100000 in
theorem c_X7_flowOf (l : Launch) (D : va_G) (cy : Nat → ClassId) (G : Nat → Nat) (sz : Nat) (mm : Nat → Nat) (ik : Int32) (tl : Int32) (fm : Int32) (tz : Int32) (vl : Int32) (iw : Int32) (rm : Int32) (rr : Int32) (om : Int32) (S : Nat → Int32) (P : Nat → Int32) (j : Nat) (wf : wf S) (hj : j < gcN S) : Met l yX7_flowOf (wm yX7_flowOf cX7_flowOf 3 (some .int)) { frames := 2, cells := 0, slots := 0, locals := 45 } (va_Pc [.ref (mm 0), .int (nI j)] (pd D (TY cy) G ([mO cy mm ik tl fm tz vl iw rm rr om, ia cy (mm 1) 169 S, ia cy (mm 6) 6 P]) sz)) (va_Qi (fun r (_ : Unit) => r = flow S P j) (fun _ _ => True) (va_A [] sz)) 0 0 (va_A [] sz) := by
  refine mk_rd (by decide) RX7 rfl (Nat.le_of_ble_eq_true rfl) [(0, .ref (mm 0)), (1, .int (nI j))] rfl ?_
  intro p e s m below meth c hx hb hml hown hr hlocks hw hsz hA hG hK H0 locs0 hP0 hS0 ls0 hl0
  have hg20 := wf_g20 wf
  have hr6 := wf_rm6 wf hj
  refine lv_aload_n hx hb dX7_flowOf_0 rfl (lv_at hl0 0 rfl) ?_
  refine lv_iload_n hx hb dX7_flowOf_1 rfl (lv_at hl0 1 rfl) ?_
  refine lv_iconst (v := 2) hx hb dX7_flowOf_2 (by decide) ?_
  refine rV_i (wc := [mO cy mm ik tl fm tz vl iw rm rr om, ia cy (mm 1) 169 S]) (rest := []) hx hb hml hown hw hG hK hP0 hS0 hA hl0 kc_X7_has kw_4_174 [.int (nI j), .int 2] (c_X7_has l D cy G H0.size mm ik tl fm tz vl iw rm rr om S j 2 (by first | omega | assumption) (by first | omega | assumption)) [0, 1] rfl 0 rfl rfl rfl rfl rfl (Nat.le_of_ble_eq_true rfl) ⟨Nat.le_of_ble_eq_true rfl, Nat.le_of_ble_eq_true rfl⟩ dX7_flowOf_3 ⟨Nat.le_of_ble_eq_true rfl, Nat.le_of_ble_eq_true rfl⟩ (fun r_3 H1 locs1 hr_3 hP1 hS1 => ?_)
  clear hP0 hS0 locs0 H0
  subst hr_3
  refine tp (show (S (9 + 8 * j + 2)) = S (11 + 8 * j) from congrArg _ (by omega)) ?_
  refine lv_iconst (v := (-1)) hx hb dX7_flowOf_6 (by decide) ?_
  refine lv_icmp_ne (tgt := 21) hx hb dX7_flowOf_7 (by decide) (fun c_7 => ?_) (fun c_7 => ?_)
  · have ho6 := wf_ot6 wf hj c_7
    refine lv_aload_n hx hb dX7_flowOf_21 rfl (lv_at hl0 0 rfl) ?_
    refine va_get (D := D) (ci := 7) (v := .ref (mm 6)) (C := RX7) (T := TX7) (N := 23) hx hb hw iX7 hown hK hP1 0 rfl rfl 11 (by decide) (hw _ kw_4_75) (fun _ h9 => h9) rfl dX7_flowOf_22 ?_
    refine lv_aload_n hx hb dX7_flowOf_25 rfl (lv_at hl0 0 rfl) ?_
    refine lv_iload_n hx hb dX7_flowOf_26 rfl (lv_at hl0 1 rfl) ?_
    refine lv_iconst (v := 2) hx hb dX7_flowOf_27 (by decide) ?_
    refine rV_i (wc := [mO cy mm ik tl fm tz vl iw rm rr om, ia cy (mm 1) 169 S]) (rest := [.ref (mm 6)]) hx hb hml hown hw hG hK hP1 hS1 hA hl0 kc_X7_has kw_4_174 [.int (nI j), .int 2] (c_X7_has l D cy G H1.size mm ik tl fm tz vl iw rm rr om S j 2 (by first | omega | assumption) (by first | omega | assumption)) [0, 1] rfl 0 rfl rfl rfl rfl rfl (Nat.le_of_ble_eq_true rfl) ⟨Nat.le_of_ble_eq_true rfl, Nat.le_of_ble_eq_true rfl⟩ dX7_flowOf_28 ⟨Nat.le_of_ble_eq_true rfl, Nat.le_of_ble_eq_true rfl⟩ (fun r_28 H2 locs2 hr_28 hP2 hS2 => ?_)
    clear hP1 hS1 locs1 H1
    subst hr_28
    refine tp (show (S (9 + 8 * j + 2)) = S (11 + 8 * j) from congrArg _ (by omega)) ?_
    refine ald_i (f := P) hx hb hK hP2 2 0 rfl rfl (otN S j) (wf_ot wf hj c_7) ho6 (by decide) dX7_flowOf_31 ?_
    refine lv_istore_n (lv' := [(2, .int (P (otN S j))), (0, .ref (mm 0)), (1, .int (nI j))]) hx hb dX7_flowOf_32 rfl hl0 (by decide) rfl (fun ls1 hl1 => ?_)
    clear hl0 ls0
    refine lv_aload_n hx hb dX7_flowOf_33 rfl (lv_at hl1 1 rfl) ?_
    refine lv_iload_n hx hb dX7_flowOf_34 rfl (lv_at hl1 2 rfl) ?_
    refine rV_i (wc := [mO cy mm ik tl fm tz vl iw rm rr om, ia cy (mm 1) 169 S]) (rest := []) hx hb hml hown hw hG hK hP2 hS2 hA hl1 kc_X7_breadth kw_4_178 [.int (nI j)] (c_X7_breadth l D cy G H2.size mm ik tl fm tz vl iw rm rr om S j (by first | omega | assumption) (by first | omega | assumption)) [0, 1] rfl 0 rfl rfl rfl rfl rfl (Nat.le_of_ble_eq_true rfl) ⟨Nat.le_of_ble_eq_true rfl, Nat.le_of_ble_eq_true rfl⟩ dX7_flowOf_35 ⟨Nat.le_of_ble_eq_true rfl, Nat.le_of_ble_eq_true rfl⟩ (fun r_35 H3 locs3 hr_35 hP3 hS3 => ?_)
    clear hP2 hS2 locs2 H2
    subst hr_35
    refine lv_iload_n hx hb dX7_flowOf_38 rfl (lv_at hl1 0 rfl) ?_
    refine lv_aload_n hx hb dX7_flowOf_39 rfl (lv_at hl1 1 rfl) ?_
    refine va_get (D := D) (ci := 7) (v := .ref (mm 6)) (C := RX7) (T := TX7) (N := 23) hx hb hw iX7 hown hK hP3 0 rfl rfl 11 (by decide) (hw _ kw_4_75) (fun _ h9 => h9) rfl dX7_flowOf_40 ?_
    refine lv_aload_n hx hb dX7_flowOf_43 rfl (lv_at hl1 1 rfl) ?_
    refine lv_iload_n hx hb dX7_flowOf_44 rfl (lv_at hl1 2 rfl) ?_
    refine lv_iconst (v := 1) hx hb dX7_flowOf_45 (by decide) ?_
    refine rV_i (wc := [mO cy mm ik tl fm tz vl iw rm rr om, ia cy (mm 1) 169 S]) (rest := [.ref (mm 6), .int (P (otN S j)), .int (breadth S j)]) hx hb hml hown hw hG hK hP3 hS3 hA hl1 kc_X7_has kw_4_174 [.int (nI j), .int 1] (c_X7_has l D cy G H3.size mm ik tl fm tz vl iw rm rr om S j 1 (by first | omega | assumption) (by first | omega | assumption)) [0, 1] rfl 0 rfl rfl rfl rfl rfl (Nat.le_of_ble_eq_true rfl) ⟨Nat.le_of_ble_eq_true rfl, Nat.le_of_ble_eq_true rfl⟩ dX7_flowOf_46 ⟨Nat.le_of_ble_eq_true rfl, Nat.le_of_ble_eq_true rfl⟩ (fun r_46 H4 locs4 hr_46 hP4 hS4 => ?_)
    clear hP3 hS3 locs3 H3
    subst hr_46
    refine tp (show (S (9 + 8 * j + 1)) = S (10 + 8 * j) from congrArg _ (by omega)) ?_
    refine tp (show (S (10 + 8 * j)) = nI (rmN S j) from wf_rm wf hj) ?_
    refine ald_i (f := P) hx hb hK hP4 2 0 rfl rfl (rmN S j) rfl (by first | omega | assumption) (by decide) dX7_flowOf_49 ?_
    refine lv_isub hx hb dX7_flowOf_50 ?_
    refine lv_imul hx hb dX7_flowOf_51 ?_
    refine lv_bipush (v := 80) hx hb dX7_flowOf_52 (by decide) ?_
    refine lv_idiv hx hb dX7_flowOf_54 (by decide) ?_
    exact rd_i hx hb hr hlocks hS4 dX7_flowOf_55 (by unfold flow; clear hx hb hml hown hr hlocks hw hsz hA hG hK hP4 hS4 hl1; simp only [c_7, if_pos, if_neg, not_false_eq_true, if_false, if_true])
  · refine lv_bipush (v := 8) hx hb dX7_flowOf_10 (by decide) ?_
    refine lv_aload_n hx hb dX7_flowOf_12 rfl (lv_at hl0 0 rfl) ?_
    refine lv_iload_n hx hb dX7_flowOf_13 rfl (lv_at hl0 1 rfl) ?_
    refine rV_i (wc := [mO cy mm ik tl fm tz vl iw rm rr om, ia cy (mm 1) 169 S]) (rest := [.int 8]) hx hb hml hown hw hG hK hP1 hS1 hA hl0 kc_X7_push kw_4_182 [.int (nI j)] (c_X7_push l D cy G H1.size mm ik tl fm tz vl iw rm rr om S j (by first | omega | assumption) (by first | omega | assumption)) [0, 1] rfl 0 rfl rfl rfl rfl rfl (Nat.le_of_ble_eq_true rfl) ⟨Nat.le_of_ble_eq_true rfl, Nat.le_of_ble_eq_true rfl⟩ dX7_flowOf_14 ⟨Nat.le_of_ble_eq_true rfl, Nat.le_of_ble_eq_true rfl⟩ (fun r_14 H2 locs2 hr_14 hP2 hS2 => ?_)
    clear hP1 hS1 locs1 H1
    subst hr_14
    refine lv_imul hx hb dX7_flowOf_17 ?_
    refine lv_goto (tgt := 32) hx hb dX7_flowOf_18 (by decide) ?_
    refine lv_istore_n (lv' := [(2, .int (8 * (push S j))), (0, .ref (mm 0)), (1, .int (nI j))]) hx hb dX7_flowOf_32 rfl hl0 (by decide) rfl (fun ls1 hl1 => ?_)
    clear hl0 ls0
    refine lv_aload_n hx hb dX7_flowOf_33 rfl (lv_at hl1 1 rfl) ?_
    refine lv_iload_n hx hb dX7_flowOf_34 rfl (lv_at hl1 2 rfl) ?_
    refine rV_i (wc := [mO cy mm ik tl fm tz vl iw rm rr om, ia cy (mm 1) 169 S]) (rest := []) hx hb hml hown hw hG hK hP2 hS2 hA hl1 kc_X7_breadth kw_4_178 [.int (nI j)] (c_X7_breadth l D cy G H2.size mm ik tl fm tz vl iw rm rr om S j (by first | omega | assumption) (by first | omega | assumption)) [0, 1] rfl 0 rfl rfl rfl rfl rfl (Nat.le_of_ble_eq_true rfl) ⟨Nat.le_of_ble_eq_true rfl, Nat.le_of_ble_eq_true rfl⟩ dX7_flowOf_35 ⟨Nat.le_of_ble_eq_true rfl, Nat.le_of_ble_eq_true rfl⟩ (fun r_35 H3 locs3 hr_35 hP3 hS3 => ?_)
    clear hP2 hS2 locs2 H2
    subst hr_35
    refine lv_iload_n hx hb dX7_flowOf_38 rfl (lv_at hl1 0 rfl) ?_
    refine lv_aload_n hx hb dX7_flowOf_39 rfl (lv_at hl1 1 rfl) ?_
    refine va_get (D := D) (ci := 7) (v := .ref (mm 6)) (C := RX7) (T := TX7) (N := 23) hx hb hw iX7 hown hK hP3 0 rfl rfl 11 (by decide) (hw _ kw_4_75) (fun _ h9 => h9) rfl dX7_flowOf_40 ?_
    refine lv_aload_n hx hb dX7_flowOf_43 rfl (lv_at hl1 1 rfl) ?_
    refine lv_iload_n hx hb dX7_flowOf_44 rfl (lv_at hl1 2 rfl) ?_
    refine lv_iconst (v := 1) hx hb dX7_flowOf_45 (by decide) ?_
    refine rV_i (wc := [mO cy mm ik tl fm tz vl iw rm rr om, ia cy (mm 1) 169 S]) (rest := [.ref (mm 6), .int (8 * (push S j)), .int (breadth S j)]) hx hb hml hown hw hG hK hP3 hS3 hA hl1 kc_X7_has kw_4_174 [.int (nI j), .int 1] (c_X7_has l D cy G H3.size mm ik tl fm tz vl iw rm rr om S j 1 (by first | omega | assumption) (by first | omega | assumption)) [0, 1] rfl 0 rfl rfl rfl rfl rfl (Nat.le_of_ble_eq_true rfl) ⟨Nat.le_of_ble_eq_true rfl, Nat.le_of_ble_eq_true rfl⟩ dX7_flowOf_46 ⟨Nat.le_of_ble_eq_true rfl, Nat.le_of_ble_eq_true rfl⟩ (fun r_46 H4 locs4 hr_46 hP4 hS4 => ?_)
    clear hP3 hS3 locs3 H3
    subst hr_46
    refine tp (show (S (9 + 8 * j + 1)) = S (10 + 8 * j) from congrArg _ (by omega)) ?_
    refine tp (show (S (10 + 8 * j)) = nI (rmN S j) from wf_rm wf hj) ?_
    refine ald_i (f := P) hx hb hK hP4 2 0 rfl rfl (rmN S j) rfl (by first | omega | assumption) (by decide) dX7_flowOf_49 ?_
    refine lv_isub hx hb dX7_flowOf_50 ?_
    refine lv_imul hx hb dX7_flowOf_51 ?_
    refine lv_bipush (v := 80) hx hb dX7_flowOf_52 (by decide) ?_
    refine lv_idiv hx hb dX7_flowOf_54 (by decide) ?_
    exact rd_i hx hb hr hlocks hS4 dX7_flowOf_55 (by unfold flow; clear hx hb hml hown hr hlocks hw hsz hA hG hK hP4 hS4 hl1; simp only [c_7, if_pos, if_neg, not_false_eq_true, if_false, if_true])

theorem kc_X7_size : kT yX7_size cX7_size 1 (some .int) 1 := ⟨kw_5_86, kw_1_8, kw_5_87, by decide, by decide, by decide +kernel⟩
set_option maxHeartbeats 4000000 in
set_option maxRecDepth 100000 in
theorem c_X7_size (l : Launch) (D : va_G) (cy : Nat → ClassId) (G : Nat → Nat) (sz : Nat) (f : Int32)  : Met l yX7_size (wm yX7_size cX7_size 1 (some .int)) { frames := 0, cells := 0, slots := 0, locals := 0 } (va_Pc [.int f] (pd D (TY cy) G ([]) sz)) (va_Qi (fun r (_ : Unit) => r = absI f) (fun _ _ => True) (va_A [] sz)) 0 0 (va_A [] sz) := by
  refine mk_rd (by decide) RX7 rfl (Nat.le_of_ble_eq_true rfl) [(0, .int f)] rfl ?_
  intro p e s m below meth c hx hb hml hown hr hlocks hw hsz hA hG hK H0 locs0 hP0 hS0 ls0 hl0
  refine lv_iload_n hx hb dX7_size_0 rfl (lv_at hl0 0 rfl) ?_
  refine lv_if_ge (tgt := 10) hx hb dX7_size_1 (by decide) (fun c_1 => ?_) (fun c_1 => ?_)
  · refine lv_iload_n hx hb dX7_size_10 rfl (lv_at hl0 0 rfl) ?_
    exact rd_i hx hb hr hlocks hS0 dX7_size_11 (by clear hx hb hml hown hr hlocks hw hsz hA hG hK hP0 hS0 hl0; grind [absI])
  · refine lv_iconst (v := 0) hx hb dX7_size_4 (by decide) ?_
    refine lv_iload_n hx hb dX7_size_5 rfl (lv_at hl0 0 rfl) ?_
    refine lv_isub hx hb dX7_size_6 ?_
    refine lv_goto (tgt := 11) hx hb dX7_size_7 (by decide) ?_
    exact rd_i hx hb hr hlocks hS0 dX7_size_11 (by clear hx hb hml hown hr hlocks hw hsz hA hG hK hP0 hS0 hl0; grind [absI])

theorem kc_X7_leanOf : kV yX7_leanOf cX7_leanOf 4 (some .int) 1 := ⟨kw_5_83, kw_s_53, kw_1_8, kw_5_84, by decide, by decide, by decide +kernel⟩
set_option maxHeartbeats 4000000 in
set_option maxRecDepth 100000 in
theorem c_X7_leanOf (l : Launch) (D : va_G) (cy : Nat → ClassId) (G : Nat → Nat) (sz : Nat) (mm : Nat → Nat) (ik : Int32) (tl : Int32) (fm : Int32) (tz : Int32) (vl : Int32) (iw : Int32) (rm : Int32) (rr : Int32) (om : Int32) (S : Nat → Int32) (P : Nat → Int32) (j : Nat) (wf : wf S) (hj : j < gcN S) : Met l yX7_leanOf (wm yX7_leanOf cX7_leanOf 4 (some .int)) { frames := 3, cells := 0, slots := 0, locals := 67 } (va_Pc [.ref (mm 0), .int (nI j)] (pd D (TY cy) G ([mO cy mm ik tl fm tz vl iw rm rr om, ia cy (mm 1) 169 S, ia cy (mm 6) 6 P]) sz)) (va_Qi (fun r (_ : Unit) => r = lean (flow S P j)) (fun _ _ => True) (va_A [] sz)) 0 0 (va_A [] sz) := by
  refine mk_rd (by decide) RX7 rfl (Nat.le_of_ble_eq_true rfl) [(0, .ref (mm 0)), (1, .int (nI j))] rfl ?_
  intro p e s m below meth c hx hb hml hown hr hlocks hw hsz hA hG hK H0 locs0 hP0 hS0 ls0 hl0
  refine lv_aload_n hx hb dX7_leanOf_0 rfl (lv_at hl0 0 rfl) ?_
  refine lv_iload_n hx hb dX7_leanOf_1 rfl (lv_at hl0 1 rfl) ?_
  refine rV_i (wc := [mO cy mm ik tl fm tz vl iw rm rr om, ia cy (mm 1) 169 S, ia cy (mm 6) 6 P]) (rest := []) hx hb hml hown hw hG hK hP0 hS0 hA hl0 kc_X7_flowOf kw_5_73 [.int (nI j)] (c_X7_flowOf l D cy G H0.size mm ik tl fm tz vl iw rm rr om S P j (by first | omega | assumption) (by first | omega | assumption)) [0, 1, 2] rfl 0 rfl rfl rfl rfl rfl (Nat.le_of_ble_eq_true rfl) ⟨Nat.le_of_ble_eq_true rfl, Nat.le_of_ble_eq_true rfl⟩ dX7_leanOf_2 ⟨Nat.le_of_ble_eq_true rfl, Nat.le_of_ble_eq_true rfl⟩ (fun r_2 H1 locs1 hr_2 hP1 hS1 => ?_)
  clear hP0 hS0 locs0 H0
  subst hr_2
  refine lv_istore_n (lv' := [(2, .int (flow S P j)), (0, .ref (mm 0)), (1, .int (nI j))]) hx hb dX7_leanOf_5 rfl hl0 (by decide) rfl (fun ls1 hl1 => ?_)
  clear hl0 ls0
  refine lv_iload_n hx hb dX7_leanOf_6 rfl (lv_at hl1 0 rfl) ?_
  refine rT_i (wc := []) (rest := []) hx hb hml hown hw hG hK hP1 hS1 hA hl1 kc_X7_size kw_5_85 [.int (flow S P j)] (c_X7_size l D cy G H1.size (flow S P j)) [] rfl rfl rfl (Nat.le_of_ble_eq_true rfl) ⟨Nat.le_of_ble_eq_true rfl, Nat.le_of_ble_eq_true rfl⟩ dX7_leanOf_7 ⟨Nat.le_of_ble_eq_true rfl, Nat.le_of_ble_eq_true rfl⟩ (fun r_7 H2 locs2 hr_7 hP2 hS2 => ?_)
  clear hP1 hS1 locs1 H1
  subst hr_7
  refine lv_iconst (v := 5) hx hb dX7_leanOf_10 (by decide) ?_
  refine lv_icmp_ge (tgt := 16) hx hb dX7_leanOf_11 (by decide) (fun c_11 => ?_) (fun c_11 => ?_)
  · refine lv_iload_n hx hb dX7_leanOf_16 rfl (lv_at hl1 0 rfl) ?_
    refine rT_i (wc := []) (rest := []) hx hb hml hown hw hG hK hP2 hS2 hA hl1 kc_X7_size kw_5_85 [.int (flow S P j)] (c_X7_size l D cy G H2.size (flow S P j)) [] rfl rfl rfl (Nat.le_of_ble_eq_true rfl) ⟨Nat.le_of_ble_eq_true rfl, Nat.le_of_ble_eq_true rfl⟩ dX7_leanOf_17 ⟨Nat.le_of_ble_eq_true rfl, Nat.le_of_ble_eq_true rfl⟩ (fun r_17 H3 locs3 hr_17 hP3 hS3 => ?_)
    clear hP2 hS2 locs2 H2
    subst hr_17
    refine lv_bipush (v := 20) hx hb dX7_leanOf_20 (by decide) ?_
    refine lv_idiv hx hb dX7_leanOf_22 (by decide) ?_
    refine lv_iconst (v := 1) hx hb dX7_leanOf_23 (by decide) ?_
    refine lv_iadd hx hb dX7_leanOf_24 ?_
    refine lv_istore_n (lv' := [(3, .int (((absI (flow S P j)) / 20) + 1)), (2, .int (flow S P j)), (0, .ref (mm 0)), (1, .int (nI j))]) hx hb dX7_leanOf_25 rfl hl1 (by decide) rfl (fun ls2 hl2 => ?_)
    clear hl1 ls1
    refine lv_iload_n hx hb dX7_leanOf_26 rfl (lv_at hl2 0 rfl) ?_
    refine lv_bipush (v := 9) hx hb dX7_leanOf_27 (by decide) ?_
    refine lv_icmp_le (tgt := 37) hx hb dX7_leanOf_29 (by decide) (fun c_29 => ?_) (fun c_29 => ?_)
    · refine lv_iload_n hx hb dX7_leanOf_37 rfl (lv_at hl2 0 rfl) ?_
      refine lv_istore_n (lv' := [(3, .int (((absI (flow S P j)) / 20) + 1)), (2, .int (flow S P j)), (0, .ref (mm 0)), (1, .int (nI j))]) hx hb dX7_leanOf_38 rfl hl2 (by decide) rfl (fun ls3 hl3 => ?_)
      clear hl2 ls2
      refine lv_iload_n hx hb dX7_leanOf_39 rfl (lv_at hl3 1 rfl) ?_
      refine lv_if_ge (tgt := 49) hx hb dX7_leanOf_40 (by decide) (fun c_40 => ?_) (fun c_40 => ?_)
      · refine lv_iload_n hx hb dX7_leanOf_49 rfl (lv_at hl3 0 rfl) ?_
        exact rd_i hx hb hr hlocks hS3 dX7_leanOf_50 (by simp only [lean]; clear hx hb hml hown hr hlocks hw hsz hA hG hK hP3 hS3 hl3; grind [absI])
      · refine lv_iconst (v := 0) hx hb dX7_leanOf_43 (by decide) ?_
        refine lv_iload_n hx hb dX7_leanOf_44 rfl (lv_at hl3 0 rfl) ?_
        refine lv_isub hx hb dX7_leanOf_45 ?_
        refine lv_goto (tgt := 50) hx hb dX7_leanOf_46 (by decide) ?_
        exact rd_i hx hb hr hlocks hS3 dX7_leanOf_50 (by simp only [lean]; clear hx hb hml hown hr hlocks hw hsz hA hG hK hP3 hS3 hl3; grind [absI])
    · refine lv_bipush (v := 9) hx hb dX7_leanOf_32 (by decide) ?_
      refine lv_goto (tgt := 38) hx hb dX7_leanOf_34 (by decide) ?_
      refine lv_istore_n (lv' := [(3, .int 9), (2, .int (flow S P j)), (0, .ref (mm 0)), (1, .int (nI j))]) hx hb dX7_leanOf_38 rfl hl2 (by decide) rfl (fun ls3 hl3 => ?_)
      clear hl2 ls2
      refine lv_iload_n hx hb dX7_leanOf_39 rfl (lv_at hl3 1 rfl) ?_
      refine lv_if_ge (tgt := 49) hx hb dX7_leanOf_40 (by decide) (fun c_40 => ?_) (fun c_40 => ?_)
      · refine lv_iload_n hx hb dX7_leanOf_49 rfl (lv_at hl3 0 rfl) ?_
        exact rd_i hx hb hr hlocks hS3 dX7_leanOf_50 (by simp only [lean]; clear hx hb hml hown hr hlocks hw hsz hA hG hK hP3 hS3 hl3; grind [absI])
      · refine lv_iconst (v := 0) hx hb dX7_leanOf_43 (by decide) ?_
        refine lv_iload_n hx hb dX7_leanOf_44 rfl (lv_at hl3 0 rfl) ?_
        refine lv_isub hx hb dX7_leanOf_45 ?_
        refine lv_goto (tgt := 50) hx hb dX7_leanOf_46 (by decide) ?_
        exact rd_i hx hb hr hlocks hS3 dX7_leanOf_50 (by simp only [lean]; clear hx hb hml hown hr hlocks hw hsz hA hG hK hP3 hS3 hl3; grind [absI])
  · refine lv_iconst (v := 0) hx hb dX7_leanOf_14 (by decide) ?_
    exact rd_i hx hb hr hlocks hS2 dX7_leanOf_15 (by simp only [lean]; clear hx hb hml hown hr hlocks hw hsz hA hG hK hP2 hS2 hl1; grind [absI])
