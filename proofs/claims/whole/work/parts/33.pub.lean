theorem kc_X6_find : kV yX6_find cX6_find 2 (some .int) 1 := ⟨kw_2_61, kw_s_0, kw_1_1, kw_2_62, by decide, by decide, by decide +kernel⟩
set_option maxHeartbeats 4000000 in
set_option maxRecDepth 100000 in
theorem c_X6_find (l : Launch) (D : va_G) (cy : Nat → ClassId) (G : Nat → Nat) (sz : Nat) (hh : Nat → Nat) (a : Nat → Nat) (kk : Nat → Nat) (dd : Nat → Nat) (b : Nat → Nat) (w : Nat → Nat) (ee : Nat → Nat) (qq : Nat → Nat) (ik : Int32) (C : Nat → Int32) (k : Nat) (hk : k < 7) : Met l yX6_find (wm yX6_find cX6_find 2 (some .int)) { frames := 0, cells := 0, slots := 0, locals := 0 } (va_Pc [.ref (hh 0), .int (nI k)] (pr D (TY cy) G ([sO cy hh a kk dd b w ee qq ik, ia cy (hh 1) 7 C]) sz)) (va_Qi (fun (r : Int32) (u : Unit) => r = fd k) (fun (u : Unit) t => po D (va_A ([sO cy hh a kk dd b w ee qq ik, ia cy (hh 1) 7 C]) sz) ([sO cy hh a kk dd b w ee qq ik, ia cy (hh 1) 7 (upd C k (C k + 1))]) t) (va_A ([sO cy hh a kk dd b w ee qq ik, ia cy (hh 1) 7 C]) sz)) 0 0 (va_A ([sO cy hh a kk dd b w ee qq ik, ia cy (hh 1) 7 C]) sz) := by
  refine mk_rw (by decide) RX6 rfl (Nat.le_of_ble_eq_true rfl) [(0, .ref (hh 0)), (1, .int (nI k))] rfl ?_
  intro p e s m below meth c hx hb hml hown hr hlocks hin hw hsz hA hG hK H0 locs0 hP0 hD0 hS0 ls0 hl0
  clear hin
  refine lv_iload_n hx hb dX6_find_0 rfl (lv_at hl0 1 rfl) ?_
  refine lv_if_lt (tgt := 20) hx hb dX6_find_1 (by decide) (fun c => absurd c (nI_pos (by omega))) (fun _ => ?_)
  refine lv_iload_n hx hb dX6_find_4 rfl (lv_at hl0 1 rfl) ?_
  refine lv_bipush (v := 7) hx hb dX6_find_5 (by decide) ?_
  refine ln_ge (tgt := 20) k 7 rfl rfl (by omega) (by omega) hx hb dX6_find_7 (by decide) (fun c_7 => absurd hk (by omega)) (fun c_7 => ?_)
  refine lv_aload_n hx hb dX6_find_10 rfl (lv_at hl0 0 rfl) ?_
  refine va_get (D := D) (ci := 6) (v := .ref (hh 1)) (C := RX6) (T := TX6) (N := 9) hx hb hw iX6 hown hK hP0 0 rfl rfl 8 (by decide) (hw _ kw_2_35) (fun _ h9 => h9) rfl dX6_find_11 ?_
  refine lv_iload_n hx hb dX6_find_14 rfl (lv_at hl0 1 rfl) ?_
  refine lv_dup2_11 hx hb dX6_find_15 rfl rfl ?_
  refine ald_i (f := C) hx hb hK hP0 1 0 rfl rfl k rfl (by first | omega | assumption) (by decide) dX6_find_16 ?_
  refine lv_iconst (v := 1) hx hb dX6_find_17 (by decide) ?_
  refine lv_iadd hx hb dX6_find_18 ?_
  refine ast_i (f := C) (ws' := [sO cy hh a kk dd b w ee qq ik, ia cy (hh 1) 7 (upd C k ((C k) + 1))]) hx hb hK hP0 hD0 hS0 1 0 rfl rfl k rfl (by first | omega | assumption) (by decide) rfl dX6_find_19 (fun H1 locs1 hP1 hD1 hS1 => ?_)
  clear hP0 hD0 hS0 locs0 H0
  refine lv_ldcw (v := (-1000000001)) hx hb hown (hw _ kw_2_63) dX6_find_20 ?_
  refine lv_iload_n hx hb dX6_find_23 rfl (lv_at hl0 1 rfl) ?_
  refine lv_isub hx hb dX6_find_24 ?_
  have hq9 : ([sO cy hh a kk dd b w ee qq ik, ia cy (hh 1) 7 (upd C k ((C k) + 1))]) = [sO cy hh a kk dd b w ee qq ik, ia cy (hh 1) 7 (upd C k (C k + 1))] := by rfl
  rw [hq9] at hP1 hD1
  refine re_i () hx hb hr hlocks hP1 hD1 hS1 dX6_find_25 ?_
  exact (rfl)

theorem kc_X6_isMeasure : kT yX6_isMeasure cX6_isMeasure 1 (some .boolean) 1 := ⟨kw_2_80, kw_1_1, kw_2_81, by decide, by decide, by decide +kernel⟩
set_option maxHeartbeats 4000000 in
set_option maxRecDepth 100000 in
theorem c_X6_isMeasure (l : Launch) (D : va_G) (cy : Nat → ClassId) (G : Nat → Nat) (sz : Nat) (x : Int32)  : Met l yX6_isMeasure (wm yX6_isMeasure cX6_isMeasure 1 (some .boolean)) { frames := 0, cells := 0, slots := 0, locals := 0 } (va_Pc [.int x] (pd D (TY cy) G ([]) sz)) (va_Qi (fun r (_ : Unit) => r = b2i ((0 ≤ x ∧ x ≤ 999999) ∧ x / 100 - x / 100 / 10 * 10 < 4)) (fun _ _ => True) (va_A [] sz)) 0 0 (va_A [] sz) := by
  refine mk_rd (by decide) RX6 rfl (Nat.le_of_ble_eq_true rfl) [(0, .int x)] rfl ?_
  intro p e s m below meth c hx hb hml hown hr hlocks hw hsz hA hG hK H0 locs0 hP0 hS0 ls0 hl0
  refine lv_iload_n hx hb dX6_isMeasure_0 rfl (lv_at hl0 0 rfl) ?_
  refine lv_if_lt (tgt := 29) hx hb dX6_isMeasure_1 (by decide) (fun c_1 => ?_) (fun c_1 => ?_)
  · refine lv_iconst (v := 0) hx hb dX6_isMeasure_29 (by decide) ?_
    exact rd_z hx hb hr hlocks hS0 dX6_isMeasure_30 rfl ((b2i_f (fun z9 => (Int32.not_lt.mpr z9.1.1) c_1)).symm)
  · refine lv_iload_n hx hb dX6_isMeasure_4 rfl (lv_at hl0 0 rfl) ?_
    refine lv_sipush (v := 10000) hx hb dX6_isMeasure_5 (by decide) ?_
    refine lv_idiv hx hb dX6_isMeasure_8 (by decide) ?_
    refine lv_bipush (v := 99) hx hb dX6_isMeasure_9 (by decide) ?_
    refine lv_icmp_gt (tgt := 29) hx hb dX6_isMeasure_11 (by decide) (fun c_11 => ?_) (fun c_11 => ?_)
    · refine lv_iconst (v := 0) hx hb dX6_isMeasure_29 (by decide) ?_
      exact rd_z hx hb hr hlocks hS0 dX6_isMeasure_30 rfl ((b2i_f (fun z9 => (Int32.not_lt.mpr ((meas_le z9.1.1).mpr z9.1.2)) c_11)).symm)
    · refine lv_iload_n hx hb dX6_isMeasure_14 rfl (lv_at hl0 0 rfl) ?_
      refine lv_bipush (v := 100) hx hb dX6_isMeasure_15 (by decide) ?_
      refine lv_idiv hx hb dX6_isMeasure_17 (by decide) ?_
      refine lv_bipush (v := 10) hx hb dX6_isMeasure_18 (by decide) ?_
      refine lv_irem hx hb dX6_isMeasure_20 (by decide) ?_
      refine lv_iconst (v := 4) hx hb dX6_isMeasure_21 (by decide) ?_
      refine lv_icmp_ge (tgt := 29) hx hb dX6_isMeasure_22 (by decide) (fun c_22 => ?_) (fun c_22 => ?_)
      · refine lv_iconst (v := 0) hx hb dX6_isMeasure_29 (by decide) ?_
        exact rd_z hx hb hr hlocks hS0 dX6_isMeasure_30 rfl ((b2i_f (fun z9 => (Int32.not_le.mpr z9.2) c_22)).symm)
      · refine lv_iconst (v := 1) hx hb dX6_isMeasure_25 (by decide) ?_
        refine lv_goto (tgt := 30) hx hb dX6_isMeasure_26 (by decide) ?_
        exact rd_z hx hb hr hlocks hS0 dX6_isMeasure_30 rfl ((b2i_t ⟨⟨Int32.not_lt.mp c_1, (meas_le (Int32.not_lt.mp c_1)).mp (Int32.not_lt.mp c_11)⟩, Int32.not_le.mp c_22⟩).symm)

theorem kc_X6_room : kV yX6_room cX6_room 1 (some .int) 0 := ⟨kw_2_56, kw_2_57, kw_1_1, kw_2_58, by decide, by decide, by decide +kernel⟩
set_option maxHeartbeats 4000000 in
set_option maxRecDepth 100000 in
theorem c_X6_room (l : Launch) (D : va_G) (cy : Nat → ClassId) (G : Nat → Nat) (sz : Nat) (hh : Nat → Nat) (a : Nat → Nat) (kk : Nat → Nat) (dd : Nat → Nat) (b : Nat → Nat) (w : Nat → Nat) (ee : Nat → Nat) (qq : Nat → Nat) (ik : Int32) (S : Nat → Int32) (C : Nat → Int32) (wf : wf S) : Met l yX6_room (wm yX6_room cX6_room 1 (some .int)) { frames := 1, cells := 0, slots := 0, locals := 21 } (va_Pc [.ref (hh 0)] (pr D (TY cy) G ([sO cy hh a kk dd b w ee qq ik] ++ (pS cy a S ++ ([ia cy (hh 1) 7 C]))) sz)) (va_Qi (fun (r : Int32) (u : Unit) => r = ans (cRoom S) (nI (rcN S))) (fun (u : Unit) t => po D (va_A ([sO cy hh a kk dd b w ee qq ik] ++ (pS cy a S ++ ([ia cy (hh 1) 7 C]))) sz) ([sO cy hh a kk dd b w ee qq ik] ++ (pS cy a (if cRoom S = 7 then upd S 0 (nI (rcN S + 1)) else S) ++ ([ia cy (hh 1) 7 (fnd C (cRoom S))]))) t) (va_A ([sO cy hh a kk dd b w ee qq ik] ++ (pS cy a S ++ ([ia cy (hh 1) 7 C]))) sz)) 0 0 (va_A ([sO cy hh a kk dd b w ee qq ik] ++ (pS cy a S ++ ([ia cy (hh 1) 7 C]))) sz) := by
  refine mk_rw (by decide) RX6 rfl (Nat.le_of_ble_eq_true rfl) [(0, .ref (hh 0))] rfl ?_
  intro p e s m below meth c hx hb hml hown hr hlocks hin hw hsz hA hG hK H0 locs0 hP0 hD0 hS0 ls0 hl0
  clear hin
  have hr6 := wf_r6 wf
  have hrc := rc_eq wf
  refine lv_aload_n hx hb dX6_room_0 rfl (lv_at hl0 0 rfl) ?_
  refine va_get (D := D) (ci := 6) (v := .ref (a 0)) (C := RX6) (T := TX6) (N := 9) hx hb hw iX6 hown hK hP0 0 rfl rfl 0 (by decide) (hw _ kw_2_27) (fun _ h9 => h9) rfl dX6_room_1 ?_
  refine va_get (D := D) (ci := 1) (v := .int (S 0)) (C := RX1) (T := TX1) (N := 12) hx hb hw iX1 hown hK hP0 1 rfl rfl 0 (by decide) (hw _ kw_1_31) (fun _ h9 => h9) rfl dX6_room_4 ?_
  refine tp (show (S 0) = nI (rcN S) from wf_r wf) ?_
  refine lv_bipush (v := 6) hx hb dX6_room_7 (by decide) ?_
  refine ln_lt (tgt := 18) (rcN S) 6 rfl rfl (by omega) (by omega) hx hb dX6_room_9 (by decide) (fun c_9 => ?_) (fun c_9 => ?_)
  · refine lv_aload_n hx hb dX6_room_18 rfl (lv_at hl0 0 rfl) ?_
    refine va_get (D := D) (ci := 6) (v := .ref (a 0)) (C := RX6) (T := TX6) (N := 9) hx hb hw iX6 hown hK hP0 0 rfl rfl 0 (by decide) (hw _ kw_2_27) (fun _ h9 => h9) rfl dX6_room_19 ?_
    refine cV_v (wc := pS cy a S) (wr := [sO cy hh a kk dd b w ee qq ik, ia cy (hh 1) 7 C]) (rest := []) hx hb hml hown hw hG hK hP0 hD0 hS0 hA hl0 kc_X1_addRoom kw_2_64 [] (c_X1_addRoom l D cy G H0.size a S (rcN S) (wf_r wf) (by first | omega | assumption)) [1, 2, 3, 4, 5, 6, 7, 8, 9, 10] [0, 11] rfl rfl rfl rfl rfl 0 rfl rfl rfl rfl rfl (Nat.le_of_ble_eq_true rfl) ⟨Nat.le_of_ble_eq_true rfl, Nat.le_of_ble_eq_true rfl⟩ dX6_room_22 ⟨Nat.le_of_ble_eq_true rfl, Nat.le_of_ble_eq_true rfl⟩ (fun u9 H1 locs1 hu9 hP1 hD1 hS1 => ?_)
    clear hP0 hD0 hS0 locs0 H0
    replace hP1 : va_P D vwCl ([sO cy hh a kk dd b w ee qq ik, ia cy (hh 1) 7 C] ++ (pS cy a (upd S 0 (nI ((rcN S) + 1))))) H1 := hP1
    replace hD1 : va_D (va_A _ sz) ([sO cy hh a kk dd b w ee qq ik, ia cy (hh 1) 7 C] ++ (pS cy a (upd S 0 (nI ((rcN S) + 1))))) := hD1
    replace hP1 := hP1.sub (ws' := [sO cy hh a kk dd b w ee qq ik] ++ (pS cy a (upd S 0 (nI ((rcN S) + 1))) ++ ([ia cy (hh 1) 7 C]))) [0, 2, 3, 4, 5, 6, 7, 8, 9, 10, 11, 1] rfl
    replace hD1 := hD1.sub (ws' := [sO cy hh a kk dd b w ee qq ik] ++ (pS cy a (upd S 0 (nI ((rcN S) + 1))) ++ ([ia cy (hh 1) 7 C]))) [0, 2, 3, 4, 5, 6, 7, 8, 9, 10, 11, 1] (by decide) rfl
    refine lv_aload_n hx hb dX6_room_25 rfl (lv_at hl0 0 rfl) ?_
    refine va_get (D := D) (ci := 6) (v := .ref (a 0)) (C := RX6) (T := TX6) (N := 9) hx hb hw iX6 hown hK hP1 0 rfl rfl 0 (by decide) (hw _ kw_2_27) (fun _ h9 => h9) rfl dX6_room_26 ?_
    refine va_get (D := D) (ci := 1) (v := .int ((upd S 0 (nI ((rcN S) + 1))) 0)) (C := RX1) (T := TX1) (N := 12) hx hb hw iX1 hown hK hP1 1 rfl rfl 0 (by decide) (hw _ kw_1_31) (fun _ h9 => h9) rfl dX6_room_29 ?_
    refine lv_iconst (v := 1) hx hb dX6_room_32 (by decide) ?_
    refine lv_isub hx hb dX6_room_33 ?_
    refine tp (show (((upd S 0 (nI ((rcN S) + 1))) 0) - 1) = nI (rcN S) from nI_s1 _) ?_
    have hcd : cRoom S = 7 := by unfold cRoom; clear hx hb hml hown hr hlocks hw hsz hA hG hK hP1 hD1 hS1 hl0; grind
    have hq9 : ([sO cy hh a kk dd b w ee qq ik] ++ (pS cy a (upd S 0 (nI ((rcN S) + 1))) ++ ([ia cy (hh 1) 7 C]))) = ([sO cy hh a kk dd b w ee qq ik] ++ (pS cy a (upd S 0 (nI ((rcN S) + 1))) ++ ([ia cy (hh 1) 7 (fnd C (cRoom S))]))) := congrArg (fun z9 => [sO cy hh a kk dd b w ee qq ik] ++ (pS cy a (upd S 0 (nI ((rcN S) + 1))) ++ ([ia cy (hh 1) 7 z9]))) (show C = (fnd C (cRoom S)) from fnd_o hcd)
    replace hP1 := (congrArg (fun z9 => va_P D vwCl z9 _) hq9).mp hP1
    replace hD1 := (congrArg (fun z9 => va_D _ z9) hq9).mp hD1
    clear hq9
    have hq9 : ([sO cy hh a kk dd b w ee qq ik] ++ (pS cy a (upd S 0 (nI ((rcN S) + 1))) ++ ([ia cy (hh 1) 7 (fnd C (cRoom S))]))) = ([sO cy hh a kk dd b w ee qq ik] ++ (pS cy a (if cRoom S = 7 then upd S 0 (nI (rcN S + 1)) else S) ++ ([ia cy (hh 1) 7 (fnd C (cRoom S))]))) := congrArg (fun z9 => [sO cy hh a kk dd b w ee qq ik] ++ (pS cy a z9 ++ ([ia cy (hh 1) 7 (fnd C (cRoom S))]))) (show (upd S 0 (nI ((rcN S) + 1))) = (if cRoom S = 7 then upd S 0 (nI (rcN S + 1)) else S) from (if_pos hcd).symm)
    replace hP1 := (congrArg (fun z9 => va_P D vwCl z9 _) hq9).mp hP1
    replace hD1 := (congrArg (fun z9 => va_D _ z9) hq9).mp hD1
    clear hq9
    refine re_i () hx hb hr hlocks hP1 hD1 hS1 dX6_room_34 ?_
    exact (ans_o hcd (rfl))
  · refine lv_aload_n hx hb dX6_room_12 rfl (lv_at hl0 0 rfl) ?_
    refine lv_iconst (v := 1) hx hb dX6_room_13 (by decide) ?_
    refine cV_i (wc := [sO cy hh a kk dd b w ee qq ik, ia cy (hh 1) 7 C]) (wr := pS cy a S) (rest := []) hx hb hml hown hw hG hK hP0 hD0 hS0 hA hl0 kc_X6_find kw_2_59 [.int 1] (c_X6_find l D cy G H0.size hh a kk dd b w ee qq ik C 1 (by first | omega | assumption)) [0, 11] [1, 2, 3, 4, 5, 6, 7, 8, 9, 10] rfl rfl rfl rfl rfl 0 rfl rfl rfl rfl rfl (Nat.le_of_ble_eq_true rfl) ⟨Nat.le_of_ble_eq_true rfl, Nat.le_of_ble_eq_true rfl⟩ dX6_room_14 ⟨Nat.le_of_ble_eq_true rfl, Nat.le_of_ble_eq_true rfl⟩ (fun r_14 u9 H1 locs1 hu9 hP1 hD1 hS1 => ?_)
    clear hP0 hD0 hS0 locs0 H0
    have hr_14 := hu9
    replace hP1 : va_P D vwCl (pS cy a S ++ ([sO cy hh a kk dd b w ee qq ik, ia cy (hh 1) 7 (upd C 1 (C 1 + 1))])) H1 := hP1
    replace hD1 : va_D (va_A _ sz) (pS cy a S ++ ([sO cy hh a kk dd b w ee qq ik, ia cy (hh 1) 7 (upd C 1 (C 1 + 1))])) := hD1
    replace hP1 := hP1.sub (ws' := [sO cy hh a kk dd b w ee qq ik] ++ (pS cy a S ++ ([ia cy (hh 1) 7 (upd C 1 (C 1 + 1))]))) [10, 0, 1, 2, 3, 4, 5, 6, 7, 8, 9, 11] rfl
    replace hD1 := hD1.sub (ws' := [sO cy hh a kk dd b w ee qq ik] ++ (pS cy a S ++ ([ia cy (hh 1) 7 (upd C 1 (C 1 + 1))]))) [10, 0, 1, 2, 3, 4, 5, 6, 7, 8, 9, 11] (by decide) rfl
    subst hr_14
    have hcd : cRoom S = 1 := by unfold cRoom; clear hx hb hml hown hr hlocks hw hsz hA hG hK hP1 hD1 hS1 hl0; grind
    have hq9 : ([sO cy hh a kk dd b w ee qq ik] ++ (pS cy a S ++ ([ia cy (hh 1) 7 (upd C 1 (C 1 + 1))]))) = ([sO cy hh a kk dd b w ee qq ik] ++ (pS cy a S ++ ([ia cy (hh 1) 7 (fnd C (cRoom S))]))) := congrArg (fun z9 => [sO cy hh a kk dd b w ee qq ik] ++ (pS cy a S ++ ([ia cy (hh 1) 7 z9]))) (show (upd C 1 (C 1 + 1)) = (fnd C (cRoom S)) from fnd_f hcd (by decide))
    replace hP1 := (congrArg (fun z9 => va_P D vwCl z9 _) hq9).mp hP1
    replace hD1 := (congrArg (fun z9 => va_D _ z9) hq9).mp hD1
    clear hq9
    have hq9 : ([sO cy hh a kk dd b w ee qq ik] ++ (pS cy a S ++ ([ia cy (hh 1) 7 (fnd C (cRoom S))]))) = ([sO cy hh a kk dd b w ee qq ik] ++ (pS cy a (if cRoom S = 7 then upd S 0 (nI (rcN S + 1)) else S) ++ ([ia cy (hh 1) 7 (fnd C (cRoom S))]))) := congrArg (fun z9 => [sO cy hh a kk dd b w ee qq ik] ++ (pS cy a z9 ++ ([ia cy (hh 1) 7 (fnd C (cRoom S))]))) (show S = (if cRoom S = 7 then upd S 0 (nI (rcN S + 1)) else S) from (if_neg (fun z9 => absurd (hcd.symm.trans z9) (by decide))).symm)
    replace hP1 := (congrArg (fun z9 => va_P D vwCl z9 _) hq9).mp hP1
    replace hD1 := (congrArg (fun z9 => va_D _ z9) hq9).mp hD1
    clear hq9
    refine re_i () hx hb hr hlocks hP1 hD1 hS1 dX6_room_17 ?_
    exact (ans_f hcd (by decide) rfl)

theorem kc_X7_room : kV yX7_room cX7_room 1 (some .int) 0 := ⟨kw_4_150, kw_4_151, kw_1_8, kw_4_152, by decide, by decide, by decide +kernel⟩
set_option maxHeartbeats 4000000 in
set_option maxRecDepth 100000 in
theorem c_X7_room (l : Launch) (D : va_G) (cy : Nat → ClassId) (G : Nat → Nat) (sz : Nat) (mm : Nat → Nat) (ik : Int32) (tl : Int32) (fm : Int32) (tz : Int32) (vl : Int32) (iw : Int32) (rm : Int32) (rr : Int32) (om : Int32) (S : Nat → Int32) (C : Nat → Int32) (wf : wf S) : Met l yX7_room (wm yX7_room cX7_room 1 (some .int)) { frames := 1, cells := 0, slots := 0, locals := 21 } (va_Pc [.ref (mm 0)] (pr D (TY cy) G ([mO cy mm ik tl fm tz vl iw rm rr om, ia cy (mm 1) 169 S, ia cy (mm 4) 7 C]) sz)) (va_Qi (fun (r : Int32) (u : Unit) => r = ans (cRoom S) (nI (rcN S))) (fun (u : Unit) t => po D (va_A ([mO cy mm ik tl fm tz vl iw rm rr om, ia cy (mm 1) 169 S, ia cy (mm 4) 7 C]) sz) ([mO cy mm ik tl fm tz vl iw rm rr om, ia cy (mm 1) 169 (if cRoom S = 7 then upd S 0 (nI (rcN S + 1)) else S), ia cy (mm 4) 7 (fnd C (cRoom S))]) t) (va_A ([mO cy mm ik tl fm tz vl iw rm rr om, ia cy (mm 1) 169 S, ia cy (mm 4) 7 C]) sz)) 0 0 (va_A ([mO cy mm ik tl fm tz vl iw rm rr om, ia cy (mm 1) 169 S, ia cy (mm 4) 7 C]) sz) := by
  refine mk_rw (by decide) RX7 rfl (Nat.le_of_ble_eq_true rfl) [(0, .ref (mm 0))] rfl ?_
  intro p e s m below meth c hx hb hml hown hr hlocks hin hw hsz hA hG hK H0 locs0 hP0 hD0 hS0 ls0 hl0
  clear hin
  have hr6 := wf_r6 wf
  have hrc := rc_eq wf
  refine lv_aload_n hx hb dX7_room_0 rfl (lv_at hl0 0 rfl) ?_
  refine va_get (D := D) (ci := 7) (v := .ref (mm 1)) (C := RX7) (T := TX7) (N := 23) hx hb hw iX7 hown hK hP0 0 rfl rfl 0 (by decide) (hw _ kw_4_79) (fun _ h9 => h9) rfl dX7_room_1 ?_
  refine lv_iconst (v := 0) hx hb dX7_room_4 (by decide) ?_
  refine ald_i (f := S) hx hb hK hP0 1 0 rfl rfl 0 rfl (by first | omega | assumption) (by decide) dX7_room_5 ?_
  refine tp (show (S 0) = nI (rcN S) from wf_r wf) ?_
  refine lv_bipush (v := 6) hx hb dX7_room_6 (by decide) ?_
  refine ln_ne (tgt := 20) (rcN S) 6 rfl rfl (by omega) (by omega) hx hb dX7_room_8 (by decide) (fun c_8 => ?_) (fun c_8 => ?_)
  · refine lv_aload_n hx hb dX7_room_20 rfl (lv_at hl0 0 rfl) ?_
    refine cV_i (wc := [mO cy mm ik tl fm tz vl iw rm rr om, ia cy (mm 1) 169 S]) (wr := [ia cy (mm 4) 7 C]) (rest := []) hx hb hml hown hw hG hK hP0 hD0 hS0 hA hl0 kc_X7_newRoom kw_4_159 [] (c_X7_newRoom l D cy G H0.size mm ik tl fm tz vl iw rm rr om S (by first | omega | assumption)) [0, 1] [2] rfl rfl rfl rfl rfl 0 rfl rfl rfl rfl rfl (Nat.le_of_ble_eq_true rfl) ⟨Nat.le_of_ble_eq_true rfl, Nat.le_of_ble_eq_true rfl⟩ dX7_room_21 ⟨Nat.le_of_ble_eq_true rfl, Nat.le_of_ble_eq_true rfl⟩ (fun r_21 u9 H1 locs1 hu9 hP1 hD1 hS1 => ?_)
    clear hP0 hD0 hS0 locs0 H0
    have hr_21 := hu9
    replace hP1 : va_P D vwCl ([ia cy (mm 4) 7 C, mO cy mm ik tl fm tz vl iw rm rr om, ia cy (mm 1) 169 (upd S 0 (nI (rcN S + 1)))]) H1 := hP1
    replace hD1 : va_D (va_A _ sz) ([ia cy (mm 4) 7 C, mO cy mm ik tl fm tz vl iw rm rr om, ia cy (mm 1) 169 (upd S 0 (nI (rcN S + 1)))]) := hD1
    replace hP1 := hP1.sub (ws' := [mO cy mm ik tl fm tz vl iw rm rr om, ia cy (mm 1) 169 (upd S 0 (nI (rcN S + 1))), ia cy (mm 4) 7 C]) [1, 2, 0] rfl
    replace hD1 := hD1.sub (ws' := [mO cy mm ik tl fm tz vl iw rm rr om, ia cy (mm 1) 169 (upd S 0 (nI (rcN S + 1))), ia cy (mm 4) 7 C]) [1, 2, 0] (by decide) rfl
    subst hr_21
    have hcd : cRoom S = 7 := by unfold cRoom; clear hx hb hml hown hr hlocks hw hsz hA hG hK hP1 hD1 hS1 hl0; grind
    have hq9 : ([mO cy mm ik tl fm tz vl iw rm rr om, ia cy (mm 1) 169 (upd S 0 (nI (rcN S + 1))), ia cy (mm 4) 7 C]) = ([mO cy mm ik tl fm tz vl iw rm rr om, ia cy (mm 1) 169 (upd S 0 (nI (rcN S + 1))), ia cy (mm 4) 7 (fnd C (cRoom S))]) := congrArg (fun z9 => [mO cy mm ik tl fm tz vl iw rm rr om, ia cy (mm 1) 169 (upd S 0 (nI (rcN S + 1))), ia cy (mm 4) 7 z9]) (show C = (fnd C (cRoom S)) from fnd_o hcd)
    replace hP1 := (congrArg (fun z9 => va_P D vwCl z9 _) hq9).mp hP1
    replace hD1 := (congrArg (fun z9 => va_D _ z9) hq9).mp hD1
    clear hq9
    have hq9 : ([mO cy mm ik tl fm tz vl iw rm rr om, ia cy (mm 1) 169 (upd S 0 (nI (rcN S + 1))), ia cy (mm 4) 7 (fnd C (cRoom S))]) = ([mO cy mm ik tl fm tz vl iw rm rr om, ia cy (mm 1) 169 (if cRoom S = 7 then upd S 0 (nI (rcN S + 1)) else S), ia cy (mm 4) 7 (fnd C (cRoom S))]) := congrArg (fun z9 => [mO cy mm ik tl fm tz vl iw rm rr om, ia cy (mm 1) 169 z9, ia cy (mm 4) 7 (fnd C (cRoom S))]) (show (upd S 0 (nI (rcN S + 1))) = (if cRoom S = 7 then upd S 0 (nI (rcN S + 1)) else S) from (if_pos hcd).symm)
    replace hP1 := (congrArg (fun z9 => va_P D vwCl z9 _) hq9).mp hP1
    replace hD1 := (congrArg (fun z9 => va_D _ z9) hq9).mp hD1
    clear hq9
    refine re_i () hx hb hr hlocks hP1 hD1 hS1 dX7_room_24 ?_
    exact (ans_o hcd (rfl))
  · refine lv_aload_n hx hb dX7_room_11 rfl (lv_at hl0 0 rfl) ?_
    refine lv_ldc (v := (-1000000002)) hx hb hown (hw _ kw_4_153) dX7_room_12 ?_
    refine cV_i (wc := [mO cy mm ik tl fm tz vl iw rm rr om, ia cy (mm 4) 7 C]) (wr := [ia cy (mm 1) 169 S]) (rest := []) hx hb hml hown hw hG hK hP0 hD0 hS0 hA hl0 kc_X7_finds kw_4_154 [.int (-1000000002)] (c_X7_finds l D cy G H0.size mm ik tl fm tz vl iw rm rr om C 1 (-1000000002) (by decide) (by decide)) [0, 2] [1] rfl rfl rfl rfl rfl 0 rfl rfl rfl rfl rfl (Nat.le_of_ble_eq_true rfl) ⟨Nat.le_of_ble_eq_true rfl, Nat.le_of_ble_eq_true rfl⟩ dX7_room_14 ⟨Nat.le_of_ble_eq_true rfl, Nat.le_of_ble_eq_true rfl⟩ (fun r_14 u9 H1 locs1 hu9 hP1 hD1 hS1 => ?_)
    clear hP0 hD0 hS0 locs0 H0
    have hr_14 := hu9
    replace hP1 : va_P D vwCl ([ia cy (mm 1) 169 S, mO cy mm ik tl fm tz vl iw rm rr om, ia cy (mm 4) 7 (upd C 1 (C 1 + 1))]) H1 := hP1
    replace hD1 : va_D (va_A _ sz) ([ia cy (mm 1) 169 S, mO cy mm ik tl fm tz vl iw rm rr om, ia cy (mm 4) 7 (upd C 1 (C 1 + 1))]) := hD1
    replace hP1 := hP1.sub (ws' := [mO cy mm ik tl fm tz vl iw rm rr om, ia cy (mm 1) 169 S, ia cy (mm 4) 7 (upd C 1 (C 1 + 1))]) [1, 0, 2] rfl
    replace hD1 := hD1.sub (ws' := [mO cy mm ik tl fm tz vl iw rm rr om, ia cy (mm 1) 169 S, ia cy (mm 4) 7 (upd C 1 (C 1 + 1))]) [1, 0, 2] (by decide) rfl
    subst hr_14
    refine lv_goto (tgt := 24) hx hb dX7_room_17 (by decide) ?_
    have hcd : cRoom S = 1 := by unfold cRoom; clear hx hb hml hown hr hlocks hw hsz hA hG hK hP1 hD1 hS1 hl0; grind
    have hq9 : ([mO cy mm ik tl fm tz vl iw rm rr om, ia cy (mm 1) 169 S, ia cy (mm 4) 7 (upd C 1 (C 1 + 1))]) = ([mO cy mm ik tl fm tz vl iw rm rr om, ia cy (mm 1) 169 S, ia cy (mm 4) 7 (fnd C (cRoom S))]) := congrArg (fun z9 => [mO cy mm ik tl fm tz vl iw rm rr om, ia cy (mm 1) 169 S, ia cy (mm 4) 7 z9]) (show (upd C 1 (C 1 + 1)) = (fnd C (cRoom S)) from fnd_f hcd (by decide))
    replace hP1 := (congrArg (fun z9 => va_P D vwCl z9 _) hq9).mp hP1
    replace hD1 := (congrArg (fun z9 => va_D _ z9) hq9).mp hD1
    clear hq9
    have hq9 : ([mO cy mm ik tl fm tz vl iw rm rr om, ia cy (mm 1) 169 S, ia cy (mm 4) 7 (fnd C (cRoom S))]) = ([mO cy mm ik tl fm tz vl iw rm rr om, ia cy (mm 1) 169 (if cRoom S = 7 then upd S 0 (nI (rcN S + 1)) else S), ia cy (mm 4) 7 (fnd C (cRoom S))]) := congrArg (fun z9 => [mO cy mm ik tl fm tz vl iw rm rr om, ia cy (mm 1) 169 z9, ia cy (mm 4) 7 (fnd C (cRoom S))]) (show S = (if cRoom S = 7 then upd S 0 (nI (rcN S + 1)) else S) from (if_neg (fun z9 => absurd (hcd.symm.trans z9) (by decide))).symm)
    replace hP1 := (congrArg (fun z9 => va_P D vwCl z9 _) hq9).mp hP1
    replace hD1 := (congrArg (fun z9 => va_D _ z9) hq9).mp hD1
    clear hq9
    refine re_i () hx hb hr hlocks hP1 hD1 hS1 dX7_room_24 ?_
    exact (ans_f hcd (by decide) rfl)
