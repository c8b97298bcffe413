theorem kc_X6_find : kV yX6_find cX6_find 2 (some .int) 1 := ⟨kw_2_61, kw_s_0, kw_1_1, kw_2_62, by decide, by decide, by decide +kernel⟩
set_option maxHeartbeats 4000000 in
set_option maxRecDepth 100000 in
theorem c_X6_find (l : Launch) (D : va_G) (cy : Nat → ClassId) (G : Nat → Nat) (sz : Nat) (hh : Nat → Nat) (a : Nat → Nat) (kk : Nat → Nat) (dd : Nat → Nat) (b : Nat → Nat) (w : Nat → Nat) (ee : Nat → Nat) (qq : Nat → Nat) (ik : Int32) (C : Nat → Int32) (k : Nat) (hk : k < 7) : Met l yX6_find (wm yX6_find cX6_find 2 (some .int)) { frames := 0, cells := 0, slots := 0, locals := 0 } (va_Pc [.ref (hh 0), .int (nI k)] (pr D (TY cy) G ([sO cy hh a kk dd b w ee qq ik, ia cy (hh 1) 7 C]) sz)) (va_Qi (fun (r : Int32) (u : Unit) => r = fd k) (fun (u : Unit) t => po D (va_A ([sO cy hh a kk dd b w ee qq ik, ia cy (hh 1) 7 C]) sz) ([sO cy hh a kk dd b w ee qq ik, ia cy (hh 1) 7 (upd C k (C k + 1))]) t) (va_A ([sO cy hh a kk dd b w ee qq ik, ia cy (hh 1) 7 C]) sz)) 0 0 (va_A ([sO cy hh a kk dd b w ee qq ik, ia cy (hh 1) 7 C]) sz) := by
  refine mk_rw (by decide) RX6 rfl (Nat.le_of_ble_eq_true rfl) [(0, .ref (hh 0)), (1, .int (nI k))] rfl ?_
  intro p e s m below meth c hx hb hml hown hr hlocks hin hw hsz hA hG hK H0 locs0 hP0 hD0 hS0 ls0 hl0
  clear hin
  refine lv_iload_n hx hb dX6_find_0 rfl (lv_at hl0 1 rfl) ?_
  refine lv_if_lt (tgt := 20) hx hb dX6_find_1 (by decide) (fun c => absurd c (nI_pos (by omega))) (fun _ => ?_)
  refine lv_iload_n hx hb dX6_find_4 rfl (lv_at hl0 1 rfl) ?_
  refine lv_bipush (v := 7) hx hb dX6_find_5 (by decide) ?_
  refine ln_ge (tgt := 20) k 7 rfl rfl (by omega) (by omega) hx hb dX6_find_7 (by decide) (fun c_7 => absurd hk (by omega)) (fun c_7 => ?_)
  refine lv_aload_n hx hb dX6_find_10 rfl (lv_at hl0 0 rfl) ?_
  refine va_get (D := D) (ci := 6) (v := .ref (hh 1)) (C := RX6) (T := TX6) (N := 9) hx hb hw iX6 hown hK hP0 0 rfl rfl 8 (by decide) (hw _ kw_2_35) (fun _ h9 => h9) rfl dX6_find_11 ?_
  refine lv_iload_n hx hb dX6_find_14 rfl (lv_at hl0 1 rfl) ?_
  refine lv_dup2_11 hx hb dX6_find_15 rfl rfl ?_
  refine ald_i (f := C) hx hb hK hP0 1 0 rfl rfl k rfl (by first | omega | assumption) (by decide) dX6_find_16 ?_
  refine lv_iconst (v := 1) hx hb dX6_find_17 (by decide) ?_
  refine lv_iadd hx hb dX6_find_18 ?_
  refine ast_i (f := C) (ws' := [sO cy hh a kk dd b w ee qq ik, ia cy (hh 1) 7 (upd C k ((C k) + 1))]) hx hb hK hP0 hD0 hS0 1 0 rfl rfl k rfl (by first | omega | assumption) (by decide) rfl dX6_find_19 (fun H1 locs1 hP1 hD1 hS1 => ?_)
  clear hP0 hD0 hS0 locs0 H0
  refine lv_ldcw (v := (-1000000001)) hx hb hown (hw _ kw_2_63) dX6_find_20 ?_
  refine lv_iload_n hx hb dX6_find_23 rfl (lv_at hl0 1 rfl) ?_
  refine lv_isub hx hb dX6_find_24 ?_
  have hq9 : ([sO cy hh a kk dd b w ee qq ik, ia cy (hh 1) 7 (upd C k ((C k) + 1))]) = [sO cy hh a kk dd b w ee qq ik, ia cy (hh 1) 7 (upd C k (C k + 1))] := by rfl
  replace hP1 := (congrArg (fun z9 => va_P D vwCl z9 _) hq9).mp hP1
  replace hD1 := (congrArg (fun z9 => va_D _ z9) hq9).mp hD1
  refine re_i () hx hb hr hlocks hP1 hD1 hS1 dX6_find_25 ?_
  exact (rfl)

theorem kc_X6_isMeasure : kT yX6_isMeasure cX6_isMeasure 1 (some .boolean) 1 := ⟨kw_2_80, kw_1_1, kw_2_81, by decide, by decide, by decide +kernel⟩
set_option maxHeartbeats 4000000 in
set_option maxRecDepth 100000 in
theorem c_X6_isMeasure (l : Launch) (D : va_G) (cy : Nat → ClassId) (G : Nat → Nat) (sz : Nat) (x : Int32)  : Met l yX6_isMeasure (wm yX6_isMeasure cX6_isMeasure 1 (some .boolean)) { frames := 0, cells := 0, slots := 0, locals := 0 } (va_Pc [.int x] (pd D (TY cy) G ([]) sz)) (va_Qi (fun r (_ : Unit) => r = b2i ((0 ≤ x ∧ x ≤ 999999) ∧ x / 100 - x / 100 / 10 * 10 < 4)) (fun _ _ => True) (va_A [] sz)) 0 0 (va_A [] sz) := by
  refine mk_rd (by decide) RX6 rfl (Nat.le_of_ble_eq_true rfl) [(0, .int x)] rfl ?_
  intro p e s m below meth c hx hb hml hown hr hlocks hw hsz hA hG hK H0 locs0 hP0 hS0 ls0 hl0
  refine lv_iload_n hx hb dX6_isMeasure_0 rfl (lv_at hl0 0 rfl) ?_
  refine lv_if_lt (tgt := 29) hx hb dX6_isMeasure_1 (by decide) (fun c_1 => ?_) (fun c_1 => ?_)
  · refine lv_iconst (v := 0) hx hb dX6_isMeasure_29 (by decide) ?_
    exact rd_z hx hb hr hlocks hS0 dX6_isMeasure_30 rfl ((b2i_f (fun z9 => (Int32.not_lt.mpr z9.1.1) c_1)).symm)
  · refine lv_iload_n hx hb dX6_isMeasure_4 rfl (lv_at hl0 0 rfl) ?_
    refine lv_sipush (v := 10000) hx hb dX6_isMeasure_5 (by decide) ?_
    refine lv_idiv hx hb dX6_isMeasure_8 (by decide) ?_
    refine lv_bipush (v := 99) hx hb dX6_isMeasure_9 (by decide) ?_
    refine lv_icmp_gt (tgt := 29) hx hb dX6_isMeasure_11 (by decide) (fun c_11 => ?_) (fun c_11 => ?_)
    · refine lv_iconst (v := 0) hx hb dX6_isMeasure_29 (by decide) ?_
      exact rd_z hx hb hr hlocks hS0 dX6_isMeasure_30 rfl ((b2i_f (fun z9 => (Int32.not_lt.mpr ((meas_le z9.1.1).mpr z9.1.2)) c_11)).symm)
    · refine lv_iload_n hx hb dX6_isMeasure_14 rfl (lv_at hl0 0 rfl) ?_
      refine lv_bipush (v := 100) hx hb dX6_isMeasure_15 (by decide) ?_
      refine lv_idiv hx hb dX6_isMeasure_17 (by decide) ?_
      refine lv_bipush (v := 10) hx hb dX6_isMeasure_18 (by decide) ?_
      refine lv_irem hx hb dX6_isMeasure_20 (by decide) ?_
      refine lv_iconst (v := 4) hx hb dX6_isMeasure_21 (by decide) ?_
      refine lv_icmp_ge (tgt := 29) hx hb dX6_isMeasure_22 (by decide) (fun c_22 => ?_) (fun c_22 => ?_)
      · refine lv_iconst (v := 0) hx hb dX6_isMeasure_29 (by decide) ?_
        exact rd_z hx hb hr hlocks hS0 dX6_isMeasure_30 rfl ((b2i_f (fun z9 => (Int32.not_le.mpr z9.2) c_22)).symm)
      · refine lv_iconst (v := 1) hx hb dX6_isMeasure_25 (by decide) ?_
        refine lv_goto (tgt := 30) hx hb dX6_isMeasure_26 (by decide) ?_
        exact rd_z hx hb hr hlocks hS0 dX6_isMeasure_30 rfl ((b2i_t ⟨⟨Int32.not_lt.mp c_1, (meas_le (Int32.not_lt.mp c_1)).mp (Int32.not_lt.mp c_11)⟩, Int32.not_le.mp c_22⟩).symm)

theorem kc_X6_room : kV yX6_room cX6_room 1 (some .int) 0 := ⟨kw_2_56, kw_2_57, kw_1_1, kw_2_58, by decide, by decide, by decide +kernel⟩
set_option maxHeartbeats 4000000 in
set_option maxRecDepth 100000 in
theorem c_X6_room (l : Launch) (D : va_G) (cy : Nat → ClassId) (G : Nat → Nat) (sz : Nat) (hh : Nat → Nat) (a : Nat → Nat) (kk : Nat → Nat) (dd : Nat → Nat) (b : Nat → Nat) (w : Nat → Nat) (ee : Nat → Nat) (qq : Nat → Nat) (ik : Int32) (S : Nat → Int32) (C : Nat → Int32) (wf : wf S) : Met l yX6_room (wm yX6_room cX6_room 1 (some .int)) { frames := 1, cells := 0, slots := 0, locals := 21 } (va_Pc [.ref (hh 0)] (pr D (TY cy) G ([sO cy hh a kk dd b w ee qq ik] ++ (pS cy a S ++ ([ia cy (hh 1) 7 C]))) sz)) (va_Qi (fun (r : Int32) (u : Unit) => r = ans (cRoom S) (nI (rcN S))) (fun (u : Unit) t => po D (va_A ([sO cy hh a kk dd b w ee qq ik] ++ (pS cy a S ++ ([ia cy (hh 1) 7 C]))) sz) ([sO cy hh a kk dd b w ee qq ik] ++ (pS cy a (if cRoom S = 7 then upd S 0 (nI (rcN S + 1)) else S) ++ ([ia cy (hh 1) 7 (fnd C (cRoom S))]))) t) (va_A ([sO cy hh a kk dd b w ee qq ik] ++ (pS cy a S ++ ([ia cy (hh 1) 7 C]))) sz)) 0 0 (va_A ([sO cy hh a kk dd b w ee qq ik] ++ (pS cy a S ++ ([ia cy (hh 1) 7 C]))) sz) := by
  refine mk_rw (by decide) RX6 rfl (Nat.le_of_ble_eq_true rfl) [(0, .ref (hh 0))] rfl ?_
  intro p e s m below meth c hx hb hml hown hr hlocks hin hw hsz hA hG hK H0 locs0 hP0 hD0 hS0 ls0 hl0
  clear hin
  have hr6 := wf_r6 wf
  have hrc := rc_eq wf
  refine lv_aload_n hx hb dX6_room_0 rfl (lv_at hl0 0 rfl) ?_
  refine va_get (D := D) (ci := 6) (v := .ref (a 0)) (C := RX6) (T := TX6) (N := 9) hx hb hw iX6 hown hK hP0 0 rfl rfl 0 (by decide) (hw _ kw_2_27) (fun _ h9 => h9) rfl dX6_room_1 ?_
  refine va_get (D := D) (ci := 1) (v := .int (S 0)) (C := RX1) (T := TX1) (N := 12) hx hb hw iX1 hown hK hP0 1 rfl rfl 0 (by decide) (hw _ kw_1_31) (fun _ h9 => h9) rfl dX6_room_4 ?_
  refine tp (show (S 0) = nI (rcN S) from wf_r wf) ?_
  refine lv_bipush (v := 6) hx hb dX6_room_7 (by decide) ?_
  refine ln_lt (tgt := 18) (rcN S) 6 rfl rfl (by omega) (by omega) hx hb dX6_room_9 (by decide) (fun c_9 => ?_) (fun c_9 => ?_)
  · refine lv_aload_n hx hb dX6_room_18 rfl (lv_at hl0 0 rfl) ?_
    refine va_get (D := D) (ci := 6) (v := .ref (a 0)) (C := RX6) (T := TX6) (N := 9) hx hb hw iX6 hown hK hP0 0 rfl rfl 0 (by decide) (hw _ kw_2_27) (fun _ h9 => h9) rfl dX6_room_19 ?_
    refine cV_v (wc := pS cy a S) (wr := [sO cy hh a kk dd b w ee qq ik, ia cy (hh 1) 7 C]) (rest := []) hx hb hml hown hw hG hK hP0 hD0 hS0 hA hl0 kc_X1_addRoom kw_2_64 [] (c_X1_addRoom l D cy G H0.size a S (rcN S) (wf_r wf) (by first | omega | assumption)) [1, 2, 3, 4, 5, 6, 7, 8, 9, 10] [0, 11] rfl rfl rfl rfl rfl 0 rfl rfl rfl rfl rfl (Nat.le_of_ble_eq_true rfl) ⟨Nat.le_of_ble_eq_true rfl, Nat.le_of_ble_eq_true rfl⟩ dX6_room_22 ⟨Nat.le_of_ble_eq_true rfl, Nat.le_of_ble_eq_true rfl⟩ (fun u9 H1 locs1 hu9 hP1 hD1 hS1 => ?_)
    clear hP0 hD0 hS0 locs0 H0
    replace hP1 : va_P D vwCl ([sO cy hh a kk dd b w ee qq ik, ia cy (hh 1) 7 C] ++ (pS cy a (upd S 0 (nI ((rcN S) + 1))))) H1 := hP1
    replace hD1 : va_D (va_A _ sz) ([sO cy hh a kk dd b w ee qq ik, ia cy (hh 1) 7 C] ++ (pS cy a (upd S 0 (nI ((rcN S) + 1))))) := hD1
    replace hP1 := hP1.sub (ws' := [sO cy hh a kk dd b w ee qq ik] ++ (pS cy a (upd S 0 (nI ((rcN S) + 1))) ++ ([ia cy (hh 1) 7 C]))) [0, 2, 3, 4, 5, 6, 7, 8, 9, 10, 11, 1] rfl
    replace hD1 := hD1.sub (ws' := [sO cy hh a kk dd b w ee qq ik] ++ (pS cy a (upd S 0 (nI ((rcN S) + 1))) ++ ([ia cy (hh 1) 7 C]))) [0, 2, 3, 4, 5, 6, 7, 8, 9, 10, 11, 1] (by decide) rfl
    refine lv_aload_n hx hb dX6_room_25 rfl (lv_at hl0 0 rfl) ?_
    refine va_get (D := D) (ci := 6) (v := .ref (a 0)) (C := RX6) (T := TX6) (N := 9) hx hb hw iX6 hown hK hP1 0 rfl rfl 0 (by decide) (hw _ kw_2_27) (fun _ h9 => h9) rfl dX6_room_26 ?_
    refine va_get (D := D) (ci := 1) (v := .int ((upd S 0 (nI ((rcN S) + 1))) 0)) (C := RX1) (T := TX1) (N := 12) hx hb hw iX1 hown hK hP1 1 rfl rfl 0 (by decide) (hw _ kw_1_31) (fun _ h9 => h9) rfl dX6_room_29 ?_
    refine lv_iconst (v := 1) hx hb dX6_room_32 (by decide) ?_
    refine lv_isub hx hb dX6_room_33 ?_
    refine tp (show (((upd S 0 (nI ((rcN S) + 1))) 0) - 1) = nI (rcN S) from nI_s1 _) ?_
    have hcd : cRoom S = 7 := by unfold cRoom; clear hx hb hml hown hr hlocks hw hsz hA hG hK hP1 hD1 hS1 hl0; grind
    have hq9 : ([sO cy hh a kk dd b w ee qq ik] ++ (pS cy a (upd S 0 (nI ((rcN S) + 1))) ++ ([ia cy (hh 1) 7 C]))) = ([sO cy hh a kk dd b w ee qq ik] ++ (pS cy a (upd S 0 (nI ((rcN S) + 1))) ++ ([ia cy (hh 1) 7 (fnd C (cRoom S))]))) := congrArg (fun z9 => [sO cy hh a kk dd b w ee qq ik] ++ (pS cy a (upd S 0 (nI ((rcN S) + 1))) ++ ([ia cy (hh 1) 7 z9]))) (show C = (fnd C (cRoom S)) from fnd_o hcd)
    replace hP1 := (congrArg (fun z9 => va_P D vwCl z9 _) hq9).mp hP1
    replace hD1 := (congrArg (fun z9 => va_D _ z9) hq9).mp hD1
    clear hq9
    have hq9 : ([sO cy hh a kk dd b w ee qq ik] ++ (pS cy a (upd S 0 (nI ((rcN S) + 1))) ++ ([ia cy (hh 1) 7 (fnd C (cRoom S))]))) = ([sO cy hh a kk dd b w ee qq ik] ++ (pS cy a (if cRoom S = 7 then upd S 0 (nI (rcN S + 1)) else S) ++ ([ia cy (hh 1) 7 (fnd C (cRoom S))]))) := congrArg (fun z9 => [sO cy hh a kk dd b w ee qq ik] ++ (pS cy a z9 ++ ([ia cy (hh 1) 7 (fnd C (cRoom S))]))) (show (upd S 0 (nI ((rcN S) + 1))) = (if cRoom S = 7 then upd S 0 (nI (rcN S + 1)) else S) from (if_pos hcd).symm)
    replace hP1 := (congrArg (fun z9 => va_P D vwCl z9 _) hq9).mp hP1
    replace hD1 := (congrArg (fun z9 => va_D _ z9) hq9).mp hD1
    clear hq9
    refine re_i () hx hb hr hlocks hP1 hD1 hS1 dX6_room_34 ?_
    exact (ans_o hcd (rfl))
  · refine lv_aload_n hx hb dX6_room_12 rfl (lv_at hl0 0 rfl) ?_
    refine lv_iconst (v := 1) hx hb dX6_room_13 (by decide) ?_
    refine cV_i (wc := [sO cy hh a kk dd b w ee qq ik, ia cy (hh 1) 7 C]) (wr := pS cy a S) (rest := []) hx hb hml hown hw hG hK hP0 hD0 hS0 hA hl0 kc_X6_find kw_2_59 [.int 1] (c_X6_find l D cy G H0.size hh a kk dd b w ee qq ik C 1 (by first | omega | assumption)) [0, 11] [1, 2, 3, 4, 5, 6, 7, 8, 9, 10] rfl rfl rfl rfl rfl 0 rfl rfl rfl rfl rfl (Nat.le_of_ble_eq_true rfl) ⟨Nat.le_of_ble_eq_true rfl, Nat.le_of_ble_eq_true rfl⟩ dX6_room_14 ⟨Nat.le_of_ble_eq_true rfl, Nat.le_of_ble_eq_true rfl⟩ (fun r_14 u9 H1 locs1 hu9 hP1 hD1 hS1 => ?_)
    clear hP0 hD0 hS0 locs0 H0
    have hr_14 := hu9
    replace hP1 : va_P D vwCl (pS cy a S ++ ([sO cy hh a kk dd b w ee qq ik, ia cy (hh 1) 7 (upd C 1 (C 1 + 1))])) H1 := hP1
    replace hD1 : va_D (va_A _ sz) (pS cy a S ++ ([sO cy hh a kk dd b w ee qq ik, ia cy (hh 1) 7 (upd C 1 (C 1 + 1))])) := hD1
    replace hP1 := hP1.sub (ws' := [sO cy hh a kk dd b w ee qq ik] ++ (pS cy a S ++ ([ia cy (hh 1) 7 (upd C 1 (C 1 + 1))]))) [10, 0, 1, 2, 3, 4, 5, 6, 7, 8, 9, 11] rfl
    replace hD1 := hD1.sub (ws' := [sO cy hh a kk dd b w ee qq ik] ++ (pS cy a S ++ ([ia cy (hh 1) 7 (upd C 1 (C 1 + 1))]))) [10, 0, 1, 2, 3, 4, 5, 6, 7, 8, 9, 11] (by decide) rfl
    subst hr_14
    have hcd : cRoom S = 1 := by unfold cRoom; clear hx hb hml hown hr hlocks hw hsz hA hG hK hP1 hD1 hS1 hl0; grind
    have hq9 : ([sO cy hh a kk dd b w ee qq ik] ++ (pS cy a S ++ ([ia cy (hh 1) 7 (upd C 1 (C 1 + 1))]))) = ([sO cy hh a kk dd b w ee qq ik] ++ (pS cy a S ++ ([ia cy (hh 1) 7 (fnd C (cRoom S))]))) := congrArg (fun z9 => [sO cy hh a kk dd b w ee qq ik] ++ (pS cy a S ++ ([ia cy (hh 1) 7 z9]))) (show (upd C 1 (C 1 + 1)) = (fnd C (cRoom S)) from fnd_f hcd (by decide))
    replace hP1 := (congrArg (fun z9 => va_P D vwCl z9 _) hq9).mp hP1
    replace hD1 := (congrArg (fun z9 => va_D _ z9) hq9).mp hD1
    clear hq9
    have hq9 : ([sO cy hh a kk dd b w ee qq ik] ++ (pS cy a S ++ ([ia cy (hh 1) 7 (fnd C (cRoom S))]))) = ([sO cy hh a kk dd b w ee qq ik] ++ (pS cy a (if cRoom S = 7 then upd S 0 (nI (rcN S + 1)) else S) ++ ([ia cy (hh 1) 7 (fnd C (cRoom S))]))) := congrArg (fun z9 => [sO cy hh a kk dd b w ee qq ik] ++ (pS cy a z9 ++ ([ia cy (hh 1) 7 (fnd C (cRoom S))]))) (show S = (if cRoom S = 7 then upd S 0 (nI (rcN S + 1)) else S) from (if_neg (fun z9 => absurd (hcd.symm.trans z9) (by decide))).symm)
    replace hP1 := (congrArg (fun z9 => va_P D vwCl z9 _) hq9).mp hP1
    replace hD1 := (congrArg (fun z9 => va_D _ z9) hq9).mp hD1
    clear hq9
    refine re_i () hx hb hr hlocks hP1 hD1 hS1 dX6_room_17 ?_
    exact (ans_f hcd (by decide) rfl)

theorem kc_X7_room : kV yX7_room cX7_room 1 (some .int) 0 := ⟨kw_4_135, kw_4_136, kw_1_8, kw_4_137, by decide, by decide, by decide +kernel⟩
set_option maxHeartbeats 4000000 in
set_option maxRecDepth 100000 in
theorem c_X7_room (l : Launch) (D : va_G) (cy : Nat → ClassId) (G : Nat → Nat) (sz : Nat) (mm : Nat → Nat) (ik : Int32) (tl : Int32) (fm : Int32) (tz : Int32) (vl : Int32) (iw : Int32) (rm : Int32) (rr : Int32) (om : Int32) (S : Nat → Int32) (C : Nat → Int32) (wf : wf S) : Met l yX7_room (wm yX7_room cX7_room 1 (some .int)) { frames := 1, cells := 0, slots := 0, locals := 21 } (va_Pc [.ref (mm 0)] (pr D (TY cy) G ([mO cy mm ik tl fm tz vl iw rm rr om, ia cy (mm 1) 169 S, ia cy (mm 4) 7 C]) sz)) (va_Qi (fun (r : Int32) (u : Unit) => r = ans (cRoom S) (nI (rcN S))) (fun (u : Unit) t => po D (va_A ([mO cy mm ik tl fm tz vl iw rm rr om, ia cy (mm 1) 169 S, ia cy (mm 4) 7 C]) sz) ([mO cy mm ik tl fm tz vl iw rm rr om, ia cy (mm 1) 169 (if cRoom S = 7 then upd S 0 (nI (rcN S + 1)) else S), ia cy (mm 4) 7 (fnd C (cRoom S))]) t) (va_A ([mO cy mm ik tl fm tz vl iw rm rr om, ia cy (mm 1) 169 S, ia cy (mm 4) 7 C]) sz)) 0 0 (va_A ([mO cy mm ik tl fm tz vl iw rm rr om, ia cy (mm 1) 169 S, ia cy (mm 4) 7 C]) sz) := by
  refine mk_rw (by decide) RX7 rfl (Nat.le_of_ble_eq_true rfl) [(0, .ref (mm 0))] rfl ?_
  intro p e s m below meth c hx hb hml hown hr hlocks hin hw hsz hA hG hK H0 locs0 hP0 hD0 hS0 ls0 hl0
  clear hin
  have hr6 := wf_r6 wf
  have hrc := rc_eq wf
  refine lv_aload_n hx hb dX7_room_0 rfl (lv_at hl0 0 rfl) ?_
  refine va_get (D := D) (ci := 7) (v := .ref (mm 1)) (C := RX7) (T := TX7) (N := 23) hx hb hw iX7 hown hK hP0 0 rfl rfl 0 (by decide) (hw _ kw_4_64) (fun _ h9 => h9) rfl dX7_room_1 ?_
  refine lv_iconst (v := 0) hx hb dX7_room_4 (by decide) ?_
  refine ald_i (f := S) hx hb hK hP0 1 0 rfl rfl 0 rfl (by first | omega | assumption) (by decide) dX7_room_5 ?_
  refine tp (show (S 0) = nI (rcN S) from wf_r wf) ?_
  refine lv_bipush (v := 6) hx hb dX7_room_6 (by decide) ?_
  refine ln_ne (tgt := 20) (rcN S) 6 rfl rfl (by omega) (by omega) hx hb dX7_room_8 (by decide) (fun c_8 => ?_) (fun c_8 => ?_)
  · refine lv_aload_n hx hb dX7_room_20 rfl (lv_at hl0 0 rfl) ?_
    refine cV_i (wc := [mO cy mm ik tl fm tz vl iw rm rr om, ia cy (mm 1) 169 S]) (wr := [ia cy (mm 4) 7 C]) (rest := []) hx hb hml hown hw hG hK hP0 hD0 hS0 hA hl0 kc_X7_newRoom kw_4_144 [] (c_X7_newRoom l D cy G H0.size mm ik tl fm tz vl iw rm rr om S (by first | omega | assumption)) [0, 1] [2] rfl rfl rfl rfl rfl 0 rfl rfl rfl rfl rfl (Nat.le_of_ble_eq_true rfl) ⟨Nat.le_of_ble_eq_true rfl, Nat.le_of_ble_eq_true rfl⟩ dX7_room_21 ⟨Nat.le_of_ble_eq_true rfl, Nat.le_of_ble_eq_true rfl⟩ (fun r_21 u9 H1 locs1 hu9 hP1 hD1 hS1 => ?_)
    clear hP0 hD0 hS0 locs0 H0
    have hr_21 := hu9
    replace hP1 : va_P D vwCl ([ia cy (mm 4) 7 C, mO cy mm ik tl fm tz vl iw rm rr om, ia cy (mm 1) 169 (upd S 0 (nI (rcN S + 1)))]) H1 := hP1
    replace hD1 : va_D (va_A _ sz) ([ia cy (mm 4) 7 C, mO cy mm ik tl fm tz vl iw rm rr om, ia cy (mm 1) 169 (upd S 0 (nI (rcN S + 1)))]) := hD1
    replace hP1 := hP1.sub (ws' := [mO cy mm ik tl fm tz vl iw rm rr om, ia cy (mm 1) 169 (upd S 0 (nI (rcN S + 1))), ia cy (mm 4) 7 C]) [1, 2, 0] rfl
    replace hD1 := hD1.sub (ws' := [mO cy mm ik tl fm tz vl iw rm rr om, ia cy (mm 1) 169 (upd S 0 (nI (rcN S + 1))), ia cy (mm 4) 7 C]) [1, 2, 0] (by decide) rfl
    subst hr_21
    have hcd : cRoom S = 7 := by unfold cRoom; clear hx hb hml hown hr hlocks hw hsz hA hG hK hP1 hD1 hS1 hl0; grind
    have hq9 : ([mO cy mm ik tl fm tz vl iw rm rr om, ia cy (mm 1) 169 (upd S 0 (nI (rcN S + 1))), ia cy (mm 4) 7 C]) = ([mO cy mm ik tl fm tz vl iw rm rr om, ia cy (mm 1) 169 (upd S 0 (nI (rcN S + 1))), ia cy (mm 4) 7 (fnd C (cRoom S))]) := congrArg (fun z9 => [mO cy mm ik tl fm tz vl iw rm rr om, ia cy (mm 1) 169 (upd S 0 (nI (rcN S + 1))), ia cy (mm 4) 7 z9]) (show C = (fnd C (cRoom S)) from fnd_o hcd)
    replace hP1 := (congrArg (fun z9 => va_P D vwCl z9 _) hq9).mp hP1
    replace hD1 := (congrArg (fun z9 => va_D _ z9) hq9).mp hD1
    clear hq9
    have hq9 : ([mO cy mm ik tl fm tz vl iw rm rr om, ia cy (mm 1) 169 (upd S 0 (nI (rcN S + 1))), ia cy (mm 4) 7 (fnd C (cRoom S))]) = ([mO cy mm ik tl fm tz vl iw rm rr om, ia cy (mm 1) 169 (if cRoom S = 7 then upd S 0 (nI (rcN S + 1)) else S), ia cy (mm 4) 7 (fnd C (cRoom S))]) := congrArg (fun z9 => [mO cy mm ik tl fm tz vl iw rm rr om, ia cy (mm 1) 169 z9, ia cy (mm 4) 7 (fnd C (cRoom S))]) (show (upd S 0 (nI (rcN S + 1))) = (if cRoom S = 7 then upd S 0 (nI (rcN S + 1)) else S) from (if_pos hcd).symm)
    replace hP1 := (congrArg (fun z9 => va_P D vwCl z9 _) hq9).mp hP1
    replace hD1 := (congrArg (fun z9 => va_D _ z9) hq9).mp hD1
    clear hq9
    refine re_i () hx hb hr hlocks hP1 hD1 hS1 dX7_room_24 ?_
    exact (ans_o hcd (rfl))
  · refine lv_aload_n hx hb dX7_room_11 rfl (lv_at hl0 0 rfl) ?_
    refine lv_ldc (v := (-1000000002)) hx hb hown (hw _ kw_4_138) dX7_room_12 ?_
    refine cV_i (wc := [mO cy mm ik tl fm tz vl iw rm rr om, ia cy (mm 4) 7 C]) (wr := [ia cy (mm 1) 169 S]) (rest := []) hx hb hml hown hw hG hK hP0 hD0 hS0 hA hl0 kc_X7_finds kw_4_139 [.int (-1000000002)] (c_X7_finds l D cy G H0.size mm ik tl fm tz vl iw rm rr om C 1 (-1000000002) (by decide) (by decide)) [0, 2] [1] rfl rfl rfl rfl rfl 0 rfl rfl rfl rfl rfl (Nat.le_of_ble_eq_true rfl) ⟨Nat.le_of_ble_eq_true rfl, Nat.le_of_ble_eq_true rfl⟩ dX7_room_14 ⟨Nat.le_of_ble_eq_true rfl, Nat.le_of_ble_eq_true rfl⟩ (fun r_14 u9 H1 locs1 hu9 hP1 hD1 hS1 => ?_)
    clear hP0 hD0 hS0 locs0 H0
    have hr_14 := hu9
    replace hP1 : va_P D vwCl ([ia cy (mm 1) 169 S, mO cy mm ik tl fm tz vl iw rm rr om, ia cy (mm 4) 7 (upd C 1 (C 1 + 1))]) H1 := hP1
    replace hD1 : va_D (va_A _ sz) ([ia cy (mm 1) 169 S, mO cy mm ik tl fm tz vl iw rm rr om, ia cy (mm 4) 7 (upd C 1 (C 1 + 1))]) := hD1
    replace hP1 := hP1.sub (ws' := [mO cy mm ik tl fm tz vl iw rm rr om, ia cy (mm 1) 169 S, ia cy (mm 4) 7 (upd C 1 (C 1 + 1))]) [1, 0, 2] rfl
    replace hD1 := hD1.sub (ws' := [mO cy mm ik tl fm tz vl iw rm rr om, ia cy (mm 1) 169 S, ia cy (mm 4) 7 (upd C 1 (C 1 + 1))]) [1, 0, 2] (by decide) rfl
    subst hr_14
    refine lv_goto (tgt := 24) hx hb dX7_room_17 (by decide) ?_
    have hcd : cRoom S = 1 := by unfold cRoom; clear hx hb hml hown hr hlocks hw hsz hA hG hK hP1 hD1 hS1 hl0; grind
    have hq9 : ([mO cy mm ik tl fm tz vl iw rm rr om, ia cy (mm 1) 169 S, ia cy (mm 4) 7 (upd C 1 (C 1 + 1))]) = ([mO cy mm ik tl fm tz vl iw rm rr om, ia cy (mm 1) 169 S, ia cy (mm 4) 7 (fnd C (cRoom S))]) := congrArg (fun z9 => [mO cy mm ik tl fm tz vl iw rm rr om, ia cy (mm 1) 169 S, ia cy (mm 4) 7 z9]) (show (upd C 1 (C 1 + 1)) = (fnd C (cRoom S)) from fnd_f hcd (by decide))
    replace hP1 := (congrArg (fun z9 => va_P D vwCl z9 _) hq9).mp hP1
    replace hD1 := (congrArg (fun z9 => va_D _ z9) hq9).mp hD1
    clear hq9
    have hq9 : ([mO cy mm ik tl fm tz vl iw rm rr om, ia cy (mm 1) 169 S, ia cy (mm 4) 7 (fnd C (cRoom S))]) = ([mO cy mm ik tl fm tz vl iw rm rr om, ia cy (mm 1) 169 (if cRoom S = 7 then upd S 0 (nI (rcN S + 1)) else S), ia cy (mm 4) 7 (fnd C (cRoom S))]) := congrArg (fun z9 => [mO cy mm ik tl fm tz vl iw rm rr om, ia cy (mm 1) 169 z9, ia cy (mm 4) 7 (fnd C (cRoom S))]) (show S = (if cRoom S = 7 then upd S 0 (nI (rcN S + 1)) else S) from (if_neg (fun z9 => absurd (hcd.symm.trans z9) (by decide))).symm)
    replace hP1 := (congrArg (fun z9 => va_P D vwCl z9 _) hq9).mp hP1
    replace hD1 := (congrArg (fun z9 => va_D _ z9) hq9).mp hD1
    clear hq9
    refine re_i () hx hb hr hlocks hP1 hD1 hS1 dX7_room_24 ?_
    exact (ans_f hcd (by decide) rfl)

theorem kc_X6_gap : kV yX6_gap cX6_gap 6 (some .int) 4 := ⟨kw_2_69, kw_2_70, kw_1_1, kw_2_71, by decide, by decide, by decide +kernel⟩
set_option maxHeartbeats 4000000 in
set_option maxRecDepth 100000 in
theorem c_X6_gap (l : Launch) (D : va_G) (cy : Nat → ClassId) (G : Nat → Nat) (sz : Nat) (hh : Nat → Nat) (a : Nat → Nat) (kk : Nat → Nat) (dd : Nat → Nat) (b : Nat → Nat) (w : Nat → Nat) (ee : Nat → Nat) (qq : Nat → Nat) (ik : Int32) (S : Nat → Int32) (C : Nat → Int32) (x1 : Int32) (x2 : Int32) (x3 : Int32) (x4 : Int32) (wf : wf S) : Met l yX6_gap (wm yX6_gap cX6_gap 6 (some .int)) { frames := 2, cells := 0, slots := 0, locals := 46 } (va_Pc [.ref (hh 0), .int x1, .int x2, .int x3, .int x4] (pr D (TY cy) G ([sO cy hh a kk dd b w ee qq ik] ++ (pS cy a S ++ ([ia cy (hh 1) 7 C]))) sz)) (va_Qi (fun (r : Int32) (u : Unit) => r = ans (cGap S x1 x2 x3 x4) (nI (gcN S))) (fun (u : Unit) t => po D (va_A ([sO cy hh a kk dd b w ee qq ik] ++ (pS cy a S ++ ([ia cy (hh 1) 7 C]))) sz) ([sO cy hh a kk dd b w ee qq ik] ++ (pS cy a (if cGap S x1 x2 x3 x4 = 7 then gapS S x1 x2 x3 x4 else S) ++ ([ia cy (hh 1) 7 (fnd C (cGap S x1 x2 x3 x4))]))) t) (va_A ([sO cy hh a kk dd b w ee qq ik] ++ (pS cy a S ++ ([ia cy (hh 1) 7 C]))) sz)) 0 0 (va_A ([sO cy hh a kk dd b w ee qq ik] ++ (pS cy a S ++ ([ia cy (hh 1) 7 C]))) sz) := by
  refine mk_rw (by decide) RX6 rfl (Nat.le_of_ble_eq_true rfl) [(0, .ref (hh 0)), (1, .int x1), (2, .int x2), (3, .int x3), (4, .int x4)] rfl ?_
  intro p e s m below meth c hx hb hml hown hr hlocks hin hw hsz hA hG hK H0 locs0 hP0 hD0 hS0 ls0 hl0
  clear hin
  have hg20 := wf_g20 wf
  have hgc := gc_eq wf
  refine lv_iload_n hx hb dX6_gap_0 rfl (lv_at hl0 1 rfl) ?_
  refine rT_i (wc := []) (rest := []) hx hb hml hown hw hG hK hP0 hS0 hA hl0 kc_X6_isKind kw_2_72 [.int x1] (c_X6_isKind l D cy G H0.size x1) [] rfl rfl rfl (Nat.le_of_ble_eq_true rfl) ⟨Nat.le_of_ble_eq_true rfl, Nat.le_of_ble_eq_true rfl⟩ dX6_gap_1 ⟨Nat.le_of_ble_eq_true rfl, Nat.le_of_ble_eq_true rfl⟩ (fun r_1 H1 locs1 hr_1 hP1 hS1 => ?_)
  have hD1 := hD0
  clear hP0 hD0 hS0 locs0 H0
  subst hr_1
  refine lb_eq (tgt := 47) hx hb dX6_gap_4 (by decide) (fun c_4 => ?_) (fun c_4 => ?_)
  · refine lv_aload_n hx hb dX6_gap_47 rfl (lv_at hl0 0 rfl) ?_
    refine lv_iconst (v := 0) hx hb dX6_gap_48 (by decide) ?_
    refine cV_i (wc := [sO cy hh a kk dd b w ee qq ik, ia cy (hh 1) 7 C]) (wr := pS cy a S) (rest := []) hx hb hml hown hw hG hK hP1 hD1 hS1 hA hl0 kc_X6_find kw_2_59 [.int 0] (c_X6_find l D cy G H1.size hh a kk dd b w ee qq ik C 0 (by first | omega | assumption)) [0, 11] [1, 2, 3, 4, 5, 6, 7, 8, 9, 10] rfl rfl rfl rfl rfl 0 rfl rfl rfl rfl rfl (Nat.le_of_ble_eq_true rfl) ⟨Nat.le_of_ble_eq_true rfl, Nat.le_of_ble_eq_true rfl⟩ dX6_gap_49 ⟨Nat.le_of_ble_eq_true rfl, Nat.le_of_ble_eq_true rfl⟩ (fun r_49 u9 H2 locs2 hu9 hP2 hD2 hS2 => ?_)
    clear hP1 hD1 hS1 locs1 H1
    have hr_49 := hu9
    replace hP2 : va_P D vwCl (pS cy a S ++ ([sO cy hh a kk dd b w ee qq ik, ia cy (hh 1) 7 (upd C 0 (C 0 + 1))])) H2 := hP2
    replace hD2 : va_D (va_A _ sz) (pS cy a S ++ ([sO cy hh a kk dd b w ee qq ik, ia cy (hh 1) 7 (upd C 0 (C 0 + 1))])) := hD2
    replace hP2 := hP2.sub (ws' := [sO cy hh a kk dd b w ee qq ik] ++ (pS cy a S ++ ([ia cy (hh 1) 7 (upd C 0 (C 0 + 1))]))) [10, 0, 1, 2, 3, 4, 5, 6, 7, 8, 9, 11] rfl
    replace hD2 := hD2.sub (ws' := [sO cy hh a kk dd b w ee qq ik] ++ (pS cy a S ++ ([ia cy (hh 1) 7 (upd C 0 (C 0 + 1))]))) [10, 0, 1, 2, 3, 4, 5, 6, 7, 8, 9, 11] (by decide) rfl
    subst hr_49
    have hcd : cGap S x1 x2 x3 x4 = 0 := by unfold cGap; clear hx hb hml hown hr hlocks hw hsz hA hG hK hP2 hD2 hS2 hl0; grind
    have hq9 : ([sO cy hh a kk dd b w ee qq ik] ++ (pS cy a S ++ ([ia cy (hh 1) 7 (upd C 0 (C 0 + 1))]))) = ([sO cy hh a kk dd b w ee qq ik] ++ (pS cy a S ++ ([ia cy (hh 1) 7 (fnd C (cGap S x1 x2 x3 x4))]))) := congrArg (fun z9 => [sO cy hh a kk dd b w ee qq ik] ++ (pS cy a S ++ ([ia cy (hh 1) 7 z9]))) (show (upd C 0 (C 0 + 1)) = (fnd C (cGap S x1 x2 x3 x4)) from fnd_f hcd (by decide))
    replace hP2 := (congrArg (fun z9 => va_P D vwCl z9 _) hq9).mp hP2
    replace hD2 := (congrArg (fun z9 => va_D _ z9) hq9).mp hD2
    clear hq9
    have hq9 : ([sO cy hh a kk dd b w ee qq ik] ++ (pS cy a S ++ ([ia cy (hh 1) 7 (fnd C (cGap S x1 x2 x3 x4))]))) = ([sO cy hh a kk dd b w ee qq ik] ++ (pS cy a (if cGap S x1 x2 x3 x4 = 7 then gapS S x1 x2 x3 x4 else S) ++ ([ia cy (hh 1) 7 (fnd C (cGap S x1 x2 x3 x4))]))) := congrArg (fun z9 => [sO cy hh a kk dd b w ee qq ik] ++ (pS cy a z9 ++ ([ia cy (hh 1) 7 (fnd C (cGap S x1 x2 x3 x4))]))) (show S = (if cGap S x1 x2 x3 x4 = 7 then gapS S x1 x2 x3 x4 else S) from (if_neg (fun z9 => absurd (hcd.symm.trans z9) (by decide))).symm)
    replace hP2 := (congrArg (fun z9 => va_P D vwCl z9 _) hq9).mp hP2
    replace hD2 := (congrArg (fun z9 => va_D _ z9) hq9).mp hD2
    clear hq9
    refine re_i () hx hb hr hlocks hP2 hD2 hS2 dX6_gap_52 ?_
    exact (ans_f hcd (by decide) rfl)
  · refine lv_aload_n hx hb dX6_gap_7 rfl (lv_at hl0 0 rfl) ?_
    refine va_get (D := D) (ci := 6) (v := .ref (a 0)) (C := RX6) (T := TX6) (N := 9) hx hb hw iX6 hown hK hP1 0 rfl rfl 0 (by decide) (hw _ kw_2_27) (fun _ h9 => h9) rfl dX6_gap_8 ?_
    refine lv_iload_n hx hb dX6_gap_11 rfl (lv_at hl0 2 rfl) ?_
    refine rV_i (wc := pS cy a S) (rest := []) hx hb hml hown hw hG hK hP1 hS1 hA hl0 kc_X1_hasRoom kw_2_75 [.int x2] (c_X1_hasRoom l D cy G H1.size a S x2) [1, 2, 3, 4, 5, 6, 7, 8, 9, 10] rfl 0 rfl rfl rfl rfl rfl (Nat.le_of_ble_eq_true rfl) ⟨Nat.le_of_ble_eq_true rfl, Nat.le_of_ble_eq_true rfl⟩ dX6_gap_12 ⟨Nat.le_of_ble_eq_true rfl, Nat.le_of_ble_eq_true rfl⟩ (fun r_12 H2 locs2 hr_12 hP2 hS2 => ?_)
    have hD2 := hD1
    clear hP1 hD1 hS1 locs1 H1
    subst hr_12
    refine lb_eq (tgt := 47) hx hb dX6_gap_15 (by decide) (fun c_15 => ?_) (fun c_15 => ?_)
    · refine lv_aload_n hx hb dX6_gap_47 rfl (lv_at hl0 0 rfl) ?_
      refine lv_iconst (v := 0) hx hb dX6_gap_48 (by decide) ?_
      refine cV_i (wc := [sO cy hh a kk dd b w ee qq ik, ia cy (hh 1) 7 C]) (wr := pS cy a S) (rest := []) hx hb hml hown hw hG hK hP2 hD2 hS2 hA hl0 kc_X6_find kw_2_59 [.int 0] (c_X6_find l D cy G H2.size hh a kk dd b w ee qq ik C 0 (by first | omega | assumption)) [0, 11] [1, 2, 3, 4, 5, 6, 7, 8, 9, 10] rfl rfl rfl rfl rfl 0 rfl rfl rfl rfl rfl (Nat.le_of_ble_eq_true rfl) ⟨Nat.le_of_ble_eq_true rfl, Nat.le_of_ble_eq_true rfl⟩ dX6_gap_49 ⟨Nat.le_of_ble_eq_true rfl, Nat.le_of_ble_eq_true rfl⟩ (fun r_49 u9 H3 locs3 hu9 hP3 hD3 hS3 => ?_)
      clear hP2 hD2 hS2 locs2 H2
      have hr_49 := hu9
      replace hP3 : va_P D vwCl (pS cy a S ++ ([sO cy hh a kk dd b w ee qq ik, ia cy (hh 1) 7 (upd C 0 (C 0 + 1))])) H3 := hP3
      replace hD3 : va_D (va_A _ sz) (pS cy a S ++ ([sO cy hh a kk dd b w ee qq ik, ia cy (hh 1) 7 (upd C 0 (C 0 + 1))])) := hD3
      replace hP3 := hP3.sub (ws' := [sO cy hh a kk dd b w ee qq ik] ++ (pS cy a S ++ ([ia cy (hh 1) 7 (upd C 0 (C 0 + 1))]))) [10, 0, 1, 2, 3, 4, 5, 6, 7, 8, 9, 11] rfl
      replace hD3 := hD3.sub (ws' := [sO cy hh a kk dd b w ee qq ik] ++ (pS cy a S ++ ([ia cy (hh 1) 7 (upd C 0 (C 0 + 1))]))) [10, 0, 1, 2, 3, 4, 5, 6, 7, 8, 9, 11] (by decide) rfl
      subst hr_49
      have hcd : cGap S x1 x2 x3 x4 = 0 := by unfold cGap; clear hx hb hml hown hr hlocks hw hsz hA hG hK hP3 hD3 hS3 hl0; grind
      have hq9 : ([sO cy hh a kk dd b w ee qq ik] ++ (pS cy a S ++ ([ia cy (hh 1) 7 (upd C 0 (C 0 + 1))]))) = ([sO cy hh a kk dd b w ee qq ik] ++ (pS cy a S ++ ([ia cy (hh 1) 7 (fnd C (cGap S x1 x2 x3 x4))]))) := congrArg (fun z9 => [sO cy hh a kk dd b w ee qq ik] ++ (pS cy a S ++ ([ia cy (hh 1) 7 z9]))) (show (upd C 0 (C 0 + 1)) = (fnd C (cGap S x1 x2 x3 x4)) from fnd_f hcd (by decide))
      replace hP3 := (congrArg (fun z9 => va_P D vwCl z9 _) hq9).mp hP3
      replace hD3 := (congrArg (fun z9 => va_D _ z9) hq9).mp hD3
      clear hq9
      have hq9 : ([sO cy hh a kk dd b w ee qq ik] ++ (pS cy a S ++ ([ia cy (hh 1) 7 (fnd C (cGap S x1 x2 x3 x4))]))) = ([sO cy hh a kk dd b w ee qq ik] ++ (pS cy a (if cGap S x1 x2 x3 x4 = 7 then gapS S x1 x2 x3 x4 else S) ++ ([ia cy (hh 1) 7 (fnd C (cGap S x1 x2 x3 x4))]))) := congrArg (fun z9 => [sO cy hh a kk dd b w ee qq ik] ++ (pS cy a z9 ++ ([ia cy (hh 1) 7 (fnd C (cGap S x1 x2 x3 x4))]))) (show S = (if cGap S x1 x2 x3 x4 = 7 then gapS S x1 x2 x3 x4 else S) from (if_neg (fun z9 => absurd (hcd.symm.trans z9) (by decide))).symm)
      replace hP3 := (congrArg (fun z9 => va_P D vwCl z9 _) hq9).mp hP3
      replace hD3 := (congrArg (fun z9 => va_D _ z9) hq9).mp hD3
      clear hq9
      refine re_i () hx hb hr hlocks hP3 hD3 hS3 dX6_gap_52 ?_
      exact (ans_f hcd (by decide) rfl)
    · refine lv_iload_n hx hb dX6_gap_18 rfl (lv_at hl0 3 rfl) ?_
      refine lv_iconst (v := (-1)) hx hb dX6_gap_19 (by decide) ?_
      refine lv_icmp_eq (tgt := 34) hx hb dX6_gap_20 (by decide) (fun c_20 => ?_) (fun c_20 => ?_)
      · refine lv_iload_n hx hb dX6_gap_34 rfl (lv_at hl0 3 rfl) ?_
        refine lv_iload_n hx hb dX6_gap_35 rfl (lv_at hl0 2 rfl) ?_
        refine lv_icmp_eq (tgt := 47) hx hb dX6_gap_36 (by decide) (fun c_36 => ?_) (fun c_36 => ?_)
        · refine lv_aload_n hx hb dX6_gap_47 rfl (lv_at hl0 0 rfl) ?_
          refine lv_iconst (v := 0) hx hb dX6_gap_48 (by decide) ?_
          refine cV_i (wc := [sO cy hh a kk dd b w ee qq ik, ia cy (hh 1) 7 C]) (wr := pS cy a S) (rest := []) hx hb hml hown hw hG hK hP2 hD2 hS2 hA hl0 kc_X6_find kw_2_59 [.int 0] (c_X6_find l D cy G H2.size hh a kk dd b w ee qq ik C 0 (by first | omega | assumption)) [0, 11] [1, 2, 3, 4, 5, 6, 7, 8, 9, 10] rfl rfl rfl rfl rfl 0 rfl rfl rfl rfl rfl (Nat.le_of_ble_eq_true rfl) ⟨Nat.le_of_ble_eq_true rfl, Nat.le_of_ble_eq_true rfl⟩ dX6_gap_49 ⟨Nat.le_of_ble_eq_true rfl, Nat.le_of_ble_eq_true rfl⟩ (fun r_49 u9 H3 locs3 hu9 hP3 hD3 hS3 => ?_)
          clear hP2 hD2 hS2 locs2 H2
          have hr_49 := hu9
          replace hP3 : va_P D vwCl (pS cy a S ++ ([sO cy hh a kk dd b w ee qq ik, ia cy (hh 1) 7 (upd C 0 (C 0 + 1))])) H3 := hP3
          replace hD3 : va_D (va_A _ sz) (pS cy a S ++ ([sO cy hh a kk dd b w ee qq ik, ia cy (hh 1) 7 (upd C 0 (C 0 + 1))])) := hD3
          replace hP3 := hP3.sub (ws' := [sO cy hh a kk dd b w ee qq ik] ++ (pS cy a S ++ ([ia cy (hh 1) 7 (upd C 0 (C 0 + 1))]))) [10, 0, 1, 2, 3, 4, 5, 6, 7, 8, 9, 11] rfl
          replace hD3 := hD3.sub (ws' := [sO cy hh a kk dd b w ee qq ik] ++ (pS cy a S ++ ([ia cy (hh 1) 7 (upd C 0 (C 0 + 1))]))) [10, 0, 1, 2, 3, 4, 5, 6, 7, 8, 9, 11] (by decide) rfl
          subst hr_49
          have hcd : cGap S x1 x2 x3 x4 = 0 := by unfold cGap; clear hx hb hml hown hr hlocks hw hsz hA hG hK hP3 hD3 hS3 hl0; grind
          have hq9 : ([sO cy hh a kk dd b w ee qq ik] ++ (pS cy a S ++ ([ia cy (hh 1) 7 (upd C 0 (C 0 + 1))]))) = ([sO cy hh a kk dd b w ee qq ik] ++ (pS cy a S ++ ([ia cy (hh 1) 7 (fnd C (cGap S x1 x2 x3 x4))]))) := congrArg (fun z9 => [sO cy hh a kk dd b w ee qq ik] ++ (pS cy a S ++ ([ia cy (hh 1) 7 z9]))) (show (upd C 0 (C 0 + 1)) = (fnd C (cGap S x1 x2 x3 x4)) from fnd_f hcd (by decide))
          replace hP3 := (congrArg (fun z9 => va_P D vwCl z9 _) hq9).mp hP3
          replace hD3 := (congrArg (fun z9 => va_D _ z9) hq9).mp hD3
          clear hq9
          have hq9 : ([sO cy hh a kk dd b w ee qq ik] ++ (pS cy a S ++ ([ia cy (hh 1) 7 (fnd C (cGap S x1 x2 x3 x4))]))) = ([sO cy hh a kk dd b w ee qq ik] ++ (pS cy a (if cGap S x1 x2 x3 x4 = 7 then gapS S x1 x2 x3 x4 else S) ++ ([ia cy (hh 1) 7 (fnd C (cGap S x1 x2 x3 x4))]))) := congrArg (fun z9 => [sO cy hh a kk dd b w ee qq ik] ++ (pS cy a z9 ++ ([ia cy (hh 1) 7 (fnd C (cGap S x1 x2 x3 x4))]))) (show S = (if cGap S x1 x2 x3 x4 = 7 then gapS S x1 x2 x3 x4 else S) from (if_neg (fun z9 => absurd (hcd.symm.trans z9) (by decide))).symm)
          replace hP3 := (congrArg (fun z9 => va_P D vwCl z9 _) hq9).mp hP3
          replace hD3 := (congrArg (fun z9 => va_D _ z9) hq9).mp hD3
          clear hq9
          refine re_i () hx hb hr hlocks hP3 hD3 hS3 dX6_gap_52 ?_
          exact (ans_f hcd (by decide) rfl)
        · refine lv_iload hx hb dX6_gap_39 (lv_at hl0 4 rfl) ?_
          refine rT_i (wc := []) (rest := []) hx hb hml hown hw hG hK hP2 hS2 hA hl0 kc_X6_isMeasure kw_2_79 [.int x4] (c_X6_isMeasure l D cy G H2.size x4) [] rfl rfl rfl (Nat.le_of_ble_eq_true rfl) ⟨Nat.le_of_ble_eq_true rfl, Nat.le_of_ble_eq_true rfl⟩ dX6_gap_41 ⟨Nat.le_of_ble_eq_true rfl, Nat.le_of_ble_eq_true rfl⟩ (fun r_41 H3 locs3 hr_41 hP3 hS3 => ?_)
          have hD3 := hD2
          clear hP2 hD2 hS2 locs2 H2
          subst hr_41
          refine lb_ne (tgt := 53) hx hb dX6_gap_44 (by decide) (fun c_44 => ?_) (fun c_44 => ?_)
          · refine lv_aload_n hx hb dX6_gap_53 rfl (lv_at hl0 0 rfl) ?_
            refine va_get (D := D) (ci := 6) (v := .ref (a 0)) (C := RX6) (T := TX6) (N := 9) hx hb hw iX6 hown hK hP3 0 rfl rfl 0 (by decide) (hw _ kw_2_27) (fun _ h9 => h9) rfl dX6_gap_54 ?_
            refine va_get (D := D) (ci := 1) (v := .int (S 1)) (C := RX1) (T := TX1) (N := 12) hx hb hw iX1 hown hK hP3 1 rfl rfl 1 (by decide) (hw _ kw_1_35) (fun _ h9 => h9) rfl dX6_gap_57 ?_
            refine tp (show (S 1) = nI (gcN S) from wf_g wf) ?_
            refine lv_bipush (v := 20) hx hb dX6_gap_60 (by decide) ?_
            refine ln_lt (tgt := 71) (gcN S) 20 rfl rfl (by omega) (by omega) hx hb dX6_gap_62 (by decide) (fun c_62 => ?_) (fun c_62 => ?_)
            · refine lv_aload_n hx hb dX6_gap_71 rfl (lv_at hl0 0 rfl) ?_
              refine va_get (D := D) (ci := 6) (v := .ref (a 0)) (C := RX6) (T := TX6) (N := 9) hx hb hw iX6 hown hK hP3 0 rfl rfl 0 (by decide) (hw _ kw_2_27) (fun _ h9 => h9) rfl dX6_gap_72 ?_
              refine lv_iload_n hx hb dX6_gap_75 rfl (lv_at hl0 1 rfl) ?_
              refine lv_iload_n hx hb dX6_gap_76 rfl (lv_at hl0 2 rfl) ?_
              refine lv_iload_n hx hb dX6_gap_77 rfl (lv_at hl0 3 rfl) ?_
              refine cV_i (wc := pS cy a S) (wr := [sO cy hh a kk dd b w ee qq ik, ia cy (hh 1) 7 C]) (rest := []) hx hb hml hown hw hG hK hP3 hD3 hS3 hA hl0 kc_X1_addGap kw_2_82 [.int x1, .int x2, .int x3] (c_X1_addGap l D cy G H3.size a S (gcN S) x1 x2 x3 (wf_g wf) (by first | omega | assumption)) [1, 2, 3, 4, 5, 6, 7, 8, 9, 10] [0, 11] rfl rfl rfl rfl rfl 0 rfl rfl rfl rfl rfl (Nat.le_of_ble_eq_true rfl) ⟨Nat.le_of_ble_eq_true rfl, Nat.le_of_ble_eq_true rfl⟩ dX6_gap_78 ⟨Nat.le_of_ble_eq_true rfl, Nat.le_of_ble_eq_true rfl⟩ (fun r_78 u9 H4 locs4 hu9 hP4 hD4 hS4 => ?_)
              clear hP3 hD3 hS3 locs3 H3
              have hr_78 := hu9
              replace hP4 : va_P D vwCl ([sO cy hh a kk dd b w ee qq ik, ia cy (hh 1) 7 C] ++ (pS cy a (addG S (gcN S) x1 x2 x3))) H4 := hP4
              replace hD4 : va_D (va_A _ sz) ([sO cy hh a kk dd b w ee qq ik, ia cy (hh 1) 7 C] ++ (pS cy a (addG S (gcN S) x1 x2 x3))) := hD4
              replace hP4 := hP4.sub (ws' := [sO cy hh a kk dd b w ee qq ik] ++ (pS cy a (addG S (gcN S) x1 x2 x3) ++ ([ia cy (hh 1) 7 C]))) [0, 2, 3, 4, 5, 6, 7, 8, 9, 10, 11, 1] rfl
              replace hD4 := hD4.sub (ws' := [sO cy hh a kk dd b w ee qq ik] ++ (pS cy a (addG S (gcN S) x1 x2 x3) ++ ([ia cy (hh 1) 7 C]))) [0, 2, 3, 4, 5, 6, 7, 8, 9, 10, 11, 1] (by decide) rfl
              subst hr_78
              refine lv_istore (lv' := [(5, .int (nI (gcN S))), (0, .ref (hh 0)), (1, .int x1), (2, .int x2), (3, .int x3), (4, .int x4)]) hx hb dX6_gap_81 hl0 (by decide) rfl (fun ls1 hl1 => ?_)
              clear hl0 ls0
              refine lv_aload_n hx hb dX6_gap_83 rfl (lv_at hl1 1 rfl) ?_
              refine va_get (D := D) (ci := 6) (v := .ref (a 0)) (C := RX6) (T := TX6) (N := 9) hx hb hw iX6 hown hK hP4 0 rfl rfl 0 (by decide) (hw _ kw_2_27) (fun _ h9 => h9) rfl dX6_gap_84 ?_
              refine lv_iload hx hb dX6_gap_87 (lv_at hl1 0 rfl) ?_
              refine lv_iload hx hb dX6_gap_89 (lv_at hl1 5 rfl) ?_
              refine lv_sipush (v := 10000) hx hb dX6_gap_91 (by decide) ?_
              refine lv_idiv hx hb dX6_gap_94 (by decide) ?_
              refine lv_iload hx hb dX6_gap_95 (lv_at hl1 5 rfl) ?_
              refine lv_sipush (v := 1000) hx hb dX6_gap_97 (by decide) ?_
              refine lv_idiv hx hb dX6_gap_100 (by decide) ?_
              refine lv_bipush (v := 10) hx hb dX6_gap_101 (by decide) ?_
              refine lv_irem hx hb dX6_gap_103 (by decide) ?_
              refine lv_iload hx hb dX6_gap_104 (lv_at hl1 5 rfl) ?_
              refine lv_bipush (v := 100) hx hb dX6_gap_106 (by decide) ?_
              refine lv_idiv hx hb dX6_gap_108 (by decide) ?_
              refine lv_bipush (v := 10) hx hb dX6_gap_109 (by decide) ?_
              refine lv_irem hx hb dX6_gap_111 (by decide) ?_
              refine lv_iload hx hb dX6_gap_112 (lv_at hl1 5 rfl) ?_
              refine lv_bipush (v := 100) hx hb dX6_gap_114 (by decide) ?_
              refine lv_irem hx hb dX6_gap_116 (by decide) ?_
              refine cV_v (wc := pS cy a (addG S (gcN S) x1 x2 x3)) (wr := [sO cy hh a kk dd b w ee qq ik, ia cy (hh 1) 7 C]) (rest := []) hx hb hml hown hw hG hK hP4 hD4 hS4 hA hl1 kc_X1_measure kw_2_86 [.int (nI (gcN S)), .int (x4 / 10000), .int ((x4 / 1000) - (x4 / 1000) / 10 * 10), .int ((x4 / 100) - (x4 / 100) / 10 * 10), .int (x4 - x4 / 100 * 100)] (c_X1_measure l D cy G H4.size a (addG S (gcN S) x1 x2 x3) (gcN S) (x4 / 10000) ((x4 / 1000) - (x4 / 1000) / 10 * 10) ((x4 / 100) - (x4 / 100) / 10 * 10) (x4 - x4 / 100 * 100) (addG_h (by omega)) (by first | omega | assumption)) [1, 2, 3, 4, 5, 6, 7, 8, 9, 10] [0, 11] rfl rfl rfl rfl rfl 0 rfl rfl rfl rfl rfl (Nat.le_of_ble_eq_true rfl) ⟨Nat.le_of_ble_eq_true rfl, Nat.le_of_ble_eq_true rfl⟩ dX6_gap_117 ⟨Nat.le_of_ble_eq_true rfl, Nat.le_of_ble_eq_true rfl⟩ (fun u9 H5 locs5 hu9 hP5 hD5 hS5 => ?_)
              clear hP4 hD4 hS4 locs4 H4
              replace hP5 : va_P D vwCl ([sO cy hh a kk dd b w ee qq ik, ia cy (hh 1) 7 C] ++ (pS cy a (measG (addG S (gcN S) x1 x2 x3) (gcN S) (x4 / 10000) ((x4 / 1000) - (x4 / 1000) / 10 * 10) ((x4 / 100) - (x4 / 100) / 10 * 10) (x4 - x4 / 100 * 100)))) H5 := hP5
              replace hD5 : va_D (va_A _ sz) ([sO cy hh a kk dd b w ee qq ik, ia cy (hh 1) 7 C] ++ (pS cy a (measG (addG S (gcN S) x1 x2 x3) (gcN S) (x4 / 10000) ((x4 / 1000) - (x4 / 1000) / 10 * 10) ((x4 / 100) - (x4 / 100) / 10 * 10) (x4 - x4 / 100 * 100)))) := hD5
              replace hP5 := hP5.sub (ws' := [sO cy hh a kk dd b w ee qq ik] ++ (pS cy a (measG (addG S (gcN S) x1 x2 x3) (gcN S) (x4 / 10000) ((x4 / 1000) - (x4 / 1000) / 10 * 10) ((x4 / 100) - (x4 / 100) / 10 * 10) (x4 - x4 / 100 * 100)) ++ ([ia cy (hh 1) 7 C]))) [0, 2, 3, 4, 5, 6, 7, 8, 9, 10, 11, 1] rfl
              replace hD5 := hD5.sub (ws' := [sO cy hh a kk dd b w ee qq ik] ++ (pS cy a (measG (addG S (gcN S) x1 x2 x3) (gcN S) (x4 / 10000) ((x4 / 1000) - (x4 / 1000) / 10 * 10) ((x4 / 100) - (x4 / 100) / 10 * 10) (x4 - x4 / 100 * 100)) ++ ([ia cy (hh 1) 7 C]))) [0, 2, 3, 4, 5, 6, 7, 8, 9, 10, 11, 1] (by decide) rfl
              have hq9 : ([sO cy hh a kk dd b w ee qq ik] ++ (pS cy a (measG (addG S (gcN S) x1 x2 x3) (gcN S) (x4 / 10000) ((x4 / 1000) - (x4 / 1000) / 10 * 10) ((x4 / 100) - (x4 / 100) / 10 * 10) (x4 - x4 / 100 * 100)) ++ ([ia cy (hh 1) 7 C]))) = ([sO cy hh a kk dd b w ee qq ik] ++ (pS cy a (gapS S x1 x2 x3 x4) ++ ([ia cy (hh 1) 7 C]))) := congrArg (fun z9 => [sO cy hh a kk dd b w ee qq ik] ++ (pS cy a z9 ++ ([ia cy (hh 1) 7 C]))) (show (measG (addG S (gcN S) x1 x2 x3) (gcN S) (x4 / 10000) ((x4 / 1000) - (x4 / 1000) / 10 * 10) ((x4 / 100) - (x4 / 100) / 10 * 10) (x4 - x4 / 100 * 100)) = (gapS S x1 x2 x3 x4) from add_meas _ _ _ _ _ _ _ _ _)
              replace hP5 := (congrArg (fun z9 => va_P D vwCl z9 _) hq9).mp hP5
              replace hD5 := (congrArg (fun z9 => va_D _ z9) hq9).mp hD5
              clear hq9
              refine lv_iload hx hb dX6_gap_120 (lv_at hl1 0 rfl) ?_
              have hcd : cGap S x1 x2 x3 x4 = 7 := by unfold cGap; clear hx hb hml hown hr hlocks hw hsz hA hG hK hP5 hD5 hS5 hl1; grind
              have hq9 : ([sO cy hh a kk dd b w ee qq ik] ++ (pS cy a (gapS S x1 x2 x3 x4) ++ ([ia cy (hh 1) 7 C]))) = ([sO cy hh a kk dd b w ee qq ik] ++ (pS cy a (gapS S x1 x2 x3 x4) ++ ([ia cy (hh 1) 7 (fnd C (cGap S x1 x2 x3 x4))]))) := congrArg (fun z9 => [sO cy hh a kk dd b w ee qq ik] ++ (pS cy a (gapS S x1 x2 x3 x4) ++ ([ia cy (hh 1) 7 z9]))) (show C = (fnd C (cGap S x1 x2 x3 x4)) from fnd_o hcd)
              replace hP5 := (congrArg (fun z9 => va_P D vwCl z9 _) hq9).mp hP5
              replace hD5 := (congrArg (fun z9 => va_D _ z9) hq9).mp hD5
              clear hq9
              have hq9 : ([sO cy hh a kk dd b w ee qq ik] ++ (pS cy a (gapS S x1 x2 x3 x4) ++ ([ia cy (hh 1) 7 (fnd C (cGap S x1 x2 x3 x4))]))) = ([sO cy hh a kk dd b w ee qq ik] ++ (pS cy a (if cGap S x1 x2 x3 x4 = 7 then gapS S x1 x2 x3 x4 else S) ++ ([ia cy (hh 1) 7 (fnd C (cGap S x1 x2 x3 x4))]))) := congrArg (fun z9 => [sO cy hh a kk dd b w ee qq ik] ++ (pS cy a z9 ++ ([ia cy (hh 1) 7 (fnd C (cGap S x1 x2 x3 x4))]))) (show (gapS S x1 x2 x3 x4) = (if cGap S x1 x2 x3 x4 = 7 then gapS S x1 x2 x3 x4 else S) from (if_pos hcd).symm)
              replace hP5 := (congrArg (fun z9 => va_P D vwCl z9 _) hq9).mp hP5
              replace hD5 := (congrArg (fun z9 => va_D _ z9) hq9).mp hD5
              clear hq9
              refine re_i () hx hb hr hlocks hP5 hD5 hS5 dX6_gap_122 ?_
              exact (ans_o hcd (rfl))
            · refine lv_aload_n hx hb dX6_gap_65 rfl (lv_at hl0 0 rfl) ?_
              refine lv_iconst (v := 1) hx hb dX6_gap_66 (by decide) ?_
              refine cV_i (wc := [sO cy hh a kk dd b w ee qq ik, ia cy (hh 1) 7 C]) (wr := pS cy a S) (rest := []) hx hb hml hown hw hG hK hP3 hD3 hS3 hA hl0 kc_X6_find kw_2_59 [.int 1] (c_X6_find l D cy G H3.size hh a kk dd b w ee qq ik C 1 (by first | omega | assumption)) [0, 11] [1, 2, 3, 4, 5, 6, 7, 8, 9, 10] rfl rfl rfl rfl rfl 0 rfl rfl rfl rfl rfl (Nat.le_of_ble_eq_true rfl) ⟨Nat.le_of_ble_eq_true rfl, Nat.le_of_ble_eq_true rfl⟩ dX6_gap_67 ⟨Nat.le_of_ble_eq_true rfl, Nat.le_of_ble_eq_true rfl⟩ (fun r_67 u9 H4 locs4 hu9 hP4 hD4 hS4 => ?_)
              clear hP3 hD3 hS3 locs3 H3
              have hr_67 := hu9
              replace hP4 : va_P D vwCl (pS cy a S ++ ([sO cy hh a kk dd b w ee qq ik, ia cy (hh 1) 7 (upd C 1 (C 1 + 1))])) H4 := hP4
              replace hD4 : va_D (va_A _ sz) (pS cy a S ++ ([sO cy hh a kk dd b w ee qq ik, ia cy (hh 1) 7 (upd C 1 (C 1 + 1))])) := hD4
              replace hP4 := hP4.sub (ws' := [sO cy hh a kk dd b w ee qq ik] ++ (pS cy a S ++ ([ia cy (hh 1) 7 (upd C 1 (C 1 + 1))]))) [10, 0, 1, 2, 3, 4, 5, 6, 7, 8, 9, 11] rfl
              replace hD4 := hD4.sub (ws' := [sO cy hh a kk dd b w ee qq ik] ++ (pS cy a S ++ ([ia cy (hh 1) 7 (upd C 1 (C 1 + 1))]))) [10, 0, 1, 2, 3, 4, 5, 6, 7, 8, 9, 11] (by decide) rfl
              subst hr_67
              have hcd : cGap S x1 x2 x3 x4 = 1 := by unfold cGap; clear hx hb hml hown hr hlocks hw hsz hA hG hK hP4 hD4 hS4 hl0; grind
              have hq9 : ([sO cy hh a kk dd b w ee qq ik] ++ (pS cy a S ++ ([ia cy (hh 1) 7 (upd C 1 (C 1 + 1))]))) = ([sO cy hh a kk dd b w ee qq ik] ++ (pS cy a S ++ ([ia cy (hh 1) 7 (fnd C (cGap S x1 x2 x3 x4))]))) := congrArg (fun z9 => [sO cy hh a kk dd b w ee qq ik] ++ (pS cy a S ++ ([ia cy (hh 1) 7 z9]))) (show (upd C 1 (C 1 + 1)) = (fnd C (cGap S x1 x2 x3 x4)) from fnd_f hcd (by decide))
              replace hP4 := (congrArg (fun z9 => va_P D vwCl z9 _) hq9).mp hP4
              replace hD4 := (congrArg (fun z9 => va_D _ z9) hq9).mp hD4
              clear hq9
              have hq9 : ([sO cy hh a kk dd b w ee qq ik] ++ (pS cy a S ++ ([ia cy (hh 1) 7 (fnd C (cGap S x1 x2 x3 x4))]))) = ([sO cy hh a kk dd b w ee qq ik] ++ (pS cy a (if cGap S x1 x2 x3 x4 = 7 then gapS S x1 x2 x3 x4 else S) ++ ([ia cy (hh 1) 7 (fnd C (cGap S x1 x2 x3 x4))]))) := congrArg (fun z9 => [sO cy hh a kk dd b w ee qq ik] ++ (pS cy a z9 ++ ([ia cy (hh 1) 7 (fnd C (cGap S x1 x2 x3 x4))]))) (show S = (if cGap S x1 x2 x3 x4 = 7 then gapS S x1 x2 x3 x4 else S) from (if_neg (fun z9 => absurd (hcd.symm.trans z9) (by decide))).symm)
              replace hP4 := (congrArg (fun z9 => va_P D vwCl z9 _) hq9).mp hP4
              replace hD4 := (congrArg (fun z9 => va_D _ z9) hq9).mp hD4
              clear hq9
              refine re_i () hx hb hr hlocks hP4 hD4 hS4 dX6_gap_70 ?_
              exact (ans_f hcd (by decide) rfl)
          · refine lv_aload_n hx hb dX6_gap_47 rfl (lv_at hl0 0 rfl) ?_
            refine lv_iconst (v := 0) hx hb dX6_gap_48 (by decide) ?_
            refine cV_i (wc := [sO cy hh a kk dd b w ee qq ik, ia cy (hh 1) 7 C]) (wr := pS cy a S) (rest := []) hx hb hml hown hw hG hK hP3 hD3 hS3 hA hl0 kc_X6_find kw_2_59 [.int 0] (c_X6_find l D cy G H3.size hh a kk dd b w ee qq ik C 0 (by first | omega | assumption)) [0, 11] [1, 2, 3, 4, 5, 6, 7, 8, 9, 10] rfl rfl rfl rfl rfl 0 rfl rfl rfl rfl rfl (Nat.le_of_ble_eq_true rfl) ⟨Nat.le_of_ble_eq_true rfl, Nat.le_of_ble_eq_true rfl⟩ dX6_gap_49 ⟨Nat.le_of_ble_eq_true rfl, Nat.le_of_ble_eq_true rfl⟩ (fun r_49 u9 H4 locs4 hu9 hP4 hD4 hS4 => ?_)
            clear hP3 hD3 hS3 locs3 H3
            have hr_49 := hu9
            replace hP4 : va_P D vwCl (pS cy a S ++ ([sO cy hh a kk dd b w ee qq ik, ia cy (hh 1) 7 (upd C 0 (C 0 + 1))])) H4 := hP4
            replace hD4 : va_D (va_A _ sz) (pS cy a S ++ ([sO cy hh a kk dd b w ee qq ik, ia cy (hh 1) 7 (upd C 0 (C 0 + 1))])) := hD4
            replace hP4 := hP4.sub (ws' := [sO cy hh a kk dd b w ee qq ik] ++ (pS cy a S ++ ([ia cy (hh 1) 7 (upd C 0 (C 0 + 1))]))) [10, 0, 1, 2, 3, 4, 5, 6, 7, 8, 9, 11] rfl
            replace hD4 := hD4.sub (ws' := [sO cy hh a kk dd b w ee qq ik] ++ (pS cy a S ++ ([ia cy (hh 1) 7 (upd C 0 (C 0 + 1))]))) [10, 0, 1, 2, 3, 4, 5, 6, 7, 8, 9, 11] (by decide) rfl
            subst hr_49
            have hcd : cGap S x1 x2 x3 x4 = 0 := by unfold cGap; clear hx hb hml hown hr hlocks hw hsz hA hG hK hP4 hD4 hS4 hl0; grind
            have hq9 : ([sO cy hh a kk dd b w ee qq ik] ++ (pS cy a S ++ ([ia cy (hh 1) 7 (upd C 0 (C 0 + 1))]))) = ([sO cy hh a kk dd b w ee qq ik] ++ (pS cy a S ++ ([ia cy (hh 1) 7 (fnd C (cGap S x1 x2 x3 x4))]))) := congrArg (fun z9 => [sO cy hh a kk dd b w ee qq ik] ++ (pS cy a S ++ ([ia cy (hh 1) 7 z9]))) (show (upd C 0 (C 0 + 1)) = (fnd C (cGap S x1 x2 x3 x4)) from fnd_f hcd (by decide))
            replace hP4 := (congrArg (fun z9 => va_P D vwCl z9 _) hq9).mp hP4
            replace hD4 := (congrArg (fun z9 => va_D _ z9) hq9).mp hD4
            clear hq9
            have hq9 : ([sO cy hh a kk dd b w ee qq ik] ++ (pS cy a S ++ ([ia cy (hh 1) 7 (fnd C (cGap S x1 x2 x3 x4))]))) = ([sO cy hh a kk dd b w ee qq ik] ++ (pS cy a (if cGap S x1 x2 x3 x4 = 7 then gapS S x1 x2 x3 x4 else S) ++ ([ia cy (hh 1) 7 (fnd C (cGap S x1 x2 x3 x4))]))) := congrArg (fun z9 => [sO cy hh a kk dd b w ee qq ik] ++ (pS cy a z9 ++ ([ia cy (hh 1) 7 (fnd C (cGap S x1 x2 x3 x4))]))) (show S = (if cGap S x1 x2 x3 x4 = 7 then gapS S x1 x2 x3 x4 else S) from (if_neg (fun z9 => absurd (hcd.symm.trans z9) (by decide))).symm)
            replace hP4 := (congrArg (fun z9 => va_P D vwCl z9 _) hq9).mp hP4
            replace hD4 := (congrArg (fun z9 => va_D _ z9) hq9).mp hD4
            clear hq9
            refine re_i () hx hb hr hlocks hP4 hD4 hS4 dX6_gap_52 ?_
            exact (ans_f hcd (by decide) rfl)
      · refine lv_aload_n hx hb dX6_gap_23 rfl (lv_at hl0 0 rfl) ?_
        refine va_get (D := D) (ci := 6) (v := .ref (a 0)) (C := RX6) (T := TX6) (N := 9) hx hb hw iX6 hown hK hP2 0 rfl rfl 0 (by decide) (hw _ kw_2_27) (fun _ h9 => h9) rfl dX6_gap_24 ?_
        refine lv_iload_n hx hb dX6_gap_27 rfl (lv_at hl0 3 rfl) ?_
        refine rV_i (wc := pS cy a S) (rest := []) hx hb hml hown hw hG hK hP2 hS2 hA hl0 kc_X1_hasRoom kw_2_75 [.int x3] (c_X1_hasRoom l D cy G H2.size a S x3) [1, 2, 3, 4, 5, 6, 7, 8, 9, 10] rfl 0 rfl rfl rfl rfl rfl (Nat.le_of_ble_eq_true rfl) ⟨Nat.le_of_ble_eq_true rfl, Nat.le_of_ble_eq_true rfl⟩ dX6_gap_28 ⟨Nat.le_of_ble_eq_true rfl, Nat.le_of_ble_eq_true rfl⟩ (fun r_28 H3 locs3 hr_28 hP3 hS3 => ?_)
        have hD3 := hD2
        clear hP2 hD2 hS2 locs2 H2
        subst hr_28
        refine lb_eq (tgt := 47) hx hb dX6_gap_31 (by decide) (fun c_31 => ?_) (fun c_31 => ?_)
        · refine lv_aload_n hx hb dX6_gap_47 rfl (lv_at hl0 0 rfl) ?_
          refine lv_iconst (v := 0) hx hb dX6_gap_48 (by decide) ?_
          refine cV_i (wc := [sO cy hh a kk dd b w ee qq ik, ia cy (hh 1) 7 C]) (wr := pS cy a S) (rest := []) hx hb hml hown hw hG hK hP3 hD3 hS3 hA hl0 kc_X6_find kw_2_59 [.int 0] (c_X6_find l D cy G H3.size hh a kk dd b w ee qq ik C 0 (by first | omega | assumption)) [0, 11] [1, 2, 3, 4, 5, 6, 7, 8, 9, 10] rfl rfl rfl rfl rfl 0 rfl rfl rfl rfl rfl (Nat.le_of_ble_eq_true rfl) ⟨Nat.le_of_ble_eq_true rfl, Nat.le_of_ble_eq_true rfl⟩ dX6_gap_49 ⟨Nat.le_of_ble_eq_true rfl, Nat.le_of_ble_eq_true rfl⟩ (fun r_49 u9 H4 locs4 hu9 hP4 hD4 hS4 => ?_)
          clear hP3 hD3 hS3 locs3 H3
          have hr_49 := hu9
          replace hP4 : va_P D vwCl (pS cy a S ++ ([sO cy hh a kk dd b w ee qq ik, ia cy (hh 1) 7 (upd C 0 (C 0 + 1))])) H4 := hP4
          replace hD4 : va_D (va_A _ sz) (pS cy a S ++ ([sO cy hh a kk dd b w ee qq ik, ia cy (hh 1) 7 (upd C 0 (C 0 + 1))])) := hD4
          replace hP4 := hP4.sub (ws' := [sO cy hh a kk dd b w ee qq ik] ++ (pS cy a S ++ ([ia cy (hh 1) 7 (upd C 0 (C 0 + 1))]))) [10, 0, 1, 2, 3, 4, 5, 6, 7, 8, 9, 11] rfl
          replace hD4 := hD4.sub (ws' := [sO cy hh a kk dd b w ee qq ik] ++ (pS cy a S ++ ([ia cy (hh 1) 7 (upd C 0 (C 0 + 1))]))) [10, 0, 1, 2, 3, 4, 5, 6, 7, 8, 9, 11] (by decide) rfl
          subst hr_49
          have hcd : cGap S x1 x2 x3 x4 = 0 := by unfold cGap; clear hx hb hml hown hr hlocks hw hsz hA hG hK hP4 hD4 hS4 hl0; grind
          have hq9 : ([sO cy hh a kk dd b w ee qq ik] ++ (pS cy a S ++ ([ia cy (hh 1) 7 (upd C 0 (C 0 + 1))]))) = ([sO cy hh a kk dd b w ee qq ik] ++ (pS cy a S ++ ([ia cy (hh 1) 7 (fnd C (cGap S x1 x2 x3 x4))]))) := congrArg (fun z9 => [sO cy hh a kk dd b w ee qq ik] ++ (pS cy a S ++ ([ia cy (hh 1) 7 z9]))) (show (upd C 0 (C 0 + 1)) = (fnd C (cGap S x1 x2 x3 x4)) from fnd_f hcd (by decide))
          replace hP4 := (congrArg (fun z9 => va_P D vwCl z9 _) hq9).mp hP4
          replace hD4 := (congrArg (fun z9 => va_D _ z9) hq9).mp hD4
          clear hq9
          have hq9 : ([sO cy hh a kk dd b w ee qq ik] ++ (pS cy a S ++ ([ia cy (hh 1) 7 (fnd C (cGap S x1 x2 x3 x4))]))) = ([sO cy hh a kk dd b w ee qq ik] ++ (pS cy a (if cGap S x1 x2 x3 x4 = 7 then gapS S x1 x2 x3 x4 else S) ++ ([ia cy (hh 1) 7 (fnd C (cGap S x1 x2 x3 x4))]))) := congrArg (fun z9 => [sO cy hh a kk dd b w ee qq ik] ++ (pS cy a z9 ++ ([ia cy (hh 1) 7 (fnd C (cGap S x1 x2 x3 x4))]))) (show S = (if cGap S x1 x2 x3 x4 = 7 then gapS S x1 x2 x3 x4 else S) from (if_neg (fun z9 => absurd (hcd.symm.trans z9) (by decide))).symm)
          replace hP4 := (congrArg (fun z9 => va_P D vwCl z9 _) hq9).mp hP4
          replace hD4 := (congrArg (fun z9 => va_D _ z9) hq9).mp hD4
          clear hq9
          refine re_i () hx hb hr hlocks hP4 hD4 hS4 dX6_gap_52 ?_
          exact (ans_f hcd (by decide) rfl)
        · refine lv_iload_n hx hb dX6_gap_34 rfl (lv_at hl0 3 rfl) ?_
          refine lv_iload_n hx hb dX6_gap_35 rfl (lv_at hl0 2 rfl) ?_
          refine lv_icmp_eq (tgt := 47) hx hb dX6_gap_36 (by decide) (fun c_36 => ?_) (fun c_36 => ?_)
          · refine lv_aload_n hx hb dX6_gap_47 rfl (lv_at hl0 0 rfl) ?_
            refine lv_iconst (v := 0) hx hb dX6_gap_48 (by decide) ?_
            refine cV_i (wc := [sO cy hh a kk dd b w ee qq ik, ia cy (hh 1) 7 C]) (wr := pS cy a S) (rest := []) hx hb hml hown hw hG hK hP3 hD3 hS3 hA hl0 kc_X6_find kw_2_59 [.int 0] (c_X6_find l D cy G H3.size hh a kk dd b w ee qq ik C 0 (by first | omega | assumption)) [0, 11] [1, 2, 3, 4, 5, 6, 7, 8, 9, 10] rfl rfl rfl rfl rfl 0 rfl rfl rfl rfl rfl (Nat.le_of_ble_eq_true rfl) ⟨Nat.le_of_ble_eq_true rfl, Nat.le_of_ble_eq_true rfl⟩ dX6_gap_49 ⟨Nat.le_of_ble_eq_true rfl, Nat.le_of_ble_eq_true rfl⟩ (fun r_49 u9 H4 locs4 hu9 hP4 hD4 hS4 => ?_)
            clear hP3 hD3 hS3 locs3 H3
            have hr_49 := hu9
            replace hP4 : va_P D vwCl (pS cy a S ++ ([sO cy hh a kk dd b w ee qq ik, ia cy (hh 1) 7 (upd C 0 (C 0 + 1))])) H4 := hP4
            replace hD4 : va_D (va_A _ sz) (pS cy a S ++ ([sO cy hh a kk dd b w ee qq ik, ia cy (hh 1) 7 (upd C 0 (C 0 + 1))])) := hD4
            replace hP4 := hP4.sub (ws' := [sO cy hh a kk dd b w ee qq ik] ++ (pS cy a S ++ ([ia cy (hh 1) 7 (upd C 0 (C 0 + 1))]))) [10, 0, 1, 2, 3, 4, 5, 6, 7, 8, 9, 11] rfl
            replace hD4 := hD4.sub (ws' := [sO cy hh a kk dd b w ee qq ik] ++ (pS cy a S ++ ([ia cy (hh 1) 7 (upd C 0 (C 0 + 1))]))) [10, 0, 1, 2, 3, 4, 5, 6, 7, 8, 9, 11] (by decide) rfl
            subst hr_49
            have hcd : cGap S x1 x2 x3 x4 = 0 := by unfold cGap; clear hx hb hml hown hr hlocks hw hsz hA hG hK hP4 hD4 hS4 hl0; grind
            have hq9 : ([sO cy hh a kk dd b w ee qq ik] ++ (pS cy a S ++ ([ia cy (hh 1) 7 (upd C 0 (C 0 + 1))]))) = ([sO cy hh a kk dd b w ee qq ik] ++ (pS cy a S ++ ([ia cy (hh 1) 7 (fnd C (cGap S x1 x2 x3 x4))]))) := congrArg (fun z9 => [sO cy hh a kk dd b w ee qq ik] ++ (pS cy a S ++ ([ia cy (hh 1) 7 z9]))) (show (upd C 0 (C 0 + 1)) = (fnd C (cGap S x1 x2 x3 x4)) from fnd_f hcd (by decide))
            replace hP4 := (congrArg (fun z9 => va_P D vwCl z9 _) hq9).mp hP4
            replace hD4 := (congrArg (fun z9 => va_D _ z9) hq9).mp hD4
            clear hq9
            have hq9 : ([sO cy hh a kk dd b w ee qq ik] ++ (pS cy a S ++ ([ia cy (hh 1) 7 (fnd C (cGap S x1 x2 x3 x4))]))) = ([sO cy hh a kk dd b w ee qq ik] ++ (pS cy a (if cGap S x1 x2 x3 x4 = 7 then gapS S x1 x2 x3 x4 else S) ++ ([ia cy (hh 1) 7 (fnd C (cGap S x1 x2 x3 x4))]))) := congrArg (fun z9 => [sO cy hh a kk dd b w ee qq ik] ++ (pS cy a z9 ++ ([ia cy (hh 1) 7 (fnd C (cGap S x1 x2 x3 x4))]))) (show S = (if cGap S x1 x2 x3 x4 = 7 then gapS S x1 x2 x3 x4 else S) from (if_neg (fun z9 => absurd (hcd.symm.trans z9) (by decide))).symm)
            replace hP4 := (congrArg (fun z9 => va_P D vwCl z9 _) hq9).mp hP4
            replace hD4 := (congrArg (fun z9 => va_D _ z9) hq9).mp hD4
            clear hq9
            refine re_i () hx hb hr hlocks hP4 hD4 hS4 dX6_gap_52 ?_
            exact (ans_f hcd (by decide) rfl)
          · refine lv_iload hx hb dX6_gap_39 (lv_at hl0 4 rfl) ?_
            refine rT_i (wc := []) (rest := []) hx hb hml hown hw hG hK hP3 hS3 hA hl0 kc_X6_isMeasure kw_2_79 [.int x4] (c_X6_isMeasure l D cy G H3.size x4) [] rfl rfl rfl (Nat.le_of_ble_eq_true rfl) ⟨Nat.le_of_ble_eq_true rfl, Nat.le_of_ble_eq_true rfl⟩ dX6_gap_41 ⟨Nat.le_of_ble_eq_true rfl, Nat.le_of_ble_eq_true rfl⟩ (fun r_41 H4 locs4 hr_41 hP4 hS4 => ?_)
            have hD4 := hD3
            clear hP3 hD3 hS3 locs3 H3
            subst hr_41
            refine lb_ne (tgt := 53) hx hb dX6_gap_44 (by decide) (fun c_44 => ?_) (fun c_44 => ?_)
            · refine lv_aload_n hx hb dX6_gap_53 rfl (lv_at hl0 0 rfl) ?_
              refine va_get (D := D) (ci := 6) (v := .ref (a 0)) (C := RX6) (T := TX6) (N := 9) hx hb hw iX6 hown hK hP4 0 rfl rfl 0 (by decide) (hw _ kw_2_27) (fun _ h9 => h9) rfl dX6_gap_54 ?_
              refine va_get (D := D) (ci := 1) (v := .int (S 1)) (C := RX1) (T := TX1) (N := 12) hx hb hw iX1 hown hK hP4 1 rfl rfl 1 (by decide) (hw _ kw_1_35) (fun _ h9 => h9) rfl dX6_gap_57 ?_
              refine tp (show (S 1) = nI (gcN S) from wf_g wf) ?_
              refine lv_bipush (v := 20) hx hb dX6_gap_60 (by decide) ?_
              refine ln_lt (tgt := 71) (gcN S) 20 rfl rfl (by omega) (by omega) hx hb dX6_gap_62 (by decide) (fun c_62 => ?_) (fun c_62 => ?_)
              · refine lv_aload_n hx hb dX6_gap_71 rfl (lv_at hl0 0 rfl) ?_
                refine va_get (D := D) (ci := 6) (v := .ref (a 0)) (C := RX6) (T := TX6) (N := 9) hx hb hw iX6 hown hK hP4 0 rfl rfl 0 (by decide) (hw _ kw_2_27) (fun _ h9 => h9) rfl dX6_gap_72 ?_
                refine lv_iload_n hx hb dX6_gap_75 rfl (lv_at hl0 1 rfl) ?_
                refine lv_iload_n hx hb dX6_gap_76 rfl (lv_at hl0 2 rfl) ?_
                refine lv_iload_n hx hb dX6_gap_77 rfl (lv_at hl0 3 rfl) ?_
                refine cV_i (wc := pS cy a S) (wr := [sO cy hh a kk dd b w ee qq ik, ia cy (hh 1) 7 C]) (rest := []) hx hb hml hown hw hG hK hP4 hD4 hS4 hA hl0 kc_X1_addGap kw_2_82 [.int x1, .int x2, .int x3] (c_X1_addGap l D cy G H4.size a S (gcN S) x1 x2 x3 (wf_g wf) (by first | omega | assumption)) [1, 2, 3, 4, 5, 6, 7, 8, 9, 10] [0, 11] rfl rfl rfl rfl rfl 0 rfl rfl rfl rfl rfl (Nat.le_of_ble_eq_true rfl) ⟨Nat.le_of_ble_eq_true rfl, Nat.le_of_ble_eq_true rfl⟩ dX6_gap_78 ⟨Nat.le_of_ble_eq_true rfl, Nat.le_of_ble_eq_true rfl⟩ (fun r_78 u9 H5 locs5 hu9 hP5 hD5 hS5 => ?_)
                clear hP4 hD4 hS4 locs4 H4
                have hr_78 := hu9
                replace hP5 : va_P D vwCl ([sO cy hh a kk dd b w ee qq ik, ia cy (hh 1) 7 C] ++ (pS cy a (addG S (gcN S) x1 x2 x3))) H5 := hP5
                replace hD5 : va_D (va_A _ sz) ([sO cy hh a kk dd b w ee qq ik, ia cy (hh 1) 7 C] ++ (pS cy a (addG S (gcN S) x1 x2 x3))) := hD5
                replace hP5 := hP5.sub (ws' := [sO cy hh a kk dd b w ee qq ik] ++ (pS cy a (addG S (gcN S) x1 x2 x3) ++ ([ia cy (hh 1) 7 C]))) [0, 2, 3, 4, 5, 6, 7, 8, 9, 10, 11, 1] rfl
                replace hD5 := hD5.sub (ws' := [sO cy hh a kk dd b w ee qq ik] ++ (pS cy a (addG S (gcN S) x1 x2 x3) ++ ([ia cy (hh 1) 7 C]))) [0, 2, 3, 4, 5, 6, 7, 8, 9, 10, 11, 1] (by decide) rfl
                subst hr_78
                refine lv_istore (lv' := [(5, .int (nI (gcN S))), (0, .ref (hh 0)), (1, .int x1), (2, .int x2), (3, .int x3), (4, .int x4)]) hx hb dX6_gap_81 hl0 (by decide) rfl (fun ls1 hl1 => ?_)
                clear hl0 ls0
                refine lv_aload_n hx hb dX6_gap_83 rfl (lv_at hl1 1 rfl) ?_
                refine va_get (D := D) (ci := 6) (v := .ref (a 0)) (C := RX6) (T := TX6) (N := 9) hx hb hw iX6 hown hK hP5 0 rfl rfl 0 (by decide) (hw _ kw_2_27) (fun _ h9 => h9) rfl dX6_gap_84 ?_
                refine lv_iload hx hb dX6_gap_87 (lv_at hl1 0 rfl) ?_
                refine lv_iload hx hb dX6_gap_89 (lv_at hl1 5 rfl) ?_
                refine lv_sipush (v := 10000) hx hb dX6_gap_91 (by decide) ?_
                refine lv_idiv hx hb dX6_gap_94 (by decide) ?_
                refine lv_iload hx hb dX6_gap_95 (lv_at hl1 5 rfl) ?_
                refine lv_sipush (v := 1000) hx hb dX6_gap_97 (by decide) ?_
                refine lv_idiv hx hb dX6_gap_100 (by decide) ?_
                refine lv_bipush (v := 10) hx hb dX6_gap_101 (by decide) ?_
                refine lv_irem hx hb dX6_gap_103 (by decide) ?_
                refine lv_iload hx hb dX6_gap_104 (lv_at hl1 5 rfl) ?_
                refine lv_bipush (v := 100) hx hb dX6_gap_106 (by decide) ?_
                refine lv_idiv hx hb dX6_gap_108 (by decide) ?_
                refine lv_bipush (v := 10) hx hb dX6_gap_109 (by decide) ?_
                refine lv_irem hx hb dX6_gap_111 (by decide) ?_
                refine lv_iload hx hb dX6_gap_112 (lv_at hl1 5 rfl) ?_
                refine lv_bipush (v := 100) hx hb dX6_gap_114 (by decide) ?_
                refine lv_irem hx hb dX6_gap_116 (by decide) ?_
                refine cV_v (wc := pS cy a (addG S (gcN S) x1 x2 x3)) (wr := [sO cy hh a kk dd b w ee qq ik, ia cy (hh 1) 7 C]) (rest := []) hx hb hml hown hw hG hK hP5 hD5 hS5 hA hl1 kc_X1_measure kw_2_86 [.int (nI (gcN S)), .int (x4 / 10000), .int ((x4 / 1000) - (x4 / 1000) / 10 * 10), .int ((x4 / 100) - (x4 / 100) / 10 * 10), .int (x4 - x4 / 100 * 100)] (c_X1_measure l D cy G H5.size a (addG S (gcN S) x1 x2 x3) (gcN S) (x4 / 10000) ((x4 / 1000) - (x4 / 1000) / 10 * 10) ((x4 / 100) - (x4 / 100) / 10 * 10) (x4 - x4 / 100 * 100) (addG_h (by omega)) (by first | omega | assumption)) [1, 2, 3, 4, 5, 6, 7, 8, 9, 10] [0, 11] rfl rfl rfl rfl rfl 0 rfl rfl rfl rfl rfl (Nat.le_of_ble_eq_true rfl) ⟨Nat.le_of_ble_eq_true rfl, Nat.le_of_ble_eq_true rfl⟩ dX6_gap_117 ⟨Nat.le_of_ble_eq_true rfl, Nat.le_of_ble_eq_true rfl⟩ (fun u9 H6 locs6 hu9 hP6 hD6 hS6 => ?_)
                clear hP5 hD5 hS5 locs5 H5
                replace hP6 : va_P D vwCl ([sO cy hh a kk dd b w ee qq ik, ia cy (hh 1) 7 C] ++ (pS cy a (measG (addG S (gcN S) x1 x2 x3) (gcN S) (x4 / 10000) ((x4 / 1000) - (x4 / 1000) / 10 * 10) ((x4 / 100) - (x4 / 100) / 10 * 10) (x4 - x4 / 100 * 100)))) H6 := hP6
                replace hD6 : va_D (va_A _ sz) ([sO cy hh a kk dd b w ee qq ik, ia cy (hh 1) 7 C] ++ (pS cy a (measG (addG S (gcN S) x1 x2 x3) (gcN S) (x4 / 10000) ((x4 / 1000) - (x4 / 1000) / 10 * 10) ((x4 / 100) - (x4 / 100) / 10 * 10) (x4 - x4 / 100 * 100)))) := hD6
                replace hP6 := hP6.sub (ws' := [sO cy hh a kk dd b w ee qq ik] ++ (pS cy a (measG (addG S (gcN S) x1 x2 x3) (gcN S) (x4 / 10000) ((x4 / 1000) - (x4 / 1000) / 10 * 10) ((x4 / 100) - (x4 / 100) / 10 * 10) (x4 - x4 / 100 * 100)) ++ ([ia cy (hh 1) 7 C]))) [0, 2, 3, 4, 5, 6, 7, 8, 9, 10, 11, 1] rfl
                replace hD6 := hD6.sub (ws' := [sO cy hh a kk dd b w ee qq ik] ++ (pS cy a (measG (addG S (gcN S) x1 x2 x3) (gcN S) (x4 / 10000) ((x4 / 1000) - (x4 / 1000) / 10 * 10) ((x4 / 100) - (x4 / 100) / 10 * 10) (x4 - x4 / 100 * 100)) ++ ([ia cy (hh 1) 7 C]))) [0, 2, 3, 4, 5, 6, 7, 8, 9, 10, 11, 1] (by decide) rfl
                have hq9 : ([sO cy hh a kk dd b w ee qq ik] ++ (pS cy a (measG (addG S (gcN S) x1 x2 x3) (gcN S) (x4 / 10000) ((x4 / 1000) - (x4 / 1000) / 10 * 10) ((x4 / 100) - (x4 / 100) / 10 * 10) (x4 - x4 / 100 * 100)) ++ ([ia cy (hh 1) 7 C]))) = ([sO cy hh a kk dd b w ee qq ik] ++ (pS cy a (gapS S x1 x2 x3 x4) ++ ([ia cy (hh 1) 7 C]))) := congrArg (fun z9 => [sO cy hh a kk dd b w ee qq ik] ++ (pS cy a z9 ++ ([ia cy (hh 1) 7 C]))) (show (measG (addG S (gcN S) x1 x2 x3) (gcN S) (x4 / 10000) ((x4 / 1000) - (x4 / 1000) / 10 * 10) ((x4 / 100) - (x4 / 100) / 10 * 10) (x4 - x4 / 100 * 100)) = (gapS S x1 x2 x3 x4) from add_meas _ _ _ _ _ _ _ _ _)
                replace hP6 := (congrArg (fun z9 => va_P D vwCl z9 _) hq9).mp hP6
                replace hD6 := (congrArg (fun z9 => va_D _ z9) hq9).mp hD6
                clear hq9
                refine lv_iload hx hb dX6_gap_120 (lv_at hl1 0 rfl) ?_
                have hcd : cGap S x1 x2 x3 x4 = 7 := by unfold cGap; clear hx hb hml hown hr hlocks hw hsz hA hG hK hP6 hD6 hS6 hl1; grind
                have hq9 : ([sO cy hh a kk dd b w ee qq ik] ++ (pS cy a (gapS S x1 x2 x3 x4) ++ ([ia cy (hh 1) 7 C]))) = ([sO cy hh a kk dd b w ee qq ik] ++ (pS cy a (gapS S x1 x2 x3 x4) ++ ([ia cy (hh 1) 7 (fnd C (cGap S x1 x2 x3 x4))]))) := congrArg (fun z9 => [sO cy hh a kk dd b w ee qq ik] ++ (pS cy a (gapS S x1 x2 x3 x4) ++ ([ia cy (hh 1) 7 z9]))) (show C = (fnd C (cGap S x1 x2 x3 x4)) from fnd_o hcd)
                replace hP6 := (congrArg (fun z9 => va_P D vwCl z9 _) hq9).mp hP6
                replace hD6 := (congrArg (fun z9 => va_D _ z9) hq9).mp hD6
                clear hq9
                have hq9 : ([sO cy hh a kk dd b w ee qq ik] ++ (pS cy a (gapS S x1 x2 x3 x4) ++ ([ia cy (hh 1) 7 (fnd C (cGap S x1 x2 x3 x4))]))) = ([sO cy hh a kk dd b w ee qq ik] ++ (pS cy a (if cGap S x1 x2 x3 x4 = 7 then gapS S x1 x2 x3 x4 else S) ++ ([ia cy (hh 1) 7 (fnd C (cGap S x1 x2 x3 x4))]))) := congrArg (fun z9 => [sO cy hh a kk dd b w ee qq ik] ++ (pS cy a z9 ++ ([ia cy (hh 1) 7 (fnd C (cGap S x1 x2 x3 x4))]))) (show (gapS S x1 x2 x3 x4) = (if cGap S x1 x2 x3 x4 = 7 then gapS S x1 x2 x3 x4 else S) from (if_pos hcd).symm)
                replace hP6 := (congrArg (fun z9 => va_P D vwCl z9 _) hq9).mp hP6
                replace hD6 := (congrArg (fun z9 => va_D _ z9) hq9).mp hD6
                clear hq9
                refine re_i () hx hb hr hlocks hP6 hD6 hS6 dX6_gap_122 ?_
                exact (ans_o hcd (rfl))
              · refine lv_aload_n hx hb dX6_gap_65 rfl (lv_at hl0 0 rfl) ?_
                refine lv_iconst (v := 1) hx hb dX6_gap_66 (by decide) ?_
                refine cV_i (wc := [sO cy hh a kk dd b w ee qq ik, ia cy (hh 1) 7 C]) (wr := pS cy a S) (rest := []) hx hb hml hown hw hG hK hP4 hD4 hS4 hA hl0 kc_X6_find kw_2_59 [.int 1] (c_X6_find l D cy G H4.size hh a kk dd b w ee qq ik C 1 (by first | omega | assumption)) [0, 11] [1, 2, 3, 4, 5, 6, 7, 8, 9, 10] rfl rfl rfl rfl rfl 0 rfl rfl rfl rfl rfl (Nat.le_of_ble_eq_true rfl) ⟨Nat.le_of_ble_eq_true rfl, Nat.le_of_ble_eq_true rfl⟩ dX6_gap_67 ⟨Nat.le_of_ble_eq_true rfl, Nat.le_of_ble_eq_true rfl⟩ (fun r_67 u9 H5 locs5 hu9 hP5 hD5 hS5 => ?_)
                clear hP4 hD4 hS4 locs4 H4
                have hr_67 := hu9
                replace hP5 : va_P D vwCl (pS cy a S ++ ([sO cy hh a kk dd b w ee qq ik, ia cy (hh 1) 7 (upd C 1 (C 1 + 1))])) H5 := hP5
                replace hD5 : va_D (va_A _ sz) (pS cy a S ++ ([sO cy hh a kk dd b w ee qq ik, ia cy (hh 1) 7 (upd C 1 (C 1 + 1))])) := hD5
                replace hP5 := hP5.sub (ws' := [sO cy hh a kk dd b w ee qq ik] ++ (pS cy a S ++ ([ia cy (hh 1) 7 (upd C 1 (C 1 + 1))]))) [10, 0, 1, 2, 3, 4, 5, 6, 7, 8, 9, 11] rfl
                replace hD5 := hD5.sub (ws' := [sO cy hh a kk dd b w ee qq ik] ++ (pS cy a S ++ ([ia cy (hh 1) 7 (upd C 1 (C 1 + 1))]))) [10, 0, 1, 2, 3, 4, 5, 6, 7, 8, 9, 11] (by decide) rfl
                subst hr_67
                have hcd : cGap S x1 x2 x3 x4 = 1 := by unfold cGap; clear hx hb hml hown hr hlocks hw hsz hA hG hK hP5 hD5 hS5 hl0; grind
                have hq9 : ([sO cy hh a kk dd b w ee qq ik] ++ (pS cy a S ++ ([ia cy (hh 1) 7 (upd C 1 (C 1 + 1))]))) = ([sO cy hh a kk dd b w ee qq ik] ++ (pS cy a S ++ ([ia cy (hh 1) 7 (fnd C (cGap S x1 x2 x3 x4))]))) := congrArg (fun z9 => [sO cy hh a kk dd b w ee qq ik] ++ (pS cy a S ++ ([ia cy (hh 1) 7 z9]))) (show (upd C 1 (C 1 + 1)) = (fnd C (cGap S x1 x2 x3 x4)) from fnd_f hcd (by decide))
                replace hP5 := (congrArg (fun z9 => va_P D vwCl z9 _) hq9).mp hP5
                replace hD5 := (congrArg (fun z9 => va_D _ z9) hq9).mp hD5
                clear hq9
                have hq9 : ([sO cy hh a kk dd b w ee qq ik] ++ (pS cy a S ++ ([ia cy (hh 1) 7 (fnd C (cGap S x1 x2 x3 x4))]))) = ([sO cy hh a kk dd b w ee qq ik] ++ (pS cy a (if cGap S x1 x2 x3 x4 = 7 then gapS S x1 x2 x3 x4 else S) ++ ([ia cy (hh 1) 7 (fnd C (cGap S x1 x2 x3 x4))]))) := congrArg (fun z9 => [sO cy hh a kk dd b w ee qq ik] ++ (pS cy a z9 ++ ([ia cy (hh 1) 7 (fnd C (cGap S x1 x2 x3 x4))]))) (show S = (if cGap S x1 x2 x3 x4 = 7 then gapS S x1 x2 x3 x4 else S) from (if_neg (fun z9 => absurd (hcd.symm.trans z9) (by decide))).symm)
                replace hP5 := (congrArg (fun z9 => va_P D vwCl z9 _) hq9).mp hP5
                replace hD5 := (congrArg (fun z9 => va_D _ z9) hq9).mp hD5
                clear hq9
                refine re_i () hx hb hr hlocks hP5 hD5 hS5 dX6_gap_70 ?_
                exact (ans_f hcd (by decide) rfl)
            · refine lv_aload_n hx hb dX6_gap_47 rfl (lv_at hl0 0 rfl) ?_
              refine lv_iconst (v := 0) hx hb dX6_gap_48 (by decide) ?_
              refine cV_i (wc := [sO cy hh a kk dd b w ee qq ik, ia cy (hh 1) 7 C]) (wr := pS cy a S) (rest := []) hx hb hml hown hw hG hK hP4 hD4 hS4 hA hl0 kc_X6_find kw_2_59 [.int 0] (c_X6_find l D cy G H4.size hh a kk dd b w ee qq ik C 0 (by first | omega | assumption)) [0, 11] [1, 2, 3, 4, 5, 6, 7, 8, 9, 10] rfl rfl rfl rfl rfl 0 rfl rfl rfl rfl rfl (Nat.le_of_ble_eq_true rfl) ⟨Nat.le_of_ble_eq_true rfl, Nat.le_of_ble_eq_true rfl⟩ dX6_gap_49 ⟨Nat.le_of_ble_eq_true rfl, Nat.le_of_ble_eq_true rfl⟩ (fun r_49 u9 H5 locs5 hu9 hP5 hD5 hS5 => ?_)
              clear hP4 hD4 hS4 locs4 H4
              have hr_49 := hu9
              replace hP5 : va_P D vwCl (pS cy a S ++ ([sO cy hh a kk dd b w ee qq ik, ia cy (hh 1) 7 (upd C 0 (C 0 + 1))])) H5 := hP5
              replace hD5 : va_D (va_A _ sz) (pS cy a S ++ ([sO cy hh a kk dd b w ee qq ik, ia cy (hh 1) 7 (upd C 0 (C 0 + 1))])) := hD5
              replace hP5 := hP5.sub (ws' := [sO cy hh a kk dd b w ee qq ik] ++ (pS cy a S ++ ([ia cy (hh 1) 7 (upd C 0 (C 0 + 1))]))) [10, 0, 1, 2, 3, 4, 5, 6, 7, 8, 9, 11] rfl
              replace hD5 := hD5.sub (ws' := [sO cy hh a kk dd b w ee qq ik] ++ (pS cy a S ++ ([ia cy (hh 1) 7 (upd C 0 (C 0 + 1))]))) [10, 0, 1, 2, 3, 4, 5, 6, 7, 8, 9, 11] (by decide) rfl
              subst hr_49
              have hcd : cGap S x1 x2 x3 x4 = 0 := by unfold cGap; clear hx hb hml hown hr hlocks hw hsz hA hG hK hP5 hD5 hS5 hl0; grind
              have hq9 : ([sO cy hh a kk dd b w ee qq ik] ++ (pS cy a S ++ ([ia cy (hh 1) 7 (upd C 0 (C 0 + 1))]))) = ([sO cy hh a kk dd b w ee qq ik] ++ (pS cy a S ++ ([ia cy (hh 1) 7 (fnd C (cGap S x1 x2 x3 x4))]))) := congrArg (fun z9 => [sO cy hh a kk dd b w ee qq ik] ++ (pS cy a S ++ ([ia cy (hh 1) 7 z9]))) (show (upd C 0 (C 0 + 1)) = (fnd C (cGap S x1 x2 x3 x4)) from fnd_f hcd (by decide))
              replace hP5 := (congrArg (fun z9 => va_P D vwCl z9 _) hq9).mp hP5
              replace hD5 := (congrArg (fun z9 => va_D _ z9) hq9).mp hD5
              clear hq9
              have hq9 : ([sO cy hh a kk dd b w ee qq ik] ++ (pS cy a S ++ ([ia cy (hh 1) 7 (fnd C (cGap S x1 x2 x3 x4))]))) = ([sO cy hh a kk dd b w ee qq ik] ++ (pS cy a (if cGap S x1 x2 x3 x4 = 7 then gapS S x1 x2 x3 x4 else S) ++ ([ia cy (hh 1) 7 (fnd C (cGap S x1 x2 x3 x4))]))) := congrArg (fun z9 => [sO cy hh a kk dd b w ee qq ik] ++ (pS cy a z9 ++ ([ia cy (hh 1) 7 (fnd C (cGap S x1 x2 x3 x4))]))) (show S = (if cGap S x1 x2 x3 x4 = 7 then gapS S x1 x2 x3 x4 else S) from (if_neg (fun z9 => absurd (hcd.symm.trans z9) (by decide))).symm)
              replace hP5 := (congrArg (fun z9 => va_P D vwCl z9 _) hq9).mp hP5
              replace hD5 := (congrArg (fun z9 => va_D _ z9) hq9).mp hD5
              clear hq9
              refine re_i () hx hb hr hlocks hP5 hD5 hS5 dX6_gap_52 ?_
              exact (ans_f hcd (by decide) rfl)

theorem kc_X7_gap : kV yX7_gap cX7_gap 5 (some .int) 4 := ⟨kw_4_149, kw_4_150, kw_1_8, kw_4_151, by decide, by decide, by decide +kernel⟩
set_option maxHeartbeats 4000000 in
set_option maxRecDepth 100000 in
theorem c_X7_gap (l : Launch) (D : va_G) (cy : Nat → ClassId) (G : Nat → Nat) (sz : Nat) (mm : Nat → Nat) (ik : Int32) (tl : Int32) (fm : Int32) (tz : Int32) (vl : Int32) (iw : Int32) (rm : Int32) (rr : Int32) (om : Int32) (S : Nat → Int32) (C : Nat → Int32) (x1 : Int32) (x2 : Int32) (x3 : Int32) (x4 : Int32) (wf : wf S) : Met l yX7_gap (wm yX7_gap cX7_gap 5 (some .int)) { frames := 2, cells := 0, slots := 0, locals := 46 } (va_Pc [.ref (mm 0), .int x1, .int x2, .int x3, .int x4] (pr D (TY cy) G ([mO cy mm ik tl fm tz vl iw rm rr om, ia cy (mm 1) 169 S, ia cy (mm 4) 7 C]) sz)) (va_Qi (fun (r : Int32) (u : Unit) => r = ans (cGap S x1 x2 x3 x4) (nI (gcN S))) (fun (u : Unit) t => po D (va_A ([mO cy mm ik tl fm tz vl iw rm rr om, ia cy (mm 1) 169 S, ia cy (mm 4) 7 C]) sz) ([mO cy mm ik tl fm tz vl iw rm rr om, ia cy (mm 1) 169 (if cGap S x1 x2 x3 x4 = 7 then gapS S x1 x2 x3 x4 else S), ia cy (mm 4) 7 (fnd C (cGap S x1 x2 x3 x4))]) t) (va_A ([mO cy mm ik tl fm tz vl iw rm rr om, ia cy (mm 1) 169 S, ia cy (mm 4) 7 C]) sz)) 0 0 (va_A ([mO cy mm ik tl fm tz vl iw rm rr om, ia cy (mm 1) 169 S, ia cy (mm 4) 7 C]) sz) := by
  refine mk_rw (by decide) RX7 rfl (Nat.le_of_ble_eq_true rfl) [(0, .ref (mm 0)), (1, .int x1), (2, .int x2), (3, .int x3), (4, .int x4)] rfl ?_
  intro p e s m below meth c hx hb hml hown hr hlocks hin hw hsz hA hG hK H0 locs0 hP0 hD0 hS0 ls0 hl0
  clear hin
  have hg20 := wf_g20 wf
  have hgc := gc_eq wf
  refine lv_iload_n hx hb dX7_gap_0 rfl (lv_at hl0 1 rfl) ?_
  refine lv_i2l hx hb dX7_gap_1 rfl ?_
  refine lv_lconst (v := 0) hx hb dX7_gap_2 (by decide) ?_
  refine lv_ldc2 (v := 5) hx hb hown (hw _ kw_4_152) dX7_gap_3 ?_
  refine rT_i (wc := []) (rest := []) hx hb hml hown hw hG hK hP0 hS0 hA hl0 kc_X7_in kw_4_153 [.long x1.toInt64, .long 0, .long 5] (c_X7_in l D cy G H0.size x1.toInt64 0 5) [] rfl rfl rfl (Nat.le_of_ble_eq_true rfl) ⟨Nat.le_of_ble_eq_true rfl, Nat.le_of_ble_eq_true rfl⟩ dX7_gap_6 ⟨Nat.le_of_ble_eq_true rfl, Nat.le_of_ble_eq_true rfl⟩ (fun r_6 H1 locs1 hr_6 hP1 hS1 => ?_)
  have hD1 := hD0
  clear hP0 hD0 hS0 locs0 H0
  subst hr_6
  refine tp (show (b2i (0 ≤ x1.toInt64 ∧ x1.toInt64 ≤ 5)) = b2i (0 ≤ x1 ∧ x1 ≤ 5) from b2i_iff (in_c (by decide) (by decide))) ?_
  refine lb_eq (tgt := 63) hx hb dX7_gap_9 (by decide) (fun c_9 => ?_) (fun c_9 => ?_)
  · refine lv_aload_n hx hb dX7_gap_63 rfl (lv_at hl0 0 rfl) ?_
    refine lv_ldc (v := (-1000000001)) hx hb hown (hw _ kw_4_143) dX7_gap_64 ?_
    refine cV_i (wc := [mO cy mm ik tl fm tz vl iw rm rr om, ia cy (mm 4) 7 C]) (wr := [ia cy (mm 1) 169 S]) (rest := []) hx hb hml hown hw hG hK hP1 hD1 hS1 hA hl0 kc_X7_finds kw_4_139 [.int (-1000000001)] (c_X7_finds l D cy G H1.size mm ik tl fm tz vl iw rm rr om C 0 (-1000000001) (by decide) (by decide)) [0, 2] [1] rfl rfl rfl rfl rfl 0 rfl rfl rfl rfl rfl (Nat.le_of_ble_eq_true rfl) ⟨Nat.le_of_ble_eq_true rfl, Nat.le_of_ble_eq_true rfl⟩ dX7_gap_66 ⟨Nat.le_of_ble_eq_true rfl, Nat.le_of_ble_eq_true rfl⟩ (fun r_66 u9 H2 locs2 hu9 hP2 hD2 hS2 => ?_)
    clear hP1 hD1 hS1 locs1 H1
    have hr_66 := hu9
    replace hP2 : va_P D vwCl ([ia cy (mm 1) 169 S, mO cy mm ik tl fm tz vl iw rm rr om, ia cy (mm 4) 7 (upd C 0 (C 0 + 1))]) H2 := hP2
    replace hD2 : va_D (va_A _ sz) ([ia cy (mm 1) 169 S, mO cy mm ik tl fm tz vl iw rm rr om, ia cy (mm 4) 7 (upd C 0 (C 0 + 1))]) := hD2
    replace hP2 := hP2.sub (ws' := [mO cy mm ik tl fm tz vl iw rm rr om, ia cy (mm 1) 169 S, ia cy (mm 4) 7 (upd C 0 (C 0 + 1))]) [1, 0, 2] rfl
    replace hD2 := hD2.sub (ws' := [mO cy mm ik tl fm tz vl iw rm rr om, ia cy (mm 1) 169 S, ia cy (mm 4) 7 (upd C 0 (C 0 + 1))]) [1, 0, 2] (by decide) rfl
    subst hr_66
    have hcd : cGap S x1 x2 x3 x4 = 0 := by unfold cGap; clear hx hb hml hown hr hlocks hw hsz hA hG hK hP2 hD2 hS2 hl0; grind
    have hq9 : ([mO cy mm ik tl fm tz vl iw rm rr om, ia cy (mm 1) 169 S, ia cy (mm 4) 7 (upd C 0 (C 0 + 1))]) = ([mO cy mm ik tl fm tz vl iw rm rr om, ia cy (mm 1) 169 S, ia cy (mm 4) 7 (fnd C (cGap S x1 x2 x3 x4))]) := congrArg (fun z9 => [mO cy mm ik tl fm tz vl iw rm rr om, ia cy (mm 1) 169 S, ia cy (mm 4) 7 z9]) (show (upd C 0 (C 0 + 1)) = (fnd C (cGap S x1 x2 x3 x4)) from fnd_f hcd (by decide))
    replace hP2 := (congrArg (fun z9 => va_P D vwCl z9 _) hq9).mp hP2
    replace hD2 := (congrArg (fun z9 => va_D _ z9) hq9).mp hD2
    clear hq9
    have hq9 : ([mO cy mm ik tl fm tz vl iw rm rr om, ia cy (mm 1) 169 S, ia cy (mm 4) 7 (fnd C (cGap S x1 x2 x3 x4))]) = ([mO cy mm ik tl fm tz vl iw rm rr om, ia cy (mm 1) 169 (if cGap S x1 x2 x3 x4 = 7 then gapS S x1 x2 x3 x4 else S), ia cy (mm 4) 7 (fnd C (cGap S x1 x2 x3 x4))]) := congrArg (fun z9 => [mO cy mm ik tl fm tz vl iw rm rr om, ia cy (mm 1) 169 z9, ia cy (mm 4) 7 (fnd C (cGap S x1 x2 x3 x4))]) (show S = (if cGap S x1 x2 x3 x4 = 7 then gapS S x1 x2 x3 x4 else S) from (if_neg (fun z9 => absurd (hcd.symm.trans z9) (by decide))).symm)
    replace hP2 := (congrArg (fun z9 => va_P D vwCl z9 _) hq9).mp hP2
    replace hD2 := (congrArg (fun z9 => va_D _ z9) hq9).mp hD2
    clear hq9
    refine re_i () hx hb hr hlocks hP2 hD2 hS2 dX7_gap_69 ?_
    exact (ans_f hcd (by decide) rfl)
  · refine lv_aload_n hx hb dX7_gap_12 rfl (lv_at hl0 0 rfl) ?_
    refine lv_iload_n hx hb dX7_gap_13 rfl (lv_at hl0 2 rfl) ?_
    refine rV_i (wc := [mO cy mm ik tl fm tz vl iw rm rr om, ia cy (mm 1) 169 S]) (rest := []) hx hb hml hown hw hG hK hP1 hS1 hA hl0 kc_X7_isRoom kw_4_156 [.int x2] (c_X7_isRoom l D cy G H1.size mm ik tl fm tz vl iw rm rr om S x2 (by first | omega | assumption)) [0, 1] rfl 0 rfl rfl rfl rfl rfl (Nat.le_of_ble_eq_true rfl) ⟨Nat.le_of_ble_eq_true rfl, Nat.le_of_ble_eq_true rfl⟩ dX7_gap_14 ⟨Nat.le_of_ble_eq_true rfl, Nat.le_of_ble_eq_true rfl⟩ (fun r_14 H2 locs2 hr_14 hP2 hS2 => ?_)
    have hD2 := hD1
    clear hP1 hD1 hS1 locs1 H1
    subst hr_14
    refine lb_eq (tgt := 63) hx hb dX7_gap_17 (by decide) (fun c_17 => ?_) (fun c_17 => ?_)
    · refine lv_aload_n hx hb dX7_gap_63 rfl (lv_at hl0 0 rfl) ?_
      refine lv_ldc (v := (-1000000001)) hx hb hown (hw _ kw_4_143) dX7_gap_64 ?_
      refine cV_i (wc := [mO cy mm ik tl fm tz vl iw rm rr om, ia cy (mm 4) 7 C]) (wr := [ia cy (mm 1) 169 S]) (rest := []) hx hb hml hown hw hG hK hP2 hD2 hS2 hA hl0 kc_X7_finds kw_4_139 [.int (-1000000001)] (c_X7_finds l D cy G H2.size mm ik tl fm tz vl iw rm rr om C 0 (-1000000001) (by decide) (by decide)) [0, 2] [1] rfl rfl rfl rfl rfl 0 rfl rfl rfl rfl rfl (Nat.le_of_ble_eq_true rfl) ⟨Nat.le_of_ble_eq_true rfl, Nat.le_of_ble_eq_true rfl⟩ dX7_gap_66 ⟨Nat.le_of_ble_eq_true rfl, Nat.le_of_ble_eq_true rfl⟩ (fun r_66 u9 H3 locs3 hu9 hP3 hD3 hS3 => ?_)
      clear hP2 hD2 hS2 locs2 H2
      have hr_66 := hu9
      replace hP3 : va_P D vwCl ([ia cy (mm 1) 169 S, mO cy mm ik tl fm tz vl iw rm rr om, ia cy (mm 4) 7 (upd C 0 (C 0 + 1))]) H3 := hP3
      replace hD3 : va_D (va_A _ sz) ([ia cy (mm 1) 169 S, mO cy mm ik tl fm tz vl iw rm rr om, ia cy (mm 4) 7 (upd C 0 (C 0 + 1))]) := hD3
      replace hP3 := hP3.sub (ws' := [mO cy mm ik tl fm tz vl iw rm rr om, ia cy (mm 1) 169 S, ia cy (mm 4) 7 (upd C 0 (C 0 + 1))]) [1, 0, 2] rfl
      replace hD3 := hD3.sub (ws' := [mO cy mm ik tl fm tz vl iw rm rr om, ia cy (mm 1) 169 S, ia cy (mm 4) 7 (upd C 0 (C 0 + 1))]) [1, 0, 2] (by decide) rfl
      subst hr_66
      have hcd : cGap S x1 x2 x3 x4 = 0 := by unfold cGap; clear hx hb hml hown hr hlocks hw hsz hA hG hK hP3 hD3 hS3 hl0; grind
      have hq9 : ([mO cy mm ik tl fm tz vl iw rm rr om, ia cy (mm 1) 169 S, ia cy (mm 4) 7 (upd C 0 (C 0 + 1))]) = ([mO cy mm ik tl fm tz vl iw rm rr om, ia cy (mm 1) 169 S, ia cy (mm 4) 7 (fnd C (cGap S x1 x2 x3 x4))]) := congrArg (fun z9 => [mO cy mm ik tl fm tz vl iw rm rr om, ia cy (mm 1) 169 S, ia cy (mm 4) 7 z9]) (show (upd C 0 (C 0 + 1)) = (fnd C (cGap S x1 x2 x3 x4)) from fnd_f hcd (by decide))
      replace hP3 := (congrArg (fun z9 => va_P D vwCl z9 _) hq9).mp hP3
      replace hD3 := (congrArg (fun z9 => va_D _ z9) hq9).mp hD3
      clear hq9
      have hq9 : ([mO cy mm ik tl fm tz vl iw rm rr om, ia cy (mm 1) 169 S, ia cy (mm 4) 7 (fnd C (cGap S x1 x2 x3 x4))]) = ([mO cy mm ik tl fm tz vl iw rm rr om, ia cy (mm 1) 169 (if cGap S x1 x2 x3 x4 = 7 then gapS S x1 x2 x3 x4 else S), ia cy (mm 4) 7 (fnd C (cGap S x1 x2 x3 x4))]) := congrArg (fun z9 => [mO cy mm ik tl fm tz vl iw rm rr om, ia cy (mm 1) 169 z9, ia cy (mm 4) 7 (fnd C (cGap S x1 x2 x3 x4))]) (show S = (if cGap S x1 x2 x3 x4 = 7 then gapS S x1 x2 x3 x4 else S) from (if_neg (fun z9 => absurd (hcd.symm.trans z9) (by decide))).symm)
      replace hP3 := (congrArg (fun z9 => va_P D vwCl z9 _) hq9).mp hP3
      replace hD3 := (congrArg (fun z9 => va_D _ z9) hq9).mp hD3
      clear hq9
      refine re_i () hx hb hr hlocks hP3 hD3 hS3 dX7_gap_69 ?_
      exact (ans_f hcd (by decide) rfl)
    · refine lv_iload_n hx hb dX7_gap_20 rfl (lv_at hl0 3 rfl) ?_
      refine lv_iconst (v := (-1)) hx hb dX7_gap_21 (by decide) ?_
      refine lv_icmp_eq (tgt := 33) hx hb dX7_gap_22 (by decide) (fun c_22 => ?_) (fun c_22 => ?_)
      · refine lv_iload_n hx hb dX7_gap_33 rfl (lv_at hl0 3 rfl) ?_
        refine lv_iload_n hx hb dX7_gap_34 rfl (lv_at hl0 2 rfl) ?_
        refine lv_icmp_eq (tgt := 63) hx hb dX7_gap_35 (by decide) (fun c_35 => ?_) (fun c_35 => ?_)
        · refine lv_aload_n hx hb dX7_gap_63 rfl (lv_at hl0 0 rfl) ?_
          refine lv_ldc (v := (-1000000001)) hx hb hown (hw _ kw_4_143) dX7_gap_64 ?_
          refine cV_i (wc := [mO cy mm ik tl fm tz vl iw rm rr om, ia cy (mm 4) 7 C]) (wr := [ia cy (mm 1) 169 S]) (rest := []) hx hb hml hown hw hG hK hP2 hD2 hS2 hA hl0 kc_X7_finds kw_4_139 [.int (-1000000001)] (c_X7_finds l D cy G H2.size mm ik tl fm tz vl iw rm rr om C 0 (-1000000001) (by decide) (by decide)) [0, 2] [1] rfl rfl rfl rfl rfl 0 rfl rfl rfl rfl rfl (Nat.le_of_ble_eq_true rfl) ⟨Nat.le_of_ble_eq_true rfl, Nat.le_of_ble_eq_true rfl⟩ dX7_gap_66 ⟨Nat.le_of_ble_eq_true rfl, Nat.le_of_ble_eq_true rfl⟩ (fun r_66 u9 H3 locs3 hu9 hP3 hD3 hS3 => ?_)
          clear hP2 hD2 hS2 locs2 H2
          have hr_66 := hu9
          replace hP3 : va_P D vwCl ([ia cy (mm 1) 169 S, mO cy mm ik tl fm tz vl iw rm rr om, ia cy (mm 4) 7 (upd C 0 (C 0 + 1))]) H3 := hP3
          replace hD3 : va_D (va_A _ sz) ([ia cy (mm 1) 169 S, mO cy mm ik tl fm tz vl iw rm rr om, ia cy (mm 4) 7 (upd C 0 (C 0 + 1))]) := hD3
          replace hP3 := hP3.sub (ws' := [mO cy mm ik tl fm tz vl iw rm rr om, ia cy (mm 1) 169 S, ia cy (mm 4) 7 (upd C 0 (C 0 + 1))]) [1, 0, 2] rfl
          replace hD3 := hD3.sub (ws' := [mO cy mm ik tl fm tz vl iw rm rr om, ia cy (mm 1) 169 S, ia cy (mm 4) 7 (upd C 0 (C 0 + 1))]) [1, 0, 2] (by decide) rfl
          subst hr_66
          have hcd : cGap S x1 x2 x3 x4 = 0 := by unfold cGap; clear hx hb hml hown hr hlocks hw hsz hA hG hK hP3 hD3 hS3 hl0; grind
          have hq9 : ([mO cy mm ik tl fm tz vl iw rm rr om, ia cy (mm 1) 169 S, ia cy (mm 4) 7 (upd C 0 (C 0 + 1))]) = ([mO cy mm ik tl fm tz vl iw rm rr om, ia cy (mm 1) 169 S, ia cy (mm 4) 7 (fnd C (cGap S x1 x2 x3 x4))]) := congrArg (fun z9 => [mO cy mm ik tl fm tz vl iw rm rr om, ia cy (mm 1) 169 S, ia cy (mm 4) 7 z9]) (show (upd C 0 (C 0 + 1)) = (fnd C (cGap S x1 x2 x3 x4)) from fnd_f hcd (by decide))
          replace hP3 := (congrArg (fun z9 => va_P D vwCl z9 _) hq9).mp hP3
          replace hD3 := (congrArg (fun z9 => va_D _ z9) hq9).mp hD3
          clear hq9
          have hq9 : ([mO cy mm ik tl fm tz vl iw rm rr om, ia cy (mm 1) 169 S, ia cy (mm 4) 7 (fnd C (cGap S x1 x2 x3 x4))]) = ([mO cy mm ik tl fm tz vl iw rm rr om, ia cy (mm 1) 169 (if cGap S x1 x2 x3 x4 = 7 then gapS S x1 x2 x3 x4 else S), ia cy (mm 4) 7 (fnd C (cGap S x1 x2 x3 x4))]) := congrArg (fun z9 => [mO cy mm ik tl fm tz vl iw rm rr om, ia cy (mm 1) 169 z9, ia cy (mm 4) 7 (fnd C (cGap S x1 x2 x3 x4))]) (show S = (if cGap S x1 x2 x3 x4 = 7 then gapS S x1 x2 x3 x4 else S) from (if_neg (fun z9 => absurd (hcd.symm.trans z9) (by decide))).symm)
          replace hP3 := (congrArg (fun z9 => va_P D vwCl z9 _) hq9).mp hP3
          replace hD3 := (congrArg (fun z9 => va_D _ z9) hq9).mp hD3
          clear hq9
          refine re_i () hx hb hr hlocks hP3 hD3 hS3 dX7_gap_69 ?_
          exact (ans_f hcd (by decide) rfl)
        · refine lv_iload hx hb dX7_gap_38 (lv_at hl0 4 rfl) ?_
          refine lv_i2l hx hb dX7_gap_40 rfl ?_
          refine lv_lconst (v := 0) hx hb dX7_gap_41 (by decide) ?_
          refine lv_ldc2 (v := 999999) hx hb hown (hw _ kw_4_160) dX7_gap_42 ?_
          refine rT_i (wc := []) (rest := []) hx hb hml hown hw hG hK hP2 hS2 hA hl0 kc_X7_in kw_4_153 [.long x4.toInt64, .long 0, .long 999999] (c_X7_in l D cy G H2.size x4.toInt64 0 999999) [] rfl rfl rfl (Nat.le_of_ble_eq_true rfl) ⟨Nat.le_of_ble_eq_true rfl, Nat.le_of_ble_eq_true rfl⟩ dX7_gap_45 ⟨Nat.le_of_ble_eq_true rfl, Nat.le_of_ble_eq_true rfl⟩ (fun r_45 H3 locs3 hr_45 hP3 hS3 => ?_)
          have hD3 := hD2
          clear hP2 hD2 hS2 locs2 H2
          subst hr_45
          refine tp (show (b2i (0 ≤ x4.toInt64 ∧ x4.toInt64 ≤ 999999)) = b2i (0 ≤ x4 ∧ x4 ≤ 999999) from b2i_iff (in_c (by decide) (by decide))) ?_
          refine lb_eq (tgt := 63) hx hb dX7_gap_48 (by decide) (fun c_48 => ?_) (fun c_48 => ?_)
          · refine lv_aload_n hx hb dX7_gap_63 rfl (lv_at hl0 0 rfl) ?_
            refine lv_ldc (v := (-1000000001)) hx hb hown (hw _ kw_4_143) dX7_gap_64 ?_
            refine cV_i (wc := [mO cy mm ik tl fm tz vl iw rm rr om, ia cy (mm 4) 7 C]) (wr := [ia cy (mm 1) 169 S]) (rest := []) hx hb hml hown hw hG hK hP3 hD3 hS3 hA hl0 kc_X7_finds kw_4_139 [.int (-1000000001)] (c_X7_finds l D cy G H3.size mm ik tl fm tz vl iw rm rr om C 0 (-1000000001) (by decide) (by decide)) [0, 2] [1] rfl rfl rfl rfl rfl 0 rfl rfl rfl rfl rfl (Nat.le_of_ble_eq_true rfl) ⟨Nat.le_of_ble_eq_true rfl, Nat.le_of_ble_eq_true rfl⟩ dX7_gap_66 ⟨Nat.le_of_ble_eq_true rfl, Nat.le_of_ble_eq_true rfl⟩ (fun r_66 u9 H4 locs4 hu9 hP4 hD4 hS4 => ?_)
            clear hP3 hD3 hS3 locs3 H3
            have hr_66 := hu9
            replace hP4 : va_P D vwCl ([ia cy (mm 1) 169 S, mO cy mm ik tl fm tz vl iw rm rr om, ia cy (mm 4) 7 (upd C 0 (C 0 + 1))]) H4 := hP4
            replace hD4 : va_D (va_A _ sz) ([ia cy (mm 1) 169 S, mO cy mm ik tl fm tz vl iw rm rr om, ia cy (mm 4) 7 (upd C 0 (C 0 + 1))]) := hD4
            replace hP4 := hP4.sub (ws' := [mO cy mm ik tl fm tz vl iw rm rr om, ia cy (mm 1) 169 S, ia cy (mm 4) 7 (upd C 0 (C 0 + 1))]) [1, 0, 2] rfl
            replace hD4 := hD4.sub (ws' := [mO cy mm ik tl fm tz vl iw rm rr om, ia cy (mm 1) 169 S, ia cy (mm 4) 7 (upd C 0 (C 0 + 1))]) [1, 0, 2] (by decide) rfl
            subst hr_66
            have hcd : cGap S x1 x2 x3 x4 = 0 := by unfold cGap; clear hx hb hml hown hr hlocks hw hsz hA hG hK hP4 hD4 hS4 hl0; grind
            have hq9 : ([mO cy mm ik tl fm tz vl iw rm rr om, ia cy (mm 1) 169 S, ia cy (mm 4) 7 (upd C 0 (C 0 + 1))]) = ([mO cy mm ik tl fm tz vl iw rm rr om, ia cy (mm 1) 169 S, ia cy (mm 4) 7 (fnd C (cGap S x1 x2 x3 x4))]) := congrArg (fun z9 => [mO cy mm ik tl fm tz vl iw rm rr om, ia cy (mm 1) 169 S, ia cy (mm 4) 7 z9]) (show (upd C 0 (C 0 + 1)) = (fnd C (cGap S x1 x2 x3 x4)) from fnd_f hcd (by decide))
            replace hP4 := (congrArg (fun z9 => va_P D vwCl z9 _) hq9).mp hP4
            replace hD4 := (congrArg (fun z9 => va_D _ z9) hq9).mp hD4
            clear hq9
            have hq9 : ([mO cy mm ik tl fm tz vl iw rm rr om, ia cy (mm 1) 169 S, ia cy (mm 4) 7 (fnd C (cGap S x1 x2 x3 x4))]) = ([mO cy mm ik tl fm tz vl iw rm rr om, ia cy (mm 1) 169 (if cGap S x1 x2 x3 x4 = 7 then gapS S x1 x2 x3 x4 else S), ia cy (mm 4) 7 (fnd C (cGap S x1 x2 x3 x4))]) := congrArg (fun z9 => [mO cy mm ik tl fm tz vl iw rm rr om, ia cy (mm 1) 169 z9, ia cy (mm 4) 7 (fnd C (cGap S x1 x2 x3 x4))]) (show S = (if cGap S x1 x2 x3 x4 = 7 then gapS S x1 x2 x3 x4 else S) from (if_neg (fun z9 => absurd (hcd.symm.trans z9) (by decide))).symm)
            replace hP4 := (congrArg (fun z9 => va_P D vwCl z9 _) hq9).mp hP4
            replace hD4 := (congrArg (fun z9 => va_D _ z9) hq9).mp hD4
            clear hq9
            refine re_i () hx hb hr hlocks hP4 hD4 hS4 dX7_gap_69 ?_
            exact (ans_f hcd (by decide) rfl)
          · refine lv_iload hx hb dX7_gap_51 (lv_at hl0 4 rfl) ?_
            refine lv_bipush (v := 100) hx hb dX7_gap_53 (by decide) ?_
            refine lv_idiv hx hb dX7_gap_55 (by decide) ?_
            refine lv_bipush (v := 10) hx hb dX7_gap_56 (by decide) ?_
            refine lv_irem hx hb dX7_gap_58 (by decide) ?_
            refine lv_iconst (v := 3) hx hb dX7_gap_59 (by decide) ?_
            refine lv_icmp_le (tgt := 70) hx hb dX7_gap_60 (by decide) (fun c_60 => ?_) (fun c_60 => ?_)
            · refine lv_aload_n hx hb dX7_gap_70 rfl (lv_at hl0 0 rfl) ?_
              refine va_get (D := D) (ci := 7) (v := .ref (mm 1)) (C := RX7) (T := TX7) (N := 23) hx hb hw iX7 hown hK hP3 0 rfl rfl 0 (by decide) (hw _ kw_4_64) (fun _ h9 => h9) rfl dX7_gap_71 ?_
              refine lv_iconst (v := 1) hx hb dX7_gap_74 (by decide) ?_
              refine ald_i (f := S) hx hb hK hP3 1 0 rfl rfl 1 rfl (by first | omega | assumption) (by decide) dX7_gap_75 ?_
              refine tp (show (S 1) = nI (gcN S) from wf_g wf) ?_
              refine lv_bipush (v := 20) hx hb dX7_gap_76 (by decide) ?_
              refine ln_ne (tgt := 88) (gcN S) 20 rfl rfl (by omega) (by omega) hx hb dX7_gap_78 (by decide) (fun c_78 => ?_) (fun c_78 => ?_)
              · refine lv_aload_n hx hb dX7_gap_88 rfl (lv_at hl0 0 rfl) ?_
                refine lv_iload_n hx hb dX7_gap_89 rfl (lv_at hl0 1 rfl) ?_
                refine lv_iload_n hx hb dX7_gap_90 rfl (lv_at hl0 2 rfl) ?_
                refine lv_iload_n hx hb dX7_gap_91 rfl (lv_at hl0 3 rfl) ?_
                refine lv_iload hx hb dX7_gap_92 (lv_at hl0 4 rfl) ?_
                refine lv_sipush (v := 10000) hx hb dX7_gap_94 (by decide) ?_
                refine lv_idiv hx hb dX7_gap_97 (by decide) ?_
                refine lv_iload hx hb dX7_gap_98 (lv_at hl0 4 rfl) ?_
                refine lv_sipush (v := 1000) hx hb dX7_gap_100 (by decide) ?_
                refine lv_idiv hx hb dX7_gap_103 (by decide) ?_
                refine lv_bipush (v := 10) hx hb dX7_gap_104 (by decide) ?_
                refine lv_irem hx hb dX7_gap_106 (by decide) ?_
                refine lv_iload hx hb dX7_gap_107 (lv_at hl0 4 rfl) ?_
                refine lv_bipush (v := 100) hx hb dX7_gap_109 (by decide) ?_
                refine lv_idiv hx hb dX7_gap_111 (by decide) ?_
                refine lv_bipush (v := 10) hx hb dX7_gap_112 (by decide) ?_
                refine lv_irem hx hb dX7_gap_114 (by decide) ?_
                refine lv_iload hx hb dX7_gap_115 (lv_at hl0 4 rfl) ?_
                refine lv_bipush (v := 100) hx hb dX7_gap_117 (by decide) ?_
                refine lv_irem hx hb dX7_gap_119 (by decide) ?_
                refine cV_i (wc := [mO cy mm ik tl fm tz vl iw rm rr om, ia cy (mm 1) 169 S]) (wr := [ia cy (mm 4) 7 C]) (rest := []) hx hb hml hown hw hG hK hP3 hD3 hS3 hA hl0 kc_X7_newGap kw_4_161 [.int x1, .int x2, .int x3, .int (x4 / 10000), .int ((x4 / 1000) - (x4 / 1000) / 10 * 10), .int ((x4 / 100) - (x4 / 100) / 10 * 10), .int (x4 - x4 / 100 * 100)] (c_X7_newGap l D cy G H3.size mm ik tl fm tz vl iw rm rr om S x1 x2 x3 (x4 / 10000) ((x4 / 1000) - (x4 / 1000) / 10 * 10) ((x4 / 100) - (x4 / 100) / 10 * 10) (x4 - x4 / 100 * 100) (by first | omega | assumption) (by first | omega | assumption)) [0, 1] [2] rfl rfl rfl rfl rfl 0 rfl rfl rfl rfl rfl (Nat.le_of_ble_eq_true rfl) ⟨Nat.le_of_ble_eq_true rfl, Nat.le_of_ble_eq_true rfl⟩ dX7_gap_120 ⟨Nat.le_of_ble_eq_true rfl, Nat.le_of_ble_eq_true rfl⟩ (fun r_120 u9 H4 locs4 hu9 hP4 hD4 hS4 => ?_)
                clear hP3 hD3 hS3 locs3 H3
                have hr_120 := hu9
                replace hP4 : va_P D vwCl ([ia cy (mm 4) 7 C, mO cy mm ik tl fm tz vl iw rm rr om, ia cy (mm 1) 169 (newGap S (gcN S) x1 x2 x3 (x4 / 10000) ((x4 / 1000) - (x4 / 1000) / 10 * 10) ((x4 / 100) - (x4 / 100) / 10 * 10) (x4 - x4 / 100 * 100))]) H4 := hP4
                replace hD4 : va_D (va_A _ sz) ([ia cy (mm 4) 7 C, mO cy mm ik tl fm tz vl iw rm rr om, ia cy (mm 1) 169 (newGap S (gcN S) x1 x2 x3 (x4 / 10000) ((x4 / 1000) - (x4 / 1000) / 10 * 10) ((x4 / 100) - (x4 / 100) / 10 * 10) (x4 - x4 / 100 * 100))]) := hD4
                replace hP4 := hP4.sub (ws' := [mO cy mm ik tl fm tz vl iw rm rr om, ia cy (mm 1) 169 (newGap S (gcN S) x1 x2 x3 (x4 / 10000) ((x4 / 1000) - (x4 / 1000) / 10 * 10) ((x4 / 100) - (x4 / 100) / 10 * 10) (x4 - x4 / 100 * 100)), ia cy (mm 4) 7 C]) [1, 2, 0] rfl
                replace hD4 := hD4.sub (ws' := [mO cy mm ik tl fm tz vl iw rm rr om, ia cy (mm 1) 169 (newGap S (gcN S) x1 x2 x3 (x4 / 10000) ((x4 / 1000) - (x4 / 1000) / 10 * 10) ((x4 / 100) - (x4 / 100) / 10 * 10) (x4 - x4 / 100 * 100)), ia cy (mm 4) 7 C]) [1, 2, 0] (by decide) rfl
                subst hr_120
                have hq9 : ([mO cy mm ik tl fm tz vl iw rm rr om, ia cy (mm 1) 169 (newGap S (gcN S) x1 x2 x3 (x4 / 10000) ((x4 / 1000) - (x4 / 1000) / 10 * 10) ((x4 / 100) - (x4 / 100) / 10 * 10) (x4 - x4 / 100 * 100)), ia cy (mm 4) 7 C]) = ([mO cy mm ik tl fm tz vl iw rm rr om, ia cy (mm 1) 169 (gapS S x1 x2 x3 x4), ia cy (mm 4) 7 C]) := congrArg (fun z9 => [mO cy mm ik tl fm tz vl iw rm rr om, ia cy (mm 1) 169 z9, ia cy (mm 4) 7 C]) (show (newGap S (gcN S) x1 x2 x3 (x4 / 10000) ((x4 / 1000) - (x4 / 1000) / 10 * 10) ((x4 / 100) - (x4 / 100) / 10 * 10) (x4 - x4 / 100 * 100)) = (gapS S x1 x2 x3 x4) from rfl)
                replace hP4 := (congrArg (fun z9 => va_P D vwCl z9 _) hq9).mp hP4
                replace hD4 := (congrArg (fun z9 => va_D _ z9) hq9).mp hD4
                clear hq9
                have hcd : cGap S x1 x2 x3 x4 = 7 := by unfold cGap; clear hx hb hml hown hr hlocks hw hsz hA hG hK hP4 hD4 hS4 hl0; grind
                have hq9 : ([mO cy mm ik tl fm tz vl iw rm rr om, ia cy (mm 1) 169 (gapS S x1 x2 x3 x4), ia cy (mm 4) 7 C]) = ([mO cy mm ik tl fm tz vl iw rm rr om, ia cy (mm 1) 169 (gapS S x1 x2 x3 x4), ia cy (mm 4) 7 (fnd C (cGap S x1 x2 x3 x4))]) := congrArg (fun z9 => [mO cy mm ik tl fm tz vl iw rm rr om, ia cy (mm 1) 169 (gapS S x1 x2 x3 x4), ia cy (mm 4) 7 z9]) (show C = (fnd C (cGap S x1 x2 x3 x4)) from fnd_o hcd)
                replace hP4 := (congrArg (fun z9 => va_P D vwCl z9 _) hq9).mp hP4
                replace hD4 := (congrArg (fun z9 => va_D _ z9) hq9).mp hD4
                clear hq9
                have hq9 : ([mO cy mm ik tl fm tz vl iw rm rr om, ia cy (mm 1) 169 (gapS S x1 x2 x3 x4), ia cy (mm 4) 7 (fnd C (cGap S x1 x2 x3 x4))]) = ([mO cy mm ik tl fm tz vl iw rm rr om, ia cy (mm 1) 169 (if cGap S x1 x2 x3 x4 = 7 then gapS S x1 x2 x3 x4 else S), ia cy (mm 4) 7 (fnd C (cGap S x1 x2 x3 x4))]) := congrArg (fun z9 => [mO cy mm ik tl fm tz vl iw rm rr om, ia cy (mm 1) 169 z9, ia cy (mm 4) 7 (fnd C (cGap S x1 x2 x3 x4))]) (show (gapS S x1 x2 x3 x4) = (if cGap S x1 x2 x3 x4 = 7 then gapS S x1 x2 x3 x4 else S) from (if_pos hcd).symm)
                replace hP4 := (congrArg (fun z9 => va_P D vwCl z9 _) hq9).mp hP4
                replace hD4 := (congrArg (fun z9 => va_D _ z9) hq9).mp hD4
                clear hq9
                refine re_i () hx hb hr hlocks hP4 hD4 hS4 dX7_gap_123 ?_
                exact (ans_o hcd (rfl))
              · refine lv_aload_n hx hb dX7_gap_81 rfl (lv_at hl0 0 rfl) ?_
                refine lv_ldc (v := (-1000000002)) hx hb hown (hw _ kw_4_138) dX7_gap_82 ?_
                refine cV_i (wc := [mO cy mm ik tl fm tz vl iw rm rr om, ia cy (mm 4) 7 C]) (wr := [ia cy (mm 1) 169 S]) (rest := []) hx hb hml hown hw hG hK hP3 hD3 hS3 hA hl0 kc_X7_finds kw_4_139 [.int (-1000000002)] (c_X7_finds l D cy G H3.size mm ik tl fm tz vl iw rm rr om C 1 (-1000000002) (by decide) (by decide)) [0, 2] [1] rfl rfl rfl rfl rfl 0 rfl rfl rfl rfl rfl (Nat.le_of_ble_eq_true rfl) ⟨Nat.le_of_ble_eq_true rfl, Nat.le_of_ble_eq_true rfl⟩ dX7_gap_84 ⟨Nat.le_of_ble_eq_true rfl, Nat.le_of_ble_eq_true rfl⟩ (fun r_84 u9 H4 locs4 hu9 hP4 hD4 hS4 => ?_)
                clear hP3 hD3 hS3 locs3 H3
                have hr_84 := hu9
                replace hP4 : va_P D vwCl ([ia cy (mm 1) 169 S, mO cy mm ik tl fm tz vl iw rm rr om, ia cy (mm 4) 7 (upd C 1 (C 1 + 1))]) H4 := hP4
                replace hD4 : va_D (va_A _ sz) ([ia cy (mm 1) 169 S, mO cy mm ik tl fm tz vl iw rm rr om, ia cy (mm 4) 7 (upd C 1 (C 1 + 1))]) := hD4
                replace hP4 := hP4.sub (ws' := [mO cy mm ik tl fm tz vl iw rm rr om, ia cy (mm 1) 169 S, ia cy (mm 4) 7 (upd C 1 (C 1 + 1))]) [1, 0, 2] rfl
                replace hD4 := hD4.sub (ws' := [mO cy mm ik tl fm tz vl iw rm rr om, ia cy (mm 1) 169 S, ia cy (mm 4) 7 (upd C 1 (C 1 + 1))]) [1, 0, 2] (by decide) rfl
                subst hr_84
                have hcd : cGap S x1 x2 x3 x4 = 1 := by unfold cGap; clear hx hb hml hown hr hlocks hw hsz hA hG hK hP4 hD4 hS4 hl0; grind
                have hq9 : ([mO cy mm ik tl fm tz vl iw rm rr om, ia cy (mm 1) 169 S, ia cy (mm 4) 7 (upd C 1 (C 1 + 1))]) = ([mO cy mm ik tl fm tz vl iw rm rr om, ia cy (mm 1) 169 S, ia cy (mm 4) 7 (fnd C (cGap S x1 x2 x3 x4))]) := congrArg (fun z9 => [mO cy mm ik tl fm tz vl iw rm rr om, ia cy (mm 1) 169 S, ia cy (mm 4) 7 z9]) (show (upd C 1 (C 1 + 1)) = (fnd C (cGap S x1 x2 x3 x4)) from fnd_f hcd (by decide))
                replace hP4 := (congrArg (fun z9 => va_P D vwCl z9 _) hq9).mp hP4
                replace hD4 := (congrArg (fun z9 => va_D _ z9) hq9).mp hD4
                clear hq9
                have hq9 : ([mO cy mm ik tl fm tz vl iw rm rr om, ia cy (mm 1) 169 S, ia cy (mm 4) 7 (fnd C (cGap S x1 x2 x3 x4))]) = ([mO cy mm ik tl fm tz vl iw rm rr om, ia cy (mm 1) 169 (if cGap S x1 x2 x3 x4 = 7 then gapS S x1 x2 x3 x4 else S), ia cy (mm 4) 7 (fnd C (cGap S x1 x2 x3 x4))]) := congrArg (fun z9 => [mO cy mm ik tl fm tz vl iw rm rr om, ia cy (mm 1) 169 z9, ia cy (mm 4) 7 (fnd C (cGap S x1 x2 x3 x4))]) (show S = (if cGap S x1 x2 x3 x4 = 7 then gapS S x1 x2 x3 x4 else S) from (if_neg (fun z9 => absurd (hcd.symm.trans z9) (by decide))).symm)
                replace hP4 := (congrArg (fun z9 => va_P D vwCl z9 _) hq9).mp hP4
                replace hD4 := (congrArg (fun z9 => va_D _ z9) hq9).mp hD4
                clear hq9
                refine re_i () hx hb hr hlocks hP4 hD4 hS4 dX7_gap_87 ?_
                exact (ans_f hcd (by decide) rfl)
            · refine lv_aload_n hx hb dX7_gap_63 rfl (lv_at hl0 0 rfl) ?_
              refine lv_ldc (v := (-1000000001)) hx hb hown (hw _ kw_4_143) dX7_gap_64 ?_
              refine cV_i (wc := [mO cy mm ik tl fm tz vl iw rm rr om, ia cy (mm 4) 7 C]) (wr := [ia cy (mm 1) 169 S]) (rest := []) hx hb hml hown hw hG hK hP3 hD3 hS3 hA hl0 kc_X7_finds kw_4_139 [.int (-1000000001)] (c_X7_finds l D cy G H3.size mm ik tl fm tz vl iw rm rr om C 0 (-1000000001) (by decide) (by decide)) [0, 2] [1] rfl rfl rfl rfl rfl 0 rfl rfl rfl rfl rfl (Nat.le_of_ble_eq_true rfl) ⟨Nat.le_of_ble_eq_true rfl, Nat.le_of_ble_eq_true rfl⟩ dX7_gap_66 ⟨Nat.le_of_ble_eq_true rfl, Nat.le_of_ble_eq_true rfl⟩ (fun r_66 u9 H4 locs4 hu9 hP4 hD4 hS4 => ?_)
              clear hP3 hD3 hS3 locs3 H3
              have hr_66 := hu9
              replace hP4 : va_P D vwCl ([ia cy (mm 1) 169 S, mO cy mm ik tl fm tz vl iw rm rr om, ia cy (mm 4) 7 (upd C 0 (C 0 + 1))]) H4 := hP4
              replace hD4 : va_D (va_A _ sz) ([ia cy (mm 1) 169 S, mO cy mm ik tl fm tz vl iw rm rr om, ia cy (mm 4) 7 (upd C 0 (C 0 + 1))]) := hD4
              replace hP4 := hP4.sub (ws' := [mO cy mm ik tl fm tz vl iw rm rr om, ia cy (mm 1) 169 S, ia cy (mm 4) 7 (upd C 0 (C 0 + 1))]) [1, 0, 2] rfl
              replace hD4 := hD4.sub (ws' := [mO cy mm ik tl fm tz vl iw rm rr om, ia cy (mm 1) 169 S, ia cy (mm 4) 7 (upd C 0 (C 0 + 1))]) [1, 0, 2] (by decide) rfl
              subst hr_66
              have hcd : cGap S x1 x2 x3 x4 = 0 := by unfold cGap; clear hx hb hml hown hr hlocks hw hsz hA hG hK hP4 hD4 hS4 hl0; grind
              have hq9 : ([mO cy mm ik tl fm tz vl iw rm rr om, ia cy (mm 1) 169 S, ia cy (mm 4) 7 (upd C 0 (C 0 + 1))]) = ([mO cy mm ik tl fm tz vl iw rm rr om, ia cy (mm 1) 169 S, ia cy (mm 4) 7 (fnd C (cGap S x1 x2 x3 x4))]) := congrArg (fun z9 => [mO cy mm ik tl fm tz vl iw rm rr om, ia cy (mm 1) 169 S, ia cy (mm 4) 7 z9]) (show (upd C 0 (C 0 + 1)) = (fnd C (cGap S x1 x2 x3 x4)) from fnd_f hcd (by decide))
              replace hP4 := (congrArg (fun z9 => va_P D vwCl z9 _) hq9).mp hP4
              replace hD4 := (congrArg (fun z9 => va_D _ z9) hq9).mp hD4
              clear hq9
              have hq9 : ([mO cy mm ik tl fm tz vl iw rm rr om, ia cy (mm 1) 169 S, ia cy (mm 4) 7 (fnd C (cGap S x1 x2 x3 x4))]) = ([mO cy mm ik tl fm tz vl iw rm rr om, ia cy (mm 1) 169 (if cGap S x1 x2 x3 x4 = 7 then gapS S x1 x2 x3 x4 else S), ia cy (mm 4) 7 (fnd C (cGap S x1 x2 x3 x4))]) := congrArg (fun z9 => [mO cy mm ik tl fm tz vl iw rm rr om, ia cy (mm 1) 169 z9, ia cy (mm 4) 7 (fnd C (cGap S x1 x2 x3 x4))]) (show S = (if cGap S x1 x2 x3 x4 = 7 then gapS S x1 x2 x3 x4 else S) from (if_neg (fun z9 => absurd (hcd.symm.trans z9) (by decide))).symm)
              replace hP4 := (congrArg (fun z9 => va_P D vwCl z9 _) hq9).mp hP4
              replace hD4 := (congrArg (fun z9 => va_D _ z9) hq9).mp hD4
              clear hq9
              refine re_i () hx hb hr hlocks hP4 hD4 hS4 dX7_gap_69 ?_
              exact (ans_f hcd (by decide) rfl)
      · refine lv_aload_n hx hb dX7_gap_25 rfl (lv_at hl0 0 rfl) ?_
        refine lv_iload_n hx hb dX7_gap_26 rfl (lv_at hl0 3 rfl) ?_
        refine rV_i (wc := [mO cy mm ik tl fm tz vl iw rm rr om, ia cy (mm 1) 169 S]) (rest := []) hx hb hml hown hw hG hK hP2 hS2 hA hl0 kc_X7_isRoom kw_4_156 [.int x3] (c_X7_isRoom l D cy G H2.size mm ik tl fm tz vl iw rm rr om S x3 (by first | omega | assumption)) [0, 1] rfl 0 rfl rfl rfl rfl rfl (Nat.le_of_ble_eq_true rfl) ⟨Nat.le_of_ble_eq_true rfl, Nat.le_of_ble_eq_true rfl⟩ dX7_gap_27 ⟨Nat.le_of_ble_eq_true rfl, Nat.le_of_ble_eq_true rfl⟩ (fun r_27 H3 locs3 hr_27 hP3 hS3 => ?_)
        have hD3 := hD2
        clear hP2 hD2 hS2 locs2 H2
        subst hr_27
        refine lb_eq (tgt := 63) hx hb dX7_gap_30 (by decide) (fun c_30 => ?_) (fun c_30 => ?_)
        · refine lv_aload_n hx hb dX7_gap_63 rfl (lv_at hl0 0 rfl) ?_
          refine lv_ldc (v := (-1000000001)) hx hb hown (hw _ kw_4_143) dX7_gap_64 ?_
          refine cV_i (wc := [mO cy mm ik tl fm tz vl iw rm rr om, ia cy (mm 4) 7 C]) (wr := [ia cy (mm 1) 169 S]) (rest := []) hx hb hml hown hw hG hK hP3 hD3 hS3 hA hl0 kc_X7_finds kw_4_139 [.int (-1000000001)] (c_X7_finds l D cy G H3.size mm ik tl fm tz vl iw rm rr om C 0 (-1000000001) (by decide) (by decide)) [0, 2] [1] rfl rfl rfl rfl rfl 0 rfl rfl rfl rfl rfl (Nat.le_of_ble_eq_true rfl) ⟨Nat.le_of_ble_eq_true rfl, Nat.le_of_ble_eq_true rfl⟩ dX7_gap_66 ⟨Nat.le_of_ble_eq_true rfl, Nat.le_of_ble_eq_true rfl⟩ (fun r_66 u9 H4 locs4 hu9 hP4 hD4 hS4 => ?_)
          clear hP3 hD3 hS3 locs3 H3
          have hr_66 := hu9
          replace hP4 : va_P D vwCl ([ia cy (mm 1) 169 S, mO cy mm ik tl fm tz vl iw rm rr om, ia cy (mm 4) 7 (upd C 0 (C 0 + 1))]) H4 := hP4
          replace hD4 : va_D (va_A _ sz) ([ia cy (mm 1) 169 S, mO cy mm ik tl fm tz vl iw rm rr om, ia cy (mm 4) 7 (upd C 0 (C 0 + 1))]) := hD4
          replace hP4 := hP4.sub (ws' := [mO cy mm ik tl fm tz vl iw rm rr om, ia cy (mm 1) 169 S, ia cy (mm 4) 7 (upd C 0 (C 0 + 1))]) [1, 0, 2] rfl
          replace hD4 := hD4.sub (ws' := [mO cy mm ik tl fm tz vl iw rm rr om, ia cy (mm 1) 169 S, ia cy (mm 4) 7 (upd C 0 (C 0 + 1))]) [1, 0, 2] (by decide) rfl
          subst hr_66
          have hcd : cGap S x1 x2 x3 x4 = 0 := by unfold cGap; clear hx hb hml hown hr hlocks hw hsz hA hG hK hP4 hD4 hS4 hl0; grind
          have hq9 : ([mO cy mm ik tl fm tz vl iw rm rr om, ia cy (mm 1) 169 S, ia cy (mm 4) 7 (upd C 0 (C 0 + 1))]) = ([mO cy mm ik tl fm tz vl iw rm rr om, ia cy (mm 1) 169 S, ia cy (mm 4) 7 (fnd C (cGap S x1 x2 x3 x4))]) := congrArg (fun z9 => [mO cy mm ik tl fm tz vl iw rm rr om, ia cy (mm 1) 169 S, ia cy (mm 4) 7 z9]) (show (upd C 0 (C 0 + 1)) = (fnd C (cGap S x1 x2 x3 x4)) from fnd_f hcd (by decide))
          replace hP4 := (congrArg (fun z9 => va_P D vwCl z9 _) hq9).mp hP4
          replace hD4 := (congrArg (fun z9 => va_D _ z9) hq9).mp hD4
          clear hq9
          have hq9 : ([mO cy mm ik tl fm tz vl iw rm rr om, ia cy (mm 1) 169 S, ia cy (mm 4) 7 (fnd C (cGap S x1 x2 x3 x4))]) = ([mO cy mm ik tl fm tz vl iw rm rr om, ia cy (mm 1) 169 (if cGap S x1 x2 x3 x4 = 7 then gapS S x1 x2 x3 x4 else S), ia cy (mm 4) 7 (fnd C (cGap S x1 x2 x3 x4))]) := congrArg (fun z9 => [mO cy mm ik tl fm tz vl iw rm rr om, ia cy (mm 1) 169 z9, ia cy (mm 4) 7 (fnd C (cGap S x1 x2 x3 x4))]) (show S = (if cGap S x1 x2 x3 x4 = 7 then gapS S x1 x2 x3 x4 else S) from (if_neg (fun z9 => absurd (hcd.symm.trans z9) (by decide))).symm)
          replace hP4 := (congrArg (fun z9 => va_P D vwCl z9 _) hq9).mp hP4
          replace hD4 := (congrArg (fun z9 => va_D _ z9) hq9).mp hD4
          clear hq9
          refine re_i () hx hb hr hlocks hP4 hD4 hS4 dX7_gap_69 ?_
          exact (ans_f hcd (by decide) rfl)
        · refine lv_iload_n hx hb dX7_gap_33 rfl (lv_at hl0 3 rfl) ?_
          refine lv_iload_n hx hb dX7_gap_34 rfl (lv_at hl0 2 rfl) ?_
          refine lv_icmp_eq (tgt := 63) hx hb dX7_gap_35 (by decide) (fun c_35 => ?_) (fun c_35 => ?_)
          · refine lv_aload_n hx hb dX7_gap_63 rfl (lv_at hl0 0 rfl) ?_
            refine lv_ldc (v := (-1000000001)) hx hb hown (hw _ kw_4_143) dX7_gap_64 ?_
            refine cV_i (wc := [mO cy mm ik tl fm tz vl iw rm rr om, ia cy (mm 4) 7 C]) (wr := [ia cy (mm 1) 169 S]) (rest := []) hx hb hml hown hw hG hK hP3 hD3 hS3 hA hl0 kc_X7_finds kw_4_139 [.int (-1000000001)] (c_X7_finds l D cy G H3.size mm ik tl fm tz vl iw rm rr om C 0 (-1000000001) (by decide) (by decide)) [0, 2] [1] rfl rfl rfl rfl rfl 0 rfl rfl rfl rfl rfl (Nat.le_of_ble_eq_true rfl) ⟨Nat.le_of_ble_eq_true rfl, Nat.le_of_ble_eq_true rfl⟩ dX7_gap_66 ⟨Nat.le_of_ble_eq_true rfl, Nat.le_of_ble_eq_true rfl⟩ (fun r_66 u9 H4 locs4 hu9 hP4 hD4 hS4 => ?_)
            clear hP3 hD3 hS3 locs3 H3
            have hr_66 := hu9
            replace hP4 : va_P D vwCl ([ia cy (mm 1) 169 S, mO cy mm ik tl fm tz vl iw rm rr om, ia cy (mm 4) 7 (upd C 0 (C 0 + 1))]) H4 := hP4
            replace hD4 : va_D (va_A _ sz) ([ia cy (mm 1) 169 S, mO cy mm ik tl fm tz vl iw rm rr om, ia cy (mm 4) 7 (upd C 0 (C 0 + 1))]) := hD4
            replace hP4 := hP4.sub (ws' := [mO cy mm ik tl fm tz vl iw rm rr om, ia cy (mm 1) 169 S, ia cy (mm 4) 7 (upd C 0 (C 0 + 1))]) [1, 0, 2] rfl
            replace hD4 := hD4.sub (ws' := [mO cy mm ik tl fm tz vl iw rm rr om, ia cy (mm 1) 169 S, ia cy (mm 4) 7 (upd C 0 (C 0 + 1))]) [1, 0, 2] (by decide) rfl
            subst hr_66
            have hcd : cGap S x1 x2 x3 x4 = 0 := by unfold cGap; clear hx hb hml hown hr hlocks hw hsz hA hG hK hP4 hD4 hS4 hl0; grind
            have hq9 : ([mO cy mm ik tl fm tz vl iw rm rr om, ia cy (mm 1) 169 S, ia cy (mm 4) 7 (upd C 0 (C 0 + 1))]) = ([mO cy mm ik tl fm tz vl iw rm rr om, ia cy (mm 1) 169 S, ia cy (mm 4) 7 (fnd C (cGap S x1 x2 x3 x4))]) := congrArg (fun z9 => [mO cy mm ik tl fm tz vl iw rm rr om, ia cy (mm 1) 169 S, ia cy (mm 4) 7 z9]) (show (upd C 0 (C 0 + 1)) = (fnd C (cGap S x1 x2 x3 x4)) from fnd_f hcd (by decide))
            replace hP4 := (congrArg (fun z9 => va_P D vwCl z9 _) hq9).mp hP4
            replace hD4 := (congrArg (fun z9 => va_D _ z9) hq9).mp hD4
            clear hq9
            have hq9 : ([mO cy mm ik tl fm tz vl iw rm rr om, ia cy (mm 1) 169 S, ia cy (mm 4) 7 (fnd C (cGap S x1 x2 x3 x4))]) = ([mO cy mm ik tl fm tz vl iw rm rr om, ia cy (mm 1) 169 (if cGap S x1 x2 x3 x4 = 7 then gapS S x1 x2 x3 x4 else S), ia cy (mm 4) 7 (fnd C (cGap S x1 x2 x3 x4))]) := congrArg (fun z9 => [mO cy mm ik tl fm tz vl iw rm rr om, ia cy (mm 1) 169 z9, ia cy (mm 4) 7 (fnd C (cGap S x1 x2 x3 x4))]) (show S = (if cGap S x1 x2 x3 x4 = 7 then gapS S x1 x2 x3 x4 else S) from (if_neg (fun z9 => absurd (hcd.symm.trans z9) (by decide))).symm)
            replace hP4 := (congrArg (fun z9 => va_P D vwCl z9 _) hq9).mp hP4
            replace hD4 := (congrArg (fun z9 => va_D _ z9) hq9).mp hD4
            clear hq9
            refine re_i () hx hb hr hlocks hP4 hD4 hS4 dX7_gap_69 ?_
            exact (ans_f hcd (by decide) rfl)
          · refine lv_iload hx hb dX7_gap_38 (lv_at hl0 4 rfl) ?_
            refine lv_i2l hx hb dX7_gap_40 rfl ?_
            refine lv_lconst (v := 0) hx hb dX7_gap_41 (by decide) ?_
            refine lv_ldc2 (v := 999999) hx hb hown (hw _ kw_4_160) dX7_gap_42 ?_
            refine rT_i (wc := []) (rest := []) hx hb hml hown hw hG hK hP3 hS3 hA hl0 kc_X7_in kw_4_153 [.long x4.toInt64, .long 0, .long 999999] (c_X7_in l D cy G H3.size x4.toInt64 0 999999) [] rfl rfl rfl (Nat.le_of_ble_eq_true rfl) ⟨Nat.le_of_ble_eq_true rfl, Nat.le_of_ble_eq_true rfl⟩ dX7_gap_45 ⟨Nat.le_of_ble_eq_true rfl, Nat.le_of_ble_eq_true rfl⟩ (fun r_45 H4 locs4 hr_45 hP4 hS4 => ?_)
            have hD4 := hD3
            clear hP3 hD3 hS3 locs3 H3
            subst hr_45
            refine tp (show (b2i (0 ≤ x4.toInt64 ∧ x4.toInt64 ≤ 999999)) = b2i (0 ≤ x4 ∧ x4 ≤ 999999) from b2i_iff (in_c (by decide) (by decide))) ?_
            refine lb_eq (tgt := 63) hx hb dX7_gap_48 (by decide) (fun c_48 => ?_) (fun c_48 => ?_)
            · refine lv_aload_n hx hb dX7_gap_63 rfl (lv_at hl0 0 rfl) ?_
              refine lv_ldc (v := (-1000000001)) hx hb hown (hw _ kw_4_143) dX7_gap_64 ?_
              refine cV_i (wc := [mO cy mm ik tl fm tz vl iw rm rr om, ia cy (mm 4) 7 C]) (wr := [ia cy (mm 1) 169 S]) (rest := []) hx hb hml hown hw hG hK hP4 hD4 hS4 hA hl0 kc_X7_finds kw_4_139 [.int (-1000000001)] (c_X7_finds l D cy G H4.size mm ik tl fm tz vl iw rm rr om C 0 (-1000000001) (by decide) (by decide)) [0, 2] [1] rfl rfl rfl rfl rfl 0 rfl rfl rfl rfl rfl (Nat.le_of_ble_eq_true rfl) ⟨Nat.le_of_ble_eq_true rfl, Nat.le_of_ble_eq_true rfl⟩ dX7_gap_66 ⟨Nat.le_of_ble_eq_true rfl, Nat.le_of_ble_eq_true rfl⟩ (fun r_66 u9 H5 locs5 hu9 hP5 hD5 hS5 => ?_)
              clear hP4 hD4 hS4 locs4 H4
              have hr_66 := hu9
              replace hP5 : va_P D vwCl ([ia cy (mm 1) 169 S, mO cy mm ik tl fm tz vl iw rm rr om, ia cy (mm 4) 7 (upd C 0 (C 0 + 1))]) H5 := hP5
              replace hD5 : va_D (va_A _ sz) ([ia cy (mm 1) 169 S, mO cy mm ik tl fm tz vl iw rm rr om, ia cy (mm 4) 7 (upd C 0 (C 0 + 1))]) := hD5
              replace hP5 := hP5.sub (ws' := [mO cy mm ik tl fm tz vl iw rm rr om, ia cy (mm 1) 169 S, ia cy (mm 4) 7 (upd C 0 (C 0 + 1))]) [1, 0, 2] rfl
              replace hD5 := hD5.sub (ws' := [mO cy mm ik tl fm tz vl iw rm rr om, ia cy (mm 1) 169 S, ia cy (mm 4) 7 (upd C 0 (C 0 + 1))]) [1, 0, 2] (by decide) rfl
              subst hr_66
              have hcd : cGap S x1 x2 x3 x4 = 0 := by unfold cGap; clear hx hb hml hown hr hlocks hw hsz hA hG hK hP5 hD5 hS5 hl0; grind
              have hq9 : ([mO cy mm ik tl fm tz vl iw rm rr om, ia cy (mm 1) 169 S, ia cy (mm 4) 7 (upd C 0 (C 0 + 1))]) = ([mO cy mm ik tl fm tz vl iw rm rr om, ia cy (mm 1) 169 S, ia cy (mm 4) 7 (fnd C (cGap S x1 x2 x3 x4))]) := congrArg (fun z9 => [mO cy mm ik tl fm tz vl iw rm rr om, ia cy (mm 1) 169 S, ia cy (mm 4) 7 z9]) (show (upd C 0 (C 0 + 1)) = (fnd C (cGap S x1 x2 x3 x4)) from fnd_f hcd (by decide))
              replace hP5 := (congrArg (fun z9 => va_P D vwCl z9 _) hq9).mp hP5
              replace hD5 := (congrArg (fun z9 => va_D _ z9) hq9).mp hD5
              clear hq9
              have hq9 : ([mO cy mm ik tl fm tz vl iw rm rr om, ia cy (mm 1) 169 S, ia cy (mm 4) 7 (fnd C (cGap S x1 x2 x3 x4))]) = ([mO cy mm ik tl fm tz vl iw rm rr om, ia cy (mm 1) 169 (if cGap S x1 x2 x3 x4 = 7 then gapS S x1 x2 x3 x4 else S), ia cy (mm 4) 7 (fnd C (cGap S x1 x2 x3 x4))]) := congrArg (fun z9 => [mO cy mm ik tl fm tz vl iw rm rr om, ia cy (mm 1) 169 z9, ia cy (mm 4) 7 (fnd C (cGap S x1 x2 x3 x4))]) (show S = (if cGap S x1 x2 x3 x4 = 7 then gapS S x1 x2 x3 x4 else S) from (if_neg (fun z9 => absurd (hcd.symm.trans z9) (by decide))).symm)
              replace hP5 := (congrArg (fun z9 => va_P D vwCl z9 _) hq9).mp hP5
              replace hD5 := (congrArg (fun z9 => va_D _ z9) hq9).mp hD5
              clear hq9
              refine re_i () hx hb hr hlocks hP5 hD5 hS5 dX7_gap_69 ?_
              exact (ans_f hcd (by decide) rfl)
            · refine lv_iload hx hb dX7_gap_51 (lv_at hl0 4 rfl) ?_
              refine lv_bipush (v := 100) hx hb dX7_gap_53 (by decide) ?_
              refine lv_idiv hx hb dX7_gap_55 (by decide) ?_
              refine lv_bipush (v := 10) hx hb dX7_gap_56 (by decide) ?_
              refine lv_irem hx hb dX7_gap_58 (by decide) ?_
              refine lv_iconst (v := 3) hx hb dX7_gap_59 (by decide) ?_
              refine lv_icmp_le (tgt := 70) hx hb dX7_gap_60 (by decide) (fun c_60 => ?_) (fun c_60 => ?_)
              · refine lv_aload_n hx hb dX7_gap_70 rfl (lv_at hl0 0 rfl) ?_
                refine va_get (D := D) (ci := 7) (v := .ref (mm 1)) (C := RX7) (T := TX7) (N := 23) hx hb hw iX7 hown hK hP4 0 rfl rfl 0 (by decide) (hw _ kw_4_64) (fun _ h9 => h9) rfl dX7_gap_71 ?_
                refine lv_iconst (v := 1) hx hb dX7_gap_74 (by decide) ?_
                refine ald_i (f := S) hx hb hK hP4 1 0 rfl rfl 1 rfl (by first | omega | assumption) (by decide) dX7_gap_75 ?_
                refine tp (show (S 1) = nI (gcN S) from wf_g wf) ?_
                refine lv_bipush (v := 20) hx hb dX7_gap_76 (by decide) ?_
                refine ln_ne (tgt := 88) (gcN S) 20 rfl rfl (by omega) (by omega) hx hb dX7_gap_78 (by decide) (fun c_78 => ?_) (fun c_78 => ?_)
                · refine lv_aload_n hx hb dX7_gap_88 rfl (lv_at hl0 0 rfl) ?_
                  refine lv_iload_n hx hb dX7_gap_89 rfl (lv_at hl0 1 rfl) ?_
                  refine lv_iload_n hx hb dX7_gap_90 rfl (lv_at hl0 2 rfl) ?_
                  refine lv_iload_n hx hb dX7_gap_91 rfl (lv_at hl0 3 rfl) ?_
                  refine lv_iload hx hb dX7_gap_92 (lv_at hl0 4 rfl) ?_
                  refine lv_sipush (v := 10000) hx hb dX7_gap_94 (by decide) ?_
                  refine lv_idiv hx hb dX7_gap_97 (by decide) ?_
                  refine lv_iload hx hb dX7_gap_98 (lv_at hl0 4 rfl) ?_
                  refine lv_sipush (v := 1000) hx hb dX7_gap_100 (by decide) ?_
                  refine lv_idiv hx hb dX7_gap_103 (by decide) ?_
                  refine lv_bipush (v := 10) hx hb dX7_gap_104 (by decide) ?_
                  refine lv_irem hx hb dX7_gap_106 (by decide) ?_
                  refine lv_iload hx hb dX7_gap_107 (lv_at hl0 4 rfl) ?_
                  refine lv_bipush (v := 100) hx hb dX7_gap_109 (by decide) ?_
                  refine lv_idiv hx hb dX7_gap_111 (by decide) ?_
                  refine lv_bipush (v := 10) hx hb dX7_gap_112 (by decide) ?_
                  refine lv_irem hx hb dX7_gap_114 (by decide) ?_
                  refine lv_iload hx hb dX7_gap_115 (lv_at hl0 4 rfl) ?_
                  refine lv_bipush (v := 100) hx hb dX7_gap_117 (by decide) ?_
                  refine lv_irem hx hb dX7_gap_119 (by decide) ?_
                  refine cV_i (wc := [mO cy mm ik tl fm tz vl iw rm rr om, ia cy (mm 1) 169 S]) (wr := [ia cy (mm 4) 7 C]) (rest := []) hx hb hml hown hw hG hK hP4 hD4 hS4 hA hl0 kc_X7_newGap kw_4_161 [.int x1, .int x2, .int x3, .int (x4 / 10000), .int ((x4 / 1000) - (x4 / 1000) / 10 * 10), .int ((x4 / 100) - (x4 / 100) / 10 * 10), .int (x4 - x4 / 100 * 100)] (c_X7_newGap l D cy G H4.size mm ik tl fm tz vl iw rm rr om S x1 x2 x3 (x4 / 10000) ((x4 / 1000) - (x4 / 1000) / 10 * 10) ((x4 / 100) - (x4 / 100) / 10 * 10) (x4 - x4 / 100 * 100) (by first | omega | assumption) (by first | omega | assumption)) [0, 1] [2] rfl rfl rfl rfl rfl 0 rfl rfl rfl rfl rfl (Nat.le_of_ble_eq_true rfl) ⟨Nat.le_of_ble_eq_true rfl, Nat.le_of_ble_eq_true rfl⟩ dX7_gap_120 ⟨Nat.le_of_ble_eq_true rfl, Nat.le_of_ble_eq_true rfl⟩ (fun r_120 u9 H5 locs5 hu9 hP5 hD5 hS5 => ?_)
                  clear hP4 hD4 hS4 locs4 H4
                  have hr_120 := hu9
                  replace hP5 : va_P D vwCl ([ia cy (mm 4) 7 C, mO cy mm ik tl fm tz vl iw rm rr om, ia cy (mm 1) 169 (newGap S (gcN S) x1 x2 x3 (x4 / 10000) ((x4 / 1000) - (x4 / 1000) / 10 * 10) ((x4 / 100) - (x4 / 100) / 10 * 10) (x4 - x4 / 100 * 100))]) H5 := hP5
                  replace hD5 : va_D (va_A _ sz) ([ia cy (mm 4) 7 C, mO cy mm ik tl fm tz vl iw rm rr om, ia cy (mm 1) 169 (newGap S (gcN S) x1 x2 x3 (x4 / 10000) ((x4 / 1000) - (x4 / 1000) / 10 * 10) ((x4 / 100) - (x4 / 100) / 10 * 10) (x4 - x4 / 100 * 100))]) := hD5
                  replace hP5 := hP5.sub (ws' := [mO cy mm ik tl fm tz vl iw rm rr om, ia cy (mm 1) 169 (newGap S (gcN S) x1 x2 x3 (x4 / 10000) ((x4 / 1000) - (x4 / 1000) / 10 * 10) ((x4 / 100) - (x4 / 100) / 10 * 10) (x4 - x4 / 100 * 100)), ia cy (mm 4) 7 C]) [1, 2, 0] rfl
                  replace hD5 := hD5.sub (ws' := [mO cy mm ik tl fm tz vl iw rm rr om, ia cy (mm 1) 169 (newGap S (gcN S) x1 x2 x3 (x4 / 10000) ((x4 / 1000) - (x4 / 1000) / 10 * 10) ((x4 / 100) - (x4 / 100) / 10 * 10) (x4 - x4 / 100 * 100)), ia cy (mm 4) 7 C]) [1, 2, 0] (by decide) rfl
                  subst hr_120
                  have hq9 : ([mO cy mm ik tl fm tz vl iw rm rr om, ia cy (mm 1) 169 (newGap S (gcN S) x1 x2 x3 (x4 / 10000) ((x4 / 1000) - (x4 / 1000) / 10 * 10) ((x4 / 100) - (x4 / 100) / 10 * 10) (x4 - x4 / 100 * 100)), ia cy (mm 4) 7 C]) = ([mO cy mm ik tl fm tz vl iw rm rr om, ia cy (mm 1) 169 (gapS S x1 x2 x3 x4), ia cy (mm 4) 7 C]) := congrArg (fun z9 => [mO cy mm ik tl fm tz vl iw rm rr om, ia cy (mm 1) 169 z9, ia cy (mm 4) 7 C]) (show (newGap S (gcN S) x1 x2 x3 (x4 / 10000) ((x4 / 1000) - (x4 / 1000) / 10 * 10) ((x4 / 100) - (x4 / 100) / 10 * 10) (x4 - x4 / 100 * 100)) = (gapS S x1 x2 x3 x4) from rfl)
                  replace hP5 := (congrArg (fun z9 => va_P D vwCl z9 _) hq9).mp hP5
                  replace hD5 := (congrArg (fun z9 => va_D _ z9) hq9).mp hD5
                  clear hq9
                  have hcd : cGap S x1 x2 x3 x4 = 7 := by unfold cGap; clear hx hb hml hown hr hlocks hw hsz hA hG hK hP5 hD5 hS5 hl0; grind
                  have hq9 : ([mO cy mm ik tl fm tz vl iw rm rr om, ia cy (mm 1) 169 (gapS S x1 x2 x3 x4), ia cy (mm 4) 7 C]) = ([mO cy mm ik tl fm tz vl iw rm rr om, ia cy (mm 1) 169 (gapS S x1 x2 x3 x4), ia cy (mm 4) 7 (fnd C (cGap S x1 x2 x3 x4))]) := congrArg (fun z9 => [mO cy mm ik tl fm tz vl iw rm rr om, ia cy (mm 1) 169 (gapS S x1 x2 x3 x4), ia cy (mm 4) 7 z9]) (show C = (fnd C (cGap S x1 x2 x3 x4)) from fnd_o hcd)
                  replace hP5 := (congrArg (fun z9 => va_P D vwCl z9 _) hq9).mp hP5
                  replace hD5 := (congrArg (fun z9 => va_D _ z9) hq9).mp hD5
                  clear hq9
                  have hq9 : ([mO cy mm ik tl fm tz vl iw rm rr om, ia cy (mm 1) 169 (gapS S x1 x2 x3 x4), ia cy (mm 4) 7 (fnd C (cGap S x1 x2 x3 x4))]) = ([mO cy mm ik tl fm tz vl iw rm rr om, ia cy (mm 1) 169 (if cGap S x1 x2 x3 x4 = 7 then gapS S x1 x2 x3 x4 else S), ia cy (mm 4) 7 (fnd C (cGap S x1 x2 x3 x4))]) := congrArg (fun z9 => [mO cy mm ik tl fm tz vl iw rm rr om, ia cy (mm 1) 169 z9, ia cy (mm 4) 7 (fnd C (cGap S x1 x2 x3 x4))]) (show (gapS S x1 x2 x3 x4) = (if cGap S x1 x2 x3 x4 = 7 then gapS S x1 x2 x3 x4 else S) from (if_pos hcd).symm)
                  replace hP5 := (congrArg (fun z9 => va_P D vwCl z9 _) hq9).mp hP5
                  replace hD5 := (congrArg (fun z9 => va_D _ z9) hq9).mp hD5
                  clear hq9
                  refine re_i () hx hb hr hlocks hP5 hD5 hS5 dX7_gap_123 ?_
                  exact (ans_o hcd (rfl))
                · refine lv_aload_n hx hb dX7_gap_81 rfl (lv_at hl0 0 rfl) ?_
                  refine lv_ldc (v := (-1000000002)) hx hb hown (hw _ kw_4_138) dX7_gap_82 ?_
                  refine cV_i (wc := [mO cy mm ik tl fm tz vl iw rm rr om, ia cy (mm 4) 7 C]) (wr := [ia cy (mm 1) 169 S]) (rest := []) hx hb hml hown hw hG hK hP4 hD4 hS4 hA hl0 kc_X7_finds kw_4_139 [.int (-1000000002)] (c_X7_finds l D cy G H4.size mm ik tl fm tz vl iw rm rr om C 1 (-1000000002) (by decide) (by decide)) [0, 2] [1] rfl rfl rfl rfl rfl 0 rfl rfl rfl rfl rfl (Nat.le_of_ble_eq_true rfl) ⟨Nat.le_of_ble_eq_true rfl, Nat.le_of_ble_eq_true rfl⟩ dX7_gap_84 ⟨Nat.le_of_ble_eq_true rfl, Nat.le_of_ble_eq_true rfl⟩ (fun r_84 u9 H5 locs5 hu9 hP5 hD5 hS5 => ?_)
                  clear hP4 hD4 hS4 locs4 H4
                  have hr_84 := hu9
                  replace hP5 : va_P D vwCl ([ia cy (mm 1) 169 S, mO cy mm ik tl fm tz vl iw rm rr om, ia cy (mm 4) 7 (upd C 1 (C 1 + 1))]) H5 := hP5
                  replace hD5 : va_D (va_A _ sz) ([ia cy (mm 1) 169 S, mO cy mm ik tl fm tz vl iw rm rr om, ia cy (mm 4) 7 (upd C 1 (C 1 + 1))]) := hD5
                  replace hP5 := hP5.sub (ws' := [mO cy mm ik tl fm tz vl iw rm rr om, ia cy (mm 1) 169 S, ia cy (mm 4) 7 (upd C 1 (C 1 + 1))]) [1, 0, 2] rfl
                  replace hD5 := hD5.sub (ws' := [mO cy mm ik tl fm tz vl iw rm rr om, ia cy (mm 1) 169 S, ia cy (mm 4) 7 (upd C 1 (C 1 + 1))]) [1, 0, 2] (by decide) rfl
                  subst hr_84
                  have hcd : cGap S x1 x2 x3 x4 = 1 := by unfold cGap; clear hx hb hml hown hr hlocks hw hsz hA hG hK hP5 hD5 hS5 hl0; grind
                  have hq9 : ([mO cy mm ik tl fm tz vl iw rm rr om, ia cy (mm 1) 169 S, ia cy (mm 4) 7 (upd C 1 (C 1 + 1))]) = ([mO cy mm ik tl fm tz vl iw rm rr om, ia cy (mm 1) 169 S, ia cy (mm 4) 7 (fnd C (cGap S x1 x2 x3 x4))]) := congrArg (fun z9 => [mO cy mm ik tl fm tz vl iw rm rr om, ia cy (mm 1) 169 S, ia cy (mm 4) 7 z9]) (show (upd C 1 (C 1 + 1)) = (fnd C (cGap S x1 x2 x3 x4)) from fnd_f hcd (by decide))
                  replace hP5 := (congrArg (fun z9 => va_P D vwCl z9 _) hq9).mp hP5
                  replace hD5 := (congrArg (fun z9 => va_D _ z9) hq9).mp hD5
                  clear hq9
                  have hq9 : ([mO cy mm ik tl fm tz vl iw rm rr om, ia cy (mm 1) 169 S, ia cy (mm 4) 7 (fnd C (cGap S x1 x2 x3 x4))]) = ([mO cy mm ik tl fm tz vl iw rm rr om, ia cy (mm 1) 169 (if cGap S x1 x2 x3 x4 = 7 then gapS S x1 x2 x3 x4 else S), ia cy (mm 4) 7 (fnd C (cGap S x1 x2 x3 x4))]) := congrArg (fun z9 => [mO cy mm ik tl fm tz vl iw rm rr om, ia cy (mm 1) 169 z9, ia cy (mm 4) 7 (fnd C (cGap S x1 x2 x3 x4))]) (show S = (if cGap S x1 x2 x3 x4 = 7 then gapS S x1 x2 x3 x4 else S) from (if_neg (fun z9 => absurd (hcd.symm.trans z9) (by decide))).symm)
                  replace hP5 := (congrArg (fun z9 => va_P D vwCl z9 _) hq9).mp hP5
                  replace hD5 := (congrArg (fun z9 => va_D _ z9) hq9).mp hD5
                  clear hq9
                  refine re_i () hx hb hr hlocks hP5 hD5 hS5 dX7_gap_87 ?_
                  exact (ans_f hcd (by decide) rfl)
              · refine lv_aload_n hx hb dX7_gap_63 rfl (lv_at hl0 0 rfl) ?_
                refine lv_ldc (v := (-1000000001)) hx hb hown (hw _ kw_4_143) dX7_gap_64 ?_
                refine cV_i (wc := [mO cy mm ik tl fm tz vl iw rm rr om, ia cy (mm 4) 7 C]) (wr := [ia cy (mm 1) 169 S]) (rest := []) hx hb hml hown hw hG hK hP4 hD4 hS4 hA hl0 kc_X7_finds kw_4_139 [.int (-1000000001)] (c_X7_finds l D cy G H4.size mm ik tl fm tz vl iw rm rr om C 0 (-1000000001) (by decide) (by decide)) [0, 2] [1] rfl rfl rfl rfl rfl 0 rfl rfl rfl rfl rfl (Nat.le_of_ble_eq_true rfl) ⟨Nat.le_of_ble_eq_true rfl, Nat.le_of_ble_eq_true rfl⟩ dX7_gap_66 ⟨Nat.le_of_ble_eq_true rfl, Nat.le_of_ble_eq_true rfl⟩ (fun r_66 u9 H5 locs5 hu9 hP5 hD5 hS5 => ?_)
                clear hP4 hD4 hS4 locs4 H4
                have hr_66 := hu9
                replace hP5 : va_P D vwCl ([ia cy (mm 1) 169 S, mO cy mm ik tl fm tz vl iw rm rr om, ia cy (mm 4) 7 (upd C 0 (C 0 + 1))]) H5 := hP5
                replace hD5 : va_D (va_A _ sz) ([ia cy (mm 1) 169 S, mO cy mm ik tl fm tz vl iw rm rr om, ia cy (mm 4) 7 (upd C 0 (C 0 + 1))]) := hD5
                replace hP5 := hP5.sub (ws' := [mO cy mm ik tl fm tz vl iw rm rr om, ia cy (mm 1) 169 S, ia cy (mm 4) 7 (upd C 0 (C 0 + 1))]) [1, 0, 2] rfl
                replace hD5 := hD5.sub (ws' := [mO cy mm ik tl fm tz vl iw rm rr om, ia cy (mm 1) 169 S, ia cy (mm 4) 7 (upd C 0 (C 0 + 1))]) [1, 0, 2] (by decide) rfl
                subst hr_66
                have hcd : cGap S x1 x2 x3 x4 = 0 := by unfold cGap; clear hx hb hml hown hr hlocks hw hsz hA hG hK hP5 hD5 hS5 hl0; grind
                have hq9 : ([mO cy mm ik tl fm tz vl iw rm rr om, ia cy (mm 1) 169 S, ia cy (mm 4) 7 (upd C 0 (C 0 + 1))]) = ([mO cy mm ik tl fm tz vl iw rm rr om, ia cy (mm 1) 169 S, ia cy (mm 4) 7 (fnd C (cGap S x1 x2 x3 x4))]) := congrArg (fun z9 => [mO cy mm ik tl fm tz vl iw rm rr om, ia cy (mm 1) 169 S, ia cy (mm 4) 7 z9]) (show (upd C 0 (C 0 + 1)) = (fnd C (cGap S x1 x2 x3 x4)) from fnd_f hcd (by decide))
                replace hP5 := (congrArg (fun z9 => va_P D vwCl z9 _) hq9).mp hP5
                replace hD5 := (congrArg (fun z9 => va_D _ z9) hq9).mp hD5
                clear hq9
                have hq9 : ([mO cy mm ik tl fm tz vl iw rm rr om, ia cy (mm 1) 169 S, ia cy (mm 4) 7 (fnd C (cGap S x1 x2 x3 x4))]) = ([mO cy mm ik tl fm tz vl iw rm rr om, ia cy (mm 1) 169 (if cGap S x1 x2 x3 x4 = 7 then gapS S x1 x2 x3 x4 else S), ia cy (mm 4) 7 (fnd C (cGap S x1 x2 x3 x4))]) := congrArg (fun z9 => [mO cy mm ik tl fm tz vl iw rm rr om, ia cy (mm 1) 169 z9, ia cy (mm 4) 7 (fnd C (cGap S x1 x2 x3 x4))]) (show S = (if cGap S x1 x2 x3 x4 = 7 then gapS S x1 x2 x3 x4 else S) from (if_neg (fun z9 => absurd (hcd.symm.trans z9) (by decide))).symm)
                replace hP5 := (congrArg (fun z9 => va_P D vwCl z9 _) hq9).mp hP5
                replace hD5 := (congrArg (fun z9 => va_D _ z9) hq9).mp hD5
                clear hq9
                refine re_i () hx hb hr hlocks hP5 hD5 hS5 dX7_gap_69 ?_
                exact (ans_f hcd (by decide) rfl)

theorem kc_X6_of : kV yX6_of cX6_of 3 (some .int) 2 := ⟨kw_2_95, kw_2_96, kw_1_1, kw_2_97, by decide, by decide, by decide +kernel⟩
set_option maxHeartbeats 4000000 in
set_option maxRecDepth 100000 in
theorem c_X6_of (l : Launch) (D : va_G) (cy : Nat → ClassId) (G : Nat → Nat) (sz : Nat) (hh : Nat → Nat) (a : Nat → Nat) (kk : Nat → Nat) (dd : Nat → Nat) (b : Nat → Nat) (w : Nat → Nat) (ee : Nat → Nat) (qq : Nat → Nat) (ik : Int32) (S : Nat → Int32) (C : Nat → Int32) (x1 : Int32) (x2 : Int32) (wf : wf S) : Met l yX6_of (wm yX6_of cX6_of 3 (some .int)) { frames := 2, cells := 0, slots := 0, locals := 44 } (va_Pc [.ref (hh 0), .int x1, .int x2] (pr D (TY cy) G ([sO cy hh a kk dd b w ee qq ik] ++ (pS cy a S ++ ([ia cy (hh 1) 7 C]))) sz)) (va_Qi (fun (r : Int32) (u : Unit) => r = ans (cOf S x1 x2) (vOf S (bstN x1) x2)) (fun (u : Unit) t => po D (va_A ([sO cy hh a kk dd b w ee qq ik] ++ (pS cy a S ++ ([ia cy (hh 1) 7 C]))) sz) ([sO cy hh a kk dd b w ee qq ik] ++ (pS cy a S ++ ([ia cy (hh 1) 7 (fnd C (cOf S x1 x2))]))) t) (va_A ([sO cy hh a kk dd b w ee qq ik] ++ (pS cy a S ++ ([ia cy (hh 1) 7 C]))) sz)) 0 0 (va_A ([sO cy hh a kk dd b w ee qq ik] ++ (pS cy a S ++ ([ia cy (hh 1) 7 C]))) sz) := by
  refine mk_rw (by decide) RX6 rfl (Nat.le_of_ble_eq_true rfl) [(0, .ref (hh 0)), (1, .int x1), (2, .int x2)] rfl ?_
  intro p e s m below meth c hx hb hml hown hr hlocks hin hw hsz hA hG hK H0 locs0 hP0 hD0 hS0 ls0 hl0
  clear hin
  have hg20 := wf_g20 wf
  refine lv_aload_n hx hb dX6_of_0 rfl (lv_at hl0 0 rfl) ?_
  refine va_get (D := D) (ci := 6) (v := .ref (a 0)) (C := RX6) (T := TX6) (N := 9) hx hb hw iX6 hown hK hP0 0 rfl rfl 0 (by decide) (hw _ kw_2_27) (fun _ h9 => h9) rfl dX6_of_1 ?_
  refine lv_iload_n hx hb dX6_of_4 rfl (lv_at hl0 1 rfl) ?_
  refine rV_i (wc := pS cy a S) (rest := []) hx hb hml hown hw hG hK hP0 hS0 hA hl0 kc_X1_hasGap kw_2_98 [.int x1] (c_X1_hasGap l D cy G H0.size a S x1) [1, 2, 3, 4, 5, 6, 7, 8, 9, 10] rfl 0 rfl rfl rfl rfl rfl (Nat.le_of_ble_eq_true rfl) ⟨Nat.le_of_ble_eq_true rfl, Nat.le_of_ble_eq_true rfl⟩ dX6_of_5 ⟨Nat.le_of_ble_eq_true rfl, Nat.le_of_ble_eq_true rfl⟩ (fun r_5 H1 locs1 hr_5 hP1 hS1 => ?_)
  have hD1 := hD0
  clear hP0 hD0 hS0 locs0 H0
  subst hr_5
  refine lb_ne (tgt := 17) hx hb dX6_of_8 (by decide) (fun c_8 => ?_) (fun c_8 => ?_)
  · obtain ⟨j, hj, rfl⟩ := wf_gap wf c_8
    have hbj : bstN (nI j) = j := bst_n (by omega)
    have h01 := (wf_can wf).2 j
    refine lv_iload_n hx hb dX6_of_17 rfl (lv_at hl0 2 rfl) ?_
    by_cases c_18_0 : x2 = 0
    · refine tp c_18_0 ?_
      refine lv_tableIn (off := 54) (tgt := 72) hx hb dX6_of_18 (by decide) (by decide) (by decide) (by decide) ?_
      refine lv_aload_n hx hb dX6_of_72 rfl (lv_at hl0 0 rfl) ?_
      refine va_get (D := D) (ci := 6) (v := .ref (a 0)) (C := RX6) (T := TX6) (N := 9) hx hb hw iX6 hown hK hP1 0 rfl rfl 0 (by decide) (hw _ kw_2_27) (fun _ h9 => h9) rfl dX6_of_73 ?_
      refine va_get (D := D) (ci := 1) (v := .ref (a 1)) (C := RX1) (T := TX1) (N := 12) hx hb hw iX1 hown hK hP1 1 rfl rfl 2 (by decide) (hw _ kw_1_40) (fun _ h9 => h9) rfl dX6_of_76 ?_
      refine lv_iload_n hx hb dX6_of_79 rfl (lv_at hl0 1 rfl) ?_
      refine ald_i (f := fun g => S (9 + 8 * g)) hx hb hK hP1 2 0 rfl rfl j rfl (by first | omega | assumption) (by decide) dX6_of_80 ?_
      have hcd : cOf S (nI j) x2 = 7 := by unfold cOf; clear hx hb hml hown hr hlocks hw hsz hA hG hK hP1 hD1 hS1 hl0; grind
      have hq9 : ([sO cy hh a kk dd b w ee qq ik] ++ (pS cy a S ++ ([ia cy (hh 1) 7 C]))) = ([sO cy hh a kk dd b w ee qq ik] ++ (pS cy a S ++ ([ia cy (hh 1) 7 (fnd C (cOf S (nI j) x2))]))) := congrArg (fun z9 => [sO cy hh a kk dd b w ee qq ik] ++ (pS cy a S ++ ([ia cy (hh 1) 7 z9]))) (show C = (fnd C (cOf S (nI j) x2)) from fnd_o hcd)
      replace hP1 := (congrArg (fun z9 => va_P D vwCl z9 _) hq9).mp hP1
      replace hD1 := (congrArg (fun z9 => va_D _ z9) hq9).mp hD1
      clear hq9
      refine re_i () hx hb hr hlocks hP1 hD1 hS1 dX6_of_81 ?_
      exact (ans_o hcd (by rw [hbj, c_18_0]; exact (vOf_k S j (v := 0) (by decide)).symm))
    by_cases c_18_1 : x2 = 1
    · refine tp c_18_1 ?_
      refine lv_tableIn (off := 64) (tgt := 82) hx hb dX6_of_18 (by decide) (by decide) (by decide) (by decide) ?_
      refine lv_aload_n hx hb dX6_of_82 rfl (lv_at hl0 0 rfl) ?_
      refine va_get (D := D) (ci := 6) (v := .ref (a 0)) (C := RX6) (T := TX6) (N := 9) hx hb hw iX6 hown hK hP1 0 rfl rfl 0 (by decide) (hw _ kw_2_27) (fun _ h9 => h9) rfl dX6_of_83 ?_
      refine va_get (D := D) (ci := 1) (v := .ref (a 2)) (C := RX1) (T := TX1) (N := 12) hx hb hw iX1 hown hK hP1 1 rfl rfl 3 (by decide) (hw _ kw_1_43) (fun _ h9 => h9) rfl dX6_of_86 ?_
      refine lv_iload_n hx hb dX6_of_89 rfl (lv_at hl0 1 rfl) ?_
      refine ald_i (f := fun g => S (10 + 8 * g)) hx hb hK hP1 3 0 rfl rfl j rfl (by first | omega | assumption) (by decide) dX6_of_90 ?_
      have hcd : cOf S (nI j) x2 = 7 := by unfold cOf; clear hx hb hml hown hr hlocks hw hsz hA hG hK hP1 hD1 hS1 hl0; grind
      have hq9 : ([sO cy hh a kk dd b w ee qq ik] ++ (pS cy a S ++ ([ia cy (hh 1) 7 C]))) = ([sO cy hh a kk dd b w ee qq ik] ++ (pS cy a S ++ ([ia cy (hh 1) 7 (fnd C (cOf S (nI j) x2))]))) := congrArg (fun z9 => [sO cy hh a kk dd b w ee qq ik] ++ (pS cy a S ++ ([ia cy (hh 1) 7 z9]))) (show C = (fnd C (cOf S (nI j) x2)) from fnd_o hcd)
      replace hP1 := (congrArg (fun z9 => va_P D vwCl z9 _) hq9).mp hP1
      replace hD1 := (congrArg (fun z9 => va_D _ z9) hq9).mp hD1
      clear hq9
      refine re_i () hx hb hr hlocks hP1 hD1 hS1 dX6_of_91 ?_
      exact (ans_o hcd (by rw [hbj, c_18_1]; exact (vOf_k S j (v := 1) (by decide)).symm))
    by_cases c_18_2 : x2 = 2
    · refine tp c_18_2 ?_
      refine lv_tableIn (off := 74) (tgt := 92) hx hb dX6_of_18 (by decide) (by decide) (by decide) (by decide) ?_
      refine lv_aload_n hx hb dX6_of_92 rfl (lv_at hl0 0 rfl) ?_
      refine va_get (D := D) (ci := 6) (v := .ref (a 0)) (C := RX6) (T := TX6) (N := 9) hx hb hw iX6 hown hK hP1 0 rfl rfl 0 (by decide) (hw _ kw_2_27) (fun _ h9 => h9) rfl dX6_of_93 ?_
      refine va_get (D := D) (ci := 1) (v := .ref (a 3)) (C := RX1) (T := TX1) (N := 12) hx hb hw iX1 hown hK hP1 1 rfl rfl 4 (by decide) (hw _ kw_1_46) (fun _ h9 => h9) rfl dX6_of_96 ?_
      refine lv_iload_n hx hb dX6_of_99 rfl (lv_at hl0 1 rfl) ?_
      refine ald_i (f := fun g => S (11 + 8 * g)) hx hb hK hP1 4 0 rfl rfl j rfl (by first | omega | assumption) (by decide) dX6_of_100 ?_
      have hcd : cOf S (nI j) x2 = 7 := by unfold cOf; clear hx hb hml hown hr hlocks hw hsz hA hG hK hP1 hD1 hS1 hl0; grind
      have hq9 : ([sO cy hh a kk dd b w ee qq ik] ++ (pS cy a S ++ ([ia cy (hh 1) 7 C]))) = ([sO cy hh a kk dd b w ee qq ik] ++ (pS cy a S ++ ([ia cy (hh 1) 7 (fnd C (cOf S (nI j) x2))]))) := congrArg (fun z9 => [sO cy hh a kk dd b w ee qq ik] ++ (pS cy a S ++ ([ia cy (hh 1) 7 z9]))) (show C = (fnd C (cOf S (nI j) x2)) from fnd_o hcd)
      replace hP1 := (congrArg (fun z9 => va_P D vwCl z9 _) hq9).mp hP1
      replace hD1 := (congrArg (fun z9 => va_D _ z9) hq9).mp hD1
      clear hq9
      refine re_i () hx hb hr hlocks hP1 hD1 hS1 dX6_of_101 ?_
      exact (ans_o hcd (by rw [hbj, c_18_2]; exact (vOf_k S j (v := 2) (by decide)).symm))
    by_cases c_18_3 : x2 = 3
    · refine tp c_18_3 ?_
      refine lv_tableIn (off := 84) (tgt := 102) hx hb dX6_of_18 (by decide) (by decide) (by decide) (by decide) ?_
      refine lv_aload_n hx hb dX6_of_102 rfl (lv_at hl0 0 rfl) ?_
      refine va_get (D := D) (ci := 6) (v := .ref (a 0)) (C := RX6) (T := TX6) (N := 9) hx hb hw iX6 hown hK hP1 0 rfl rfl 0 (by decide) (hw _ kw_2_27) (fun _ h9 => h9) rfl dX6_of_103 ?_
      refine va_get (D := D) (ci := 1) (v := .ref (a 4)) (C := RX1) (T := TX1) (N := 12) hx hb hw iX1 hown hK hP1 1 rfl rfl 5 (by decide) (hw _ kw_1_49) (fun _ h9 => h9) rfl dX6_of_106 ?_
      refine lv_iload_n hx hb dX6_of_109 rfl (lv_at hl0 1 rfl) ?_
      refine ald_i (f := fun g => S (12 + 8 * g)) hx hb hK hP1 5 0 rfl rfl j rfl (by first | omega | assumption) (by decide) dX6_of_110 ?_
      have hcd : cOf S (nI j) x2 = 7 := by unfold cOf; clear hx hb hml hown hr hlocks hw hsz hA hG hK hP1 hD1 hS1 hl0; grind
      have hq9 : ([sO cy hh a kk dd b w ee qq ik] ++ (pS cy a S ++ ([ia cy (hh 1) 7 C]))) = ([sO cy hh a kk dd b w ee qq ik] ++ (pS cy a S ++ ([ia cy (hh 1) 7 (fnd C (cOf S (nI j) x2))]))) := congrArg (fun z9 => [sO cy hh a kk dd b w ee qq ik] ++ (pS cy a S ++ ([ia cy (hh 1) 7 z9]))) (show C = (fnd C (cOf S (nI j) x2)) from fnd_o hcd)
      replace hP1 := (congrArg (fun z9 => va_P D vwCl z9 _) hq9).mp hP1
      replace hD1 := (congrArg (fun z9 => va_D _ z9) hq9).mp hD1
      clear hq9
      refine re_i () hx hb hr hlocks hP1 hD1 hS1 dX6_of_111 ?_
      exact (ans_o hcd (by rw [hbj, c_18_3]; exact (vOf_k S j (v := 3) (by decide)).symm))
    by_cases c_18_4 : x2 = 4
    · refine tp c_18_4 ?_
      refine lv_tableIn (off := 94) (tgt := 112) hx hb dX6_of_18 (by decide) (by decide) (by decide) (by decide) ?_
      refine lv_aload_n hx hb dX6_of_112 rfl (lv_at hl0 0 rfl) ?_
      refine va_get (D := D) (ci := 6) (v := .ref (a 0)) (C := RX6) (T := TX6) (N := 9) hx hb hw iX6 hown hK hP1 0 rfl rfl 0 (by decide) (hw _ kw_2_27) (fun _ h9 => h9) rfl dX6_of_113 ?_
      refine va_get (D := D) (ci := 1) (v := .ref (a 5)) (C := RX1) (T := TX1) (N := 12) hx hb hw iX1 hown hK hP1 1 rfl rfl 6 (by decide) (hw _ kw_1_51) (fun _ h9 => h9) rfl dX6_of_116 ?_
      refine lv_iload_n hx hb dX6_of_119 rfl (lv_at hl0 1 rfl) ?_
      refine ald_i (f := fun g => S (13 + 8 * g)) hx hb hK hP1 6 0 rfl rfl j rfl (by first | omega | assumption) (by decide) dX6_of_120 ?_
      have hcd : cOf S (nI j) x2 = 7 := by unfold cOf; clear hx hb hml hown hr hlocks hw hsz hA hG hK hP1 hD1 hS1 hl0; grind
      have hq9 : ([sO cy hh a kk dd b w ee qq ik] ++ (pS cy a S ++ ([ia cy (hh 1) 7 C]))) = ([sO cy hh a kk dd b w ee qq ik] ++ (pS cy a S ++ ([ia cy (hh 1) 7 (fnd C (cOf S (nI j) x2))]))) := congrArg (fun z9 => [sO cy hh a kk dd b w ee qq ik] ++ (pS cy a S ++ ([ia cy (hh 1) 7 z9]))) (show C = (fnd C (cOf S (nI j) x2)) from fnd_o hcd)
      replace hP1 := (congrArg (fun z9 => va_P D vwCl z9 _) hq9).mp hP1
      replace hD1 := (congrArg (fun z9 => va_D _ z9) hq9).mp hD1
      clear hq9
      refine re_i () hx hb hr hlocks hP1 hD1 hS1 dX6_of_121 ?_
      exact (ans_o hcd (by rw [hbj, c_18_4]; exact (vOf_k S j (v := 4) (by decide)).symm))
    by_cases c_18_5 : x2 = 5
    · refine tp c_18_5 ?_
      refine lv_tableIn (off := 104) (tgt := 122) hx hb dX6_of_18 (by decide) (by decide) (by decide) (by decide) ?_
      refine lv_aload_n hx hb dX6_of_122 rfl (lv_at hl0 0 rfl) ?_
      refine va_get (D := D) (ci := 6) (v := .ref (a 0)) (C := RX6) (T := TX6) (N := 9) hx hb hw iX6 hown hK hP1 0 rfl rfl 0 (by decide) (hw _ kw_2_27) (fun _ h9 => h9) rfl dX6_of_123 ?_
      refine va_get (D := D) (ci := 1) (v := .ref (a 6)) (C := RX1) (T := TX1) (N := 12) hx hb hw iX1 hown hK hP1 1 rfl rfl 7 (by decide) (hw _ kw_1_53) (fun _ h9 => h9) rfl dX6_of_126 ?_
      refine lv_iload_n hx hb dX6_of_129 rfl (lv_at hl0 1 rfl) ?_
      refine ald_i (f := fun g => S (14 + 8 * g)) hx hb hK hP1 7 0 rfl rfl j rfl (by first | omega | assumption) (by decide) dX6_of_130 ?_
      have hcd : cOf S (nI j) x2 = 7 := by unfold cOf; clear hx hb hml hown hr hlocks hw hsz hA hG hK hP1 hD1 hS1 hl0; grind
      have hq9 : ([sO cy hh a kk dd b w ee qq ik] ++ (pS cy a S ++ ([ia cy (hh 1) 7 C]))) = ([sO cy hh a kk dd b w ee qq ik] ++ (pS cy a S ++ ([ia cy (hh 1) 7 (fnd C (cOf S (nI j) x2))]))) := congrArg (fun z9 => [sO cy hh a kk dd b w ee qq ik] ++ (pS cy a S ++ ([ia cy (hh 1) 7 z9]))) (show C = (fnd C (cOf S (nI j) x2)) from fnd_o hcd)
      replace hP1 := (congrArg (fun z9 => va_P D vwCl z9 _) hq9).mp hP1
      replace hD1 := (congrArg (fun z9 => va_D _ z9) hq9).mp hD1
      clear hq9
      refine re_i () hx hb hr hlocks hP1 hD1 hS1 dX6_of_131 ?_
      exact (ans_o hcd (by rw [hbj, c_18_5]; exact (vOf_k S j (v := 5) (by decide)).symm))
    by_cases c_18_6 : x2 = 6
    · refine tp c_18_6 ?_
      refine lv_tableIn (off := 114) (tgt := 132) hx hb dX6_of_18 (by decide) (by decide) (by decide) (by decide) ?_
      refine lv_aload_n hx hb dX6_of_132 rfl (lv_at hl0 0 rfl) ?_
      refine va_get (D := D) (ci := 6) (v := .ref (a 0)) (C := RX6) (T := TX6) (N := 9) hx hb hw iX6 hown hK hP1 0 rfl rfl 0 (by decide) (hw _ kw_2_27) (fun _ h9 => h9) rfl dX6_of_133 ?_
      refine va_get (D := D) (ci := 1) (v := .ref (a 7)) (C := RX1) (T := TX1) (N := 12) hx hb hw iX1 hown hK hP1 1 rfl rfl 8 (by decide) (hw _ kw_1_55) (fun _ h9 => h9) rfl dX6_of_136 ?_
      refine lv_iload_n hx hb dX6_of_139 rfl (lv_at hl0 1 rfl) ?_
      refine ald_i (f := fun g => S (15 + 8 * g)) hx hb hK hP1 8 0 rfl rfl j rfl (by first | omega | assumption) (by decide) dX6_of_140 ?_
      have hcd : cOf S (nI j) x2 = 7 := by unfold cOf; clear hx hb hml hown hr hlocks hw hsz hA hG hK hP1 hD1 hS1 hl0; grind
      have hq9 : ([sO cy hh a kk dd b w ee qq ik] ++ (pS cy a S ++ ([ia cy (hh 1) 7 C]))) = ([sO cy hh a kk dd b w ee qq ik] ++ (pS cy a S ++ ([ia cy (hh 1) 7 (fnd C (cOf S (nI j) x2))]))) := congrArg (fun z9 => [sO cy hh a kk dd b w ee qq ik] ++ (pS cy a S ++ ([ia cy (hh 1) 7 z9]))) (show C = (fnd C (cOf S (nI j) x2)) from fnd_o hcd)
      replace hP1 := (congrArg (fun z9 => va_P D vwCl z9 _) hq9).mp hP1
      replace hD1 := (congrArg (fun z9 => va_D _ z9) hq9).mp hD1
      clear hq9
      refine re_i () hx hb hr hlocks hP1 hD1 hS1 dX6_of_141 ?_
      exact (ans_o hcd (by rw [hbj, c_18_6]; exact (vOf_k S j (v := 6) (by decide)).symm))
    by_cases c_18_7 : x2 = 7
    · refine tp c_18_7 ?_
      refine lv_tableIn (off := 124) (tgt := 142) hx hb dX6_of_18 (by decide) (by decide) (by decide) (by decide) ?_
      refine lv_aload_n hx hb dX6_of_142 rfl (lv_at hl0 0 rfl) ?_
      refine va_get (D := D) (ci := 6) (v := .ref (a 0)) (C := RX6) (T := TX6) (N := 9) hx hb hw iX6 hown hK hP1 0 rfl rfl 0 (by decide) (hw _ kw_2_27) (fun _ h9 => h9) rfl dX6_of_143 ?_
      refine va_get (D := D) (ci := 1) (v := .ref (a 8)) (C := RX1) (T := TX1) (N := 12) hx hb hw iX1 hown hK hP1 1 rfl rfl 9 (by decide) (hw _ kw_1_59) (fun _ h9 => h9) rfl dX6_of_146 ?_
      refine lv_iload_n hx hb dX6_of_149 rfl (lv_at hl0 1 rfl) ?_
      refine ald_z (f := fun g => S (16 + 8 * g)) hx hb hK hP1 9 2 rfl rfl j rfl (by first | omega | assumption) (by decide) dX6_of_150 ?_
      refine lv_if_eq (tgt := 158) hx hb dX6_of_151 (by decide) (fun c_151 => ?_) (fun c_151 => ?_)
      · refine lv_iconst (v := 0) hx hb dX6_of_158 (by decide) ?_
        have hcd : cOf S (nI j) x2 = 7 := by unfold cOf; clear hx hb hml hown hr hlocks hw hsz hA hG hK hP1 hD1 hS1 hl0; grind
        have hq9 : ([sO cy hh a kk dd b w ee qq ik] ++ (pS cy a S ++ ([ia cy (hh 1) 7 C]))) = ([sO cy hh a kk dd b w ee qq ik] ++ (pS cy a S ++ ([ia cy (hh 1) 7 (fnd C (cOf S (nI j) x2))]))) := congrArg (fun z9 => [sO cy hh a kk dd b w ee qq ik] ++ (pS cy a S ++ ([ia cy (hh 1) 7 z9]))) (show C = (fnd C (cOf S (nI j) x2)) from fnd_o hcd)
        replace hP1 := (congrArg (fun z9 => va_P D vwCl z9 _) hq9).mp hP1
        replace hD1 := (congrArg (fun z9 => va_D _ z9) hq9).mp hD1
        clear hq9
        refine re_i () hx hb hr hlocks hP1 hD1 hS1 dX6_of_159 ?_
        exact (ans_o hcd (by rw [hbj, c_18_7]; exact Eq.trans (by clear hx hb hml hown hr hlocks hw hsz hA hG hK hP1 hD1 hS1 hl0; grind) (vOf_k S j (v := 7) (by decide)).symm))
      · refine lv_iconst (v := 1) hx hb dX6_of_154 (by decide) ?_
        refine lv_goto (tgt := 159) hx hb dX6_of_155 (by decide) ?_
        have hcd : cOf S (nI j) x2 = 7 := by unfold cOf; clear hx hb hml hown hr hlocks hw hsz hA hG hK hP1 hD1 hS1 hl0; grind
        have hq9 : ([sO cy hh a kk dd b w ee qq ik] ++ (pS cy a S ++ ([ia cy (hh 1) 7 C]))) = ([sO cy hh a kk dd b w ee qq ik] ++ (pS cy a S ++ ([ia cy (hh 1) 7 (fnd C (cOf S (nI j) x2))]))) := congrArg (fun z9 => [sO cy hh a kk dd b w ee qq ik] ++ (pS cy a S ++ ([ia cy (hh 1) 7 z9]))) (show C = (fnd C (cOf S (nI j) x2)) from fnd_o hcd)
        replace hP1 := (congrArg (fun z9 => va_P D vwCl z9 _) hq9).mp hP1
        replace hD1 := (congrArg (fun z9 => va_D _ z9) hq9).mp hD1
        clear hq9
        refine re_i () hx hb hr hlocks hP1 hD1 hS1 dX6_of_159 ?_
        exact (ans_o hcd (by rw [hbj, c_18_7]; exact Eq.trans (by clear hx hb hml hown hr hlocks hw hsz hA hG hK hP1 hD1 hS1 hl0; grind) (vOf_k S j (v := 7) (by decide)).symm))
    by_cases c_18_8 : x2 = 8
    · refine tp c_18_8 ?_
      refine lv_tableIn (off := 142) (tgt := 160) hx hb dX6_of_18 (by decide) (by decide) (by decide) (by decide) ?_
      refine lv_aload_n hx hb dX6_of_160 rfl (lv_at hl0 0 rfl) ?_
      refine va_get (D := D) (ci := 6) (v := .ref (a 0)) (C := RX6) (T := TX6) (N := 9) hx hb hw iX6 hown hK hP1 0 rfl rfl 0 (by decide) (hw _ kw_2_27) (fun _ h9 => h9) rfl dX6_of_161 ?_
      refine lv_iload_n hx hb dX6_of_164 rfl (lv_at hl0 1 rfl) ?_
      refine rV_i (wc := pS cy a S) (rest := []) hx hb hml hown hw hG hK hP1 hS1 hA hl0 kc_X1_breadthOf kw_2_99 [.int (nI j)] (c_X1_breadthOf l D cy G H1.size a S j (by first | omega | assumption)) [1, 2, 3, 4, 5, 6, 7, 8, 9, 10] rfl 0 rfl rfl rfl rfl rfl (Nat.le_of_ble_eq_true rfl) ⟨Nat.le_of_ble_eq_true rfl, Nat.le_of_ble_eq_true rfl⟩ dX6_of_165 ⟨Nat.le_of_ble_eq_true rfl, Nat.le_of_ble_eq_true rfl⟩ (fun r_165 H2 locs2 hr_165 hP2 hS2 => ?_)
      have hD2 := hD1
      clear hP1 hD1 hS1 locs1 H1
      subst hr_165
      have hcd : cOf S (nI j) x2 = 7 := by unfold cOf; clear hx hb hml hown hr hlocks hw hsz hA hG hK hP2 hD2 hS2 hl0; grind
      have hq9 : ([sO cy hh a kk dd b w ee qq ik] ++ (pS cy a S ++ ([ia cy (hh 1) 7 C]))) = ([sO cy hh a kk dd b w ee qq ik] ++ (pS cy a S ++ ([ia cy (hh 1) 7 (fnd C (cOf S (nI j) x2))]))) := congrArg (fun z9 => [sO cy hh a kk dd b w ee qq ik] ++ (pS cy a S ++ ([ia cy (hh 1) 7 z9]))) (show C = (fnd C (cOf S (nI j) x2)) from fnd_o hcd)
      replace hP2 := (congrArg (fun z9 => va_P D vwCl z9 _) hq9).mp hP2
      replace hD2 := (congrArg (fun z9 => va_D _ z9) hq9).mp hD2
      clear hq9
      refine re_i () hx hb hr hlocks hP2 hD2 hS2 dX6_of_168 ?_
      exact (ans_o hcd (by rw [hbj, c_18_8]; rfl))
    by_cases c_18_9 : x2 = 9
    · refine tp c_18_9 ?_
      refine lv_tableIn (off := 151) (tgt := 169) hx hb dX6_of_18 (by decide) (by decide) (by decide) (by decide) ?_
      refine lv_aload_n hx hb dX6_of_169 rfl (lv_at hl0 0 rfl) ?_
      refine va_get (D := D) (ci := 6) (v := .ref (a 0)) (C := RX6) (T := TX6) (N := 9) hx hb hw iX6 hown hK hP1 0 rfl rfl 0 (by decide) (hw _ kw_2_27) (fun _ h9 => h9) rfl dX6_of_170 ?_
      refine lv_iload_n hx hb dX6_of_173 rfl (lv_at hl0 1 rfl) ?_
      refine rV_i (wc := pS cy a S) (rest := []) hx hb hml hown hw hG hK hP1 hS1 hA hl0 kc_X1_pushOf kw_2_107 [.int (nI j)] (c_X1_pushOf l D cy G H1.size a S j (by first | omega | assumption)) [1, 2, 3, 4, 5, 6, 7, 8, 9, 10] rfl 0 rfl rfl rfl rfl rfl (Nat.le_of_ble_eq_true rfl) ⟨Nat.le_of_ble_eq_true rfl, Nat.le_of_ble_eq_true rfl⟩ dX6_of_174 ⟨Nat.le_of_ble_eq_true rfl, Nat.le_of_ble_eq_true rfl⟩ (fun r_174 H2 locs2 hr_174 hP2 hS2 => ?_)
      have hD2 := hD1
      clear hP1 hD1 hS1 locs1 H1
      subst hr_174
      have hcd : cOf S (nI j) x2 = 7 := by unfold cOf; clear hx hb hml hown hr hlocks hw hsz hA hG hK hP2 hD2 hS2 hl0; grind
      have hq9 : ([sO cy hh a kk dd b w ee qq ik] ++ (pS cy a S ++ ([ia cy (hh 1) 7 C]))) = ([sO cy hh a kk dd b w ee qq ik] ++ (pS cy a S ++ ([ia cy (hh 1) 7 (fnd C (cOf S (nI j) x2))]))) := congrArg (fun z9 => [sO cy hh a kk dd b w ee qq ik] ++ (pS cy a S ++ ([ia cy (hh 1) 7 z9]))) (show C = (fnd C (cOf S (nI j) x2)) from fnd_o hcd)
      replace hP2 := (congrArg (fun z9 => va_P D vwCl z9 _) hq9).mp hP2
      replace hD2 := (congrArg (fun z9 => va_D _ z9) hq9).mp hD2
      clear hq9
      refine re_i () hx hb hr hlocks hP2 hD2 hS2 dX6_of_177 ?_
      exact (ans_o hcd (by rw [hbj, c_18_9]; rfl))
    refine lv_tableOut (tgt := 178) hx hb dX6_of_18 (sw_out 0 9 (fun v h1 h2 e => ?_)) (by decide) ?_
    · have e := Int32.toInt_inj.mp (e.trans (show v = ((Int32.ofInt v).toInt) from by rcases (show v = 0 ∨ v = 1 ∨ v = 2 ∨ v = 3 ∨ v = 4 ∨ v = 5 ∨ v = 6 ∨ v = 7 ∨ v = 8 ∨ v = 9 by omega) with rfl | rfl | rfl | rfl | rfl | rfl | rfl | rfl | rfl | rfl <;> rfl))
      rcases (show v = 0 ∨ v = 1 ∨ v = 2 ∨ v = 3 ∨ v = 4 ∨ v = 5 ∨ v = 6 ∨ v = 7 ∨ v = 8 ∨ v = 9 by omega) with rfl | rfl | rfl | rfl | rfl | rfl | rfl | rfl | rfl | rfl
      · exact c_18_0 e
      · exact c_18_1 e
      · exact c_18_2 e
      · exact c_18_3 e
      · exact c_18_4 e
      · exact c_18_5 e
      · exact c_18_6 e
      · exact c_18_7 e
      · exact c_18_8 e
      · exact c_18_9 e
    · refine lv_aload_n hx hb dX6_of_178 rfl (lv_at hl0 0 rfl) ?_
      refine lv_iconst (v := 0) hx hb dX6_of_179 (by decide) ?_
      refine cV_i (wc := [sO cy hh a kk dd b w ee qq ik, ia cy (hh 1) 7 C]) (wr := pS cy a S) (rest := []) hx hb hml hown hw hG hK hP1 hD1 hS1 hA hl0 kc_X6_find kw_2_59 [.int 0] (c_X6_find l D cy G H1.size hh a kk dd b w ee qq ik C 0 (by first | omega | assumption)) [0, 11] [1, 2, 3, 4, 5, 6, 7, 8, 9, 10] rfl rfl rfl rfl rfl 0 rfl rfl rfl rfl rfl (Nat.le_of_ble_eq_true rfl) ⟨Nat.le_of_ble_eq_true rfl, Nat.le_of_ble_eq_true rfl⟩ dX6_of_180 ⟨Nat.le_of_ble_eq_true rfl, Nat.le_of_ble_eq_true rfl⟩ (fun r_180 u9 H2 locs2 hu9 hP2 hD2 hS2 => ?_)
      clear hP1 hD1 hS1 locs1 H1
      have hr_180 := hu9
      replace hP2 : va_P D vwCl (pS cy a S ++ ([sO cy hh a kk dd b w ee qq ik, ia cy (hh 1) 7 (upd C 0 (C 0 + 1))])) H2 := hP2
      replace hD2 : va_D (va_A _ sz) (pS cy a S ++ ([sO cy hh a kk dd b w ee qq ik, ia cy (hh 1) 7 (upd C 0 (C 0 + 1))])) := hD2
      replace hP2 := hP2.sub (ws' := [sO cy hh a kk dd b w ee qq ik] ++ (pS cy a S ++ ([ia cy (hh 1) 7 (upd C 0 (C 0 + 1))]))) [10, 0, 1, 2, 3, 4, 5, 6, 7, 8, 9, 11] rfl
      replace hD2 := hD2.sub (ws' := [sO cy hh a kk dd b w ee qq ik] ++ (pS cy a S ++ ([ia cy (hh 1) 7 (upd C 0 (C 0 + 1))]))) [10, 0, 1, 2, 3, 4, 5, 6, 7, 8, 9, 11] (by decide) rfl
      subst hr_180
      have hcd : cOf S (nI j) x2 = 0 := by unfold cOf; clear hx hb hml hown hr hlocks hw hsz hA hG hK hP2 hD2 hS2 hl0; grind
      have hq9 : ([sO cy hh a kk dd b w ee qq ik] ++ (pS cy a S ++ ([ia cy (hh 1) 7 (upd C 0 (C 0 + 1))]))) = ([sO cy hh a kk dd b w ee qq ik] ++ (pS cy a S ++ ([ia cy (hh 1) 7 (fnd C (cOf S (nI j) x2))]))) := congrArg (fun z9 => [sO cy hh a kk dd b w ee qq ik] ++ (pS cy a S ++ ([ia cy (hh 1) 7 z9]))) (show (upd C 0 (C 0 + 1)) = (fnd C (cOf S (nI j) x2)) from fnd_f hcd (by decide))
      replace hP2 := (congrArg (fun z9 => va_P D vwCl z9 _) hq9).mp hP2
      replace hD2 := (congrArg (fun z9 => va_D _ z9) hq9).mp hD2
      clear hq9
      refine re_i () hx hb hr hlocks hP2 hD2 hS2 dX6_of_183 ?_
      exact (ans_f hcd (by decide) rfl)
  · refine lv_aload_n hx hb dX6_of_11 rfl (lv_at hl0 0 rfl) ?_
    refine lv_iconst (v := 0) hx hb dX6_of_12 (by decide) ?_
    refine cV_i (wc := [sO cy hh a kk dd b w ee qq ik, ia cy (hh 1) 7 C]) (wr := pS cy a S) (rest := []) hx hb hml hown hw hG hK hP1 hD1 hS1 hA hl0 kc_X6_find kw_2_59 [.int 0] (c_X6_find l D cy G H1.size hh a kk dd b w ee qq ik C 0 (by first | omega | assumption)) [0, 11] [1, 2, 3, 4, 5, 6, 7, 8, 9, 10] rfl rfl rfl rfl rfl 0 rfl rfl rfl rfl rfl (Nat.le_of_ble_eq_true rfl) ⟨Nat.le_of_ble_eq_true rfl, Nat.le_of_ble_eq_true rfl⟩ dX6_of_13 ⟨Nat.le_of_ble_eq_true rfl, Nat.le_of_ble_eq_true rfl⟩ (fun r_13 u9 H2 locs2 hu9 hP2 hD2 hS2 => ?_)
    clear hP1 hD1 hS1 locs1 H1
    have hr_13 := hu9
    replace hP2 : va_P D vwCl (pS cy a S ++ ([sO cy hh a kk dd b w ee qq ik, ia cy (hh 1) 7 (upd C 0 (C 0 + 1))])) H2 := hP2
    replace hD2 : va_D (va_A _ sz) (pS cy a S ++ ([sO cy hh a kk dd b w ee qq ik, ia cy (hh 1) 7 (upd C 0 (C 0 + 1))])) := hD2
    replace hP2 := hP2.sub (ws' := [sO cy hh a kk dd b w ee qq ik] ++ (pS cy a S ++ ([ia cy (hh 1) 7 (upd C 0 (C 0 + 1))]))) [10, 0, 1, 2, 3, 4, 5, 6, 7, 8, 9, 11] rfl
    replace hD2 := hD2.sub (ws' := [sO cy hh a kk dd b w ee qq ik] ++ (pS cy a S ++ ([ia cy (hh 1) 7 (upd C 0 (C 0 + 1))]))) [10, 0, 1, 2, 3, 4, 5, 6, 7, 8, 9, 11] (by decide) rfl
    subst hr_13
    have hcd : cOf S x1 x2 = 0 := by unfold cOf; clear hx hb hml hown hr hlocks hw hsz hA hG hK hP2 hD2 hS2 hl0; grind
    have hq9 : ([sO cy hh a kk dd b w ee qq ik] ++ (pS cy a S ++ ([ia cy (hh 1) 7 (upd C 0 (C 0 + 1))]))) = ([sO cy hh a kk dd b w ee qq ik] ++ (pS cy a S ++ ([ia cy (hh 1) 7 (fnd C (cOf S x1 x2))]))) := congrArg (fun z9 => [sO cy hh a kk dd b w ee qq ik] ++ (pS cy a S ++ ([ia cy (hh 1) 7 z9]))) (show (upd C 0 (C 0 + 1)) = (fnd C (cOf S x1 x2)) from fnd_f hcd (by decide))
    replace hP2 := (congrArg (fun z9 => va_P D vwCl z9 _) hq9).mp hP2
    replace hD2 := (congrArg (fun z9 => va_D _ z9) hq9).mp hD2
    clear hq9
    refine re_i () hx hb hr hlocks hP2 hD2 hS2 dX6_of_16 ?_
    exact (ans_f hcd (by decide) rfl)

theorem kc_X7_of : kV yX7_of cX7_of 3 (some .int) 2 := ⟨kw_4_166, kw_4_167, kw_1_8, kw_4_168, by decide, by decide, by decide +kernel⟩
set_option maxHeartbeats 4000000 in
set_option maxRecDepth 100000 in
theorem c_X7_of (l : Launch) (D : va_G) (cy : Nat → ClassId) (G : Nat → Nat) (sz : Nat) (mm : Nat → Nat) (ik : Int32) (tl : Int32) (fm : Int32) (tz : Int32) (vl : Int32) (iw : Int32) (rm : Int32) (rr : Int32) (om : Int32) (S : Nat → Int32) (C : Nat → Int32) (x1 : Int32) (x2 : Int32) (wf : wf S) : Met l yX7_of (wm yX7_of cX7_of 3 (some .int)) { frames := 2, cells := 0, slots := 0, locals := 46 } (va_Pc [.ref (mm 0), .int x1, .int x2] (pr D (TY cy) G ([mO cy mm ik tl fm tz vl iw rm rr om, ia cy (mm 1) 169 S, ia cy (mm 4) 7 C]) sz)) (va_Qi (fun (r : Int32) (u : Unit) => r = ans (cOf S x1 x2) (vOf S (bstN x1) x2)) (fun (u : Unit) t => po D (va_A ([mO cy mm ik tl fm tz vl iw rm rr om, ia cy (mm 1) 169 S, ia cy (mm 4) 7 C]) sz) ([mO cy mm ik tl fm tz vl iw rm rr om, ia cy (mm 1) 169 S, ia cy (mm 4) 7 (fnd C (cOf S x1 x2))]) t) (va_A ([mO cy mm ik tl fm tz vl iw rm rr om, ia cy (mm 1) 169 S, ia cy (mm 4) 7 C]) sz)) 0 0 (va_A ([mO cy mm ik tl fm tz vl iw rm rr om, ia cy (mm 1) 169 S, ia cy (mm 4) 7 C]) sz) := by
  refine mk_rw (by decide) RX7 rfl (Nat.le_of_ble_eq_true rfl) [(0, .ref (mm 0)), (1, .int x1), (2, .int x2)] rfl ?_
  intro p e s m below meth c hx hb hml hown hr hlocks hin hw hsz hA hG hK H0 locs0 hP0 hD0 hS0 ls0 hl0
  clear hin
  have hg20 := wf_g20 wf
  refine lv_aload_n hx hb dX7_of_0 rfl (lv_at hl0 0 rfl) ?_
  refine lv_iload_n hx hb dX7_of_1 rfl (lv_at hl0 1 rfl) ?_
  refine rV_i (wc := [mO cy mm ik tl fm tz vl iw rm rr om, ia cy (mm 1) 169 S]) (rest := []) hx hb hml hown hw hG hK hP0 hS0 hA hl0 kc_X7_isGap kw_4_169 [.int x1] (c_X7_isGap l D cy G H0.size mm ik tl fm tz vl iw rm rr om S x1 (by first | omega | assumption)) [0, 1] rfl 0 rfl rfl rfl rfl rfl (Nat.le_of_ble_eq_true rfl) ⟨Nat.le_of_ble_eq_true rfl, Nat.le_of_ble_eq_true rfl⟩ dX7_of_2 ⟨Nat.le_of_ble_eq_true rfl, Nat.le_of_ble_eq_true rfl⟩ (fun r_2 H1 locs1 hr_2 hP1 hS1 => ?_)
  have hD1 := hD0
  clear hP0 hD0 hS0 locs0 H0
  subst hr_2
  refine lb_eq (tgt := 20) hx hb dX7_of_5 (by decide) (fun c_5 => ?_) (fun c_5 => ?_)
  · refine lv_aload_n hx hb dX7_of_20 rfl (lv_at hl0 0 rfl) ?_
    refine lv_ldc (v := (-1000000001)) hx hb hown (hw _ kw_4_143) dX7_of_21 ?_
    refine cV_i (wc := [mO cy mm ik tl fm tz vl iw rm rr om, ia cy (mm 4) 7 C]) (wr := [ia cy (mm 1) 169 S]) (rest := []) hx hb hml hown hw hG hK hP1 hD1 hS1 hA hl0 kc_X7_finds kw_4_139 [.int (-1000000001)] (c_X7_finds l D cy G H1.size mm ik tl fm tz vl iw rm rr om C 0 (-1000000001) (by decide) (by decide)) [0, 2] [1] rfl rfl rfl rfl rfl 0 rfl rfl rfl rfl rfl (Nat.le_of_ble_eq_true rfl) ⟨Nat.le_of_ble_eq_true rfl, Nat.le_of_ble_eq_true rfl⟩ dX7_of_23 ⟨Nat.le_of_ble_eq_true rfl, Nat.le_of_ble_eq_true rfl⟩ (fun r_23 u9 H2 locs2 hu9 hP2 hD2 hS2 => ?_)
    clear hP1 hD1 hS1 locs1 H1
    have hr_23 := hu9
    replace hP2 : va_P D vwCl ([ia cy (mm 1) 169 S, mO cy mm ik tl fm tz vl iw rm rr om, ia cy (mm 4) 7 (upd C 0 (C 0 + 1))]) H2 := hP2
    replace hD2 : va_D (va_A _ sz) ([ia cy (mm 1) 169 S, mO cy mm ik tl fm tz vl iw rm rr om, ia cy (mm 4) 7 (upd C 0 (C 0 + 1))]) := hD2
    replace hP2 := hP2.sub (ws' := [mO cy mm ik tl fm tz vl iw rm rr om, ia cy (mm 1) 169 S, ia cy (mm 4) 7 (upd C 0 (C 0 + 1))]) [1, 0, 2] rfl
    replace hD2 := hD2.sub (ws' := [mO cy mm ik tl fm tz vl iw rm rr om, ia cy (mm 1) 169 S, ia cy (mm 4) 7 (upd C 0 (C 0 + 1))]) [1, 0, 2] (by decide) rfl
    subst hr_23
    have hcd : cOf S x1 x2 = 0 := by unfold cOf; clear hx hb hml hown hr hlocks hw hsz hA hG hK hP2 hD2 hS2 hl0; grind
    have hq9 : ([mO cy mm ik tl fm tz vl iw rm rr om, ia cy (mm 1) 169 S, ia cy (mm 4) 7 (upd C 0 (C 0 + 1))]) = ([mO cy mm ik tl fm tz vl iw rm rr om, ia cy (mm 1) 169 S, ia cy (mm 4) 7 (fnd C (cOf S x1 x2))]) := congrArg (fun z9 => [mO cy mm ik tl fm tz vl iw rm rr om, ia cy (mm 1) 169 S, ia cy (mm 4) 7 z9]) (show (upd C 0 (C 0 + 1)) = (fnd C (cOf S x1 x2)) from fnd_f hcd (by decide))
    replace hP2 := (congrArg (fun z9 => va_P D vwCl z9 _) hq9).mp hP2
    replace hD2 := (congrArg (fun z9 => va_D _ z9) hq9).mp hD2
    clear hq9
    refine re_i () hx hb hr hlocks hP2 hD2 hS2 dX7_of_26 ?_
    exact (ans_f hcd (by decide) rfl)
  · refine lv_iload_n hx hb dX7_of_8 rfl (lv_at hl0 2 rfl) ?_
    refine lv_i2l hx hb dX7_of_9 rfl ?_
    refine lv_lconst (v := 0) hx hb dX7_of_10 (by decide) ?_
    refine lv_ldc2 (v := 9) hx hb hown (hw _ kw_4_173) dX7_of_11 ?_
    refine rT_i (wc := []) (rest := []) hx hb hml hown hw hG hK hP1 hS1 hA hl0 kc_X7_in kw_4_153 [.long x2.toInt64, .long 0, .long 9] (c_X7_in l D cy G H1.size x2.toInt64 0 9) [] rfl rfl rfl (Nat.le_of_ble_eq_true rfl) ⟨Nat.le_of_ble_eq_true rfl, Nat.le_of_ble_eq_true rfl⟩ dX7_of_14 ⟨Nat.le_of_ble_eq_true rfl, Nat.le_of_ble_eq_true rfl⟩ (fun r_14 H2 locs2 hr_14 hP2 hS2 => ?_)
    have hD2 := hD1
    clear hP1 hD1 hS1 locs1 H1
    subst hr_14
    refine tp (show (b2i (0 ≤ x2.toInt64 ∧ x2.toInt64 ≤ 9)) = b2i (0 ≤ x2 ∧ x2 ≤ 9) from b2i_iff (in_c (by decide) (by decide))) ?_
    refine lb_ne (tgt := 27) hx hb dX7_of_17 (by decide) (fun c_17 => ?_) (fun c_17 => ?_)
    · obtain ⟨j, hj, rfl⟩ := wf_gap wf c_5
      have hbj : bstN (nI j) = j := bst_n (by omega)
      refine lv_iload_n hx hb dX7_of_27 rfl (lv_at hl0 2 rfl) ?_
      refine lv_bipush (v := 8) hx hb dX7_of_28 (by decide) ?_
      refine lv_icmp_ge (tgt := 42) hx hb dX7_of_30 (by decide) (fun c_30 => ?_) (fun c_30 => ?_)
      · refine lv_iload_n hx hb dX7_of_42 rfl (lv_at hl0 2 rfl) ?_
        refine lv_bipush (v := 8) hx hb dX7_of_43 (by decide) ?_
        refine lv_icmp_ne (tgt := 56) hx hb dX7_of_45 (by decide) (fun c_45 => ?_) (fun c_45 => ?_)
        · refine lv_aload_n hx hb dX7_of_56 rfl (lv_at hl0 0 rfl) ?_
          refine lv_iload_n hx hb dX7_of_57 rfl (lv_at hl0 1 rfl) ?_
          refine rV_i (wc := [mO cy mm ik tl fm tz vl iw rm rr om, ia cy (mm 1) 169 S]) (rest := []) hx hb hml hown hw hG hK hP2 hS2 hA hl0 kc_X7_push kw_4_182 [.int (nI j)] (c_X7_push l D cy G H2.size mm ik tl fm tz vl iw rm rr om S j (by first | omega | assumption) (by first | omega | assumption)) [0, 1] rfl 0 rfl rfl rfl rfl rfl (Nat.le_of_ble_eq_true rfl) ⟨Nat.le_of_ble_eq_true rfl, Nat.le_of_ble_eq_true rfl⟩ dX7_of_58 ⟨Nat.le_of_ble_eq_true rfl, Nat.le_of_ble_eq_true rfl⟩ (fun r_58 H3 locs3 hr_58 hP3 hS3 => ?_)
          have hD3 := hD2
          clear hP2 hD2 hS2 locs2 H2
          subst hr_58
          have hcd : cOf S (nI j) x2 = 7 := by unfold cOf; clear hx hb hml hown hr hlocks hw hsz hA hG hK hP3 hD3 hS3 hl0; grind
          have hq9 : ([mO cy mm ik tl fm tz vl iw rm rr om, ia cy (mm 1) 169 S, ia cy (mm 4) 7 C]) = ([mO cy mm ik tl fm tz vl iw rm rr om, ia cy (mm 1) 169 S, ia cy (mm 4) 7 (fnd C (cOf S (nI j) x2))]) := congrArg (fun z9 => [mO cy mm ik tl fm tz vl iw rm rr om, ia cy (mm 1) 169 S, ia cy (mm 4) 7 z9]) (show C = (fnd C (cOf S (nI j) x2)) from fnd_o hcd)
          replace hP3 := (congrArg (fun z9 => va_P D vwCl z9 _) hq9).mp hP3
          replace hD3 := (congrArg (fun z9 => va_D _ z9) hq9).mp hD3
          clear hq9
          refine re_i () hx hb hr hlocks hP3 hD3 hS3 dX7_of_61 ?_
          exact (ans_o hcd (by rw [hbj]; unfold vOf; clear hx hb hml hown hr hlocks hw hsz hA hG hK hP3 hD3 hS3 hl0; grind))
        · refine lv_aload_n hx hb dX7_of_48 rfl (lv_at hl0 0 rfl) ?_
          refine lv_iload_n hx hb dX7_of_49 rfl (lv_at hl0 1 rfl) ?_
          refine rV_i (wc := [mO cy mm ik tl fm tz vl iw rm rr om, ia cy (mm 1) 169 S]) (rest := []) hx hb hml hown hw hG hK hP2 hS2 hA hl0 kc_X7_breadth kw_4_178 [.int (nI j)] (c_X7_breadth l D cy G H2.size mm ik tl fm tz vl iw rm rr om S j (by first | omega | assumption) (by first | omega | assumption)) [0, 1] rfl 0 rfl rfl rfl rfl rfl (Nat.le_of_ble_eq_true rfl) ⟨Nat.le_of_ble_eq_true rfl, Nat.le_of_ble_eq_true rfl⟩ dX7_of_50 ⟨Nat.le_of_ble_eq_true rfl, Nat.le_of_ble_eq_true rfl⟩ (fun r_50 H3 locs3 hr_50 hP3 hS3 => ?_)
          have hD3 := hD2
          clear hP2 hD2 hS2 locs2 H2
          subst hr_50
          refine lv_goto (tgt := 61) hx hb dX7_of_53 (by decide) ?_
          have hcd : cOf S (nI j) x2 = 7 := by unfold cOf; clear hx hb hml hown hr hlocks hw hsz hA hG hK hP3 hD3 hS3 hl0; grind
          have hq9 : ([mO cy mm ik tl fm tz vl iw rm rr om, ia cy (mm 1) 169 S, ia cy (mm 4) 7 C]) = ([mO cy mm ik tl fm tz vl iw rm rr om, ia cy (mm 1) 169 S, ia cy (mm 4) 7 (fnd C (cOf S (nI j) x2))]) := congrArg (fun z9 => [mO cy mm ik tl fm tz vl iw rm rr om, ia cy (mm 1) 169 S, ia cy (mm 4) 7 z9]) (show C = (fnd C (cOf S (nI j) x2)) from fnd_o hcd)
          replace hP3 := (congrArg (fun z9 => va_P D vwCl z9 _) hq9).mp hP3
          replace hD3 := (congrArg (fun z9 => va_D _ z9) hq9).mp hD3
          clear hq9
          refine re_i () hx hb hr hlocks hP3 hD3 hS3 dX7_of_61 ?_
          exact (ans_o hcd (by rw [hbj]; unfold vOf; clear hx hb hml hown hr hlocks hw hsz hA hG hK hP3 hD3 hS3 hl0; grind))
      · obtain ⟨k, hk, rfl⟩ := nI_rn (n := 8) (by decide) ⟨c_17.1, Int32.not_le.mp c_30⟩
        refine lv_aload_n hx hb dX7_of_33 rfl (lv_at hl0 0 rfl) ?_
        refine lv_iload_n hx hb dX7_of_34 rfl (lv_at hl0 1 rfl) ?_
        refine lv_iload_n hx hb dX7_of_35 rfl (lv_at hl0 2 rfl) ?_
        refine rV_i (wc := [mO cy mm ik tl fm tz vl iw rm rr om, ia cy (mm 1) 169 S]) (rest := []) hx hb hml hown hw hG hK hP2 hS2 hA hl0 kc_X7_has kw_4_174 [.int (nI j), .int (nI k)] (c_X7_has l D cy G H2.size mm ik tl fm tz vl iw rm rr om S j k (by first | omega | assumption) (by first | omega | assumption)) [0, 1] rfl 0 rfl rfl rfl rfl rfl (Nat.le_of_ble_eq_true rfl) ⟨Nat.le_of_ble_eq_true rfl, Nat.le_of_ble_eq_true rfl⟩ dX7_of_36 ⟨Nat.le_of_ble_eq_true rfl, Nat.le_of_ble_eq_true rfl⟩ (fun r_36 H3 locs3 hr_36 hP3 hS3 => ?_)
        have hD3 := hD2
        clear hP2 hD2 hS2 locs2 H2
        subst hr_36
        refine lv_goto (tgt := 61) hx hb dX7_of_39 (by decide) ?_
        have hcd : cOf S (nI j) (nI k) = 7 := by unfold cOf; clear hx hb hml hown hr hlocks hw hsz hA hG hK hP3 hD3 hS3 hl0; grind
        have hq9 : ([mO cy mm ik tl fm tz vl iw rm rr om, ia cy (mm 1) 169 S, ia cy (mm 4) 7 C]) = ([mO cy mm ik tl fm tz vl iw rm rr om, ia cy (mm 1) 169 S, ia cy (mm 4) 7 (fnd C (cOf S (nI j) (nI k)))]) := congrArg (fun z9 => [mO cy mm ik tl fm tz vl iw rm rr om, ia cy (mm 1) 169 S, ia cy (mm 4) 7 z9]) (show C = (fnd C (cOf S (nI j) (nI k))) from fnd_o hcd)
        replace hP3 := (congrArg (fun z9 => va_P D vwCl z9 _) hq9).mp hP3
        replace hD3 := (congrArg (fun z9 => va_D _ z9) hq9).mp hD3
        clear hq9
        refine re_i () hx hb hr hlocks hP3 hD3 hS3 dX7_of_61 ?_
        exact (ans_o hcd (by rw [hbj, vOf_k S j hk]; exact congrArg S (by omega)))
    · refine lv_aload_n hx hb dX7_of_20 rfl (lv_at hl0 0 rfl) ?_
      refine lv_ldc (v := (-1000000001)) hx hb hown (hw _ kw_4_143) dX7_of_21 ?_
      refine cV_i (wc := [mO cy mm ik tl fm tz vl iw rm rr om, ia cy (mm 4) 7 C]) (wr := [ia cy (mm 1) 169 S]) (rest := []) hx hb hml hown hw hG hK hP2 hD2 hS2 hA hl0 kc_X7_finds kw_4_139 [.int (-1000000001)] (c_X7_finds l D cy G H2.size mm ik tl fm tz vl iw rm rr om C 0 (-1000000001) (by decide) (by decide)) [0, 2] [1] rfl rfl rfl rfl rfl 0 rfl rfl rfl rfl rfl (Nat.le_of_ble_eq_true rfl) ⟨Nat.le_of_ble_eq_true rfl, Nat.le_of_ble_eq_true rfl⟩ dX7_of_23 ⟨Nat.le_of_ble_eq_true rfl, Nat.le_of_ble_eq_true rfl⟩ (fun r_23 u9 H3 locs3 hu9 hP3 hD3 hS3 => ?_)
      clear hP2 hD2 hS2 locs2 H2
      have hr_23 := hu9
      replace hP3 : va_P D vwCl ([ia cy (mm 1) 169 S, mO cy mm ik tl fm tz vl iw rm rr om, ia cy (mm 4) 7 (upd C 0 (C 0 + 1))]) H3 := hP3
      replace hD3 : va_D (va_A _ sz) ([ia cy (mm 1) 169 S, mO cy mm ik tl fm tz vl iw rm rr om, ia cy (mm 4) 7 (upd C 0 (C 0 + 1))]) := hD3
      replace hP3 := hP3.sub (ws' := [mO cy mm ik tl fm tz vl iw rm rr om, ia cy (mm 1) 169 S, ia cy (mm 4) 7 (upd C 0 (C 0 + 1))]) [1, 0, 2] rfl
      replace hD3 := hD3.sub (ws' := [mO cy mm ik tl fm tz vl iw rm rr om, ia cy (mm 1) 169 S, ia cy (mm 4) 7 (upd C 0 (C 0 + 1))]) [1, 0, 2] (by decide) rfl
      subst hr_23
      have hcd : cOf S x1 x2 = 0 := by unfold cOf; clear hx hb hml hown hr hlocks hw hsz hA hG hK hP3 hD3 hS3 hl0; grind
      have hq9 : ([mO cy mm ik tl fm tz vl iw rm rr om, ia cy (mm 1) 169 S, ia cy (mm 4) 7 (upd C 0 (C 0 + 1))]) = ([mO cy mm ik tl fm tz vl iw rm rr om, ia cy (mm 1) 169 S, ia cy (mm 4) 7 (fnd C (cOf S x1 x2))]) := congrArg (fun z9 => [mO cy mm ik tl fm tz vl iw rm rr om, ia cy (mm 1) 169 S, ia cy (mm 4) 7 z9]) (show (upd C 0 (C 0 + 1)) = (fnd C (cOf S x1 x2)) from fnd_f hcd (by decide))
      replace hP3 := (congrArg (fun z9 => va_P D vwCl z9 _) hq9).mp hP3
      replace hD3 := (congrArg (fun z9 => va_D _ z9) hq9).mp hD3
      clear hq9
      refine re_i () hx hb hr hlocks hP3 hD3 hS3 dX7_of_26 ?_
      exact (ans_f hcd (by decide) rfl)

theorem kc_X6_width : kV yX6_width cX6_width 4 (some .int) 2 := ⟨kw_2_116, kw_2_117, kw_1_1, kw_2_118, by decide, by decide, by decide +kernel⟩
set_option maxHeartbeats 4000000 in
set_option maxRecDepth 100000 in
theorem c_X6_width (l : Launch) (D : va_G) (cy : Nat → ClassId) (G : Nat → Nat) (sz : Nat) (hh : Nat → Nat) (a : Nat → Nat) (kk : Nat → Nat) (dd : Nat → Nat) (b : Nat → Nat) (w : Nat → Nat) (ee : Nat → Nat) (qq : Nat → Nat) (ik : Int32) (S : Nat → Int32) (C : Nat → Int32) (x1 : Int32) (x2 : Int32) (wf : wf S) : Met l yX6_width (wm yX6_width cX6_width 4 (some .int)) { frames := 1, cells := 0, slots := 0, locals := 21 } (va_Pc [.ref (hh 0), .int x1, .int x2] (pr D (TY cy) G ([sO cy hh a kk dd b w ee qq ik] ++ (pS cy a S ++ ([ia cy (hh 1) 7 C]))) sz)) (va_Qi (fun (r : Int32) (u : Unit) => r = ans (cWidth S x1 x2) (S (12 + 8 * bstN x1))) (fun (u : Unit) t => po D (va_A ([sO cy hh a kk dd b w ee qq ik] ++ (pS cy a S ++ ([ia cy (hh 1) 7 C]))) sz) ([sO cy hh a kk dd b w ee qq ik] ++ (pS cy a (if cWidth S x1 x2 = 7 then upd S (12 + 8 * bstN x1) x2 else S) ++ ([ia cy (hh 1) 7 (fnd C (cWidth S x1 x2))]))) t) (va_A ([sO cy hh a kk dd b w ee qq ik] ++ (pS cy a S ++ ([ia cy (hh 1) 7 C]))) sz)) 0 0 (va_A ([sO cy hh a kk dd b w ee qq ik] ++ (pS cy a S ++ ([ia cy (hh 1) 7 C]))) sz) := by
  refine mk_rw (by decide) RX6 rfl (Nat.le_of_ble_eq_true rfl) [(0, .ref (hh 0)), (1, .int x1), (2, .int x2)] rfl ?_
  intro p e s m below meth c hx hb hml hown hr hlocks hin hw hsz hA hG hK H0 locs0 hP0 hD0 hS0 ls0 hl0
  clear hin
  have hg20 := wf_g20 wf
  refine lv_aload_n hx hb dX6_width_0 rfl (lv_at hl0 0 rfl) ?_
  refine va_get (D := D) (ci := 6) (v := .ref (a 0)) (C := RX6) (T := TX6) (N := 9) hx hb hw iX6 hown hK hP0 0 rfl rfl 0 (by decide) (hw _ kw_2_27) (fun _ h9 => h9) rfl dX6_width_1 ?_
  refine lv_iload_n hx hb dX6_width_4 rfl (lv_at hl0 1 rfl) ?_
  refine rV_i (wc := pS cy a S) (rest := []) hx hb hml hown hw hG hK hP0 hS0 hA hl0 kc_X1_hasGap kw_2_98 [.int x1] (c_X1_hasGap l D cy G H0.size a S x1) [1, 2, 3, 4, 5, 6, 7, 8, 9, 10] rfl 0 rfl rfl rfl rfl rfl (Nat.le_of_ble_eq_true rfl) ⟨Nat.le_of_ble_eq_true rfl, Nat.le_of_ble_eq_true rfl⟩ dX6_width_5 ⟨Nat.le_of_ble_eq_true rfl, Nat.le_of_ble_eq_true rfl⟩ (fun r_5 H1 locs1 hr_5 hP1 hS1 => ?_)
  have hD1 := hD0
  clear hP0 hD0 hS0 locs0 H0
  subst hr_5
  refine lb_eq (tgt := 21) hx hb dX6_width_8 (by decide) (fun c_8 => ?_) (fun c_8 => ?_)
  · refine lv_aload_n hx hb dX6_width_21 rfl (lv_at hl0 0 rfl) ?_
    refine lv_iconst (v := 0) hx hb dX6_width_22 (by decide) ?_
    refine cV_i (wc := [sO cy hh a kk dd b w ee qq ik, ia cy (hh 1) 7 C]) (wr := pS cy a S) (rest := []) hx hb hml hown hw hG hK hP1 hD1 hS1 hA hl0 kc_X6_find kw_2_59 [.int 0] (c_X6_find l D cy G H1.size hh a kk dd b w ee qq ik C 0 (by first | omega | assumption)) [0, 11] [1, 2, 3, 4, 5, 6, 7, 8, 9, 10] rfl rfl rfl rfl rfl 0 rfl rfl rfl rfl rfl (Nat.le_of_ble_eq_true rfl) ⟨Nat.le_of_ble_eq_true rfl, Nat.le_of_ble_eq_true rfl⟩ dX6_width_23 ⟨Nat.le_of_ble_eq_true rfl, Nat.le_of_ble_eq_true rfl⟩ (fun r_23 u9 H2 locs2 hu9 hP2 hD2 hS2 => ?_)
    clear hP1 hD1 hS1 locs1 H1
    have hr_23 := hu9
    replace hP2 : va_P D vwCl (pS cy a S ++ ([sO cy hh a kk dd b w ee qq ik, ia cy (hh 1) 7 (upd C 0 (C 0 + 1))])) H2 := hP2
    replace hD2 : va_D (va_A _ sz) (pS cy a S ++ ([sO cy hh a kk dd b w ee qq ik, ia cy (hh 1) 7 (upd C 0 (C 0 + 1))])) := hD2
    replace hP2 := hP2.sub (ws' := [sO cy hh a kk dd b w ee qq ik] ++ (pS cy a S ++ ([ia cy (hh 1) 7 (upd C 0 (C 0 + 1))]))) [10, 0, 1, 2, 3, 4, 5, 6, 7, 8, 9, 11] rfl
    replace hD2 := hD2.sub (ws' := [sO cy hh a kk dd b w ee qq ik] ++ (pS cy a S ++ ([ia cy (hh 1) 7 (upd C 0 (C 0 + 1))]))) [10, 0, 1, 2, 3, 4, 5, 6, 7, 8, 9, 11] (by decide) rfl
    subst hr_23
    have hcd : cWidth S x1 x2 = 0 := by unfold cWidth; clear hx hb hml hown hr hlocks hw hsz hA hG hK hP2 hD2 hS2 hl0; grind
    have hq9 : ([sO cy hh a kk dd b w ee qq ik] ++ (pS cy a S ++ ([ia cy (hh 1) 7 (upd C 0 (C 0 + 1))]))) = ([sO cy hh a kk dd b w ee qq ik] ++ (pS cy a S ++ ([ia cy (hh 1) 7 (fnd C (cWidth S x1 x2))]))) := congrArg (fun z9 => [sO cy hh a kk dd b w ee qq ik] ++ (pS cy a S ++ ([ia cy (hh 1) 7 z9]))) (show (upd C 0 (C 0 + 1)) = (fnd C (cWidth S x1 x2)) from fnd_f hcd (by decide))
    replace hP2 := (congrArg (fun z9 => va_P D vwCl z9 _) hq9).mp hP2
    replace hD2 := (congrArg (fun z9 => va_D _ z9) hq9).mp hD2
    clear hq9
    have hq9 : ([sO cy hh a kk dd b w ee qq ik] ++ (pS cy a S ++ ([ia cy (hh 1) 7 (fnd C (cWidth S x1 x2))]))) = ([sO cy hh a kk dd b w ee qq ik] ++ (pS cy a (if cWidth S x1 x2 = 7 then upd S (12 + 8 * bstN x1) x2 else S) ++ ([ia cy (hh 1) 7 (fnd C (cWidth S x1 x2))]))) := congrArg (fun z9 => [sO cy hh a kk dd b w ee qq ik] ++ (pS cy a z9 ++ ([ia cy (hh 1) 7 (fnd C (cWidth S x1 x2))]))) (show S = (if cWidth S x1 x2 = 7 then upd S (12 + 8 * bstN x1) x2 else S) from (if_neg (fun z9 => absurd (hcd.symm.trans z9) (by decide))).symm)
    replace hP2 := (congrArg (fun z9 => va_P D vwCl z9 _) hq9).mp hP2
    replace hD2 := (congrArg (fun z9 => va_D _ z9) hq9).mp hD2
    clear hq9
    refine re_i () hx hb hr hlocks hP2 hD2 hS2 dX6_width_26 ?_
    exact (ans_f hcd (by decide) rfl)
  · refine lv_iload_n hx hb dX6_width_11 rfl (lv_at hl0 2 rfl) ?_
    refine lv_if_lt (tgt := 21) hx hb dX6_width_12 (by decide) (fun c_12 => ?_) (fun c_12 => ?_)
    · refine lv_aload_n hx hb dX6_width_21 rfl (lv_at hl0 0 rfl) ?_
      refine lv_iconst (v := 0) hx hb dX6_width_22 (by decide) ?_
      refine cV_i (wc := [sO cy hh a kk dd b w ee qq ik, ia cy (hh 1) 7 C]) (wr := pS cy a S) (rest := []) hx hb hml hown hw hG hK hP1 hD1 hS1 hA hl0 kc_X6_find kw_2_59 [.int 0] (c_X6_find l D cy G H1.size hh a kk dd b w ee qq ik C 0 (by first | omega | assumption)) [0, 11] [1, 2, 3, 4, 5, 6, 7, 8, 9, 10] rfl rfl rfl rfl rfl 0 rfl rfl rfl rfl rfl (Nat.le_of_ble_eq_true rfl) ⟨Nat.le_of_ble_eq_true rfl, Nat.le_of_ble_eq_true rfl⟩ dX6_width_23 ⟨Nat.le_of_ble_eq_true rfl, Nat.le_of_ble_eq_true rfl⟩ (fun r_23 u9 H2 locs2 hu9 hP2 hD2 hS2 => ?_)
      clear hP1 hD1 hS1 locs1 H1
      have hr_23 := hu9
      replace hP2 : va_P D vwCl (pS cy a S ++ ([sO cy hh a kk dd b w ee qq ik, ia cy (hh 1) 7 (upd C 0 (C 0 + 1))])) H2 := hP2
      replace hD2 : va_D (va_A _ sz) (pS cy a S ++ ([sO cy hh a kk dd b w ee qq ik, ia cy (hh 1) 7 (upd C 0 (C 0 + 1))])) := hD2
      replace hP2 := hP2.sub (ws' := [sO cy hh a kk dd b w ee qq ik] ++ (pS cy a S ++ ([ia cy (hh 1) 7 (upd C 0 (C 0 + 1))]))) [10, 0, 1, 2, 3, 4, 5, 6, 7, 8, 9, 11] rfl
      replace hD2 := hD2.sub (ws' := [sO cy hh a kk dd b w ee qq ik] ++ (pS cy a S ++ ([ia cy (hh 1) 7 (upd C 0 (C 0 + 1))]))) [10, 0, 1, 2, 3, 4, 5, 6, 7, 8, 9, 11] (by decide) rfl
      subst hr_23
      have hcd : cWidth S x1 x2 = 0 := by unfold cWidth; clear hx hb hml hown hr hlocks hw hsz hA hG hK hP2 hD2 hS2 hl0; grind
      have hq9 : ([sO cy hh a kk dd b w ee qq ik] ++ (pS cy a S ++ ([ia cy (hh 1) 7 (upd C 0 (C 0 + 1))]))) = ([sO cy hh a kk dd b w ee qq ik] ++ (pS cy a S ++ ([ia cy (hh 1) 7 (fnd C (cWidth S x1 x2))]))) := congrArg (fun z9 => [sO cy hh a kk dd b w ee qq ik] ++ (pS cy a S ++ ([ia cy (hh 1) 7 z9]))) (show (upd C 0 (C 0 + 1)) = (fnd C (cWidth S x1 x2)) from fnd_f hcd (by decide))
      replace hP2 := (congrArg (fun z9 => va_P D vwCl z9 _) hq9).mp hP2
      replace hD2 := (congrArg (fun z9 => va_D _ z9) hq9).mp hD2
      clear hq9
      have hq9 : ([sO cy hh a kk dd b w ee qq ik] ++ (pS cy a S ++ ([ia cy (hh 1) 7 (fnd C (cWidth S x1 x2))]))) = ([sO cy hh a kk dd b w ee qq ik] ++ (pS cy a (if cWidth S x1 x2 = 7 then upd S (12 + 8 * bstN x1) x2 else S) ++ ([ia cy (hh 1) 7 (fnd C (cWidth S x1 x2))]))) := congrArg (fun z9 => [sO cy hh a kk dd b w ee qq ik] ++ (pS cy a z9 ++ ([ia cy (hh 1) 7 (fnd C (cWidth S x1 x2))]))) (show S = (if cWidth S x1 x2 = 7 then upd S (12 + 8 * bstN x1) x2 else S) from (if_neg (fun z9 => absurd (hcd.symm.trans z9) (by decide))).symm)
      replace hP2 := (congrArg (fun z9 => va_P D vwCl z9 _) hq9).mp hP2
      replace hD2 := (congrArg (fun z9 => va_D _ z9) hq9).mp hD2
      clear hq9
      refine re_i () hx hb hr hlocks hP2 hD2 hS2 dX6_width_26 ?_
      exact (ans_f hcd (by decide) rfl)
    · refine lv_iload_n hx hb dX6_width_15 rfl (lv_at hl0 2 rfl) ?_
      refine lv_bipush (v := 99) hx hb dX6_width_16 (by decide) ?_
      refine lv_icmp_le (tgt := 27) hx hb dX6_width_18 (by decide) (fun c_18 => ?_) (fun c_18 => ?_)
      · obtain ⟨j, hj, rfl⟩ := wf_gap wf c_8
        have hbj : bstN (nI j) = j := bst_n (by omega)
        refine lv_aload_n hx hb dX6_width_27 rfl (lv_at hl0 0 rfl) ?_
        refine va_get (D := D) (ci := 6) (v := .ref (a 0)) (C := RX6) (T := TX6) (N := 9) hx hb hw iX6 hown hK hP1 0 rfl rfl 0 (by decide) (hw _ kw_2_27) (fun _ h9 => h9) rfl dX6_width_28 ?_
        refine va_get (D := D) (ci := 1) (v := .ref (a 4)) (C := RX1) (T := TX1) (N := 12) hx hb hw iX1 hown hK hP1 1 rfl rfl 5 (by decide) (hw _ kw_1_49) (fun _ h9 => h9) rfl dX6_width_31 ?_
        refine lv_iload_n hx hb dX6_width_34 rfl (lv_at hl0 1 rfl) ?_
        refine ald_i (f := fun g => S (12 + 8 * g)) hx hb hK hP1 5 0 rfl rfl j rfl (by first | omega | assumption) (by decide) dX6_width_35 ?_
        refine lv_istore_n (lv' := [(3, .int (S (12 + 8 * j))), (0, .ref (hh 0)), (1, .int (nI j)), (2, .int x2)]) hx hb dX6_width_36 rfl hl0 (by decide) rfl (fun ls1 hl1 => ?_)
        clear hl0 ls0
        refine lv_aload_n hx hb dX6_width_37 rfl (lv_at hl1 1 rfl) ?_
        refine va_get (D := D) (ci := 6) (v := .ref (a 0)) (C := RX6) (T := TX6) (N := 9) hx hb hw iX6 hown hK hP1 0 rfl rfl 0 (by decide) (hw _ kw_2_27) (fun _ h9 => h9) rfl dX6_width_38 ?_
        refine va_get (D := D) (ci := 1) (v := .ref (a 4)) (C := RX1) (T := TX1) (N := 12) hx hb hw iX1 hown hK hP1 1 rfl rfl 5 (by decide) (hw _ kw_1_49) (fun _ h9 => h9) rfl dX6_width_41 ?_
        refine lv_iload_n hx hb dX6_width_44 rfl (lv_at hl1 2 rfl) ?_
        refine lv_iload_n hx hb dX6_width_45 rfl (lv_at hl1 3 rfl) ?_
        refine ast_i (f := fun g => S (12 + 8 * g)) (ws' := [sO cy hh a kk dd b w ee qq ik] ++ (pS cy a (upd S (12 + 8 * j) x2) ++ ([ia cy (hh 1) 7 C]))) hx hb hK hP1 hD1 hS1 5 0 rfl rfl j rfl (by first | omega | assumption) (by decide) (congrArg (fun z => [sO cy hh a kk dd b w ee qq ik] ++ (z ++ ([ia cy (hh 1) 7 C]))) (pS_a3 cy a S j x2)) dX6_width_46 (fun H2 locs2 hP2 hD2 hS2 => ?_)
        clear hP1 hD1 hS1 locs1 H1
        refine lv_iload_n hx hb dX6_width_47 rfl (lv_at hl1 0 rfl) ?_
        have hcd : cWidth S (nI j) x2 = 7 := by unfold cWidth; clear hx hb hml hown hr hlocks hw hsz hA hG hK hP2 hD2 hS2 hl1; grind
        have hq9 : ([sO cy hh a kk dd b w ee qq ik] ++ (pS cy a (upd S (12 + 8 * j) x2) ++ ([ia cy (hh 1) 7 C]))) = ([sO cy hh a kk dd b w ee qq ik] ++ (pS cy a (upd S (12 + 8 * j) x2) ++ ([ia cy (hh 1) 7 (fnd C (cWidth S (nI j) x2))]))) := congrArg (fun z9 => [sO cy hh a kk dd b w ee qq ik] ++ (pS cy a (upd S (12 + 8 * j) x2) ++ ([ia cy (hh 1) 7 z9]))) (show C = (fnd C (cWidth S (nI j) x2)) from fnd_o hcd)
        replace hP2 := (congrArg (fun z9 => va_P D vwCl z9 _) hq9).mp hP2
        replace hD2 := (congrArg (fun z9 => va_D _ z9) hq9).mp hD2
        clear hq9
        have hq9 : ([sO cy hh a kk dd b w ee qq ik] ++ (pS cy a (upd S (12 + 8 * j) x2) ++ ([ia cy (hh 1) 7 (fnd C (cWidth S (nI j) x2))]))) = ([sO cy hh a kk dd b w ee qq ik] ++ (pS cy a (if cWidth S (nI j) x2 = 7 then upd S (12 + 8 * bstN (nI j)) x2 else S) ++ ([ia cy (hh 1) 7 (fnd C (cWidth S (nI j) x2))]))) := congrArg (fun z9 => [sO cy hh a kk dd b w ee qq ik] ++ (pS cy a z9 ++ ([ia cy (hh 1) 7 (fnd C (cWidth S (nI j) x2))]))) (show (upd S (12 + 8 * j) x2) = (if cWidth S (nI j) x2 = 7 then upd S (12 + 8 * bstN (nI j)) x2 else S) from by rw [if_pos hcd, hbj])
        replace hP2 := (congrArg (fun z9 => va_P D vwCl z9 _) hq9).mp hP2
        replace hD2 := (congrArg (fun z9 => va_D _ z9) hq9).mp hD2
        clear hq9
        refine re_i () hx hb hr hlocks hP2 hD2 hS2 dX6_width_48 ?_
        exact (ans_o hcd (by rw [hbj]))
      · refine lv_aload_n hx hb dX6_width_21 rfl (lv_at hl0 0 rfl) ?_
        refine lv_iconst (v := 0) hx hb dX6_width_22 (by decide) ?_
        refine cV_i (wc := [sO cy hh a kk dd b w ee qq ik, ia cy (hh 1) 7 C]) (wr := pS cy a S) (rest := []) hx hb hml hown hw hG hK hP1 hD1 hS1 hA hl0 kc_X6_find kw_2_59 [.int 0] (c_X6_find l D cy G H1.size hh a kk dd b w ee qq ik C 0 (by first | omega | assumption)) [0, 11] [1, 2, 3, 4, 5, 6, 7, 8, 9, 10] rfl rfl rfl rfl rfl 0 rfl rfl rfl rfl rfl (Nat.le_of_ble_eq_true rfl) ⟨Nat.le_of_ble_eq_true rfl, Nat.le_of_ble_eq_true rfl⟩ dX6_width_23 ⟨Nat.le_of_ble_eq_true rfl, Nat.le_of_ble_eq_true rfl⟩ (fun r_23 u9 H2 locs2 hu9 hP2 hD2 hS2 => ?_)
        clear hP1 hD1 hS1 locs1 H1
        have hr_23 := hu9
        replace hP2 : va_P D vwCl (pS cy a S ++ ([sO cy hh a kk dd b w ee qq ik, ia cy (hh 1) 7 (upd C 0 (C 0 + 1))])) H2 := hP2
        replace hD2 : va_D (va_A _ sz) (pS cy a S ++ ([sO cy hh a kk dd b w ee qq ik, ia cy (hh 1) 7 (upd C 0 (C 0 + 1))])) := hD2
        replace hP2 := hP2.sub (ws' := [sO cy hh a kk dd b w ee qq ik] ++ (pS cy a S ++ ([ia cy (hh 1) 7 (upd C 0 (C 0 + 1))]))) [10, 0, 1, 2, 3, 4, 5, 6, 7, 8, 9, 11] rfl
        replace hD2 := hD2.sub (ws' := [sO cy hh a kk dd b w ee qq ik] ++ (pS cy a S ++ ([ia cy (hh 1) 7 (upd C 0 (C 0 + 1))]))) [10, 0, 1, 2, 3, 4, 5, 6, 7, 8, 9, 11] (by decide) rfl
        subst hr_23
        have hcd : cWidth S x1 x2 = 0 := by unfold cWidth; clear hx hb hml hown hr hlocks hw hsz hA hG hK hP2 hD2 hS2 hl0; grind
        have hq9 : ([sO cy hh a kk dd b w ee qq ik] ++ (pS cy a S ++ ([ia cy (hh 1) 7 (upd C 0 (C 0 + 1))]))) = ([sO cy hh a kk dd b w ee qq ik] ++ (pS cy a S ++ ([ia cy (hh 1) 7 (fnd C (cWidth S x1 x2))]))) := congrArg (fun z9 => [sO cy hh a kk dd b w ee qq ik] ++ (pS cy a S ++ ([ia cy (hh 1) 7 z9]))) (show (upd C 0 (C 0 + 1)) = (fnd C (cWidth S x1 x2)) from fnd_f hcd (by decide))
        replace hP2 := (congrArg (fun z9 => va_P D vwCl z9 _) hq9).mp hP2
        replace hD2 := (congrArg (fun z9 => va_D _ z9) hq9).mp hD2
        clear hq9
        have hq9 : ([sO cy hh a kk dd b w ee qq ik] ++ (pS cy a S ++ ([ia cy (hh 1) 7 (fnd C (cWidth S x1 x2))]))) = ([sO cy hh a kk dd b w ee qq ik] ++ (pS cy a (if cWidth S x1 x2 = 7 then upd S (12 + 8 * bstN x1) x2 else S) ++ ([ia cy (hh 1) 7 (fnd C (cWidth S x1 x2))]))) := congrArg (fun z9 => [sO cy hh a kk dd b w ee qq ik] ++ (pS cy a z9 ++ ([ia cy (hh 1) 7 (fnd C (cWidth S x1 x2))]))) (show S = (if cWidth S x1 x2 = 7 then upd S (12 + 8 * bstN x1) x2 else S) from (if_neg (fun z9 => absurd (hcd.symm.trans z9) (by decide))).symm)
        replace hP2 := (congrArg (fun z9 => va_P D vwCl z9 _) hq9).mp hP2
        replace hD2 := (congrArg (fun z9 => va_D _ z9) hq9).mp hD2
        clear hq9
        refine re_i () hx hb hr hlocks hP2 hD2 hS2 dX6_width_26 ?_
        exact (ans_f hcd (by decide) rfl)

theorem kc_X7_width : kV yX7_width cX7_width 4 (some .int) 2 := ⟨kw_4_187, kw_4_188, kw_1_8, kw_4_189, by decide, by decide, by decide +kernel⟩
set_option maxHeartbeats 4000000 in
set_option maxRecDepth 100000 in
theorem c_X7_width (l : Launch) (D : va_G) (cy : Nat → ClassId) (G : Nat → Nat) (sz : Nat) (mm : Nat → Nat) (ik : Int32) (tl : Int32) (fm : Int32) (tz : Int32) (vl : Int32) (iw : Int32) (rm : Int32) (rr : Int32) (om : Int32) (S : Nat → Int32) (C : Nat → Int32) (x1 : Int32) (x2 : Int32) (wf : wf S) : Met l yX7_width (wm yX7_width cX7_width 4 (some .int)) { frames := 2, cells := 0, slots := 0, locals := 46 } (va_Pc [.ref (mm 0), .int x1, .int x2] (pr D (TY cy) G ([mO cy mm ik tl fm tz vl iw rm rr om, ia cy (mm 1) 169 S, ia cy (mm 4) 7 C]) sz)) (va_Qi (fun (r : Int32) (u : Unit) => r = ans (cWidth S x1 x2) (S (12 + 8 * bstN x1))) (fun (u : Unit) t => po D (va_A ([mO cy mm ik tl fm tz vl iw rm rr om, ia cy (mm 1) 169 S, ia cy (mm 4) 7 C]) sz) ([mO cy mm ik tl fm tz vl iw rm rr om, ia cy (mm 1) 169 (if cWidth S x1 x2 = 7 then upd S (12 + 8 * bstN x1) x2 else S), ia cy (mm 4) 7 (fnd C (cWidth S x1 x2))]) t) (va_A ([mO cy mm ik tl fm tz vl iw rm rr om, ia cy (mm 1) 169 S, ia cy (mm 4) 7 C]) sz)) 0 0 (va_A ([mO cy mm ik tl fm tz vl iw rm rr om, ia cy (mm 1) 169 S, ia cy (mm 4) 7 C]) sz) := by
  refine mk_rw (by decide) RX7 rfl (Nat.le_of_ble_eq_true rfl) [(0, .ref (mm 0)), (1, .int x1), (2, .int x2)] rfl ?_
  intro p e s m below meth c hx hb hml hown hr hlocks hin hw hsz hA hG hK H0 locs0 hP0 hD0 hS0 ls0 hl0
  clear hin
  have hg20 := wf_g20 wf
  refine lv_aload_n hx hb dX7_width_0 rfl (lv_at hl0 0 rfl) ?_
  refine lv_iload_n hx hb dX7_width_1 rfl (lv_at hl0 1 rfl) ?_
  refine rV_i (wc := [mO cy mm ik tl fm tz vl iw rm rr om, ia cy (mm 1) 169 S]) (rest := []) hx hb hml hown hw hG hK hP0 hS0 hA hl0 kc_X7_isGap kw_4_169 [.int x1] (c_X7_isGap l D cy G H0.size mm ik tl fm tz vl iw rm rr om S x1 (by first | omega | assumption)) [0, 1] rfl 0 rfl rfl rfl rfl rfl (Nat.le_of_ble_eq_true rfl) ⟨Nat.le_of_ble_eq_true rfl, Nat.le_of_ble_eq_true rfl⟩ dX7_width_2 ⟨Nat.le_of_ble_eq_true rfl, Nat.le_of_ble_eq_true rfl⟩ (fun r_2 H1 locs1 hr_2 hP1 hS1 => ?_)
  have hD1 := hD0
  clear hP0 hD0 hS0 locs0 H0
  subst hr_2
  refine lb_eq (tgt := 20) hx hb dX7_width_5 (by decide) (fun c_5 => ?_) (fun c_5 => ?_)
  · refine lv_aload_n hx hb dX7_width_20 rfl (lv_at hl0 0 rfl) ?_
    refine lv_ldc (v := (-1000000001)) hx hb hown (hw _ kw_4_143) dX7_width_21 ?_
    refine cV_i (wc := [mO cy mm ik tl fm tz vl iw rm rr om, ia cy (mm 4) 7 C]) (wr := [ia cy (mm 1) 169 S]) (rest := []) hx hb hml hown hw hG hK hP1 hD1 hS1 hA hl0 kc_X7_finds kw_4_139 [.int (-1000000001)] (c_X7_finds l D cy G H1.size mm ik tl fm tz vl iw rm rr om C 0 (-1000000001) (by decide) (by decide)) [0, 2] [1] rfl rfl rfl rfl rfl 0 rfl rfl rfl rfl rfl (Nat.le_of_ble_eq_true rfl) ⟨Nat.le_of_ble_eq_true rfl, Nat.le_of_ble_eq_true rfl⟩ dX7_width_23 ⟨Nat.le_of_ble_eq_true rfl, Nat.le_of_ble_eq_true rfl⟩ (fun r_23 u9 H2 locs2 hu9 hP2 hD2 hS2 => ?_)
    clear hP1 hD1 hS1 locs1 H1
    have hr_23 := hu9
    replace hP2 : va_P D vwCl ([ia cy (mm 1) 169 S, mO cy mm ik tl fm tz vl iw rm rr om, ia cy (mm 4) 7 (upd C 0 (C 0 + 1))]) H2 := hP2
    replace hD2 : va_D (va_A _ sz) ([ia cy (mm 1) 169 S, mO cy mm ik tl fm tz vl iw rm rr om, ia cy (mm 4) 7 (upd C 0 (C 0 + 1))]) := hD2
    replace hP2 := hP2.sub (ws' := [mO cy mm ik tl fm tz vl iw rm rr om, ia cy (mm 1) 169 S, ia cy (mm 4) 7 (upd C 0 (C 0 + 1))]) [1, 0, 2] rfl
    replace hD2 := hD2.sub (ws' := [mO cy mm ik tl fm tz vl iw rm rr om, ia cy (mm 1) 169 S, ia cy (mm 4) 7 (upd C 0 (C 0 + 1))]) [1, 0, 2] (by decide) rfl
    subst hr_23
    have hcd : cWidth S x1 x2 = 0 := by unfold cWidth; clear hx hb hml hown hr hlocks hw hsz hA hG hK hP2 hD2 hS2 hl0; grind
    have hq9 : ([mO cy mm ik tl fm tz vl iw rm rr om, ia cy (mm 1) 169 S, ia cy (mm 4) 7 (upd C 0 (C 0 + 1))]) = ([mO cy mm ik tl fm tz vl iw rm rr om, ia cy (mm 1) 169 S, ia cy (mm 4) 7 (fnd C (cWidth S x1 x2))]) := congrArg (fun z9 => [mO cy mm ik tl fm tz vl iw rm rr om, ia cy (mm 1) 169 S, ia cy (mm 4) 7 z9]) (show (upd C 0 (C 0 + 1)) = (fnd C (cWidth S x1 x2)) from fnd_f hcd (by decide))
    replace hP2 := (congrArg (fun z9 => va_P D vwCl z9 _) hq9).mp hP2
    replace hD2 := (congrArg (fun z9 => va_D _ z9) hq9).mp hD2
    clear hq9
    have hq9 : ([mO cy mm ik tl fm tz vl iw rm rr om, ia cy (mm 1) 169 S, ia cy (mm 4) 7 (fnd C (cWidth S x1 x2))]) = ([mO cy mm ik tl fm tz vl iw rm rr om, ia cy (mm 1) 169 (if cWidth S x1 x2 = 7 then upd S (12 + 8 * bstN x1) x2 else S), ia cy (mm 4) 7 (fnd C (cWidth S x1 x2))]) := congrArg (fun z9 => [mO cy mm ik tl fm tz vl iw rm rr om, ia cy (mm 1) 169 z9, ia cy (mm 4) 7 (fnd C (cWidth S x1 x2))]) (show S = (if cWidth S x1 x2 = 7 then upd S (12 + 8 * bstN x1) x2 else S) from (if_neg (fun z9 => absurd (hcd.symm.trans z9) (by decide))).symm)
    replace hP2 := (congrArg (fun z9 => va_P D vwCl z9 _) hq9).mp hP2
    replace hD2 := (congrArg (fun z9 => va_D _ z9) hq9).mp hD2
    clear hq9
    refine re_i () hx hb hr hlocks hP2 hD2 hS2 dX7_width_26 ?_
    exact (ans_f hcd (by decide) rfl)
  · refine lv_iload_n hx hb dX7_width_8 rfl (lv_at hl0 2 rfl) ?_
    refine lv_i2l hx hb dX7_width_9 rfl ?_
    refine lv_lconst (v := 0) hx hb dX7_width_10 (by decide) ?_
    refine lv_ldc2 (v := 99) hx hb hown (hw _ kw_4_190) dX7_width_11 ?_
    refine rT_i (wc := []) (rest := []) hx hb hml hown hw hG hK hP1 hS1 hA hl0 kc_X7_in kw_4_153 [.long x2.toInt64, .long 0, .long 99] (c_X7_in l D cy G H1.size x2.toInt64 0 99) [] rfl rfl rfl (Nat.le_of_ble_eq_true rfl) ⟨Nat.le_of_ble_eq_true rfl, Nat.le_of_ble_eq_true rfl⟩ dX7_width_14 ⟨Nat.le_of_ble_eq_true rfl, Nat.le_of_ble_eq_true rfl⟩ (fun r_14 H2 locs2 hr_14 hP2 hS2 => ?_)
    have hD2 := hD1
    clear hP1 hD1 hS1 locs1 H1
    subst hr_14
    refine tp (show (b2i (0 ≤ x2.toInt64 ∧ x2.toInt64 ≤ 99)) = b2i (0 ≤ x2 ∧ x2 ≤ 99) from b2i_iff (in_c (by decide) (by decide))) ?_
    refine lb_ne (tgt := 27) hx hb dX7_width_17 (by decide) (fun c_17 => ?_) (fun c_17 => ?_)
    · obtain ⟨j, hj, rfl⟩ := wf_gap wf c_5
      have hbj : bstN (nI j) = j := bst_n (by omega)
      refine lv_aload_n hx hb dX7_width_27 rfl (lv_at hl0 0 rfl) ?_
      refine lv_iload_n hx hb dX7_width_28 rfl (lv_at hl0 1 rfl) ?_
      refine lv_iconst (v := 3) hx hb dX7_width_29 (by decide) ?_
      refine rV_i (wc := [mO cy mm ik tl fm tz vl iw rm rr om, ia cy (mm 1) 169 S]) (rest := []) hx hb hml hown hw hG hK hP2 hS2 hA hl0 kc_X7_has kw_4_174 [.int (nI j), .int 3] (c_X7_has l D cy G H2.size mm ik tl fm tz vl iw rm rr om S j 3 (by first | omega | assumption) (by first | omega | assumption)) [0, 1] rfl 0 rfl rfl rfl rfl rfl (Nat.le_of_ble_eq_true rfl) ⟨Nat.le_of_ble_eq_true rfl, Nat.le_of_ble_eq_true rfl⟩ dX7_width_30 ⟨Nat.le_of_ble_eq_true rfl, Nat.le_of_ble_eq_true rfl⟩ (fun r_30 H3 locs3 hr_30 hP3 hS3 => ?_)
      have hD3 := hD2
      clear hP2 hD2 hS2 locs2 H2
      subst hr_30
      refine tp (show (S (9 + 8 * j + 3)) = S (12 + 8 * j) from congrArg _ (by omega)) ?_
      refine lv_istore_n (lv' := [(3, .int (S (12 + 8 * j))), (0, .ref (mm 0)), (1, .int (nI j)), (2, .int x2)]) hx hb dX7_width_33 rfl hl0 (by decide) rfl (fun ls1 hl1 => ?_)
      clear hl0 ls0
      refine lv_aload_n hx hb dX7_width_34 rfl (lv_at hl1 1 rfl) ?_
      refine va_get (D := D) (ci := 7) (v := .ref (mm 1)) (C := RX7) (T := TX7) (N := 23) hx hb hw iX7 hown hK hP3 0 rfl rfl 0 (by decide) (hw _ kw_4_64) (fun _ h9 => h9) rfl dX7_width_35 ?_
      refine lv_bipush (v := 9) hx hb dX7_width_38 (by decide) ?_
      refine lv_bipush (v := 8) hx hb dX7_width_40 (by decide) ?_
      refine lv_iload_n hx hb dX7_width_42 rfl (lv_at hl1 2 rfl) ?_
      refine lv_imul hx hb dX7_width_43 ?_
      refine tp (show (8 * (nI j)) = nI (8 * j) from pk_mul _ _) ?_
      refine lv_iadd hx hb dX7_width_44 ?_
      refine tp (show (9 + (nI (8 * j))) = nI (9 + 8 * j) from nI_add _ _) ?_
      refine lv_iconst (v := 3) hx hb dX7_width_45 (by decide) ?_
      refine lv_iadd hx hb dX7_width_46 ?_
      refine tp (show ((nI (9 + 8 * j)) + 3) = nI (9 + 8 * j + 3) from nI_add _ _) ?_
      refine lv_iload_n hx hb dX7_width_47 rfl (lv_at hl1 3 rfl) ?_
      refine ast_i (f := S) (ws' := [mO cy mm ik tl fm tz vl iw rm rr om, ia cy (mm 1) 169 (upd S (12 + 8 * j) x2), ia cy (mm 4) 7 C]) hx hb hK hP3 hD3 hS3 1 0 rfl rfl (12 + 8 * j) (congrArg nI (by omega)) (by omega) (by decide) rfl dX7_width_48 (fun H4 locs4 hP4 hD4 hS4 => ?_)
      clear hP3 hD3 hS3 locs3 H3
      refine lv_iload_n hx hb dX7_width_49 rfl (lv_at hl1 0 rfl) ?_
      have hcd : cWidth S (nI j) x2 = 7 := by unfold cWidth; clear hx hb hml hown hr hlocks hw hsz hA hG hK hP4 hD4 hS4 hl1; grind
      have hq9 : ([mO cy mm ik tl fm tz vl iw rm rr om, ia cy (mm 1) 169 (upd S (12 + 8 * j) x2), ia cy (mm 4) 7 C]) = ([mO cy mm ik tl fm tz vl iw rm rr om, ia cy (mm 1) 169 (upd S (12 + 8 * j) x2), ia cy (mm 4) 7 (fnd C (cWidth S (nI j) x2))]) := congrArg (fun z9 => [mO cy mm ik tl fm tz vl iw rm rr om, ia cy (mm 1) 169 (upd S (12 + 8 * j) x2), ia cy (mm 4) 7 z9]) (show C = (fnd C (cWidth S (nI j) x2)) from fnd_o hcd)
      replace hP4 := (congrArg (fun z9 => va_P D vwCl z9 _) hq9).mp hP4
      replace hD4 := (congrArg (fun z9 => va_D _ z9) hq9).mp hD4
      clear hq9
      have hq9 : ([mO cy mm ik tl fm tz vl iw rm rr om, ia cy (mm 1) 169 (upd S (12 + 8 * j) x2), ia cy (mm 4) 7 (fnd C (cWidth S (nI j) x2))]) = ([mO cy mm ik tl fm tz vl iw rm rr om, ia cy (mm 1) 169 (if cWidth S (nI j) x2 = 7 then upd S (12 + 8 * bstN (nI j)) x2 else S), ia cy (mm 4) 7 (fnd C (cWidth S (nI j) x2))]) := congrArg (fun z9 => [mO cy mm ik tl fm tz vl iw rm rr om, ia cy (mm 1) 169 z9, ia cy (mm 4) 7 (fnd C (cWidth S (nI j) x2))]) (show (upd S (12 + 8 * j) x2) = (if cWidth S (nI j) x2 = 7 then upd S (12 + 8 * bstN (nI j)) x2 else S) from by rw [if_pos hcd, hbj])
      replace hP4 := (congrArg (fun z9 => va_P D vwCl z9 _) hq9).mp hP4
      replace hD4 := (congrArg (fun z9 => va_D _ z9) hq9).mp hD4
      clear hq9
      refine re_i () hx hb hr hlocks hP4 hD4 hS4 dX7_width_50 ?_
      exact (ans_o hcd (by rw [hbj]))
    · refine lv_aload_n hx hb dX7_width_20 rfl (lv_at hl0 0 rfl) ?_
      refine lv_ldc (v := (-1000000001)) hx hb hown (hw _ kw_4_143) dX7_width_21 ?_
      refine cV_i (wc := [mO cy mm ik tl fm tz vl iw rm rr om, ia cy (mm 4) 7 C]) (wr := [ia cy (mm 1) 169 S]) (rest := []) hx hb hml hown hw hG hK hP2 hD2 hS2 hA hl0 kc_X7_finds kw_4_139 [.int (-1000000001)] (c_X7_finds l D cy G H2.size mm ik tl fm tz vl iw rm rr om C 0 (-1000000001) (by decide) (by decide)) [0, 2] [1] rfl rfl rfl rfl rfl 0 rfl rfl rfl rfl rfl (Nat.le_of_ble_eq_true rfl) ⟨Nat.le_of_ble_eq_true rfl, Nat.le_of_ble_eq_true rfl⟩ dX7_width_23 ⟨Nat.le_of_ble_eq_true rfl, Nat.le_of_ble_eq_true rfl⟩ (fun r_23 u9 H3 locs3 hu9 hP3 hD3 hS3 => ?_)
      clear hP2 hD2 hS2 locs2 H2
      have hr_23 := hu9
      replace hP3 : va_P D vwCl ([ia cy (mm 1) 169 S, mO cy mm ik tl fm tz vl iw rm rr om, ia cy (mm 4) 7 (upd C 0 (C 0 + 1))]) H3 := hP3
      replace hD3 : va_D (va_A _ sz) ([ia cy (mm 1) 169 S, mO cy mm ik tl fm tz vl iw rm rr om, ia cy (mm 4) 7 (upd C 0 (C 0 + 1))]) := hD3
      replace hP3 := hP3.sub (ws' := [mO cy mm ik tl fm tz vl iw rm rr om, ia cy (mm 1) 169 S, ia cy (mm 4) 7 (upd C 0 (C 0 + 1))]) [1, 0, 2] rfl
      replace hD3 := hD3.sub (ws' := [mO cy mm ik tl fm tz vl iw rm rr om, ia cy (mm 1) 169 S, ia cy (mm 4) 7 (upd C 0 (C 0 + 1))]) [1, 0, 2] (by decide) rfl
      subst hr_23
      have hcd : cWidth S x1 x2 = 0 := by unfold cWidth; clear hx hb hml hown hr hlocks hw hsz hA hG hK hP3 hD3 hS3 hl0; grind
      have hq9 : ([mO cy mm ik tl fm tz vl iw rm rr om, ia cy (mm 1) 169 S, ia cy (mm 4) 7 (upd C 0 (C 0 + 1))]) = ([mO cy mm ik tl fm tz vl iw rm rr om, ia cy (mm 1) 169 S, ia cy (mm 4) 7 (fnd C (cWidth S x1 x2))]) := congrArg (fun z9 => [mO cy mm ik tl fm tz vl iw rm rr om, ia cy (mm 1) 169 S, ia cy (mm 4) 7 z9]) (show (upd C 0 (C 0 + 1)) = (fnd C (cWidth S x1 x2)) from fnd_f hcd (by decide))
      replace hP3 := (congrArg (fun z9 => va_P D vwCl z9 _) hq9).mp hP3
      replace hD3 := (congrArg (fun z9 => va_D _ z9) hq9).mp hD3
      clear hq9
      have hq9 : ([mO cy mm ik tl fm tz vl iw rm rr om, ia cy (mm 1) 169 S, ia cy (mm 4) 7 (fnd C (cWidth S x1 x2))]) = ([mO cy mm ik tl fm tz vl iw rm rr om, ia cy (mm 1) 169 (if cWidth S x1 x2 = 7 then upd S (12 + 8 * bstN x1) x2 else S), ia cy (mm 4) 7 (fnd C (cWidth S x1 x2))]) := congrArg (fun z9 => [mO cy mm ik tl fm tz vl iw rm rr om, ia cy (mm 1) 169 z9, ia cy (mm 4) 7 (fnd C (cWidth S x1 x2))]) (show S = (if cWidth S x1 x2 = 7 then upd S (12 + 8 * bstN x1) x2 else S) from (if_neg (fun z9 => absurd (hcd.symm.trans z9) (by decide))).symm)
      replace hP3 := (congrArg (fun z9 => va_P D vwCl z9 _) hq9).mp hP3
      replace hD3 := (congrArg (fun z9 => va_D _ z9) hq9).mp hD3
      clear hq9
      refine re_i () hx hb hr hlocks hP3 hD3 hS3 dX7_width_26 ?_
      exact (ans_f hcd (by decide) rfl)

theorem kc_X6_shut : kV yX6_shut cX6_shut 4 (some .int) 2 := ⟨kw_2_120, kw_2_121, kw_1_1, kw_2_122, by decide, by decide, by decide +kernel⟩
set_option maxHeartbeats 4000000 in
set_option maxRecDepth 100000 in
theorem c_X6_shut (l : Launch) (D : va_G) (cy : Nat → ClassId) (G : Nat → Nat) (sz : Nat) (hh : Nat → Nat) (a : Nat → Nat) (kk : Nat → Nat) (dd : Nat → Nat) (b : Nat → Nat) (w : Nat → Nat) (ee : Nat → Nat) (qq : Nat → Nat) (ik : Int32) (S : Nat → Int32) (C : Nat → Int32) (x1 : Int32) (v : Int32) (wf : wf S) (hv : v = 0 ∨ v = 1) : Met l yX6_shut (wm yX6_shut cX6_shut 4 (some .int)) { frames := 1, cells := 0, slots := 0, locals := 21 } (va_Pc [.ref (hh 0), .int x1, .int v] (pr D (TY cy) G ([sO cy hh a kk dd b w ee qq ik] ++ (pS cy a S ++ ([ia cy (hh 1) 7 C]))) sz)) (va_Qi (fun (r : Int32) (u : Unit) => r = ans (cG S x1) (if S (16 + 8 * bstN x1) = v then 0 else 1)) (fun (u : Unit) t => po D (va_A ([sO cy hh a kk dd b w ee qq ik] ++ (pS cy a S ++ ([ia cy (hh 1) 7 C]))) sz) ([sO cy hh a kk dd b w ee qq ik] ++ (pS cy a (if cG S x1 = 7 then upd S (16 + 8 * bstN x1) v else S) ++ ([ia cy (hh 1) 7 (fnd C (cG S x1))]))) t) (va_A ([sO cy hh a kk dd b w ee qq ik] ++ (pS cy a S ++ ([ia cy (hh 1) 7 C]))) sz)) 0 0 (va_A ([sO cy hh a kk dd b w ee qq ik] ++ (pS cy a S ++ ([ia cy (hh 1) 7 C]))) sz) := by
  refine mk_rw (by decide) RX6 rfl (Nat.le_of_ble_eq_true rfl) [(0, .ref (hh 0)), (1, .int x1), (2, .int v)] rfl ?_
  intro p e s m below meth c hx hb hml hown hr hlocks hin hw hsz hA hG hK H0 locs0 hP0 hD0 hS0 ls0 hl0
  clear hin
  have hg20 := wf_g20 wf
  refine lv_aload_n hx hb dX6_shut_0 rfl (lv_at hl0 0 rfl) ?_
  refine va_get (D := D) (ci := 6) (v := .ref (a 0)) (C := RX6) (T := TX6) (N := 9) hx hb hw iX6 hown hK hP0 0 rfl rfl 0 (by decide) (hw _ kw_2_27) (fun _ h9 => h9) rfl dX6_shut_1 ?_
  refine lv_iload_n hx hb dX6_shut_4 rfl (lv_at hl0 1 rfl) ?_
  refine rV_i (wc := pS cy a S) (rest := []) hx hb hml hown hw hG hK hP0 hS0 hA hl0 kc_X1_hasGap kw_2_98 [.int x1] (c_X1_hasGap l D cy G H0.size a S x1) [1, 2, 3, 4, 5, 6, 7, 8, 9, 10] rfl 0 rfl rfl rfl rfl rfl (Nat.le_of_ble_eq_true rfl) ⟨Nat.le_of_ble_eq_true rfl, Nat.le_of_ble_eq_true rfl⟩ dX6_shut_5 ⟨Nat.le_of_ble_eq_true rfl, Nat.le_of_ble_eq_true rfl⟩ (fun r_5 H1 locs1 hr_5 hP1 hS1 => ?_)
  have hD1 := hD0
  clear hP0 hD0 hS0 locs0 H0
  subst hr_5
  refine lb_ne (tgt := 17) hx hb dX6_shut_8 (by decide) (fun c_8 => ?_) (fun c_8 => ?_)
  · obtain ⟨j, hj, rfl⟩ := wf_gap wf c_8
    have hbj : bstN (nI j) = j := bst_n (by omega)
    refine lv_aload_n hx hb dX6_shut_17 rfl (lv_at hl0 0 rfl) ?_
    refine va_get (D := D) (ci := 6) (v := .ref (a 0)) (C := RX6) (T := TX6) (N := 9) hx hb hw iX6 hown hK hP1 0 rfl rfl 0 (by decide) (hw _ kw_2_27) (fun _ h9 => h9) rfl dX6_shut_18 ?_
    refine va_get (D := D) (ci := 1) (v := .ref (a 8)) (C := RX1) (T := TX1) (N := 12) hx hb hw iX1 hown hK hP1 1 rfl rfl 9 (by decide) (hw _ kw_1_59) (fun _ h9 => h9) rfl dX6_shut_21 ?_
    refine lv_iload_n hx hb dX6_shut_24 rfl (lv_at hl0 1 rfl) ?_
    refine ald_z (f := fun g => S (16 + 8 * g)) hx hb hK hP1 9 2 rfl rfl j rfl (by first | omega | assumption) (by decide) dX6_shut_25 ?_
    refine lv_istore_n (lv' := [(3, .int (S (16 + 8 * j))), (0, .ref (hh 0)), (1, .int (nI j)), (2, .int v)]) hx hb dX6_shut_26 rfl hl0 (by decide) rfl (fun ls1 hl1 => ?_)
    clear hl0 ls0
    refine lv_aload_n hx hb dX6_shut_27 rfl (lv_at hl1 1 rfl) ?_
    refine va_get (D := D) (ci := 6) (v := .ref (a 0)) (C := RX6) (T := TX6) (N := 9) hx hb hw iX6 hown hK hP1 0 rfl rfl 0 (by decide) (hw _ kw_2_27) (fun _ h9 => h9) rfl dX6_shut_28 ?_
    refine va_get (D := D) (ci := 1) (v := .ref (a 8)) (C := RX1) (T := TX1) (N := 12) hx hb hw iX1 hown hK hP1 1 rfl rfl 9 (by decide) (hw _ kw_1_59) (fun _ h9 => h9) rfl dX6_shut_31 ?_
    refine lv_iload_n hx hb dX6_shut_34 rfl (lv_at hl1 2 rfl) ?_
    refine lv_iload_n hx hb dX6_shut_35 rfl (lv_at hl1 3 rfl) ?_
    refine ast_z (f := fun g => S (16 + 8 * g)) (ws' := [sO cy hh a kk dd b w ee qq ik] ++ (pS cy a (upd S (16 + 8 * j) v) ++ ([ia cy (hh 1) 7 C]))) hx hb hK hP1 hD1 hS1 9 2 rfl rfl j rfl (by first | omega | assumption) (by decide) (hv) (congrArg (fun z => [sO cy hh a kk dd b w ee qq ik] ++ (z ++ ([ia cy (hh 1) 7 C]))) (pS_a7 cy a S j v)) dX6_shut_36 (fun H2 locs2 hP2 hD2 hS2 => ?_)
    clear hP1 hD1 hS1 locs1 H1
    refine lv_iload_n hx hb dX6_shut_37 rfl (lv_at hl1 0 rfl) ?_
    refine lv_iload_n hx hb dX6_shut_38 rfl (lv_at hl1 3 rfl) ?_
    refine lv_icmp_ne (tgt := 46) hx hb dX6_shut_39 (by decide) (fun c_39 => ?_) (fun c_39 => ?_)
    · refine lv_iconst (v := 1) hx hb dX6_shut_46 (by decide) ?_
      have hcd : cG S (nI j) = 7 := by unfold cG; clear hx hb hml hown hr hlocks hw hsz hA hG hK hP2 hD2 hS2 hl1; grind
      have hq9 : ([sO cy hh a kk dd b w ee qq ik] ++ (pS cy a (upd S (16 + 8 * j) v) ++ ([ia cy (hh 1) 7 C]))) = ([sO cy hh a kk dd b w ee qq ik] ++ (pS cy a (upd S (16 + 8 * j) v) ++ ([ia cy (hh 1) 7 (fnd C (cG S (nI j)))]))) := congrArg (fun z9 => [sO cy hh a kk dd b w ee qq ik] ++ (pS cy a (upd S (16 + 8 * j) v) ++ ([ia cy (hh 1) 7 z9]))) (show C = (fnd C (cG S (nI j))) from fnd_o hcd)
      replace hP2 := (congrArg (fun z9 => va_P D vwCl z9 _) hq9).mp hP2
      replace hD2 := (congrArg (fun z9 => va_D _ z9) hq9).mp hD2
      clear hq9
      have hq9 : ([sO cy hh a kk dd b w ee qq ik] ++ (pS cy a (upd S (16 + 8 * j) v) ++ ([ia cy (hh 1) 7 (fnd C (cG S (nI j)))]))) = ([sO cy hh a kk dd b w ee qq ik] ++ (pS cy a (if cG S (nI j) = 7 then upd S (16 + 8 * bstN (nI j)) v else S) ++ ([ia cy (hh 1) 7 (fnd C (cG S (nI j)))]))) := congrArg (fun z9 => [sO cy hh a kk dd b w ee qq ik] ++ (pS cy a z9 ++ ([ia cy (hh 1) 7 (fnd C (cG S (nI j)))]))) (show (upd S (16 + 8 * j) v) = (if cG S (nI j) = 7 then upd S (16 + 8 * bstN (nI j)) v else S) from by rw [if_pos hcd, hbj])
      replace hP2 := (congrArg (fun z9 => va_P D vwCl z9 _) hq9).mp hP2
      replace hD2 := (congrArg (fun z9 => va_D _ z9) hq9).mp hD2
      clear hq9
      refine re_i () hx hb hr hlocks hP2 hD2 hS2 dX6_shut_47 ?_
      exact (ans_o hcd (by rw [hbj]; clear hx hb hml hown hr hlocks hw hsz hA hG hK hP2 hD2 hS2 hl1; grind))
    · refine lv_iconst (v := 0) hx hb dX6_shut_42 (by decide) ?_
      refine lv_goto (tgt := 47) hx hb dX6_shut_43 (by decide) ?_
      have hcd : cG S (nI j) = 7 := by unfold cG; clear hx hb hml hown hr hlocks hw hsz hA hG hK hP2 hD2 hS2 hl1; grind
      have hq9 : ([sO cy hh a kk dd b w ee qq ik] ++ (pS cy a (upd S (16 + 8 * j) v) ++ ([ia cy (hh 1) 7 C]))) = ([sO cy hh a kk dd b w ee qq ik] ++ (pS cy a (upd S (16 + 8 * j) v) ++ ([ia cy (hh 1) 7 (fnd C (cG S (nI j)))]))) := congrArg (fun z9 => [sO cy hh a kk dd b w ee qq ik] ++ (pS cy a (upd S (16 + 8 * j) v) ++ ([ia cy (hh 1) 7 z9]))) (show C = (fnd C (cG S (nI j))) from fnd_o hcd)
      replace hP2 := (congrArg (fun z9 => va_P D vwCl z9 _) hq9).mp hP2
      replace hD2 := (congrArg (fun z9 => va_D _ z9) hq9).mp hD2
      clear hq9
      have hq9 : ([sO cy hh a kk dd b w ee qq ik] ++ (pS cy a (upd S (16 + 8 * j) v) ++ ([ia cy (hh 1) 7 (fnd C (cG S (nI j)))]))) = ([sO cy hh a kk dd b w ee qq ik] ++ (pS cy a (if cG S (nI j) = 7 then upd S (16 + 8 * bstN (nI j)) v else S) ++ ([ia cy (hh 1) 7 (fnd C (cG S (nI j)))]))) := congrArg (fun z9 => [sO cy hh a kk dd b w ee qq ik] ++ (pS cy a z9 ++ ([ia cy (hh 1) 7 (fnd C (cG S (nI j)))]))) (show (upd S (16 + 8 * j) v) = (if cG S (nI j) = 7 then upd S (16 + 8 * bstN (nI j)) v else S) from by rw [if_pos hcd, hbj])
      replace hP2 := (congrArg (fun z9 => va_P D vwCl z9 _) hq9).mp hP2
      replace hD2 := (congrArg (fun z9 => va_D _ z9) hq9).mp hD2
      clear hq9
      refine re_i () hx hb hr hlocks hP2 hD2 hS2 dX6_shut_47 ?_
      exact (ans_o hcd (by rw [hbj]; clear hx hb hml hown hr hlocks hw hsz hA hG hK hP2 hD2 hS2 hl1; grind))
  · refine lv_aload_n hx hb dX6_shut_11 rfl (lv_at hl0 0 rfl) ?_
    refine lv_iconst (v := 0) hx hb dX6_shut_12 (by decide) ?_
    refine cV_i (wc := [sO cy hh a kk dd b w ee qq ik, ia cy (hh 1) 7 C]) (wr := pS cy a S) (rest := []) hx hb hml hown hw hG hK hP1 hD1 hS1 hA hl0 kc_X6_find kw_2_59 [.int 0] (c_X6_find l D cy G H1.size hh a kk dd b w ee qq ik C 0 (by first | omega | assumption)) [0, 11] [1, 2, 3, 4, 5, 6, 7, 8, 9, 10] rfl rfl rfl rfl rfl 0 rfl rfl rfl rfl rfl (Nat.le_of_ble_eq_true rfl) ⟨Nat.le_of_ble_eq_true rfl, Nat.le_of_ble_eq_true rfl⟩ dX6_shut_13 ⟨Nat.le_of_ble_eq_true rfl, Nat.le_of_ble_eq_true rfl⟩ (fun r_13 u9 H2 locs2 hu9 hP2 hD2 hS2 => ?_)
    clear hP1 hD1 hS1 locs1 H1
    have hr_13 := hu9
    replace hP2 : va_P D vwCl (pS cy a S ++ ([sO cy hh a kk dd b w ee qq ik, ia cy (hh 1) 7 (upd C 0 (C 0 + 1))])) H2 := hP2
    replace hD2 : va_D (va_A _ sz) (pS cy a S ++ ([sO cy hh a kk dd b w ee qq ik, ia cy (hh 1) 7 (upd C 0 (C 0 + 1))])) := hD2
    replace hP2 := hP2.sub (ws' := [sO cy hh a kk dd b w ee qq ik] ++ (pS cy a S ++ ([ia cy (hh 1) 7 (upd C 0 (C 0 + 1))]))) [10, 0, 1, 2, 3, 4, 5, 6, 7, 8, 9, 11] rfl
    replace hD2 := hD2.sub (ws' := [sO cy hh a kk dd b w ee qq ik] ++ (pS cy a S ++ ([ia cy (hh 1) 7 (upd C 0 (C 0 + 1))]))) [10, 0, 1, 2, 3, 4, 5, 6, 7, 8, 9, 11] (by decide) rfl
    subst hr_13
    have hcd : cG S x1 = 0 := by unfold cG; clear hx hb hml hown hr hlocks hw hsz hA hG hK hP2 hD2 hS2 hl0; grind
    have hq9 : ([sO cy hh a kk dd b w ee qq ik] ++ (pS cy a S ++ ([ia cy (hh 1) 7 (upd C 0 (C 0 + 1))]))) = ([sO cy hh a kk dd b w ee qq ik] ++ (pS cy a S ++ ([ia cy (hh 1) 7 (fnd C (cG S x1))]))) := congrArg (fun z9 => [sO cy hh a kk dd b w ee qq ik] ++ (pS cy a S ++ ([ia cy (hh 1) 7 z9]))) (show (upd C 0 (C 0 + 1)) = (fnd C (cG S x1)) from fnd_f hcd (by decide))
    replace hP2 := (congrArg (fun z9 => va_P D vwCl z9 _) hq9).mp hP2
    replace hD2 := (congrArg (fun z9 => va_D _ z9) hq9).mp hD2
    clear hq9
    have hq9 : ([sO cy hh a kk dd b w ee qq ik] ++ (pS cy a S ++ ([ia cy (hh 1) 7 (fnd C (cG S x1))]))) = ([sO cy hh a kk dd b w ee qq ik] ++ (pS cy a (if cG S x1 = 7 then upd S (16 + 8 * bstN x1) v else S) ++ ([ia cy (hh 1) 7 (fnd C (cG S x1))]))) := congrArg (fun z9 => [sO cy hh a kk dd b w ee qq ik] ++ (pS cy a z9 ++ ([ia cy (hh 1) 7 (fnd C (cG S x1))]))) (show S = (if cG S x1 = 7 then upd S (16 + 8 * bstN x1) v else S) from (if_neg (fun z9 => absurd (hcd.symm.trans z9) (by decide))).symm)
    replace hP2 := (congrArg (fun z9 => va_P D vwCl z9 _) hq9).mp hP2
    replace hD2 := (congrArg (fun z9 => va_D _ z9) hq9).mp hD2
    clear hq9
    refine re_i () hx hb hr hlocks hP2 hD2 hS2 dX6_shut_16 ?_
    exact (ans_f hcd (by decide) rfl)

theorem kc_X7_shut : kV yX7_shut cX7_shut 4 (some .int) 2 := ⟨kw_4_192, kw_4_193, kw_1_8, kw_4_194, by decide, by decide, by decide +kernel⟩
set_option maxHeartbeats 4000000 in
set_option maxRecDepth 100000 in
theorem c_X7_shut (l : Launch) (D : va_G) (cy : Nat → ClassId) (G : Nat → Nat) (sz : Nat) (mm : Nat → Nat) (ik : Int32) (tl : Int32) (fm : Int32) (tz : Int32) (vl : Int32) (iw : Int32) (rm : Int32) (rr : Int32) (om : Int32) (S : Nat → Int32) (C : Nat → Int32) (x1 : Int32) (v : Int32) (wf : wf S) (hv : v = 0 ∨ v = 1) : Met l yX7_shut (wm yX7_shut cX7_shut 4 (some .int)) { frames := 2, cells := 0, slots := 0, locals := 46 } (va_Pc [.ref (mm 0), .int x1, .int v] (pr D (TY cy) G ([mO cy mm ik tl fm tz vl iw rm rr om, ia cy (mm 1) 169 S, ia cy (mm 4) 7 C]) sz)) (va_Qi (fun (r : Int32) (u : Unit) => r = ans (cG S x1) (if S (16 + 8 * bstN x1) = v then 0 else 1)) (fun (u : Unit) t => po D (va_A ([mO cy mm ik tl fm tz vl iw rm rr om, ia cy (mm 1) 169 S, ia cy (mm 4) 7 C]) sz) ([mO cy mm ik tl fm tz vl iw rm rr om, ia cy (mm 1) 169 (if cG S x1 = 7 then upd S (16 + 8 * bstN x1) v else S), ia cy (mm 4) 7 (fnd C (cG S x1))]) t) (va_A ([mO cy mm ik tl fm tz vl iw rm rr om, ia cy (mm 1) 169 S, ia cy (mm 4) 7 C]) sz)) 0 0 (va_A ([mO cy mm ik tl fm tz vl iw rm rr om, ia cy (mm 1) 169 S, ia cy (mm 4) 7 C]) sz) := by
  refine mk_rw (by decide) RX7 rfl (Nat.le_of_ble_eq_true rfl) [(0, .ref (mm 0)), (1, .int x1), (2, .int v)] rfl ?_
  intro p e s m below meth c hx hb hml hown hr hlocks hin hw hsz hA hG hK H0 locs0 hP0 hD0 hS0 ls0 hl0
  clear hin
  have hg20 := wf_g20 wf
  refine lv_aload_n hx hb dX7_shut_0 rfl (lv_at hl0 0 rfl) ?_
  refine lv_iload_n hx hb dX7_shut_1 rfl (lv_at hl0 1 rfl) ?_
  refine rV_i (wc := [mO cy mm ik tl fm tz vl iw rm rr om, ia cy (mm 1) 169 S]) (rest := []) hx hb hml hown hw hG hK hP0 hS0 hA hl0 kc_X7_isGap kw_4_169 [.int x1] (c_X7_isGap l D cy G H0.size mm ik tl fm tz vl iw rm rr om S x1 (by first | omega | assumption)) [0, 1] rfl 0 rfl rfl rfl rfl rfl (Nat.le_of_ble_eq_true rfl) ⟨Nat.le_of_ble_eq_true rfl, Nat.le_of_ble_eq_true rfl⟩ dX7_shut_2 ⟨Nat.le_of_ble_eq_true rfl, Nat.le_of_ble_eq_true rfl⟩ (fun r_2 H1 locs1 hr_2 hP1 hS1 => ?_)
  have hD1 := hD0
  clear hP0 hD0 hS0 locs0 H0
  subst hr_2
  refine lb_ne (tgt := 15) hx hb dX7_shut_5 (by decide) (fun c_5 => ?_) (fun c_5 => ?_)
  · obtain ⟨j, hj, rfl⟩ := wf_gap wf c_5
    have hbj : bstN (nI j) = j := bst_n (by omega)
    refine lv_aload_n hx hb dX7_shut_15 rfl (lv_at hl0 0 rfl) ?_
    refine lv_iload_n hx hb dX7_shut_16 rfl (lv_at hl0 1 rfl) ?_
    refine lv_bipush (v := 7) hx hb dX7_shut_17 (by decide) ?_
    refine rV_i (wc := [mO cy mm ik tl fm tz vl iw rm rr om, ia cy (mm 1) 169 S]) (rest := []) hx hb hml hown hw hG hK hP1 hS1 hA hl0 kc_X7_has kw_4_174 [.int (nI j), .int 7] (c_X7_has l D cy G H1.size mm ik tl fm tz vl iw rm rr om S j 7 (by first | omega | assumption) (by first | omega | assumption)) [0, 1] rfl 0 rfl rfl rfl rfl rfl (Nat.le_of_ble_eq_true rfl) ⟨Nat.le_of_ble_eq_true rfl, Nat.le_of_ble_eq_true rfl⟩ dX7_shut_19 ⟨Nat.le_of_ble_eq_true rfl, Nat.le_of_ble_eq_true rfl⟩ (fun r_19 H2 locs2 hr_19 hP2 hS2 => ?_)
    have hD2 := hD1
    clear hP1 hD1 hS1 locs1 H1
    subst hr_19
    refine tp (show (S (9 + 8 * j + 7)) = S (16 + 8 * j) from congrArg _ (by omega)) ?_
    refine lv_istore_n (lv' := [(3, .int (S (16 + 8 * j))), (0, .ref (mm 0)), (1, .int (nI j)), (2, .int v)]) hx hb dX7_shut_22 rfl hl0 (by decide) rfl (fun ls1 hl1 => ?_)
    clear hl0 ls0
    refine lv_aload_n hx hb dX7_shut_23 rfl (lv_at hl1 1 rfl) ?_
    refine va_get (D := D) (ci := 7) (v := .ref (mm 1)) (C := RX7) (T := TX7) (N := 23) hx hb hw iX7 hown hK hP2 0 rfl rfl 0 (by decide) (hw _ kw_4_64) (fun _ h9 => h9) rfl dX7_shut_24 ?_
    refine lv_bipush (v := 9) hx hb dX7_shut_27 (by decide) ?_
    refine lv_bipush (v := 8) hx hb dX7_shut_29 (by decide) ?_
    refine lv_iload_n hx hb dX7_shut_31 rfl (lv_at hl1 2 rfl) ?_
    refine lv_imul hx hb dX7_shut_32 ?_
    refine tp (show (8 * (nI j)) = nI (8 * j) from pk_mul _ _) ?_
    refine lv_iadd hx hb dX7_shut_33 ?_
    refine tp (show (9 + (nI (8 * j))) = nI (9 + 8 * j) from nI_add _ _) ?_
    refine lv_bipush (v := 7) hx hb dX7_shut_34 (by decide) ?_
    refine lv_iadd hx hb dX7_shut_36 ?_
    refine tp (show ((nI (9 + 8 * j)) + 7) = nI (9 + 8 * j + 7) from nI_add _ _) ?_
    refine lv_iload_n hx hb dX7_shut_37 rfl (lv_at hl1 3 rfl) ?_
    refine lv_if_eq (tgt := 45) hx hb dX7_shut_38 (by decide) (fun c_38 => ?_) (fun c_38 => ?_)
    · refine lv_iconst (v := 0) hx hb dX7_shut_45 (by decide) ?_
      refine tp (show (0) = v from by clear hx hb hml hown hr hlocks hw hsz hA hG hK hP2 hD2 hS2 hl1; grind) ?_
      refine ast_i (f := S) (ws' := [mO cy mm ik tl fm tz vl iw rm rr om, ia cy (mm 1) 169 (upd S (16 + 8 * j) v), ia cy (mm 4) 7 C]) hx hb hK hP2 hD2 hS2 1 0 rfl rfl (16 + 8 * j) (congrArg nI (by omega)) (by omega) (by decide) rfl dX7_shut_46 (fun H3 locs3 hP3 hD3 hS3 => ?_)
      clear hP2 hD2 hS2 locs2 H2
      refine lv_iload_n hx hb dX7_shut_47 rfl (lv_at hl1 0 rfl) ?_
      refine lv_aload_n hx hb dX7_shut_48 rfl (lv_at hl1 1 rfl) ?_
      refine lv_iload_n hx hb dX7_shut_49 rfl (lv_at hl1 2 rfl) ?_
      refine lv_bipush (v := 7) hx hb dX7_shut_50 (by decide) ?_
      refine rV_i (wc := [mO cy mm ik tl fm tz vl iw rm rr om, ia cy (mm 1) 169 (upd S (16 + 8 * j) v)]) (rest := [.int (S (16 + 8 * j))]) hx hb hml hown hw hG hK hP3 hS3 hA hl1 kc_X7_has kw_4_174 [.int (nI j), .int 7] (c_X7_has l D cy G H3.size mm ik tl fm tz vl iw rm rr om (upd S (16 + 8 * j) v) j 7 (by first | omega | assumption) (by first | omega | assumption)) [0, 1] rfl 0 rfl rfl rfl rfl rfl (Nat.le_of_ble_eq_true rfl) ⟨Nat.le_of_ble_eq_true rfl, Nat.le_of_ble_eq_true rfl⟩ dX7_shut_52 ⟨Nat.le_of_ble_eq_true rfl, Nat.le_of_ble_eq_true rfl⟩ (fun r_52 H4 locs4 hr_52 hP4 hS4 => ?_)
      have hD4 := hD3
      clear hP3 hD3 hS3 locs3 H3
      subst hr_52
      refine tp (show ((upd S (16 + 8 * j) v) (9 + 8 * j + 7)) = (upd S (16 + 8 * j) v) (16 + 8 * j) from congrArg _ (by omega)) ?_
      refine tp (show ((upd S (16 + 8 * j) v) (16 + 8 * j)) = v from upd_s _ _ _) ?_
      refine lv_icmp_ne (tgt := 62) hx hb dX7_shut_55 (by decide) (fun c_55 => ?_) (fun c_55 => ?_)
      · refine lv_iconst (v := 1) hx hb dX7_shut_62 (by decide) ?_
        have hcd : cG S (nI j) = 7 := by unfold cG; clear hx hb hml hown hr hlocks hw hsz hA hG hK hP4 hD4 hS4 hl1; grind
        have hq9 : ([mO cy mm ik tl fm tz vl iw rm rr om, ia cy (mm 1) 169 (upd S (16 + 8 * j) v), ia cy (mm 4) 7 C]) = ([mO cy mm ik tl fm tz vl iw rm rr om, ia cy (mm 1) 169 (upd S (16 + 8 * j) v), ia cy (mm 4) 7 (fnd C (cG S (nI j)))]) := congrArg (fun z9 => [mO cy mm ik tl fm tz vl iw rm rr om, ia cy (mm 1) 169 (upd S (16 + 8 * j) v), ia cy (mm 4) 7 z9]) (show C = (fnd C (cG S (nI j))) from fnd_o hcd)
        replace hP4 := (congrArg (fun z9 => va_P D vwCl z9 _) hq9).mp hP4
        replace hD4 := (congrArg (fun z9 => va_D _ z9) hq9).mp hD4
        clear hq9
        have hq9 : ([mO cy mm ik tl fm tz vl iw rm rr om, ia cy (mm 1) 169 (upd S (16 + 8 * j) v), ia cy (mm 4) 7 (fnd C (cG S (nI j)))]) = ([mO cy mm ik tl fm tz vl iw rm rr om, ia cy (mm 1) 169 (if cG S (nI j) = 7 then upd S (16 + 8 * bstN (nI j)) v else S), ia cy (mm 4) 7 (fnd C (cG S (nI j)))]) := congrArg (fun z9 => [mO cy mm ik tl fm tz vl iw rm rr om, ia cy (mm 1) 169 z9, ia cy (mm 4) 7 (fnd C (cG S (nI j)))]) (show (upd S (16 + 8 * j) v) = (if cG S (nI j) = 7 then upd S (16 + 8 * bstN (nI j)) v else S) from by rw [if_pos hcd, hbj])
        replace hP4 := (congrArg (fun z9 => va_P D vwCl z9 _) hq9).mp hP4
        replace hD4 := (congrArg (fun z9 => va_D _ z9) hq9).mp hD4
        clear hq9
        refine re_i () hx hb hr hlocks hP4 hD4 hS4 dX7_shut_63 ?_
        exact (ans_o hcd (by rw [hbj]; clear hx hb hml hown hr hlocks hw hsz hA hG hK hP4 hD4 hS4 hl1; grind))
      · refine lv_iconst (v := 0) hx hb dX7_shut_58 (by decide) ?_
        refine lv_goto (tgt := 63) hx hb dX7_shut_59 (by decide) ?_
        have hcd : cG S (nI j) = 7 := by unfold cG; clear hx hb hml hown hr hlocks hw hsz hA hG hK hP4 hD4 hS4 hl1; grind
        have hq9 : ([mO cy mm ik tl fm tz vl iw rm rr om, ia cy (mm 1) 169 (upd S (16 + 8 * j) v), ia cy (mm 4) 7 C]) = ([mO cy mm ik tl fm tz vl iw rm rr om, ia cy (mm 1) 169 (upd S (16 + 8 * j) v), ia cy (mm 4) 7 (fnd C (cG S (nI j)))]) := congrArg (fun z9 => [mO cy mm ik tl fm tz vl iw rm rr om, ia cy (mm 1) 169 (upd S (16 + 8 * j) v), ia cy (mm 4) 7 z9]) (show C = (fnd C (cG S (nI j))) from fnd_o hcd)
        replace hP4 := (congrArg (fun z9 => va_P D vwCl z9 _) hq9).mp hP4
        replace hD4 := (congrArg (fun z9 => va_D _ z9) hq9).mp hD4
        clear hq9
        have hq9 : ([mO cy mm ik tl fm tz vl iw rm rr om, ia cy (mm 1) 169 (upd S (16 + 8 * j) v), ia cy (mm 4) 7 (fnd C (cG S (nI j)))]) = ([mO cy mm ik tl fm tz vl iw rm rr om, ia cy (mm 1) 169 (if cG S (nI j) = 7 then upd S (16 + 8 * bstN (nI j)) v else S), ia cy (mm 4) 7 (fnd C (cG S (nI j)))]) := congrArg (fun z9 => [mO cy mm ik tl fm tz vl iw rm rr om, ia cy (mm 1) 169 z9, ia cy (mm 4) 7 (fnd C (cG S (nI j)))]) (show (upd S (16 + 8 * j) v) = (if cG S (nI j) = 7 then upd S (16 + 8 * bstN (nI j)) v else S) from by rw [if_pos hcd, hbj])
        replace hP4 := (congrArg (fun z9 => va_P D vwCl z9 _) hq9).mp hP4
        replace hD4 := (congrArg (fun z9 => va_D _ z9) hq9).mp hD4
        clear hq9
        refine re_i () hx hb hr hlocks hP4 hD4 hS4 dX7_shut_63 ?_
        exact (ans_o hcd (by rw [hbj]; clear hx hb hml hown hr hlocks hw hsz hA hG hK hP4 hD4 hS4 hl1; grind))
    · refine lv_iconst (v := 1) hx hb dX7_shut_41 (by decide) ?_
      refine lv_goto (tgt := 46) hx hb dX7_shut_42 (by decide) ?_
      refine tp (show (1) = v from by clear hx hb hml hown hr hlocks hw hsz hA hG hK hP2 hD2 hS2 hl1; grind) ?_
      refine ast_i (f := S) (ws' := [mO cy mm ik tl fm tz vl iw rm rr om, ia cy (mm 1) 169 (upd S (16 + 8 * j) v), ia cy (mm 4) 7 C]) hx hb hK hP2 hD2 hS2 1 0 rfl rfl (16 + 8 * j) (congrArg nI (by omega)) (by omega) (by decide) rfl dX7_shut_46 (fun H3 locs3 hP3 hD3 hS3 => ?_)
      clear hP2 hD2 hS2 locs2 H2
      refine lv_iload_n hx hb dX7_shut_47 rfl (lv_at hl1 0 rfl) ?_
      refine lv_aload_n hx hb dX7_shut_48 rfl (lv_at hl1 1 rfl) ?_
      refine lv_iload_n hx hb dX7_shut_49 rfl (lv_at hl1 2 rfl) ?_
      refine lv_bipush (v := 7) hx hb dX7_shut_50 (by decide) ?_
      refine rV_i (wc := [mO cy mm ik tl fm tz vl iw rm rr om, ia cy (mm 1) 169 (upd S (16 + 8 * j) v)]) (rest := [.int (S (16 + 8 * j))]) hx hb hml hown hw hG hK hP3 hS3 hA hl1 kc_X7_has kw_4_174 [.int (nI j), .int 7] (c_X7_has l D cy G H3.size mm ik tl fm tz vl iw rm rr om (upd S (16 + 8 * j) v) j 7 (by first | omega | assumption) (by first | omega | assumption)) [0, 1] rfl 0 rfl rfl rfl rfl rfl (Nat.le_of_ble_eq_true rfl) ⟨Nat.le_of_ble_eq_true rfl, Nat.le_of_ble_eq_true rfl⟩ dX7_shut_52 ⟨Nat.le_of_ble_eq_true rfl, Nat.le_of_ble_eq_true rfl⟩ (fun r_52 H4 locs4 hr_52 hP4 hS4 => ?_)
      have hD4 := hD3
      clear hP3 hD3 hS3 locs3 H3
      subst hr_52
      refine tp (show ((upd S (16 + 8 * j) v) (9 + 8 * j + 7)) = (upd S (16 + 8 * j) v) (16 + 8 * j) from congrArg _ (by omega)) ?_
      refine tp (show ((upd S (16 + 8 * j) v) (16 + 8 * j)) = v from upd_s _ _ _) ?_
      refine lv_icmp_ne (tgt := 62) hx hb dX7_shut_55 (by decide) (fun c_55 => ?_) (fun c_55 => ?_)
      · refine lv_iconst (v := 1) hx hb dX7_shut_62 (by decide) ?_
        have hcd : cG S (nI j) = 7 := by unfold cG; clear hx hb hml hown hr hlocks hw hsz hA hG hK hP4 hD4 hS4 hl1; grind
        have hq9 : ([mO cy mm ik tl fm tz vl iw rm rr om, ia cy (mm 1) 169 (upd S (16 + 8 * j) v), ia cy (mm 4) 7 C]) = ([mO cy mm ik tl fm tz vl iw rm rr om, ia cy (mm 1) 169 (upd S (16 + 8 * j) v), ia cy (mm 4) 7 (fnd C (cG S (nI j)))]) := congrArg (fun z9 => [mO cy mm ik tl fm tz vl iw rm rr om, ia cy (mm 1) 169 (upd S (16 + 8 * j) v), ia cy (mm 4) 7 z9]) (show C = (fnd C (cG S (nI j))) from fnd_o hcd)
        replace hP4 := (congrArg (fun z9 => va_P D vwCl z9 _) hq9).mp hP4
        replace hD4 := (congrArg (fun z9 => va_D _ z9) hq9).mp hD4
        clear hq9
        have hq9 : ([mO cy mm ik tl fm tz vl iw rm rr om, ia cy (mm 1) 169 (upd S (16 + 8 * j) v), ia cy (mm 4) 7 (fnd C (cG S (nI j)))]) = ([mO cy mm ik tl fm tz vl iw rm rr om, ia cy (mm 1) 169 (if cG S (nI j) = 7 then upd S (16 + 8 * bstN (nI j)) v else S), ia cy (mm 4) 7 (fnd C (cG S (nI j)))]) := congrArg (fun z9 => [mO cy mm ik tl fm tz vl iw rm rr om, ia cy (mm 1) 169 z9, ia cy (mm 4) 7 (fnd C (cG S (nI j)))]) (show (upd S (16 + 8 * j) v) = (if cG S (nI j) = 7 then upd S (16 + 8 * bstN (nI j)) v else S) from by rw [if_pos hcd, hbj])
        replace hP4 := (congrArg (fun z9 => va_P D vwCl z9 _) hq9).mp hP4
        replace hD4 := (congrArg (fun z9 => va_D _ z9) hq9).mp hD4
        clear hq9
        refine re_i () hx hb hr hlocks hP4 hD4 hS4 dX7_shut_63 ?_
        exact (ans_o hcd (by rw [hbj]; clear hx hb hml hown hr hlocks hw hsz hA hG hK hP4 hD4 hS4 hl1; grind))
      · refine lv_iconst (v := 0) hx hb dX7_shut_58 (by decide) ?_
        refine lv_goto (tgt := 63) hx hb dX7_shut_59 (by decide) ?_
        have hcd : cG S (nI j) = 7 := by unfold cG; clear hx hb hml hown hr hlocks hw hsz hA hG hK hP4 hD4 hS4 hl1; grind
        have hq9 : ([mO cy mm ik tl fm tz vl iw rm rr om, ia cy (mm 1) 169 (upd S (16 + 8 * j) v), ia cy (mm 4) 7 C]) = ([mO cy mm ik tl fm tz vl iw rm rr om, ia cy (mm 1) 169 (upd S (16 + 8 * j) v), ia cy (mm 4) 7 (fnd C (cG S (nI j)))]) := congrArg (fun z9 => [mO cy mm ik tl fm tz vl iw rm rr om, ia cy (mm 1) 169 (upd S (16 + 8 * j) v), ia cy (mm 4) 7 z9]) (show C = (fnd C (cG S (nI j))) from fnd_o hcd)
        replace hP4 := (congrArg (fun z9 => va_P D vwCl z9 _) hq9).mp hP4
        replace hD4 := (congrArg (fun z9 => va_D _ z9) hq9).mp hD4
        clear hq9
        have hq9 : ([mO cy mm ik tl fm tz vl iw rm rr om, ia cy (mm 1) 169 (upd S (16 + 8 * j) v), ia cy (mm 4) 7 (fnd C (cG S (nI j)))]) = ([mO cy mm ik tl fm tz vl iw rm rr om, ia cy (mm 1) 169 (if cG S (nI j) = 7 then upd S (16 + 8 * bstN (nI j)) v else S), ia cy (mm 4) 7 (fnd C (cG S (nI j)))]) := congrArg (fun z9 => [mO cy mm ik tl fm tz vl iw rm rr om, ia cy (mm 1) 169 z9, ia cy (mm 4) 7 (fnd C (cG S (nI j)))]) (show (upd S (16 + 8 * j) v) = (if cG S (nI j) = 7 then upd S (16 + 8 * bstN (nI j)) v else S) from by rw [if_pos hcd, hbj])
        replace hP4 := (congrArg (fun z9 => va_P D vwCl z9 _) hq9).mp hP4
        replace hD4 := (congrArg (fun z9 => va_D _ z9) hq9).mp hD4
        clear hq9
        refine re_i () hx hb hr hlocks hP4 hD4 hS4 dX7_shut_63 ?_
        exact (ans_o hcd (by rw [hbj]; clear hx hb hml hown hr hlocks hw hsz hA hG hK hP4 hD4 hS4 hl1; grind))
  · refine lv_aload_n hx hb dX7_shut_8 rfl (lv_at hl0 0 rfl) ?_
    refine lv_ldc (v := (-1000000001)) hx hb hown (hw _ kw_4_143) dX7_shut_9 ?_
    refine cV_i (wc := [mO cy mm ik tl fm tz vl iw rm rr om, ia cy (mm 4) 7 C]) (wr := [ia cy (mm 1) 169 S]) (rest := []) hx hb hml hown hw hG hK hP1 hD1 hS1 hA hl0 kc_X7_finds kw_4_139 [.int (-1000000001)] (c_X7_finds l D cy G H1.size mm ik tl fm tz vl iw rm rr om C 0 (-1000000001) (by decide) (by decide)) [0, 2] [1] rfl rfl rfl rfl rfl 0 rfl rfl rfl rfl rfl (Nat.le_of_ble_eq_true rfl) ⟨Nat.le_of_ble_eq_true rfl, Nat.le_of_ble_eq_true rfl⟩ dX7_shut_11 ⟨Nat.le_of_ble_eq_true rfl, Nat.le_of_ble_eq_true rfl⟩ (fun r_11 u9 H2 locs2 hu9 hP2 hD2 hS2 => ?_)
    clear hP1 hD1 hS1 locs1 H1
    have hr_11 := hu9
    replace hP2 : va_P D vwCl ([ia cy (mm 1) 169 S, mO cy mm ik tl fm tz vl iw rm rr om, ia cy (mm 4) 7 (upd C 0 (C 0 + 1))]) H2 := hP2
    replace hD2 : va_D (va_A _ sz) ([ia cy (mm 1) 169 S, mO cy mm ik tl fm tz vl iw rm rr om, ia cy (mm 4) 7 (upd C 0 (C 0 + 1))]) := hD2
    replace hP2 := hP2.sub (ws' := [mO cy mm ik tl fm tz vl iw rm rr om, ia cy (mm 1) 169 S, ia cy (mm 4) 7 (upd C 0 (C 0 + 1))]) [1, 0, 2] rfl
    replace hD2 := hD2.sub (ws' := [mO cy mm ik tl fm tz vl iw rm rr om, ia cy (mm 1) 169 S, ia cy (mm 4) 7 (upd C 0 (C 0 + 1))]) [1, 0, 2] (by decide) rfl
    subst hr_11
    have hcd : cG S x1 = 0 := by unfold cG; clear hx hb hml hown hr hlocks hw hsz hA hG hK hP2 hD2 hS2 hl0; grind
    have hq9 : ([mO cy mm ik tl fm tz vl iw rm rr om, ia cy (mm 1) 169 S, ia cy (mm 4) 7 (upd C 0 (C 0 + 1))]) = ([mO cy mm ik tl fm tz vl iw rm rr om, ia cy (mm 1) 169 S, ia cy (mm 4) 7 (fnd C (cG S x1))]) := congrArg (fun z9 => [mO cy mm ik tl fm tz vl iw rm rr om, ia cy (mm 1) 169 S, ia cy (mm 4) 7 z9]) (show (upd C 0 (C 0 + 1)) = (fnd C (cG S x1)) from fnd_f hcd (by decide))
    replace hP2 := (congrArg (fun z9 => va_P D vwCl z9 _) hq9).mp hP2
    replace hD2 := (congrArg (fun z9 => va_D _ z9) hq9).mp hD2
    clear hq9
    have hq9 : ([mO cy mm ik tl fm tz vl iw rm rr om, ia cy (mm 1) 169 S, ia cy (mm 4) 7 (fnd C (cG S x1))]) = ([mO cy mm ik tl fm tz vl iw rm rr om, ia cy (mm 1) 169 (if cG S x1 = 7 then upd S (16 + 8 * bstN x1) v else S), ia cy (mm 4) 7 (fnd C (cG S x1))]) := congrArg (fun z9 => [mO cy mm ik tl fm tz vl iw rm rr om, ia cy (mm 1) 169 z9, ia cy (mm 4) 7 (fnd C (cG S x1))]) (show S = (if cG S x1 = 7 then upd S (16 + 8 * bstN x1) v else S) from (if_neg (fun z9 => absurd (hcd.symm.trans z9) (by decide))).symm)
    replace hP2 := (congrArg (fun z9 => va_P D vwCl z9 _) hq9).mp hP2
    replace hD2 := (congrArg (fun z9 => va_D _ z9) hq9).mp hD2
    clear hq9
    refine re_i () hx hb hr hlocks hP2 hD2 hS2 dX7_shut_14 ?_
    exact (ans_f hcd (by decide) rfl)

theorem kc_X6_as : kV yX6_as cX6_as 3 (some .int) 2 := ⟨kw_2_124, kw_2_125, kw_1_1, kw_2_126, by decide, by decide, by decide +kernel⟩
set_option maxHeartbeats 4000000 in
set_option maxRecDepth 100000 in
theorem c_X6_as (l : Launch) (D : va_G) (cy : Nat → ClassId) (G : Nat → Nat) (sz : Nat) (hh : Nat → Nat) (a : Nat → Nat) (kk : Nat → Nat) (dd : Nat → Nat) (b : Nat → Nat) (w : Nat → Nat) (ee : Nat → Nat) (qq : Nat → Nat) (ik : Int32) (S : Nat → Int32) (C : Nat → Int32) (x1 : Int32) (x2 : Int32) (wf : wf S) : Met l yX6_as (wm yX6_as cX6_as 3 (some .int)) { frames := 2, cells := 0, slots := 0, locals := 43 } (va_Pc [.ref (hh 0), .int x1, .int x2] (pr D (TY cy) G ([sO cy hh a kk dd b w ee qq ik] ++ (pS cy a S ++ ([ia cy (hh 1) 7 C]))) sz)) (va_Qi (fun (r : Int32) (u : Unit) => r = ans (cAs S x1 x2) (breadth S (bstN x1))) (fun (u : Unit) t => po D (va_A ([sO cy hh a kk dd b w ee qq ik] ++ (pS cy a S ++ ([ia cy (hh 1) 7 C]))) sz) ([sO cy hh a kk dd b w ee qq ik] ++ (pS cy a S ++ ([ia cy (hh 1) 7 (fnd C (cAs S x1 x2))]))) t) (va_A ([sO cy hh a kk dd b w ee qq ik] ++ (pS cy a S ++ ([ia cy (hh 1) 7 C]))) sz)) 0 0 (va_A ([sO cy hh a kk dd b w ee qq ik] ++ (pS cy a S ++ ([ia cy (hh 1) 7 C]))) sz) := by
  refine mk_rw (by decide) RX6 rfl (Nat.le_of_ble_eq_true rfl) [(0, .ref (hh 0)), (1, .int x1), (2, .int x2)] rfl ?_
  intro p e s m below meth c hx hb hml hown hr hlocks hin hw hsz hA hG hK H0 locs0 hP0 hD0 hS0 ls0 hl0
  clear hin
  have hg20 := wf_g20 wf
  refine lv_aload_n hx hb dX6_as_0 rfl (lv_at hl0 0 rfl) ?_
  refine va_get (D := D) (ci := 6) (v := .ref (a 0)) (C := RX6) (T := TX6) (N := 9) hx hb hw iX6 hown hK hP0 0 rfl rfl 0 (by decide) (hw _ kw_2_27) (fun _ h9 => h9) rfl dX6_as_1 ?_
  refine lv_iload_n hx hb dX6_as_4 rfl (lv_at hl0 1 rfl) ?_
  refine rV_i (wc := pS cy a S) (rest := []) hx hb hml hown hw hG hK hP0 hS0 hA hl0 kc_X1_hasGap kw_2_98 [.int x1] (c_X1_hasGap l D cy G H0.size a S x1) [1, 2, 3, 4, 5, 6, 7, 8, 9, 10] rfl 0 rfl rfl rfl rfl rfl (Nat.le_of_ble_eq_true rfl) ⟨Nat.le_of_ble_eq_true rfl, Nat.le_of_ble_eq_true rfl⟩ dX6_as_5 ⟨Nat.le_of_ble_eq_true rfl, Nat.le_of_ble_eq_true rfl⟩ (fun r_5 H1 locs1 hr_5 hP1 hS1 => ?_)
  have hD1 := hD0
  clear hP0 hD0 hS0 locs0 H0
  subst hr_5
  refine lb_eq (tgt := 18) hx hb dX6_as_8 (by decide) (fun c_8 => ?_) (fun c_8 => ?_)
  · refine lv_aload_n hx hb dX6_as_18 rfl (lv_at hl0 0 rfl) ?_
    refine lv_iconst (v := 0) hx hb dX6_as_19 (by decide) ?_
    refine cV_i (wc := [sO cy hh a kk dd b w ee qq ik, ia cy (hh 1) 7 C]) (wr := pS cy a S) (rest := []) hx hb hml hown hw hG hK hP1 hD1 hS1 hA hl0 kc_X6_find kw_2_59 [.int 0] (c_X6_find l D cy G H1.size hh a kk dd b w ee qq ik C 0 (by first | omega | assumption)) [0, 11] [1, 2, 3, 4, 5, 6, 7, 8, 9, 10] rfl rfl rfl rfl rfl 0 rfl rfl rfl rfl rfl (Nat.le_of_ble_eq_true rfl) ⟨Nat.le_of_ble_eq_true rfl, Nat.le_of_ble_eq_true rfl⟩ dX6_as_20 ⟨Nat.le_of_ble_eq_true rfl, Nat.le_of_ble_eq_true rfl⟩ (fun r_20 u9 H2 locs2 hu9 hP2 hD2 hS2 => ?_)
    clear hP1 hD1 hS1 locs1 H1
    have hr_20 := hu9
    replace hP2 : va_P D vwCl (pS cy a S ++ ([sO cy hh a kk dd b w ee qq ik, ia cy (hh 1) 7 (upd C 0 (C 0 + 1))])) H2 := hP2
    replace hD2 : va_D (va_A _ sz) (pS cy a S ++ ([sO cy hh a kk dd b w ee qq ik, ia cy (hh 1) 7 (upd C 0 (C 0 + 1))])) := hD2
    replace hP2 := hP2.sub (ws' := [sO cy hh a kk dd b w ee qq ik] ++ (pS cy a S ++ ([ia cy (hh 1) 7 (upd C 0 (C 0 + 1))]))) [10, 0, 1, 2, 3, 4, 5, 6, 7, 8, 9, 11] rfl
    replace hD2 := hD2.sub (ws' := [sO cy hh a kk dd b w ee qq ik] ++ (pS cy a S ++ ([ia cy (hh 1) 7 (upd C 0 (C 0 + 1))]))) [10, 0, 1, 2, 3, 4, 5, 6, 7, 8, 9, 11] (by decide) rfl
    subst hr_20
    have hcd : cAs S x1 x2 = 0 := by unfold cAs; clear hx hb hml hown hr hlocks hw hsz hA hG hK hP2 hD2 hS2 hl0; grind
    have hq9 : ([sO cy hh a kk dd b w ee qq ik] ++ (pS cy a S ++ ([ia cy (hh 1) 7 (upd C 0 (C 0 + 1))]))) = ([sO cy hh a kk dd b w ee qq ik] ++ (pS cy a S ++ ([ia cy (hh 1) 7 (fnd C (cAs S x1 x2))]))) := congrArg (fun z9 => [sO cy hh a kk dd b w ee qq ik] ++ (pS cy a S ++ ([ia cy (hh 1) 7 z9]))) (show (upd C 0 (C 0 + 1)) = (fnd C (cAs S x1 x2)) from fnd_f hcd (by decide))
    replace hP2 := (congrArg (fun z9 => va_P D vwCl z9 _) hq9).mp hP2
    replace hD2 := (congrArg (fun z9 => va_D _ z9) hq9).mp hD2
    clear hq9
    refine re_i () hx hb hr hlocks hP2 hD2 hS2 dX6_as_23 ?_
    exact (ans_f hcd (by decide) rfl)
  · refine lv_iload_n hx hb dX6_as_11 rfl (lv_at hl0 2 rfl) ?_
    refine rT_i (wc := []) (rest := []) hx hb hml hown hw hG hK hP1 hS1 hA hl0 kc_X6_isKind kw_2_72 [.int x2] (c_X6_isKind l D cy G H1.size x2) [] rfl rfl rfl (Nat.le_of_ble_eq_true rfl) ⟨Nat.le_of_ble_eq_true rfl, Nat.le_of_ble_eq_true rfl⟩ dX6_as_12 ⟨Nat.le_of_ble_eq_true rfl, Nat.le_of_ble_eq_true rfl⟩ (fun r_12 H2 locs2 hr_12 hP2 hS2 => ?_)
    have hD2 := hD1
    clear hP1 hD1 hS1 locs1 H1
    subst hr_12
    refine lb_ne (tgt := 24) hx hb dX6_as_15 (by decide) (fun c_15 => ?_) (fun c_15 => ?_)
    · obtain ⟨j, hj, rfl⟩ := wf_gap wf c_8
      have hbj : bstN (nI j) = j := bst_n (by omega)
      refine lv_aload_n hx hb dX6_as_24 rfl (lv_at hl0 0 rfl) ?_
      refine va_get (D := D) (ci := 6) (v := .ref (a 0)) (C := RX6) (T := TX6) (N := 9) hx hb hw iX6 hown hK hP2 0 rfl rfl 0 (by decide) (hw _ kw_2_27) (fun _ h9 => h9) rfl dX6_as_25 ?_
      refine va_get (D := D) (ci := 1) (v := .ref (a 1)) (C := RX1) (T := TX1) (N := 12) hx hb hw iX1 hown hK hP2 1 rfl rfl 2 (by decide) (hw _ kw_1_40) (fun _ h9 => h9) rfl dX6_as_28 ?_
      refine lv_iload_n hx hb dX6_as_31 rfl (lv_at hl0 1 rfl) ?_
      refine ald_i (f := fun g => S (9 + 8 * g)) hx hb hK hP2 2 0 rfl rfl j rfl (by first | omega | assumption) (by decide) dX6_as_32 ?_
      refine lv_iload_n hx hb dX6_as_33 rfl (lv_at hl0 2 rfl) ?_
      refine rT_i (wc := []) (rest := []) hx hb hml hown hw hG hK hP2 hS2 hA hl0 kc_X6_isUnder kw_2_127 [.int (S (9 + 8 * j)), .int x2] (c_X6_isUnder l D cy G H2.size (S (9 + 8 * j)) x2) [] rfl rfl rfl (Nat.le_of_ble_eq_true rfl) ⟨Nat.le_of_ble_eq_true rfl, Nat.le_of_ble_eq_true rfl⟩ dX6_as_34 ⟨Nat.le_of_ble_eq_true rfl, Nat.le_of_ble_eq_true rfl⟩ (fun r_34 H3 locs3 hr_34 hP3 hS3 => ?_)
      have hD3 := hD2
      clear hP2 hD2 hS2 locs2 H2
      subst hr_34
      refine lb_ne (tgt := 46) hx hb dX6_as_37 (by decide) (fun c_37 => ?_) (fun c_37 => ?_)
      · refine lv_aload_n hx hb dX6_as_46 rfl (lv_at hl0 0 rfl) ?_
        refine va_get (D := D) (ci := 6) (v := .ref (a 0)) (C := RX6) (T := TX6) (N := 9) hx hb hw iX6 hown hK hP3 0 rfl rfl 0 (by decide) (hw _ kw_2_27) (fun _ h9 => h9) rfl dX6_as_47 ?_
        refine lv_iload_n hx hb dX6_as_50 rfl (lv_at hl0 1 rfl) ?_
        refine rV_i (wc := pS cy a S) (rest := []) hx hb hml hown hw hG hK hP3 hS3 hA hl0 kc_X1_breadthOf kw_2_99 [.int (nI j)] (c_X1_breadthOf l D cy G H3.size a S j (by first | omega | assumption)) [1, 2, 3, 4, 5, 6, 7, 8, 9, 10] rfl 0 rfl rfl rfl rfl rfl (Nat.le_of_ble_eq_true rfl) ⟨Nat.le_of_ble_eq_true rfl, Nat.le_of_ble_eq_true rfl⟩ dX6_as_51 ⟨Nat.le_of_ble_eq_true rfl, Nat.le_of_ble_eq_true rfl⟩ (fun r_51 H4 locs4 hr_51 hP4 hS4 => ?_)
        have hD4 := hD3
        clear hP3 hD3 hS3 locs3 H3
        subst hr_51
        have hcd : cAs S (nI j) x2 = 7 := by unfold cAs; rw [hbj]; clear hx hb hml hown hr hlocks hw hsz hA hG hK hP4 hD4 hS4 hl0; grind
        have hq9 : ([sO cy hh a kk dd b w ee qq ik] ++ (pS cy a S ++ ([ia cy (hh 1) 7 C]))) = ([sO cy hh a kk dd b w ee qq ik] ++ (pS cy a S ++ ([ia cy (hh 1) 7 (fnd C (cAs S (nI j) x2))]))) := congrArg (fun z9 => [sO cy hh a kk dd b w ee qq ik] ++ (pS cy a S ++ ([ia cy (hh 1) 7 z9]))) (show C = (fnd C (cAs S (nI j) x2)) from fnd_o hcd)
        replace hP4 := (congrArg (fun z9 => va_P D vwCl z9 _) hq9).mp hP4
        replace hD4 := (congrArg (fun z9 => va_D _ z9) hq9).mp hD4
        clear hq9
        refine re_i () hx hb hr hlocks hP4 hD4 hS4 dX6_as_54 ?_
        exact (ans_o hcd (by rw [hbj]))
      · refine lv_aload_n hx hb dX6_as_40 rfl (lv_at hl0 0 rfl) ?_
        refine lv_iconst (v := 2) hx hb dX6_as_41 (by decide) ?_
        refine cV_i (wc := [sO cy hh a kk dd b w ee qq ik, ia cy (hh 1) 7 C]) (wr := pS cy a S) (rest := []) hx hb hml hown hw hG hK hP3 hD3 hS3 hA hl0 kc_X6_find kw_2_59 [.int 2] (c_X6_find l D cy G H3.size hh a kk dd b w ee qq ik C 2 (by first | omega | assumption)) [0, 11] [1, 2, 3, 4, 5, 6, 7, 8, 9, 10] rfl rfl rfl rfl rfl 0 rfl rfl rfl rfl rfl (Nat.le_of_ble_eq_true rfl) ⟨Nat.le_of_ble_eq_true rfl, Nat.le_of_ble_eq_true rfl⟩ dX6_as_42 ⟨Nat.le_of_ble_eq_true rfl, Nat.le_of_ble_eq_true rfl⟩ (fun r_42 u9 H4 locs4 hu9 hP4 hD4 hS4 => ?_)
        clear hP3 hD3 hS3 locs3 H3
        have hr_42 := hu9
        replace hP4 : va_P D vwCl (pS cy a S ++ ([sO cy hh a kk dd b w ee qq ik, ia cy (hh 1) 7 (upd C 2 (C 2 + 1))])) H4 := hP4
        replace hD4 : va_D (va_A _ sz) (pS cy a S ++ ([sO cy hh a kk dd b w ee qq ik, ia cy (hh 1) 7 (upd C 2 (C 2 + 1))])) := hD4
        replace hP4 := hP4.sub (ws' := [sO cy hh a kk dd b w ee qq ik] ++ (pS cy a S ++ ([ia cy (hh 1) 7 (upd C 2 (C 2 + 1))]))) [10, 0, 1, 2, 3, 4, 5, 6, 7, 8, 9, 11] rfl
        replace hD4 := hD4.sub (ws' := [sO cy hh a kk dd b w ee qq ik] ++ (pS cy a S ++ ([ia cy (hh 1) 7 (upd C 2 (C 2 + 1))]))) [10, 0, 1, 2, 3, 4, 5, 6, 7, 8, 9, 11] (by decide) rfl
        subst hr_42
        have hcd : cAs S (nI j) x2 = 2 := by unfold cAs; rw [hbj]; clear hx hb hml hown hr hlocks hw hsz hA hG hK hP4 hD4 hS4 hl0; grind
        have hq9 : ([sO cy hh a kk dd b w ee qq ik] ++ (pS cy a S ++ ([ia cy (hh 1) 7 (upd C 2 (C 2 + 1))]))) = ([sO cy hh a kk dd b w ee qq ik] ++ (pS cy a S ++ ([ia cy (hh 1) 7 (fnd C (cAs S (nI j) x2))]))) := congrArg (fun z9 => [sO cy hh a kk dd b w ee qq ik] ++ (pS cy a S ++ ([ia cy (hh 1) 7 z9]))) (show (upd C 2 (C 2 + 1)) = (fnd C (cAs S (nI j) x2)) from fnd_f hcd (by decide))
        replace hP4 := (congrArg (fun z9 => va_P D vwCl z9 _) hq9).mp hP4
        replace hD4 := (congrArg (fun z9 => va_D _ z9) hq9).mp hD4
        clear hq9
        refine re_i () hx hb hr hlocks hP4 hD4 hS4 dX6_as_45 ?_
        exact (ans_f hcd (by decide) rfl)
    · refine lv_aload_n hx hb dX6_as_18 rfl (lv_at hl0 0 rfl) ?_
      refine lv_iconst (v := 0) hx hb dX6_as_19 (by decide) ?_
      refine cV_i (wc := [sO cy hh a kk dd b w ee qq ik, ia cy (hh 1) 7 C]) (wr := pS cy a S) (rest := []) hx hb hml hown hw hG hK hP2 hD2 hS2 hA hl0 kc_X6_find kw_2_59 [.int 0] (c_X6_find l D cy G H2.size hh a kk dd b w ee qq ik C 0 (by first | omega | assumption)) [0, 11] [1, 2, 3, 4, 5, 6, 7, 8, 9, 10] rfl rfl rfl rfl rfl 0 rfl rfl rfl rfl rfl (Nat.le_of_ble_eq_true rfl) ⟨Nat.le_of_ble_eq_true rfl, Nat.le_of_ble_eq_true rfl⟩ dX6_as_20 ⟨Nat.le_of_ble_eq_true rfl, Nat.le_of_ble_eq_true rfl⟩ (fun r_20 u9 H3 locs3 hu9 hP3 hD3 hS3 => ?_)
      clear hP2 hD2 hS2 locs2 H2
      have hr_20 := hu9
      replace hP3 : va_P D vwCl (pS cy a S ++ ([sO cy hh a kk dd b w ee qq ik, ia cy (hh 1) 7 (upd C 0 (C 0 + 1))])) H3 := hP3
      replace hD3 : va_D (va_A _ sz) (pS cy a S ++ ([sO cy hh a kk dd b w ee qq ik, ia cy (hh 1) 7 (upd C 0 (C 0 + 1))])) := hD3
      replace hP3 := hP3.sub (ws' := [sO cy hh a kk dd b w ee qq ik] ++ (pS cy a S ++ ([ia cy (hh 1) 7 (upd C 0 (C 0 + 1))]))) [10, 0, 1, 2, 3, 4, 5, 6, 7, 8, 9, 11] rfl
      replace hD3 := hD3.sub (ws' := [sO cy hh a kk dd b w ee qq ik] ++ (pS cy a S ++ ([ia cy (hh 1) 7 (upd C 0 (C 0 + 1))]))) [10, 0, 1, 2, 3, 4, 5, 6, 7, 8, 9, 11] (by decide) rfl
      subst hr_20
      have hcd : cAs S x1 x2 = 0 := by unfold cAs; clear hx hb hml hown hr hlocks hw hsz hA hG hK hP3 hD3 hS3 hl0; grind
      have hq9 : ([sO cy hh a kk dd b w ee qq ik] ++ (pS cy a S ++ ([ia cy (hh 1) 7 (upd C 0 (C 0 + 1))]))) = ([sO cy hh a kk dd b w ee qq ik] ++ (pS cy a S ++ ([ia cy (hh 1) 7 (fnd C (cAs S x1 x2))]))) := congrArg (fun z9 => [sO cy hh a kk dd b w ee qq ik] ++ (pS cy a S ++ ([ia cy (hh 1) 7 z9]))) (show (upd C 0 (C 0 + 1)) = (fnd C (cAs S x1 x2)) from fnd_f hcd (by decide))
      replace hP3 := (congrArg (fun z9 => va_P D vwCl z9 _) hq9).mp hP3
      replace hD3 := (congrArg (fun z9 => va_D _ z9) hq9).mp hD3
      clear hq9
      refine re_i () hx hb hr hlocks hP3 hD3 hS3 dX6_as_23 ?_
      exact (ans_f hcd (by decide) rfl)

theorem kc_X7_as : kV yX7_as cX7_as 4 (some .int) 2 := ⟨kw_4_196, kw_4_197, kw_1_8, kw_4_198, by decide, by decide, by decide +kernel⟩
set_option maxHeartbeats 4000000 in
set_option maxRecDepth 100000 in
theorem c_X7_as (l : Launch) (D : va_G) (cy : Nat → ClassId) (G : Nat → Nat) (sz : Nat) (mm : Nat → Nat) (ik : Int32) (tl : Int32) (fm : Int32) (tz : Int32) (vl : Int32) (iw : Int32) (rm : Int32) (rr : Int32) (om : Int32) (S : Nat → Int32) (C : Nat → Int32) (x1 : Int32) (x2 : Int32) (wf : wf S) : Met l yX7_as (wm yX7_as cX7_as 4 (some .int)) { frames := 2, cells := 0, slots := 0, locals := 46 } (va_Pc [.ref (mm 0), .int x1, .int x2] (pr D (TY cy) G ([mO cy mm ik tl fm tz vl iw rm rr om, ia cy (mm 1) 169 S, ia cy (mm 4) 7 C]) sz)) (va_Qi (fun (r : Int32) (u : Unit) => r = ans (cAs S x1 x2) (breadth S (bstN x1))) (fun (u : Unit) t => po D (va_A ([mO cy mm ik tl fm tz vl iw rm rr om, ia cy (mm 1) 169 S, ia cy (mm 4) 7 C]) sz) ([mO cy mm ik tl fm tz vl iw rm rr om, ia cy (mm 1) 169 S, ia cy (mm 4) 7 (fnd C (cAs S x1 x2))]) t) (va_A ([mO cy mm ik tl fm tz vl iw rm rr om, ia cy (mm 1) 169 S, ia cy (mm 4) 7 C]) sz)) 0 0 (va_A ([mO cy mm ik tl fm tz vl iw rm rr om, ia cy (mm 1) 169 S, ia cy (mm 4) 7 C]) sz) := by
  refine mk_rw (by decide) RX7 rfl (Nat.le_of_ble_eq_true rfl) [(0, .ref (mm 0)), (1, .int x1), (2, .int x2)] rfl ?_
  intro p e s m below meth c hx hb hml hown hr hlocks hin hw hsz hA hG hK H0 locs0 hP0 hD0 hS0 ls0 hl0
  clear hin
  have hg20 := wf_g20 wf
  refine lv_aload_n hx hb dX7_as_0 rfl (lv_at hl0 0 rfl) ?_
  refine lv_iload_n hx hb dX7_as_1 rfl (lv_at hl0 1 rfl) ?_
  refine rV_i (wc := [mO cy mm ik tl fm tz vl iw rm rr om, ia cy (mm 1) 169 S]) (rest := []) hx hb hml hown hw hG hK hP0 hS0 hA hl0 kc_X7_isGap kw_4_169 [.int x1] (c_X7_isGap l D cy G H0.size mm ik tl fm tz vl iw rm rr om S x1 (by first | omega | assumption)) [0, 1] rfl 0 rfl rfl rfl rfl rfl (Nat.le_of_ble_eq_true rfl) ⟨Nat.le_of_ble_eq_true rfl, Nat.le_of_ble_eq_true rfl⟩ dX7_as_2 ⟨Nat.le_of_ble_eq_true rfl, Nat.le_of_ble_eq_true rfl⟩ (fun r_2 H1 locs1 hr_2 hP1 hS1 => ?_)
  have hD1 := hD0
  clear hP0 hD0 hS0 locs0 H0
  subst hr_2
  refine lb_eq (tgt := 20) hx hb dX7_as_5 (by decide) (fun c_5 => ?_) (fun c_5 => ?_)
  · refine lv_aload_n hx hb dX7_as_20 rfl (lv_at hl0 0 rfl) ?_
    refine lv_ldc (v := (-1000000001)) hx hb hown (hw _ kw_4_143) dX7_as_21 ?_
    refine cV_i (wc := [mO cy mm ik tl fm tz vl iw rm rr om, ia cy (mm 4) 7 C]) (wr := [ia cy (mm 1) 169 S]) (rest := []) hx hb hml hown hw hG hK hP1 hD1 hS1 hA hl0 kc_X7_finds kw_4_139 [.int (-1000000001)] (c_X7_finds l D cy G H1.size mm ik tl fm tz vl iw rm rr om C 0 (-1000000001) (by decide) (by decide)) [0, 2] [1] rfl rfl rfl rfl rfl 0 rfl rfl rfl rfl rfl (Nat.le_of_ble_eq_true rfl) ⟨Nat.le_of_ble_eq_true rfl, Nat.le_of_ble_eq_true rfl⟩ dX7_as_23 ⟨Nat.le_of_ble_eq_true rfl, Nat.le_of_ble_eq_true rfl⟩ (fun r_23 u9 H2 locs2 hu9 hP2 hD2 hS2 => ?_)
    clear hP1 hD1 hS1 locs1 H1
    have hr_23 := hu9
    replace hP2 : va_P D vwCl ([ia cy (mm 1) 169 S, mO cy mm ik tl fm tz vl iw rm rr om, ia cy (mm 4) 7 (upd C 0 (C 0 + 1))]) H2 := hP2
    replace hD2 : va_D (va_A _ sz) ([ia cy (mm 1) 169 S, mO cy mm ik tl fm tz vl iw rm rr om, ia cy (mm 4) 7 (upd C 0 (C 0 + 1))]) := hD2
    replace hP2 := hP2.sub (ws' := [mO cy mm ik tl fm tz vl iw rm rr om, ia cy (mm 1) 169 S, ia cy (mm 4) 7 (upd C 0 (C 0 + 1))]) [1, 0, 2] rfl
    replace hD2 := hD2.sub (ws' := [mO cy mm ik tl fm tz vl iw rm rr om, ia cy (mm 1) 169 S, ia cy (mm 4) 7 (upd C 0 (C 0 + 1))]) [1, 0, 2] (by decide) rfl
    subst hr_23
    have hcd : cAs S x1 x2 = 0 := by unfold cAs; clear hx hb hml hown hr hlocks hw hsz hA hG hK hP2 hD2 hS2 hl0; grind
    have hq9 : ([mO cy mm ik tl fm tz vl iw rm rr om, ia cy (mm 1) 169 S, ia cy (mm 4) 7 (upd C 0 (C 0 + 1))]) = ([mO cy mm ik tl fm tz vl iw rm rr om, ia cy (mm 1) 169 S, ia cy (mm 4) 7 (fnd C (cAs S x1 x2))]) := congrArg (fun z9 => [mO cy mm ik tl fm tz vl iw rm rr om, ia cy (mm 1) 169 S, ia cy (mm 4) 7 z9]) (show (upd C 0 (C 0 + 1)) = (fnd C (cAs S x1 x2)) from fnd_f hcd (by decide))
    replace hP2 := (congrArg (fun z9 => va_P D vwCl z9 _) hq9).mp hP2
    replace hD2 := (congrArg (fun z9 => va_D _ z9) hq9).mp hD2
    clear hq9
    refine re_i () hx hb hr hlocks hP2 hD2 hS2 dX7_as_26 ?_
    exact (ans_f hcd (by decide) rfl)
  · refine lv_iload_n hx hb dX7_as_8 rfl (lv_at hl0 2 rfl) ?_
    refine lv_i2l hx hb dX7_as_9 rfl ?_
    refine lv_lconst (v := 0) hx hb dX7_as_10 (by decide) ?_
    refine lv_ldc2 (v := 5) hx hb hown (hw _ kw_4_152) dX7_as_11 ?_
    refine rT_i (wc := []) (rest := []) hx hb hml hown hw hG hK hP1 hS1 hA hl0 kc_X7_in kw_4_153 [.long x2.toInt64, .long 0, .long 5] (c_X7_in l D cy G H1.size x2.toInt64 0 5) [] rfl rfl rfl (Nat.le_of_ble_eq_true rfl) ⟨Nat.le_of_ble_eq_true rfl, Nat.le_of_ble_eq_true rfl⟩ dX7_as_14 ⟨Nat.le_of_ble_eq_true rfl, Nat.le_of_ble_eq_true rfl⟩ (fun r_14 H2 locs2 hr_14 hP2 hS2 => ?_)
    have hD2 := hD1
    clear hP1 hD1 hS1 locs1 H1
    subst hr_14
    refine tp (show (b2i (0 ≤ x2.toInt64 ∧ x2.toInt64 ≤ 5)) = b2i (0 ≤ x2 ∧ x2 ≤ 5) from b2i_iff (in_c (by decide) (by decide))) ?_
    refine lb_ne (tgt := 27) hx hb dX7_as_17 (by decide) (fun c_17 => ?_) (fun c_17 => ?_)
    · obtain ⟨j, hj, rfl⟩ := wf_gap wf c_5
      have hbj : bstN (nI j) = j := bst_n (by omega)
      have hkd := wf_kd wf hj
      refine lv_iload_n hx hb dX7_as_27 rfl (lv_at hl0 2 rfl) ?_
      refine lv_if_eq (tgt := 54) hx hb dX7_as_28 (by decide) (fun c_28 => ?_) (fun c_28 => ?_)
      · refine lv_iconst (v := 1) hx hb dX7_as_54 (by decide) ?_
        refine lv_goto (tgt := 59) hx hb dX7_as_55 (by decide) ?_
        refine lv_istore_n (lv' := [(3, .int 1), (0, .ref (mm 0)), (1, .int (nI j)), (2, .int x2)]) hx hb dX7_as_59 rfl hl0 (by decide) rfl (fun ls1 hl1 => ?_)
        clear hl0 ls0
        refine lv_iload_n hx hb dX7_as_60 rfl (lv_at hl1 0 rfl) ?_
        refine lv_if_eq (tgt := 72) hx hb dX7_as_61 (by decide) (fun c => absurd c (by decide)) (fun _ => ?_)
        refine lv_aload_n hx hb dX7_as_64 rfl (lv_at hl1 1 rfl) ?_
        refine lv_iload_n hx hb dX7_as_65 rfl (lv_at hl1 2 rfl) ?_
        refine rV_i (wc := [mO cy mm ik tl fm tz vl iw rm rr om, ia cy (mm 1) 169 S]) (rest := []) hx hb hml hown hw hG hK hP2 hS2 hA hl1 kc_X7_breadth kw_4_178 [.int (nI j)] (c_X7_breadth l D cy G H2.size mm ik tl fm tz vl iw rm rr om S j (by first | omega | assumption) (by first | omega | assumption)) [0, 1] rfl 0 rfl rfl rfl rfl rfl (Nat.le_of_ble_eq_true rfl) ⟨Nat.le_of_ble_eq_true rfl, Nat.le_of_ble_eq_true rfl⟩ dX7_as_66 ⟨Nat.le_of_ble_eq_true rfl, Nat.le_of_ble_eq_true rfl⟩ (fun r_66 H3 locs3 hr_66 hP3 hS3 => ?_)
        have hD3 := hD2
        clear hP2 hD2 hS2 locs2 H2
        subst hr_66
        refine lv_goto (tgt := 78) hx hb dX7_as_69 (by decide) ?_
        have hcd : cAs S (nI j) x2 = 7 := by unfold cAs; rw [hbj]; clear hx hb hml hown hr hlocks hw hsz hA hG hK hP3 hD3 hS3 hl1; grind
        have hq9 : ([mO cy mm ik tl fm tz vl iw rm rr om, ia cy (mm 1) 169 S, ia cy (mm 4) 7 C]) = ([mO cy mm ik tl fm tz vl iw rm rr om, ia cy (mm 1) 169 S, ia cy (mm 4) 7 (fnd C (cAs S (nI j) x2))]) := congrArg (fun z9 => [mO cy mm ik tl fm tz vl iw rm rr om, ia cy (mm 1) 169 S, ia cy (mm 4) 7 z9]) (show C = (fnd C (cAs S (nI j) x2)) from fnd_o hcd)
        replace hP3 := (congrArg (fun z9 => va_P D vwCl z9 _) hq9).mp hP3
        replace hD3 := (congrArg (fun z9 => va_D _ z9) hq9).mp hD3
        clear hq9
        refine re_i () hx hb hr hlocks hP3 hD3 hS3 dX7_as_78 ?_
        exact (ans_o hcd (by rw [hbj]))
      · refine lv_aload_n hx hb dX7_as_31 rfl (lv_at hl0 0 rfl) ?_
        refine lv_iload_n hx hb dX7_as_32 rfl (lv_at hl0 1 rfl) ?_
        refine lv_iconst (v := 0) hx hb dX7_as_33 (by decide) ?_
        refine rV_i (wc := [mO cy mm ik tl fm tz vl iw rm rr om, ia cy (mm 1) 169 S]) (rest := []) hx hb hml hown hw hG hK hP2 hS2 hA hl0 kc_X7_has kw_4_174 [.int (nI j), .int 0] (c_X7_has l D cy G H2.size mm ik tl fm tz vl iw rm rr om S j 0 (by first | omega | assumption) (by first | omega | assumption)) [0, 1] rfl 0 rfl rfl rfl rfl rfl (Nat.le_of_ble_eq_true rfl) ⟨Nat.le_of_ble_eq_true rfl, Nat.le_of_ble_eq_true rfl⟩ dX7_as_34 ⟨Nat.le_of_ble_eq_true rfl, Nat.le_of_ble_eq_true rfl⟩ (fun r_34 H3 locs3 hr_34 hP3 hS3 => ?_)
        have hD3 := hD2
        clear hP2 hD2 hS2 locs2 H2
        subst hr_34
        refine tp (show (S (9 + 8 * j + 0)) = S (9 + 8 * j) from congrArg _ (by omega)) ?_
        refine lv_iload_n hx hb dX7_as_37 rfl (lv_at hl0 2 rfl) ?_
        refine lv_icmp_eq (tgt := 54) hx hb dX7_as_38 (by decide) (fun c_38 => ?_) (fun c_38 => ?_)
        · refine lv_iconst (v := 1) hx hb dX7_as_54 (by decide) ?_
          refine lv_goto (tgt := 59) hx hb dX7_as_55 (by decide) ?_
          refine lv_istore_n (lv' := [(3, .int 1), (0, .ref (mm 0)), (1, .int (nI j)), (2, .int x2)]) hx hb dX7_as_59 rfl hl0 (by decide) rfl (fun ls1 hl1 => ?_)
          clear hl0 ls0
          refine lv_iload_n hx hb dX7_as_60 rfl (lv_at hl1 0 rfl) ?_
          refine lv_if_eq (tgt := 72) hx hb dX7_as_61 (by decide) (fun c => absurd c (by decide)) (fun _ => ?_)
          refine lv_aload_n hx hb dX7_as_64 rfl (lv_at hl1 1 rfl) ?_
          refine lv_iload_n hx hb dX7_as_65 rfl (lv_at hl1 2 rfl) ?_
          refine rV_i (wc := [mO cy mm ik tl fm tz vl iw rm rr om, ia cy (mm 1) 169 S]) (rest := []) hx hb hml hown hw hG hK hP3 hS3 hA hl1 kc_X7_breadth kw_4_178 [.int (nI j)] (c_X7_breadth l D cy G H3.size mm ik tl fm tz vl iw rm rr om S j (by first | omega | assumption) (by first | omega | assumption)) [0, 1] rfl 0 rfl rfl rfl rfl rfl (Nat.le_of_ble_eq_true rfl) ⟨Nat.le_of_ble_eq_true rfl, Nat.le_of_ble_eq_true rfl⟩ dX7_as_66 ⟨Nat.le_of_ble_eq_true rfl, Nat.le_of_ble_eq_true rfl⟩ (fun r_66 H4 locs4 hr_66 hP4 hS4 => ?_)
          have hD4 := hD3
          clear hP3 hD3 hS3 locs3 H3
          subst hr_66
          refine lv_goto (tgt := 78) hx hb dX7_as_69 (by decide) ?_
          have hcd : cAs S (nI j) x2 = 7 := by unfold cAs; rw [hbj]; clear hx hb hml hown hr hlocks hw hsz hA hG hK hP4 hD4 hS4 hl1; grind
          have hq9 : ([mO cy mm ik tl fm tz vl iw rm rr om, ia cy (mm 1) 169 S, ia cy (mm 4) 7 C]) = ([mO cy mm ik tl fm tz vl iw rm rr om, ia cy (mm 1) 169 S, ia cy (mm 4) 7 (fnd C (cAs S (nI j) x2))]) := congrArg (fun z9 => [mO cy mm ik tl fm tz vl iw rm rr om, ia cy (mm 1) 169 S, ia cy (mm 4) 7 z9]) (show C = (fnd C (cAs S (nI j) x2)) from fnd_o hcd)
          replace hP4 := (congrArg (fun z9 => va_P D vwCl z9 _) hq9).mp hP4
          replace hD4 := (congrArg (fun z9 => va_D _ z9) hq9).mp hD4
          clear hq9
          refine re_i () hx hb hr hlocks hP4 hD4 hS4 dX7_as_78 ?_
          exact (ans_o hcd (by rw [hbj]))
        · refine lv_iload_n hx hb dX7_as_41 rfl (lv_at hl0 2 rfl) ?_
          refine lv_iconst (v := 2) hx hb dX7_as_42 (by decide) ?_
          refine lv_icmp_ne (tgt := 58) hx hb dX7_as_43 (by decide) (fun c_43 => ?_) (fun c_43 => ?_)
          · refine lv_iconst (v := 0) hx hb dX7_as_58 (by decide) ?_
            refine lv_istore_n (lv' := [(3, .int 0), (0, .ref (mm 0)), (1, .int (nI j)), (2, .int x2)]) hx hb dX7_as_59 rfl hl0 (by decide) rfl (fun ls1 hl1 => ?_)
            clear hl0 ls0
            refine lv_iload_n hx hb dX7_as_60 rfl (lv_at hl1 0 rfl) ?_
            refine lv_if_eq (tgt := 72) hx hb dX7_as_61 (by decide) (fun _ => ?_) (fun c => absurd (by decide) c)
            refine lv_aload_n hx hb dX7_as_72 rfl (lv_at hl1 1 rfl) ?_
            refine lv_ldc (v := (-1000000003)) hx hb hown (hw _ kw_4_203) dX7_as_73 ?_
            refine cV_i (wc := [mO cy mm ik tl fm tz vl iw rm rr om, ia cy (mm 4) 7 C]) (wr := [ia cy (mm 1) 169 S]) (rest := []) hx hb hml hown hw hG hK hP3 hD3 hS3 hA hl1 kc_X7_finds kw_4_139 [.int (-1000000003)] (c_X7_finds l D cy G H3.size mm ik tl fm tz vl iw rm rr om C 2 (-1000000003) (by decide) (by decide)) [0, 2] [1] rfl rfl rfl rfl rfl 0 rfl rfl rfl rfl rfl (Nat.le_of_ble_eq_true rfl) ⟨Nat.le_of_ble_eq_true rfl, Nat.le_of_ble_eq_true rfl⟩ dX7_as_75 ⟨Nat.le_of_ble_eq_true rfl, Nat.le_of_ble_eq_true rfl⟩ (fun r_75 u9 H4 locs4 hu9 hP4 hD4 hS4 => ?_)
            clear hP3 hD3 hS3 locs3 H3
            have hr_75 := hu9
            replace hP4 : va_P D vwCl ([ia cy (mm 1) 169 S, mO cy mm ik tl fm tz vl iw rm rr om, ia cy (mm 4) 7 (upd C 2 (C 2 + 1))]) H4 := hP4
            replace hD4 : va_D (va_A _ sz) ([ia cy (mm 1) 169 S, mO cy mm ik tl fm tz vl iw rm rr om, ia cy (mm 4) 7 (upd C 2 (C 2 + 1))]) := hD4
            replace hP4 := hP4.sub (ws' := [mO cy mm ik tl fm tz vl iw rm rr om, ia cy (mm 1) 169 S, ia cy (mm 4) 7 (upd C 2 (C 2 + 1))]) [1, 0, 2] rfl
            replace hD4 := hD4.sub (ws' := [mO cy mm ik tl fm tz vl iw rm rr om, ia cy (mm 1) 169 S, ia cy (mm 4) 7 (upd C 2 (C 2 + 1))]) [1, 0, 2] (by decide) rfl
            subst hr_75
            have hcd : cAs S (nI j) x2 = 2 := by unfold cAs; rw [hbj]; clear hx hb hml hown hr hlocks hw hsz hA hG hK hP4 hD4 hS4 hl1; grind
            have hq9 : ([mO cy mm ik tl fm tz vl iw rm rr om, ia cy (mm 1) 169 S, ia cy (mm 4) 7 (upd C 2 (C 2 + 1))]) = ([mO cy mm ik tl fm tz vl iw rm rr om, ia cy (mm 1) 169 S, ia cy (mm 4) 7 (fnd C (cAs S (nI j) x2))]) := congrArg (fun z9 => [mO cy mm ik tl fm tz vl iw rm rr om, ia cy (mm 1) 169 S, ia cy (mm 4) 7 z9]) (show (upd C 2 (C 2 + 1)) = (fnd C (cAs S (nI j) x2)) from fnd_f hcd (by decide))
            replace hP4 := (congrArg (fun z9 => va_P D vwCl z9 _) hq9).mp hP4
            replace hD4 := (congrArg (fun z9 => va_D _ z9) hq9).mp hD4
            clear hq9
            refine re_i () hx hb hr hlocks hP4 hD4 hS4 dX7_as_78 ?_
            exact (ans_f hcd (by decide) rfl)
          · refine lv_aload_n hx hb dX7_as_46 rfl (lv_at hl0 0 rfl) ?_
            refine lv_iload_n hx hb dX7_as_47 rfl (lv_at hl0 1 rfl) ?_
            refine rV_i (wc := [mO cy mm ik tl fm tz vl iw rm rr om, ia cy (mm 1) 169 S]) (rest := []) hx hb hml hown hw hG hK hP3 hS3 hA hl0 kc_X7_isNeeded kw_4_199 [.int (nI j)] (c_X7_isNeeded l D cy G H3.size mm ik tl fm tz vl iw rm rr om S j (by first | omega | assumption)) [0, 1] rfl 0 rfl rfl rfl rfl rfl (Nat.le_of_ble_eq_true rfl) ⟨Nat.le_of_ble_eq_true rfl, Nat.le_of_ble_eq_true rfl⟩ dX7_as_48 ⟨Nat.le_of_ble_eq_true rfl, Nat.le_of_ble_eq_true rfl⟩ (fun r_48 H4 locs4 hr_48 hP4 hS4 => ?_)
            have hD4 := hD3
            clear hP3 hD3 hS3 locs3 H3
            subst hr_48
            refine lb_eq (tgt := 58) hx hb dX7_as_51 (by decide) (fun c_51 => ?_) (fun c_51 => ?_)
            · refine lv_iconst (v := 0) hx hb dX7_as_58 (by decide) ?_
              refine lv_istore_n (lv' := [(3, .int 0), (0, .ref (mm 0)), (1, .int (nI j)), (2, .int x2)]) hx hb dX7_as_59 rfl hl0 (by decide) rfl (fun ls1 hl1 => ?_)
              clear hl0 ls0
              refine lv_iload_n hx hb dX7_as_60 rfl (lv_at hl1 0 rfl) ?_
              refine lv_if_eq (tgt := 72) hx hb dX7_as_61 (by decide) (fun _ => ?_) (fun c => absurd (by decide) c)
              refine lv_aload_n hx hb dX7_as_72 rfl (lv_at hl1 1 rfl) ?_
              refine lv_ldc (v := (-1000000003)) hx hb hown (hw _ kw_4_203) dX7_as_73 ?_
              refine cV_i (wc := [mO cy mm ik tl fm tz vl iw rm rr om, ia cy (mm 4) 7 C]) (wr := [ia cy (mm 1) 169 S]) (rest := []) hx hb hml hown hw hG hK hP4 hD4 hS4 hA hl1 kc_X7_finds kw_4_139 [.int (-1000000003)] (c_X7_finds l D cy G H4.size mm ik tl fm tz vl iw rm rr om C 2 (-1000000003) (by decide) (by decide)) [0, 2] [1] rfl rfl rfl rfl rfl 0 rfl rfl rfl rfl rfl (Nat.le_of_ble_eq_true rfl) ⟨Nat.le_of_ble_eq_true rfl, Nat.le_of_ble_eq_true rfl⟩ dX7_as_75 ⟨Nat.le_of_ble_eq_true rfl, Nat.le_of_ble_eq_true rfl⟩ (fun r_75 u9 H5 locs5 hu9 hP5 hD5 hS5 => ?_)
              clear hP4 hD4 hS4 locs4 H4
              have hr_75 := hu9
              replace hP5 : va_P D vwCl ([ia cy (mm 1) 169 S, mO cy mm ik tl fm tz vl iw rm rr om, ia cy (mm 4) 7 (upd C 2 (C 2 + 1))]) H5 := hP5
              replace hD5 : va_D (va_A _ sz) ([ia cy (mm 1) 169 S, mO cy mm ik tl fm tz vl iw rm rr om, ia cy (mm 4) 7 (upd C 2 (C 2 + 1))]) := hD5
              replace hP5 := hP5.sub (ws' := [mO cy mm ik tl fm tz vl iw rm rr om, ia cy (mm 1) 169 S, ia cy (mm 4) 7 (upd C 2 (C 2 + 1))]) [1, 0, 2] rfl
              replace hD5 := hD5.sub (ws' := [mO cy mm ik tl fm tz vl iw rm rr om, ia cy (mm 1) 169 S, ia cy (mm 4) 7 (upd C 2 (C 2 + 1))]) [1, 0, 2] (by decide) rfl
              subst hr_75
              have hcd : cAs S (nI j) x2 = 2 := by unfold cAs; rw [hbj]; clear hx hb hml hown hr hlocks hw hsz hA hG hK hP5 hD5 hS5 hl1; grind
              have hq9 : ([mO cy mm ik tl fm tz vl iw rm rr om, ia cy (mm 1) 169 S, ia cy (mm 4) 7 (upd C 2 (C 2 + 1))]) = ([mO cy mm ik tl fm tz vl iw rm rr om, ia cy (mm 1) 169 S, ia cy (mm 4) 7 (fnd C (cAs S (nI j) x2))]) := congrArg (fun z9 => [mO cy mm ik tl fm tz vl iw rm rr om, ia cy (mm 1) 169 S, ia cy (mm 4) 7 z9]) (show (upd C 2 (C 2 + 1)) = (fnd C (cAs S (nI j) x2)) from fnd_f hcd (by decide))
              replace hP5 := (congrArg (fun z9 => va_P D vwCl z9 _) hq9).mp hP5
              replace hD5 := (congrArg (fun z9 => va_D _ z9) hq9).mp hD5
              clear hq9
              refine re_i () hx hb hr hlocks hP5 hD5 hS5 dX7_as_78 ?_
              exact (ans_f hcd (by decide) rfl)
            · refine lv_iconst (v := 1) hx hb dX7_as_54 (by decide) ?_
              refine lv_goto (tgt := 59) hx hb dX7_as_55 (by decide) ?_
              refine lv_istore_n (lv' := [(3, .int 1), (0, .ref (mm 0)), (1, .int (nI j)), (2, .int x2)]) hx hb dX7_as_59 rfl hl0 (by decide) rfl (fun ls1 hl1 => ?_)
              clear hl0 ls0
              refine lv_iload_n hx hb dX7_as_60 rfl (lv_at hl1 0 rfl) ?_
              refine lv_if_eq (tgt := 72) hx hb dX7_as_61 (by decide) (fun c => absurd c (by decide)) (fun _ => ?_)
              refine lv_aload_n hx hb dX7_as_64 rfl (lv_at hl1 1 rfl) ?_
              refine lv_iload_n hx hb dX7_as_65 rfl (lv_at hl1 2 rfl) ?_
              refine rV_i (wc := [mO cy mm ik tl fm tz vl iw rm rr om, ia cy (mm 1) 169 S]) (rest := []) hx hb hml hown hw hG hK hP4 hS4 hA hl1 kc_X7_breadth kw_4_178 [.int (nI j)] (c_X7_breadth l D cy G H4.size mm ik tl fm tz vl iw rm rr om S j (by first | omega | assumption) (by first | omega | assumption)) [0, 1] rfl 0 rfl rfl rfl rfl rfl (Nat.le_of_ble_eq_true rfl) ⟨Nat.le_of_ble_eq_true rfl, Nat.le_of_ble_eq_true rfl⟩ dX7_as_66 ⟨Nat.le_of_ble_eq_true rfl, Nat.le_of_ble_eq_true rfl⟩ (fun r_66 H5 locs5 hr_66 hP5 hS5 => ?_)
              have hD5 := hD4
              clear hP4 hD4 hS4 locs4 H4
              subst hr_66
              refine lv_goto (tgt := 78) hx hb dX7_as_69 (by decide) ?_
              have hcd : cAs S (nI j) x2 = 7 := by unfold cAs; rw [hbj]; clear hx hb hml hown hr hlocks hw hsz hA hG hK hP5 hD5 hS5 hl1; grind
              have hq9 : ([mO cy mm ik tl fm tz vl iw rm rr om, ia cy (mm 1) 169 S, ia cy (mm 4) 7 C]) = ([mO cy mm ik tl fm tz vl iw rm rr om, ia cy (mm 1) 169 S, ia cy (mm 4) 7 (fnd C (cAs S (nI j) x2))]) := congrArg (fun z9 => [mO cy mm ik tl fm tz vl iw rm rr om, ia cy (mm 1) 169 S, ia cy (mm 4) 7 z9]) (show C = (fnd C (cAs S (nI j) x2)) from fnd_o hcd)
              replace hP5 := (congrArg (fun z9 => va_P D vwCl z9 _) hq9).mp hP5
              replace hD5 := (congrArg (fun z9 => va_D _ z9) hq9).mp hD5
              clear hq9
              refine re_i () hx hb hr hlocks hP5 hD5 hS5 dX7_as_78 ?_
              exact (ans_o hcd (by rw [hbj]))
    · refine lv_aload_n hx hb dX7_as_20 rfl (lv_at hl0 0 rfl) ?_
      refine lv_ldc (v := (-1000000001)) hx hb hown (hw _ kw_4_143) dX7_as_21 ?_
      refine cV_i (wc := [mO cy mm ik tl fm tz vl iw rm rr om, ia cy (mm 4) 7 C]) (wr := [ia cy (mm 1) 169 S]) (rest := []) hx hb hml hown hw hG hK hP2 hD2 hS2 hA hl0 kc_X7_finds kw_4_139 [.int (-1000000001)] (c_X7_finds l D cy G H2.size mm ik tl fm tz vl iw rm rr om C 0 (-1000000001) (by decide) (by decide)) [0, 2] [1] rfl rfl rfl rfl rfl 0 rfl rfl rfl rfl rfl (Nat.le_of_ble_eq_true rfl) ⟨Nat.le_of_ble_eq_true rfl, Nat.le_of_ble_eq_true rfl⟩ dX7_as_23 ⟨Nat.le_of_ble_eq_true rfl, Nat.le_of_ble_eq_true rfl⟩ (fun r_23 u9 H3 locs3 hu9 hP3 hD3 hS3 => ?_)
      clear hP2 hD2 hS2 locs2 H2
      have hr_23 := hu9
      replace hP3 : va_P D vwCl ([ia cy (mm 1) 169 S, mO cy mm ik tl fm tz vl iw rm rr om, ia cy (mm 4) 7 (upd C 0 (C 0 + 1))]) H3 := hP3
      replace hD3 : va_D (va_A _ sz) ([ia cy (mm 1) 169 S, mO cy mm ik tl fm tz vl iw rm rr om, ia cy (mm 4) 7 (upd C 0 (C 0 + 1))]) := hD3
      replace hP3 := hP3.sub (ws' := [mO cy mm ik tl fm tz vl iw rm rr om, ia cy (mm 1) 169 S, ia cy (mm 4) 7 (upd C 0 (C 0 + 1))]) [1, 0, 2] rfl
      replace hD3 := hD3.sub (ws' := [mO cy mm ik tl fm tz vl iw rm rr om, ia cy (mm 1) 169 S, ia cy (mm 4) 7 (upd C 0 (C 0 + 1))]) [1, 0, 2] (by decide) rfl
      subst hr_23
      have hcd : cAs S x1 x2 = 0 := by unfold cAs; clear hx hb hml hown hr hlocks hw hsz hA hG hK hP3 hD3 hS3 hl0; grind
      have hq9 : ([mO cy mm ik tl fm tz vl iw rm rr om, ia cy (mm 1) 169 S, ia cy (mm 4) 7 (upd C 0 (C 0 + 1))]) = ([mO cy mm ik tl fm tz vl iw rm rr om, ia cy (mm 1) 169 S, ia cy (mm 4) 7 (fnd C (cAs S x1 x2))]) := congrArg (fun z9 => [mO cy mm ik tl fm tz vl iw rm rr om, ia cy (mm 1) 169 S, ia cy (mm 4) 7 z9]) (show (upd C 0 (C 0 + 1)) = (fnd C (cAs S x1 x2)) from fnd_f hcd (by decide))
      replace hP3 := (congrArg (fun z9 => va_P D vwCl z9 _) hq9).mp hP3
      replace hD3 := (congrArg (fun z9 => va_D _ z9) hq9).mp hD3
      clear hq9
      refine re_i () hx hb hr hlocks hP3 hD3 hS3 dX7_as_26 ?_
      exact (ans_f hcd (by decide) rfl)

theorem kc_X6_night : kV yX6_night cX6_night 4 (some .int) 2 := ⟨kw_2_133, kw_2_134, kw_1_1, kw_2_135, by decide, by decide, by decide +kernel⟩
set_option maxHeartbeats 4000000 in
set_option maxRecDepth 100000 in
theorem c_X6_night (l : Launch) (D : va_G) (cy : Nat → ClassId) (G : Nat → Nat) (sz : Nat) (hh : Nat → Nat) (a : Nat → Nat) (kk : Nat → Nat) (dd : Nat → Nat) (b : Nat → Nat) (w : Nat → Nat) (ee : Nat → Nat) (qq : Nat → Nat) (ik : Int32) (S : Nat → Int32) (C : Nat → Int32) (x1 : Int32) (x2 : Int32) (wf : wf S) : Met l yX6_night (wm yX6_night cX6_night 4 (some .int)) { frames := 1, cells := 0, slots := 0, locals := 21 } (va_Pc [.ref (hh 0), .int x1, .int x2] (pr D (TY cy) G ([sO cy hh a kk dd b w ee qq ik] ++ (pS cy a S ++ ([ia cy (hh 1) 7 C]))) sz)) (va_Qi (fun (r : Int32) (u : Unit) => r = ans (cNight x1 x2) (S (2 + bstN x1))) (fun (u : Unit) t => po D (va_A ([sO cy hh a kk dd b w ee qq ik] ++ (pS cy a S ++ ([ia cy (hh 1) 7 C]))) sz) ([sO cy hh a kk dd b w ee qq ik] ++ (pS cy a (if cNight x1 x2 = 7 then upd S (2 + bstN x1) x2 else S) ++ ([ia cy (hh 1) 7 (fnd C (cNight x1 x2))]))) t) (va_A ([sO cy hh a kk dd b w ee qq ik] ++ (pS cy a S ++ ([ia cy (hh 1) 7 C]))) sz)) 0 0 (va_A ([sO cy hh a kk dd b w ee qq ik] ++ (pS cy a S ++ ([ia cy (hh 1) 7 C]))) sz) := by
  refine mk_rw (by decide) RX6 rfl (Nat.le_of_ble_eq_true rfl) [(0, .ref (hh 0)), (1, .int x1), (2, .int x2)] rfl ?_
  intro p e s m below meth c hx hb hml hown hr hlocks hin hw hsz hA hG hK H0 locs0 hP0 hD0 hS0 ls0 hl0
  clear hin
  refine lv_iload_n hx hb dX6_night_0 rfl (lv_at hl0 1 rfl) ?_
  refine lv_if_lt (tgt := 28) hx hb dX6_night_1 (by decide) (fun c_1 => ?_) (fun c_1 => ?_)
  · refine lv_aload_n hx hb dX6_night_28 rfl (lv_at hl0 0 rfl) ?_
    refine lv_iconst (v := 0) hx hb dX6_night_29 (by decide) ?_
    refine cV_i (wc := [sO cy hh a kk dd b w ee qq ik, ia cy (hh 1) 7 C]) (wr := pS cy a S) (rest := []) hx hb hml hown hw hG hK hP0 hD0 hS0 hA hl0 kc_X6_find kw_2_59 [.int 0] (c_X6_find l D cy G H0.size hh a kk dd b w ee qq ik C 0 (by first | omega | assumption)) [0, 11] [1, 2, 3, 4, 5, 6, 7, 8, 9, 10] rfl rfl rfl rfl rfl 0 rfl rfl rfl rfl rfl (Nat.le_of_ble_eq_true rfl) ⟨Nat.le_of_ble_eq_true rfl, Nat.le_of_ble_eq_true rfl⟩ dX6_night_30 ⟨Nat.le_of_ble_eq_true rfl, Nat.le_of_ble_eq_true rfl⟩ (fun r_30 u9 H1 locs1 hu9 hP1 hD1 hS1 => ?_)
    clear hP0 hD0 hS0 locs0 H0
    have hr_30 := hu9
    replace hP1 : va_P D vwCl (pS cy a S ++ ([sO cy hh a kk dd b w ee qq ik, ia cy (hh 1) 7 (upd C 0 (C 0 + 1))])) H1 := hP1
    replace hD1 : va_D (va_A _ sz) (pS cy a S ++ ([sO cy hh a kk dd b w ee qq ik, ia cy (hh 1) 7 (upd C 0 (C 0 + 1))])) := hD1
    replace hP1 := hP1.sub (ws' := [sO cy hh a kk dd b w ee qq ik] ++ (pS cy a S ++ ([ia cy (hh 1) 7 (upd C 0 (C 0 + 1))]))) [10, 0, 1, 2, 3, 4, 5, 6, 7, 8, 9, 11] rfl
    replace hD1 := hD1.sub (ws' := [sO cy hh a kk dd b w ee qq ik] ++ (pS cy a S ++ ([ia cy (hh 1) 7 (upd C 0 (C 0 + 1))]))) [10, 0, 1, 2, 3, 4, 5, 6, 7, 8, 9, 11] (by decide) rfl
    subst hr_30
    have hcd : cNight x1 x2 = 0 := by unfold cNight; clear hx hb hml hown hr hlocks hw hsz hA hG hK hP1 hD1 hS1 hl0; grind
    have hq9 : ([sO cy hh a kk dd b w ee qq ik] ++ (pS cy a S ++ ([ia cy (hh 1) 7 (upd C 0 (C 0 + 1))]))) = ([sO cy hh a kk dd b w ee qq ik] ++ (pS cy a S ++ ([ia cy (hh 1) 7 (fnd C (cNight x1 x2))]))) := congrArg (fun z9 => [sO cy hh a kk dd b w ee qq ik] ++ (pS cy a S ++ ([ia cy (hh 1) 7 z9]))) (show (upd C 0 (C 0 + 1)) = (fnd C (cNight x1 x2)) from fnd_f hcd (by decide))
    replace hP1 := (congrArg (fun z9 => va_P D vwCl z9 _) hq9).mp hP1
    replace hD1 := (congrArg (fun z9 => va_D _ z9) hq9).mp hD1
    clear hq9
    have hq9 : ([sO cy hh a kk dd b w ee qq ik] ++ (pS cy a S ++ ([ia cy (hh 1) 7 (fnd C (cNight x1 x2))]))) = ([sO cy hh a kk dd b w ee qq ik] ++ (pS cy a (if cNight x1 x2 = 7 then upd S (2 + bstN x1) x2 else S) ++ ([ia cy (hh 1) 7 (fnd C (cNight x1 x2))]))) := congrArg (fun z9 => [sO cy hh a kk dd b w ee qq ik] ++ (pS cy a z9 ++ ([ia cy (hh 1) 7 (fnd C (cNight x1 x2))]))) (show S = (if cNight x1 x2 = 7 then upd S (2 + bstN x1) x2 else S) from (if_neg (fun z9 => absurd (hcd.symm.trans z9) (by decide))).symm)
    replace hP1 := (congrArg (fun z9 => va_P D vwCl z9 _) hq9).mp hP1
    replace hD1 := (congrArg (fun z9 => va_D _ z9) hq9).mp hD1
    clear hq9
    refine re_i () hx hb hr hlocks hP1 hD1 hS1 dX6_night_33 ?_
    exact (ans_f hcd (by decide) rfl)
  · refine lv_iload_n hx hb dX6_night_4 rfl (lv_at hl0 1 rfl) ?_
    refine lv_bipush (v := 6) hx hb dX6_night_5 (by decide) ?_
    refine lv_icmp_ge (tgt := 28) hx hb dX6_night_7 (by decide) (fun c_7 => ?_) (fun c_7 => ?_)
    · refine lv_aload_n hx hb dX6_night_28 rfl (lv_at hl0 0 rfl) ?_
      refine lv_iconst (v := 0) hx hb dX6_night_29 (by decide) ?_
      refine cV_i (wc := [sO cy hh a kk dd b w ee qq ik, ia cy (hh 1) 7 C]) (wr := pS cy a S) (rest := []) hx hb hml hown hw hG hK hP0 hD0 hS0 hA hl0 kc_X6_find kw_2_59 [.int 0] (c_X6_find l D cy G H0.size hh a kk dd b w ee qq ik C 0 (by first | omega | assumption)) [0, 11] [1, 2, 3, 4, 5, 6, 7, 8, 9, 10] rfl rfl rfl rfl rfl 0 rfl rfl rfl rfl rfl (Nat.le_of_ble_eq_true rfl) ⟨Nat.le_of_ble_eq_true rfl, Nat.le_of_ble_eq_true rfl⟩ dX6_night_30 ⟨Nat.le_of_ble_eq_true rfl, Nat.le_of_ble_eq_true rfl⟩ (fun r_30 u9 H1 locs1 hu9 hP1 hD1 hS1 => ?_)
      clear hP0 hD0 hS0 locs0 H0
      have hr_30 := hu9
      replace hP1 : va_P D vwCl (pS cy a S ++ ([sO cy hh a kk dd b w ee qq ik, ia cy (hh 1) 7 (upd C 0 (C 0 + 1))])) H1 := hP1
      replace hD1 : va_D (va_A _ sz) (pS cy a S ++ ([sO cy hh a kk dd b w ee qq ik, ia cy (hh 1) 7 (upd C 0 (C 0 + 1))])) := hD1
      replace hP1 := hP1.sub (ws' := [sO cy hh a kk dd b w ee qq ik] ++ (pS cy a S ++ ([ia cy (hh 1) 7 (upd C 0 (C 0 + 1))]))) [10, 0, 1, 2, 3, 4, 5, 6, 7, 8, 9, 11] rfl
      replace hD1 := hD1.sub (ws' := [sO cy hh a kk dd b w ee qq ik] ++ (pS cy a S ++ ([ia cy (hh 1) 7 (upd C 0 (C 0 + 1))]))) [10, 0, 1, 2, 3, 4, 5, 6, 7, 8, 9, 11] (by decide) rfl
      subst hr_30
      have hcd : cNight x1 x2 = 0 := by unfold cNight; clear hx hb hml hown hr hlocks hw hsz hA hG hK hP1 hD1 hS1 hl0; grind
      have hq9 : ([sO cy hh a kk dd b w ee qq ik] ++ (pS cy a S ++ ([ia cy (hh 1) 7 (upd C 0 (C 0 + 1))]))) = ([sO cy hh a kk dd b w ee qq ik] ++ (pS cy a S ++ ([ia cy (hh 1) 7 (fnd C (cNight x1 x2))]))) := congrArg (fun z9 => [sO cy hh a kk dd b w ee qq ik] ++ (pS cy a S ++ ([ia cy (hh 1) 7 z9]))) (show (upd C 0 (C 0 + 1)) = (fnd C (cNight x1 x2)) from fnd_f hcd (by decide))
      replace hP1 := (congrArg (fun z9 => va_P D vwCl z9 _) hq9).mp hP1
      replace hD1 := (congrArg (fun z9 => va_D _ z9) hq9).mp hD1
      clear hq9
      have hq9 : ([sO cy hh a kk dd b w ee qq ik] ++ (pS cy a S ++ ([ia cy (hh 1) 7 (fnd C (cNight x1 x2))]))) = ([sO cy hh a kk dd b w ee qq ik] ++ (pS cy a (if cNight x1 x2 = 7 then upd S (2 + bstN x1) x2 else S) ++ ([ia cy (hh 1) 7 (fnd C (cNight x1 x2))]))) := congrArg (fun z9 => [sO cy hh a kk dd b w ee qq ik] ++ (pS cy a z9 ++ ([ia cy (hh 1) 7 (fnd C (cNight x1 x2))]))) (show S = (if cNight x1 x2 = 7 then upd S (2 + bstN x1) x2 else S) from (if_neg (fun z9 => absurd (hcd.symm.trans z9) (by decide))).symm)
      replace hP1 := (congrArg (fun z9 => va_P D vwCl z9 _) hq9).mp hP1
      replace hD1 := (congrArg (fun z9 => va_D _ z9) hq9).mp hD1
      clear hq9
      refine re_i () hx hb hr hlocks hP1 hD1 hS1 dX6_night_33 ?_
      exact (ans_f hcd (by decide) rfl)
    · obtain ⟨k, hk, rfl⟩ := nI_rn (n := 6) (by decide) (x := x1) ⟨Int32.not_lt.mp c_1, Int32.not_le.mp c_7⟩
      have hbk : bstN (nI k) = k := bst_n (by omega)
      refine lv_iload_n hx hb dX6_night_10 rfl (lv_at hl0 2 rfl) ?_
      refine va_gets hx hb hG.2.1.2.2.1 hS0 hown (hw _ kw_2_136) (fun _ h9 => h9) dX6_night_11 ?_
      refine lv_iload_n hx hb dX6_night_14 rfl (lv_at hl0 1 rfl) ?_
      refine tld_i (f := tbL) hx hb hG.2.1.2.2.2.1 hS0 k rfl (by first | omega | assumption) (by decide) dX6_night_15 ?_
      refine tp (show (tbL k) = if nI k = 3 then -99 else 0 from tb_L hk) ?_
      refine lv_icmp_lt (tgt := 28) hx hb dX6_night_16 (by decide) (fun c_16 => ?_) (fun c_16 => ?_)
      · refine lv_aload_n hx hb dX6_night_28 rfl (lv_at hl0 0 rfl) ?_
        refine lv_iconst (v := 0) hx hb dX6_night_29 (by decide) ?_
        refine cV_i (wc := [sO cy hh a kk dd b w ee qq ik, ia cy (hh 1) 7 C]) (wr := pS cy a S) (rest := []) hx hb hml hown hw hG hK hP0 hD0 hS0 hA hl0 kc_X6_find kw_2_59 [.int 0] (c_X6_find l D cy G H0.size hh a kk dd b w ee qq ik C 0 (by first | omega | assumption)) [0, 11] [1, 2, 3, 4, 5, 6, 7, 8, 9, 10] rfl rfl rfl rfl rfl 0 rfl rfl rfl rfl rfl (Nat.le_of_ble_eq_true rfl) ⟨Nat.le_of_ble_eq_true rfl, Nat.le_of_ble_eq_true rfl⟩ dX6_night_30 ⟨Nat.le_of_ble_eq_true rfl, Nat.le_of_ble_eq_true rfl⟩ (fun r_30 u9 H1 locs1 hu9 hP1 hD1 hS1 => ?_)
        clear hP0 hD0 hS0 locs0 H0
        have hr_30 := hu9
        replace hP1 : va_P D vwCl (pS cy a S ++ ([sO cy hh a kk dd b w ee qq ik, ia cy (hh 1) 7 (upd C 0 (C 0 + 1))])) H1 := hP1
        replace hD1 : va_D (va_A _ sz) (pS cy a S ++ ([sO cy hh a kk dd b w ee qq ik, ia cy (hh 1) 7 (upd C 0 (C 0 + 1))])) := hD1
        replace hP1 := hP1.sub (ws' := [sO cy hh a kk dd b w ee qq ik] ++ (pS cy a S ++ ([ia cy (hh 1) 7 (upd C 0 (C 0 + 1))]))) [10, 0, 1, 2, 3, 4, 5, 6, 7, 8, 9, 11] rfl
        replace hD1 := hD1.sub (ws' := [sO cy hh a kk dd b w ee qq ik] ++ (pS cy a S ++ ([ia cy (hh 1) 7 (upd C 0 (C 0 + 1))]))) [10, 0, 1, 2, 3, 4, 5, 6, 7, 8, 9, 11] (by decide) rfl
        subst hr_30
        have hcd : cNight (nI k) x2 = 0 := by unfold cNight; clear hx hb hml hown hr hlocks hw hsz hA hG hK hP1 hD1 hS1 hl0; grind
        have hq9 : ([sO cy hh a kk dd b w ee qq ik] ++ (pS cy a S ++ ([ia cy (hh 1) 7 (upd C 0 (C 0 + 1))]))) = ([sO cy hh a kk dd b w ee qq ik] ++ (pS cy a S ++ ([ia cy (hh 1) 7 (fnd C (cNight (nI k) x2))]))) := congrArg (fun z9 => [sO cy hh a kk dd b w ee qq ik] ++ (pS cy a S ++ ([ia cy (hh 1) 7 z9]))) (show (upd C 0 (C 0 + 1)) = (fnd C (cNight (nI k) x2)) from fnd_f hcd (by decide))
        replace hP1 := (congrArg (fun z9 => va_P D vwCl z9 _) hq9).mp hP1
        replace hD1 := (congrArg (fun z9 => va_D _ z9) hq9).mp hD1
        clear hq9
        have hq9 : ([sO cy hh a kk dd b w ee qq ik] ++ (pS cy a S ++ ([ia cy (hh 1) 7 (fnd C (cNight (nI k) x2))]))) = ([sO cy hh a kk dd b w ee qq ik] ++ (pS cy a (if cNight (nI k) x2 = 7 then upd S (2 + bstN (nI k)) x2 else S) ++ ([ia cy (hh 1) 7 (fnd C (cNight (nI k) x2))]))) := congrArg (fun z9 => [sO cy hh a kk dd b w ee qq ik] ++ (pS cy a z9 ++ ([ia cy (hh 1) 7 (fnd C (cNight (nI k) x2))]))) (show S = (if cNight (nI k) x2 = 7 then upd S (2 + bstN (nI k)) x2 else S) from (if_neg (fun z9 => absurd (hcd.symm.trans z9) (by decide))).symm)
        replace hP1 := (congrArg (fun z9 => va_P D vwCl z9 _) hq9).mp hP1
        replace hD1 := (congrArg (fun z9 => va_D _ z9) hq9).mp hD1
        clear hq9
        refine re_i () hx hb hr hlocks hP1 hD1 hS1 dX6_night_33 ?_
        exact (ans_f hcd (by decide) rfl)
      · refine lv_iload_n hx hb dX6_night_19 rfl (lv_at hl0 2 rfl) ?_
        refine va_gets hx hb hG.2.1.2.2.2.2.1 hS0 hown (hw _ kw_2_138) (fun _ h9 => h9) dX6_night_20 ?_
        refine lv_iload_n hx hb dX6_night_23 rfl (lv_at hl0 1 rfl) ?_
        refine tld_i (f := tbM) hx hb hG.2.1.2.2.2.2.2 hS0 k rfl (by first | omega | assumption) (by decide) dX6_night_24 ?_
        refine tp (show (tbM k) = if nI k = 0 then 40 else if nI k = 2 then 3 else if nI k = 5 then 100 else 99 from tb_M hk) ?_
        refine lv_icmp_le (tgt := 34) hx hb dX6_night_25 (by decide) (fun c_25 => ?_) (fun c_25 => ?_)
        · refine lv_aload_n hx hb dX6_night_34 rfl (lv_at hl0 0 rfl) ?_
          refine va_get (D := D) (ci := 6) (v := .ref (a 0)) (C := RX6) (T := TX6) (N := 9) hx hb hw iX6 hown hK hP0 0 rfl rfl 0 (by decide) (hw _ kw_2_27) (fun _ h9 => h9) rfl dX6_night_35 ?_
          refine va_get (D := D) (ci := 1) (v := .ref (a 9)) (C := RX1) (T := TX1) (N := 12) hx hb hw iX1 hown hK hP0 1 rfl rfl 10 (by decide) (hw _ kw_1_63) (fun _ h9 => h9) rfl dX6_night_38 ?_
          refine lv_iload_n hx hb dX6_night_41 rfl (lv_at hl0 1 rfl) ?_
          refine ald_i (f := fun k => if k < 6 then S (2 + k) else 0) hx hb hK hP0 10 0 rfl rfl k rfl (by first | omega | assumption) (by decide) dX6_night_42 ?_
          refine tp (show (if k < 6 then S (2 + k) else 0) = S (2 + k) from if_pos hk) ?_
          refine lv_istore_n (lv' := [(3, .int (S (2 + k))), (0, .ref (hh 0)), (1, .int (nI k)), (2, .int x2)]) hx hb dX6_night_43 rfl hl0 (by decide) rfl (fun ls1 hl1 => ?_)
          clear hl0 ls0
          refine lv_aload_n hx hb dX6_night_44 rfl (lv_at hl1 1 rfl) ?_
          refine va_get (D := D) (ci := 6) (v := .ref (a 0)) (C := RX6) (T := TX6) (N := 9) hx hb hw iX6 hown hK hP0 0 rfl rfl 0 (by decide) (hw _ kw_2_27) (fun _ h9 => h9) rfl dX6_night_45 ?_
          refine va_get (D := D) (ci := 1) (v := .ref (a 9)) (C := RX1) (T := TX1) (N := 12) hx hb hw iX1 hown hK hP0 1 rfl rfl 10 (by decide) (hw _ kw_1_63) (fun _ h9 => h9) rfl dX6_night_48 ?_
          refine lv_iload_n hx hb dX6_night_51 rfl (lv_at hl1 2 rfl) ?_
          refine lv_iload_n hx hb dX6_night_52 rfl (lv_at hl1 3 rfl) ?_
          refine ast_i (f := fun k => if k < 6 then S (2 + k) else 0) (ws' := [sO cy hh a kk dd b w ee qq ik] ++ (pS cy a (upd S (2 + k) x2) ++ ([ia cy (hh 1) 7 C]))) hx hb hK hP0 hD0 hS0 10 0 rfl rfl k rfl (by first | omega | assumption) (by decide) (congrArg (fun z => [sO cy hh a kk dd b w ee qq ik] ++ (z ++ ([ia cy (hh 1) 7 C]))) (pS_nt cy a S k x2 (by first | decide | omega))) dX6_night_53 (fun H1 locs1 hP1 hD1 hS1 => ?_)
          clear hP0 hD0 hS0 locs0 H0
          refine lv_iload_n hx hb dX6_night_54 rfl (lv_at hl1 0 rfl) ?_
          have hcd : cNight (nI k) x2 = 7 := by unfold cNight; clear hx hb hml hown hr hlocks hw hsz hA hG hK hP1 hD1 hS1 hl1; grind
          have hq9 : ([sO cy hh a kk dd b w ee qq ik] ++ (pS cy a (upd S (2 + k) x2) ++ ([ia cy (hh 1) 7 C]))) = ([sO cy hh a kk dd b w ee qq ik] ++ (pS cy a (upd S (2 + k) x2) ++ ([ia cy (hh 1) 7 (fnd C (cNight (nI k) x2))]))) := congrArg (fun z9 => [sO cy hh a kk dd b w ee qq ik] ++ (pS cy a (upd S (2 + k) x2) ++ ([ia cy (hh 1) 7 z9]))) (show C = (fnd C (cNight (nI k) x2)) from fnd_o hcd)
          replace hP1 := (congrArg (fun z9 => va_P D vwCl z9 _) hq9).mp hP1
          replace hD1 := (congrArg (fun z9 => va_D _ z9) hq9).mp hD1
          clear hq9
          have hq9 : ([sO cy hh a kk dd b w ee qq ik] ++ (pS cy a (upd S (2 + k) x2) ++ ([ia cy (hh 1) 7 (fnd C (cNight (nI k) x2))]))) = ([sO cy hh a kk dd b w ee qq ik] ++ (pS cy a (if cNight (nI k) x2 = 7 then upd S (2 + bstN (nI k)) x2 else S) ++ ([ia cy (hh 1) 7 (fnd C (cNight (nI k) x2))]))) := congrArg (fun z9 => [sO cy hh a kk dd b w ee qq ik] ++ (pS cy a z9 ++ ([ia cy (hh 1) 7 (fnd C (cNight (nI k) x2))]))) (show (upd S (2 + k) x2) = (if cNight (nI k) x2 = 7 then upd S (2 + bstN (nI k)) x2 else S) from by rw [if_pos hcd, hbk])
          replace hP1 := (congrArg (fun z9 => va_P D vwCl z9 _) hq9).mp hP1
          replace hD1 := (congrArg (fun z9 => va_D _ z9) hq9).mp hD1
          clear hq9
          refine re_i () hx hb hr hlocks hP1 hD1 hS1 dX6_night_55 ?_
          exact (ans_o hcd (by rw [hbk]))
        · refine lv_aload_n hx hb dX6_night_28 rfl (lv_at hl0 0 rfl) ?_
          refine lv_iconst (v := 0) hx hb dX6_night_29 (by decide) ?_
          refine cV_i (wc := [sO cy hh a kk dd b w ee qq ik, ia cy (hh 1) 7 C]) (wr := pS cy a S) (rest := []) hx hb hml hown hw hG hK hP0 hD0 hS0 hA hl0 kc_X6_find kw_2_59 [.int 0] (c_X6_find l D cy G H0.size hh a kk dd b w ee qq ik C 0 (by first | omega | assumption)) [0, 11] [1, 2, 3, 4, 5, 6, 7, 8, 9, 10] rfl rfl rfl rfl rfl 0 rfl rfl rfl rfl rfl (Nat.le_of_ble_eq_true rfl) ⟨Nat.le_of_ble_eq_true rfl, Nat.le_of_ble_eq_true rfl⟩ dX6_night_30 ⟨Nat.le_of_ble_eq_true rfl, Nat.le_of_ble_eq_true rfl⟩ (fun r_30 u9 H1 locs1 hu9 hP1 hD1 hS1 => ?_)
          clear hP0 hD0 hS0 locs0 H0
          have hr_30 := hu9
          replace hP1 : va_P D vwCl (pS cy a S ++ ([sO cy hh a kk dd b w ee qq ik, ia cy (hh 1) 7 (upd C 0 (C 0 + 1))])) H1 := hP1
          replace hD1 : va_D (va_A _ sz) (pS cy a S ++ ([sO cy hh a kk dd b w ee qq ik, ia cy (hh 1) 7 (upd C 0 (C 0 + 1))])) := hD1
          replace hP1 := hP1.sub (ws' := [sO cy hh a kk dd b w ee qq ik] ++ (pS cy a S ++ ([ia cy (hh 1) 7 (upd C 0 (C 0 + 1))]))) [10, 0, 1, 2, 3, 4, 5, 6, 7, 8, 9, 11] rfl
          replace hD1 := hD1.sub (ws' := [sO cy hh a kk dd b w ee qq ik] ++ (pS cy a S ++ ([ia cy (hh 1) 7 (upd C 0 (C 0 + 1))]))) [10, 0, 1, 2, 3, 4, 5, 6, 7, 8, 9, 11] (by decide) rfl
          subst hr_30
          have hcd : cNight (nI k) x2 = 0 := by unfold cNight; clear hx hb hml hown hr hlocks hw hsz hA hG hK hP1 hD1 hS1 hl0; grind
          have hq9 : ([sO cy hh a kk dd b w ee qq ik] ++ (pS cy a S ++ ([ia cy (hh 1) 7 (upd C 0 (C 0 + 1))]))) = ([sO cy hh a kk dd b w ee qq ik] ++ (pS cy a S ++ ([ia cy (hh 1) 7 (fnd C (cNight (nI k) x2))]))) := congrArg (fun z9 => [sO cy hh a kk dd b w ee qq ik] ++ (pS cy a S ++ ([ia cy (hh 1) 7 z9]))) (show (upd C 0 (C 0 + 1)) = (fnd C (cNight (nI k) x2)) from fnd_f hcd (by decide))
          replace hP1 := (congrArg (fun z9 => va_P D vwCl z9 _) hq9).mp hP1
          replace hD1 := (congrArg (fun z9 => va_D _ z9) hq9).mp hD1
          clear hq9
          have hq9 : ([sO cy hh a kk dd b w ee qq ik] ++ (pS cy a S ++ ([ia cy (hh 1) 7 (fnd C (cNight (nI k) x2))]))) = ([sO cy hh a kk dd b w ee qq ik] ++ (pS cy a (if cNight (nI k) x2 = 7 then upd S (2 + bstN (nI k)) x2 else S) ++ ([ia cy (hh 1) 7 (fnd C (cNight (nI k) x2))]))) := congrArg (fun z9 => [sO cy hh a kk dd b w ee qq ik] ++ (pS cy a z9 ++ ([ia cy (hh 1) 7 (fnd C (cNight (nI k) x2))]))) (show S = (if cNight (nI k) x2 = 7 then upd S (2 + bstN (nI k)) x2 else S) from (if_neg (fun z9 => absurd (hcd.symm.trans z9) (by decide))).symm)
          replace hP1 := (congrArg (fun z9 => va_P D vwCl z9 _) hq9).mp hP1
          replace hD1 := (congrArg (fun z9 => va_D _ z9) hq9).mp hD1
          clear hq9
          refine re_i () hx hb hr hlocks hP1 hD1 hS1 dX6_night_33 ?_
          exact (ans_f hcd (by decide) rfl)

theorem kc_X7_night : kV yX7_night cX7_night 4 (some .int) 2 := ⟨kw_4_205, kw_4_206, kw_1_8, kw_4_207, by decide, by decide, by decide +kernel⟩
set_option maxHeartbeats 4000000 in
set_option maxRecDepth 100000 in
theorem c_X7_night (l : Launch) (D : va_G) (cy : Nat → ClassId) (G : Nat → Nat) (sz : Nat) (mm : Nat → Nat) (ik : Int32) (tl : Int32) (fm : Int32) (tz : Int32) (vl : Int32) (iw : Int32) (rm : Int32) (rr : Int32) (om : Int32) (S : Nat → Int32) (C : Nat → Int32) (x1 : Int32) (x2 : Int32) (wf : wf S) : Met l yX7_night (wm yX7_night cX7_night 4 (some .int)) { frames := 1, cells := 0, slots := 0, locals := 25 } (va_Pc [.ref (mm 0), .int x1, .int x2] (pr D (TY cy) G ([mO cy mm ik tl fm tz vl iw rm rr om, ia cy (mm 1) 169 S, ia cy (mm 4) 7 C]) sz)) (va_Qi (fun (r : Int32) (u : Unit) => r = ans (cNight x1 x2) (S (2 + bstN x1))) (fun (u : Unit) t => po D (va_A ([mO cy mm ik tl fm tz vl iw rm rr om, ia cy (mm 1) 169 S, ia cy (mm 4) 7 C]) sz) ([mO cy mm ik tl fm tz vl iw rm rr om, ia cy (mm 1) 169 (if cNight x1 x2 = 7 then upd S (2 + bstN x1) x2 else S), ia cy (mm 4) 7 (fnd C (cNight x1 x2))]) t) (va_A ([mO cy mm ik tl fm tz vl iw rm rr om, ia cy (mm 1) 169 S, ia cy (mm 4) 7 C]) sz)) 0 0 (va_A ([mO cy mm ik tl fm tz vl iw rm rr om, ia cy (mm 1) 169 S, ia cy (mm 4) 7 C]) sz) := by
  refine mk_rw (by decide) RX7 rfl (Nat.le_of_ble_eq_true rfl) [(0, .ref (mm 0)), (1, .int x1), (2, .int x2)] rfl ?_
  intro p e s m below meth c hx hb hml hown hr hlocks hin hw hsz hA hG hK H0 locs0 hP0 hD0 hS0 ls0 hl0
  clear hin
  refine lv_iload_n hx hb dX7_night_0 rfl (lv_at hl0 1 rfl) ?_
  refine lv_i2l hx hb dX7_night_1 rfl ?_
  refine lv_lconst (v := 0) hx hb dX7_night_2 (by decide) ?_
  refine lv_ldc2 (v := 5) hx hb hown (hw _ kw_4_152) dX7_night_3 ?_
  refine rT_i (wc := []) (rest := []) hx hb hml hown hw hG hK hP0 hS0 hA hl0 kc_X7_in kw_4_153 [.long x1.toInt64, .long 0, .long 5] (c_X7_in l D cy G H0.size x1.toInt64 0 5) [] rfl rfl rfl (Nat.le_of_ble_eq_true rfl) ⟨Nat.le_of_ble_eq_true rfl, Nat.le_of_ble_eq_true rfl⟩ dX7_night_6 ⟨Nat.le_of_ble_eq_true rfl, Nat.le_of_ble_eq_true rfl⟩ (fun r_6 H1 locs1 hr_6 hP1 hS1 => ?_)
  have hD1 := hD0
  clear hP0 hD0 hS0 locs0 H0
  subst hr_6
  refine tp (show (b2i (0 ≤ x1.toInt64 ∧ x1.toInt64 ≤ 5)) = b2i (0 ≤ x1 ∧ x1 ≤ 5) from b2i_iff (in_c (by decide) (by decide))) ?_
  refine lb_eq (tgt := 30) hx hb dX7_night_9 (by decide) (fun c_9 => ?_) (fun c_9 => ?_)
  · refine lv_aload_n hx hb dX7_night_30 rfl (lv_at hl0 0 rfl) ?_
    refine lv_ldc (v := (-1000000001)) hx hb hown (hw _ kw_4_143) dX7_night_31 ?_
    refine cV_i (wc := [mO cy mm ik tl fm tz vl iw rm rr om, ia cy (mm 4) 7 C]) (wr := [ia cy (mm 1) 169 S]) (rest := []) hx hb hml hown hw hG hK hP1 hD1 hS1 hA hl0 kc_X7_finds kw_4_139 [.int (-1000000001)] (c_X7_finds l D cy G H1.size mm ik tl fm tz vl iw rm rr om C 0 (-1000000001) (by decide) (by decide)) [0, 2] [1] rfl rfl rfl rfl rfl 0 rfl rfl rfl rfl rfl (Nat.le_of_ble_eq_true rfl) ⟨Nat.le_of_ble_eq_true rfl, Nat.le_of_ble_eq_true rfl⟩ dX7_night_33 ⟨Nat.le_of_ble_eq_true rfl, Nat.le_of_ble_eq_true rfl⟩ (fun r_33 u9 H2 locs2 hu9 hP2 hD2 hS2 => ?_)
    clear hP1 hD1 hS1 locs1 H1
    have hr_33 := hu9
    replace hP2 : va_P D vwCl ([ia cy (mm 1) 169 S, mO cy mm ik tl fm tz vl iw rm rr om, ia cy (mm 4) 7 (upd C 0 (C 0 + 1))]) H2 := hP2
    replace hD2 : va_D (va_A _ sz) ([ia cy (mm 1) 169 S, mO cy mm ik tl fm tz vl iw rm rr om, ia cy (mm 4) 7 (upd C 0 (C 0 + 1))]) := hD2
    replace hP2 := hP2.sub (ws' := [mO cy mm ik tl fm tz vl iw rm rr om, ia cy (mm 1) 169 S, ia cy (mm 4) 7 (upd C 0 (C 0 + 1))]) [1, 0, 2] rfl
    replace hD2 := hD2.sub (ws' := [mO cy mm ik tl fm tz vl iw rm rr om, ia cy (mm 1) 169 S, ia cy (mm 4) 7 (upd C 0 (C 0 + 1))]) [1, 0, 2] (by decide) rfl
    subst hr_33
    have hcd : cNight x1 x2 = 0 := by unfold cNight; clear hx hb hml hown hr hlocks hw hsz hA hG hK hP2 hD2 hS2 hl0; grind
    have hq9 : ([mO cy mm ik tl fm tz vl iw rm rr om, ia cy (mm 1) 169 S, ia cy (mm 4) 7 (upd C 0 (C 0 + 1))]) = ([mO cy mm ik tl fm tz vl iw rm rr om, ia cy (mm 1) 169 S, ia cy (mm 4) 7 (fnd C (cNight x1 x2))]) := congrArg (fun z9 => [mO cy mm ik tl fm tz vl iw rm rr om, ia cy (mm 1) 169 S, ia cy (mm 4) 7 z9]) (show (upd C 0 (C 0 + 1)) = (fnd C (cNight x1 x2)) from fnd_f hcd (by decide))
    replace hP2 := (congrArg (fun z9 => va_P D vwCl z9 _) hq9).mp hP2
    replace hD2 := (congrArg (fun z9 => va_D _ z9) hq9).mp hD2
    clear hq9
    have hq9 : ([mO cy mm ik tl fm tz vl iw rm rr om, ia cy (mm 1) 169 S, ia cy (mm 4) 7 (fnd C (cNight x1 x2))]) = ([mO cy mm ik tl fm tz vl iw rm rr om, ia cy (mm 1) 169 (if cNight x1 x2 = 7 then upd S (2 + bstN x1) x2 else S), ia cy (mm 4) 7 (fnd C (cNight x1 x2))]) := congrArg (fun z9 => [mO cy mm ik tl fm tz vl iw rm rr om, ia cy (mm 1) 169 z9, ia cy (mm 4) 7 (fnd C (cNight x1 x2))]) (show S = (if cNight x1 x2 = 7 then upd S (2 + bstN x1) x2 else S) from (if_neg (fun z9 => absurd (hcd.symm.trans z9) (by decide))).symm)
    replace hP2 := (congrArg (fun z9 => va_P D vwCl z9 _) hq9).mp hP2
    replace hD2 := (congrArg (fun z9 => va_D _ z9) hq9).mp hD2
    clear hq9
    refine re_i () hx hb hr hlocks hP2 hD2 hS2 dX7_night_36 ?_
    exact (ans_f hcd (by decide) rfl)
  · obtain ⟨k, hk, rfl⟩ := nI_rn (n := 6) (by decide) (x := x1) ⟨c_9.1, Int32.lt_of_le_of_lt c_9.2 (by decide)⟩
    have hbk : bstN (nI k) = k := bst_n (by omega)
    refine lv_iload_n hx hb dX7_night_12 rfl (lv_at hl0 2 rfl) ?_
    refine lv_i2l hx hb dX7_night_13 rfl ?_
    refine lv_iload_n hx hb dX7_night_14 rfl (lv_at hl0 1 rfl) ?_
    refine rT_i (wc := []) (rest := [.long x2.toInt64]) hx hb hml hown hw hG hK hP1 hS1 hA hl0 kc_X7_leastOf kw_4_208 [.int (nI k)] (c_X7_leastOf l D cy G H1.size (nI k)) [] rfl rfl rfl (Nat.le_of_ble_eq_true rfl) ⟨Nat.le_of_ble_eq_true rfl, Nat.le_of_ble_eq_true rfl⟩ dX7_night_15 ⟨Nat.le_of_ble_eq_true rfl, Nat.le_of_ble_eq_true rfl⟩ (fun r_15 H2 locs2 hr_15 hP2 hS2 => ?_)
    have hD2 := hD1
    clear hP1 hD1 hS1 locs1 H1
    subst hr_15
    refine lv_i2l hx hb dX7_night_18 rfl ?_
    refine lv_iload_n hx hb dX7_night_19 rfl (lv_at hl0 1 rfl) ?_
    refine rT_i (wc := []) (rest := [.long ((if (nI k) = 3 then -99 else 0 : Int32).toInt64), .long x2.toInt64]) hx hb hml hown hw hG hK hP2 hS2 hA hl0 kc_X7_mostOf kw_4_211 [.int (nI k)] (c_X7_mostOf l D cy G H2.size (nI k)) [] rfl rfl rfl (Nat.le_of_ble_eq_true rfl) ⟨Nat.le_of_ble_eq_true rfl, Nat.le_of_ble_eq_true rfl⟩ dX7_night_20 ⟨Nat.le_of_ble_eq_true rfl, Nat.le_of_ble_eq_true rfl⟩ (fun r_20 H3 locs3 hr_20 hP3 hS3 => ?_)
    have hD3 := hD2
    clear hP2 hD2 hS2 locs2 H2
    subst hr_20
    refine lv_i2l hx hb dX7_night_23 rfl ?_
    refine rT_i (wc := []) (rest := []) hx hb hml hown hw hG hK hP3 hS3 hA hl0 kc_X7_in kw_4_153 [.long x2.toInt64, .long ((if (nI k) = 3 then -99 else 0 : Int32).toInt64), .long ((if (nI k) = 0 then 40 else if (nI k) = 2 then 3 else if (nI k) = 5 then 100 else 99 : Int32).toInt64)] (c_X7_in l D cy G H3.size x2.toInt64 ((if (nI k) = 3 then -99 else 0 : Int32).toInt64) ((if (nI k) = 0 then 40 else if (nI k) = 2 then 3 else if (nI k) = 5 then 100 else 99 : Int32).toInt64)) [] rfl rfl rfl (Nat.le_of_ble_eq_true rfl) ⟨Nat.le_of_ble_eq_true rfl, Nat.le_of_ble_eq_true rfl⟩ dX7_night_24 ⟨Nat.le_of_ble_eq_true rfl, Nat.le_of_ble_eq_true rfl⟩ (fun r_24 H4 locs4 hr_24 hP4 hS4 => ?_)
    have hD4 := hD3
    clear hP3 hD3 hS3 locs3 H3
    subst hr_24
    refine tp (show (b2i (((if (nI k) = 3 then -99 else 0 : Int32).toInt64) ≤ x2.toInt64 ∧ x2.toInt64 ≤ ((if (nI k) = 0 then 40 else if (nI k) = 2 then 3 else if (nI k) = 5 then 100 else 99 : Int32).toInt64))) = b2i ((if (nI k) = 3 then -99 else 0) ≤ x2 ∧ x2 ≤ if (nI k) = 0 then 40 else if (nI k) = 2 then 3 else if (nI k) = 5 then 100 else 99) from b2i_iff (in_c rfl rfl)) ?_
    refine lb_ne (tgt := 37) hx hb dX7_night_27 (by decide) (fun c_27 => ?_) (fun c_27 => ?_)
    · refine lv_aload_n hx hb dX7_night_37 rfl (lv_at hl0 0 rfl) ?_
      refine va_get (D := D) (ci := 7) (v := .ref (mm 1)) (C := RX7) (T := TX7) (N := 23) hx hb hw iX7 hown hK hP4 0 rfl rfl 0 (by decide) (hw _ kw_4_64) (fun _ h9 => h9) rfl dX7_night_38 ?_
      refine lv_iconst (v := 2) hx hb dX7_night_41 (by decide) ?_
      refine lv_iload_n hx hb dX7_night_42 rfl (lv_at hl0 1 rfl) ?_
      refine lv_iadd hx hb dX7_night_43 ?_
      refine tp (show (2 + (nI k)) = nI (2 + k) from nI_add _ _) ?_
      refine ald_i (f := S) hx hb hK hP4 1 0 rfl rfl (2 + k) rfl (by first | omega | assumption) (by decide) dX7_night_44 ?_
      refine lv_istore_n (lv' := [(3, .int (S (2 + k))), (0, .ref (mm 0)), (1, .int (nI k)), (2, .int x2)]) hx hb dX7_night_45 rfl hl0 (by decide) rfl (fun ls1 hl1 => ?_)
      clear hl0 ls0
      refine lv_aload_n hx hb dX7_night_46 rfl (lv_at hl1 1 rfl) ?_
      refine va_get (D := D) (ci := 7) (v := .ref (mm 1)) (C := RX7) (T := TX7) (N := 23) hx hb hw iX7 hown hK hP4 0 rfl rfl 0 (by decide) (hw _ kw_4_64) (fun _ h9 => h9) rfl dX7_night_47 ?_
      refine lv_iconst (v := 2) hx hb dX7_night_50 (by decide) ?_
      refine lv_iload_n hx hb dX7_night_51 rfl (lv_at hl1 2 rfl) ?_
      refine lv_iadd hx hb dX7_night_52 ?_
      refine tp (show (2 + (nI k)) = nI (2 + k) from nI_add _ _) ?_
      refine lv_iload_n hx hb dX7_night_53 rfl (lv_at hl1 3 rfl) ?_
      refine ast_i (f := S) (ws' := [mO cy mm ik tl fm tz vl iw rm rr om, ia cy (mm 1) 169 (upd S (2 + k) x2), ia cy (mm 4) 7 C]) hx hb hK hP4 hD4 hS4 1 0 rfl rfl (2 + k) rfl (by first | omega | assumption) (by decide) rfl dX7_night_54 (fun H5 locs5 hP5 hD5 hS5 => ?_)
      clear hP4 hD4 hS4 locs4 H4
      refine lv_iload_n hx hb dX7_night_55 rfl (lv_at hl1 0 rfl) ?_
      have hcd : cNight (nI k) x2 = 7 := by unfold cNight; clear hx hb hml hown hr hlocks hw hsz hA hG hK hP5 hD5 hS5 hl1; grind
      have hq9 : ([mO cy mm ik tl fm tz vl iw rm rr om, ia cy (mm 1) 169 (upd S (2 + k) x2), ia cy (mm 4) 7 C]) = ([mO cy mm ik tl fm tz vl iw rm rr om, ia cy (mm 1) 169 (upd S (2 + k) x2), ia cy (mm 4) 7 (fnd C (cNight (nI k) x2))]) := congrArg (fun z9 => [mO cy mm ik tl fm tz vl iw rm rr om, ia cy (mm 1) 169 (upd S (2 + k) x2), ia cy (mm 4) 7 z9]) (show C = (fnd C (cNight (nI k) x2)) from fnd_o hcd)
      replace hP5 := (congrArg (fun z9 => va_P D vwCl z9 _) hq9).mp hP5
      replace hD5 := (congrArg (fun z9 => va_D _ z9) hq9).mp hD5
      clear hq9
      have hq9 : ([mO cy mm ik tl fm tz vl iw rm rr om, ia cy (mm 1) 169 (upd S (2 + k) x2), ia cy (mm 4) 7 (fnd C (cNight (nI k) x2))]) = ([mO cy mm ik tl fm tz vl iw rm rr om, ia cy (mm 1) 169 (if cNight (nI k) x2 = 7 then upd S (2 + bstN (nI k)) x2 else S), ia cy (mm 4) 7 (fnd C (cNight (nI k) x2))]) := congrArg (fun z9 => [mO cy mm ik tl fm tz vl iw rm rr om, ia cy (mm 1) 169 z9, ia cy (mm 4) 7 (fnd C (cNight (nI k) x2))]) (show (upd S (2 + k) x2) = (if cNight (nI k) x2 = 7 then upd S (2 + bstN (nI k)) x2 else S) from by rw [if_pos hcd, hbk])
      replace hP5 := (congrArg (fun z9 => va_P D vwCl z9 _) hq9).mp hP5
      replace hD5 := (congrArg (fun z9 => va_D _ z9) hq9).mp hD5
      clear hq9
      refine re_i () hx hb hr hlocks hP5 hD5 hS5 dX7_night_56 ?_
      exact (ans_o hcd (by rw [hbk]))
    · refine lv_aload_n hx hb dX7_night_30 rfl (lv_at hl0 0 rfl) ?_
      refine lv_ldc (v := (-1000000001)) hx hb hown (hw _ kw_4_143) dX7_night_31 ?_
      refine cV_i (wc := [mO cy mm ik tl fm tz vl iw rm rr om, ia cy (mm 4) 7 C]) (wr := [ia cy (mm 1) 169 S]) (rest := []) hx hb hml hown hw hG hK hP4 hD4 hS4 hA hl0 kc_X7_finds kw_4_139 [.int (-1000000001)] (c_X7_finds l D cy G H4.size mm ik tl fm tz vl iw rm rr om C 0 (-1000000001) (by decide) (by decide)) [0, 2] [1] rfl rfl rfl rfl rfl 0 rfl rfl rfl rfl rfl (Nat.le_of_ble_eq_true rfl) ⟨Nat.le_of_ble_eq_true rfl, Nat.le_of_ble_eq_true rfl⟩ dX7_night_33 ⟨Nat.le_of_ble_eq_true rfl, Nat.le_of_ble_eq_true rfl⟩ (fun r_33 u9 H5 locs5 hu9 hP5 hD5 hS5 => ?_)
      clear hP4 hD4 hS4 locs4 H4
      have hr_33 := hu9
      replace hP5 : va_P D vwCl ([ia cy (mm 1) 169 S, mO cy mm ik tl fm tz vl iw rm rr om, ia cy (mm 4) 7 (upd C 0 (C 0 + 1))]) H5 := hP5
      replace hD5 : va_D (va_A _ sz) ([ia cy (mm 1) 169 S, mO cy mm ik tl fm tz vl iw rm rr om, ia cy (mm 4) 7 (upd C 0 (C 0 + 1))]) := hD5
      replace hP5 := hP5.sub (ws' := [mO cy mm ik tl fm tz vl iw rm rr om, ia cy (mm 1) 169 S, ia cy (mm 4) 7 (upd C 0 (C 0 + 1))]) [1, 0, 2] rfl
      replace hD5 := hD5.sub (ws' := [mO cy mm ik tl fm tz vl iw rm rr om, ia cy (mm 1) 169 S, ia cy (mm 4) 7 (upd C 0 (C 0 + 1))]) [1, 0, 2] (by decide) rfl
      subst hr_33
      have hcd : cNight (nI k) x2 = 0 := by unfold cNight; clear hx hb hml hown hr hlocks hw hsz hA hG hK hP5 hD5 hS5 hl0; grind
      have hq9 : ([mO cy mm ik tl fm tz vl iw rm rr om, ia cy (mm 1) 169 S, ia cy (mm 4) 7 (upd C 0 (C 0 + 1))]) = ([mO cy mm ik tl fm tz vl iw rm rr om, ia cy (mm 1) 169 S, ia cy (mm 4) 7 (fnd C (cNight (nI k) x2))]) := congrArg (fun z9 => [mO cy mm ik tl fm tz vl iw rm rr om, ia cy (mm 1) 169 S, ia cy (mm 4) 7 z9]) (show (upd C 0 (C 0 + 1)) = (fnd C (cNight (nI k) x2)) from fnd_f hcd (by decide))
      replace hP5 := (congrArg (fun z9 => va_P D vwCl z9 _) hq9).mp hP5
      replace hD5 := (congrArg (fun z9 => va_D _ z9) hq9).mp hD5
      clear hq9
      have hq9 : ([mO cy mm ik tl fm tz vl iw rm rr om, ia cy (mm 1) 169 S, ia cy (mm 4) 7 (fnd C (cNight (nI k) x2))]) = ([mO cy mm ik tl fm tz vl iw rm rr om, ia cy (mm 1) 169 (if cNight (nI k) x2 = 7 then upd S (2 + bstN (nI k)) x2 else S), ia cy (mm 4) 7 (fnd C (cNight (nI k) x2))]) := congrArg (fun z9 => [mO cy mm ik tl fm tz vl iw rm rr om, ia cy (mm 1) 169 z9, ia cy (mm 4) 7 (fnd C (cNight (nI k) x2))]) (show S = (if cNight (nI k) x2 = 7 then upd S (2 + bstN (nI k)) x2 else S) from (if_neg (fun z9 => absurd (hcd.symm.trans z9) (by decide))).symm)
      replace hP5 := (congrArg (fun z9 => va_P D vwCl z9 _) hq9).mp hP5
      replace hD5 := (congrArg (fun z9 => va_D _ z9) hq9).mp hD5
      clear hq9
      refine re_i () hx hb hr hlocks hP5 hD5 hS5 dX7_night_36 ?_
      exact (ans_f hcd (by decide) rfl)
