theorem kc_X6_image : kV yX6_image cX6_image 1 (some .int) 0 := ⟨kw_4_27, kw_4_28, kw_1_1, kw_4_29, by decide, by decide, by decide +kernel⟩
set_option maxHeartbeats 4000000 in
set_option maxRecDepth 100000 in
theorem c_X6_image (l : Launch) (D : va_G) (cy : Nat → ClassId) (G : Nat → Nat) (sz : Nat) (hh : Nat → Nat) (a : Nat → Nat) (kk : Nat → Nat) (dd : Nat → Nat) (b : Nat → Nat) (w : Nat → Nat) (ee : Nat → Nat) (qq : Nat → Nat) (ik : Int32) (S : Nat → Int32) (K : Nat → Int32) (wk : wf K) (wf : wf S) : Met l yX6_image (wm yX6_image cX6_image 1 (some .int)) { frames := 2, cells := 0, slots := 0, locals := 48 } (va_Pc [.ref (hh 0)] (pr D (TY cy) G ([sO cy hh a kk dd b w ee qq ik] ++ (pS cy a S ++ (pS cy kk K))) sz)) (va_Qi (fun (r : Int32) (u : Unit) => r = 1) (fun (u : Unit) t => po D (va_A ([sO cy hh a kk dd b w ee qq ik] ++ (pS cy a S ++ (pS cy kk K))) sz) ([sO cy hh a kk dd b w ee qq 1] ++ (pS cy a S ++ (pS cy kk S))) t) (va_A ([sO cy hh a kk dd b w ee qq ik] ++ (pS cy a S ++ (pS cy kk K))) sz)) 0 0 (va_A ([sO cy hh a kk dd b w ee qq ik] ++ (pS cy a S ++ (pS cy kk K))) sz) := by
  refine mk_rw (by decide) RX6 rfl (Nat.le_of_ble_eq_true rfl) [(0, .ref (hh 0))] rfl ?_
  intro p e s m below meth c hx hb hml hown hr hlocks hin hw hsz hA hG hK H0 locs0 hP0 hD0 hS0 ls0 hl0
  clear hin
  refine lv_aload_n hx hb dX6_image_0 rfl (lv_at hl0 0 rfl) ?_
  refine va_get (D := D) (ci := 6) (v := .ref (kk 0)) (C := RX6) (T := TX6) (N := 9) hx hb hw iX6 hown hK hP0 0 rfl rfl 1 (by decide) (hw _ kw_2_28) (fun _ h9 => h9) rfl dX6_image_1 ?_
  refine lv_aload_n hx hb dX6_image_4 rfl (lv_at hl0 0 rfl) ?_
  refine va_get (D := D) (ci := 6) (v := .ref (a 0)) (C := RX6) (T := TX6) (N := 9) hx hb hw iX6 hown hK hP0 0 rfl rfl 0 (by decide) (hw _ kw_2_27) (fun _ h9 => h9) rfl dX6_image_5 ?_
  refine cV_v (wc := pS cy kk K ++ (pS cy a S)) (wr := [sO cy hh a kk dd b w ee qq ik]) (rest := []) hx hb hml hown hw hG hK hP0 hD0 hS0 hA hl0 kc_X1_takeFrom kw_2_156 [.ref (a 0)] (c_X1_takeFrom l D cy G H0.size kk K a S (wf_can wk) (wf_can wf)) [11, 12, 13, 14, 15, 16, 17, 18, 19, 20, 1, 2, 3, 4, 5, 6, 7, 8, 9, 10] [0] rfl rfl rfl rfl rfl 0 rfl rfl rfl rfl rfl (Nat.le_of_ble_eq_true rfl) ⟨Nat.le_of_ble_eq_true rfl, Nat.le_of_ble_eq_true rfl⟩ dX6_image_8 ⟨Nat.le_of_ble_eq_true rfl, Nat.le_of_ble_eq_true rfl⟩ (fun u9 H1 locs1 hu9 hP1 hD1 hS1 => ?_)
  clear hP0 hD0 hS0 locs0 H0
  replace hP1 : va_P D vwCl ([sO cy hh a kk dd b w ee qq ik] ++ (pS cy kk S ++ (pS cy a S))) H1 := hP1
  replace hD1 : va_D (va_A _ sz) ([sO cy hh a kk dd b w ee qq ik] ++ (pS cy kk S ++ (pS cy a S))) := hD1
  replace hP1 := hP1.sub (ws' := [sO cy hh a kk dd b w ee qq ik] ++ (pS cy a S ++ (pS cy kk S))) [0, 11, 12, 13, 14, 15, 16, 17, 18, 19, 20, 1, 2, 3, 4, 5, 6, 7, 8, 9, 10] rfl
  replace hD1 := hD1.sub (ws' := [sO cy hh a kk dd b w ee qq ik] ++ (pS cy a S ++ (pS cy kk S))) [0, 11, 12, 13, 14, 15, 16, 17, 18, 19, 20, 1, 2, 3, 4, 5, 6, 7, 8, 9, 10] (by decide) rfl
  refine lv_aload_n hx hb dX6_image_11 rfl (lv_at hl0 0 rfl) ?_
  refine lv_iconst (v := 1) hx hb dX6_image_12 (by decide) ?_
  refine pt (D := D) (ci := 6) (v := .int 1) (ty := .boolean) (C := RX6) (T := TX6) (N := 9) (ws' := [sO cy hh a kk dd b w ee qq 1] ++ (pS cy a S ++ (pS cy kk S))) hx hb hw iX6 tyX6 tyX6_ok nmX6 hown hK hP1 hD1 hS1 0 rfl rfl 2 (by decide) kw_2_29 (fun _ h9 => h9) rfl (by decide +kernel) rfl rfl (Nat.le_of_ble_eq_true rfl) rfl dX6_image_13 (fun H2 locs2 hP2 hD2 hS2 => ?_)
  clear hP1 hD1 hS1 locs1 H1
  refine lv_iconst (v := 1) hx hb dX6_image_16 (by decide) ?_
  refine re_i () hx hb hr hlocks hP2 hD2 hS2 dX6_image_17 ?_
  exact (rfl)

theorem kc_X6_undo : kV yX6_undo cX6_undo 1 (some .int) 0 := ⟨kw_4_31, kw_4_32, kw_1_1, kw_4_33, by decide, by decide, by decide +kernel⟩
set_option maxHeartbeats 4000000 in
set_option maxRecDepth 100000 in
theorem c_X6_undo (l : Launch) (D : va_G) (cy : Nat → ClassId) (G : Nat → Nat) (sz : Nat) (hh : Nat → Nat) (a : Nat → Nat) (kk : Nat → Nat) (dd : Nat → Nat) (b : Nat → Nat) (w : Nat → Nat) (ee : Nat → Nat) (qq : Nat → Nat) (ik : Int32) (C : Nat → Int32) (S : Nat → Int32) (K : Nat → Int32) (wk : wf K) (wf : wf S) : Met l yX6_undo (wm yX6_undo cX6_undo 1 (some .int)) { frames := 2, cells := 0, slots := 0, locals := 48 } (va_Pc [.ref (hh 0)] (pr D (TY cy) G ([sO cy hh a kk dd b w ee qq ik] ++ (pS cy a S ++ ([ia cy (hh 1) 7 C] ++ (pS cy kk K)))) sz)) (va_Qi (fun (r : Int32) (u : Unit) => r = ans (cUndo ik) (K 1)) (fun (u : Unit) t => po D (va_A ([sO cy hh a kk dd b w ee qq ik] ++ (pS cy a S ++ ([ia cy (hh 1) 7 C] ++ (pS cy kk K)))) sz) ([sO cy hh a kk dd b w ee qq ik] ++ (pS cy a (if cUndo ik = 7 then K else S) ++ ([ia cy (hh 1) 7 (fnd C (cUndo ik))] ++ (pS cy kk K)))) t) (va_A ([sO cy hh a kk dd b w ee qq ik] ++ (pS cy a S ++ ([ia cy (hh 1) 7 C] ++ (pS cy kk K)))) sz)) 0 0 (va_A ([sO cy hh a kk dd b w ee qq ik] ++ (pS cy a S ++ ([ia cy (hh 1) 7 C] ++ (pS cy kk K)))) sz) := by
  refine mk_rw (by decide) RX6 rfl (Nat.le_of_ble_eq_true rfl) [(0, .ref (hh 0))] rfl ?_
  intro p e s m below meth c hx hb hml hown hr hlocks hin hw hsz hA hG hK H0 locs0 hP0 hD0 hS0 ls0 hl0
  clear hin
  refine lv_aload_n hx hb dX6_undo_0 rfl (lv_at hl0 0 rfl) ?_
  refine va_get (D := D) (ci := 6) (v := .int ik) (C := RX6) (T := TX6) (N := 9) hx hb hw iX6 hown hK hP0 0 rfl rfl 2 (by decide) (hw _ kw_2_29) (fun _ h9 => h9) rfl dX6_undo_1 ?_
  refine lv_if_ne (tgt := 13) hx hb dX6_undo_4 (by decide) (fun c_4 => ?_) (fun c_4 => ?_)
  · refine lv_aload_n hx hb dX6_undo_13 rfl (lv_at hl0 0 rfl) ?_
    refine va_get (D := D) (ci := 6) (v := .ref (a 0)) (C := RX6) (T := TX6) (N := 9) hx hb hw iX6 hown hK hP0 0 rfl rfl 0 (by decide) (hw _ kw_2_27) (fun _ h9 => h9) rfl dX6_undo_14 ?_
    refine lv_aload_n hx hb dX6_undo_17 rfl (lv_at hl0 0 rfl) ?_
    refine va_get (D := D) (ci := 6) (v := .ref (kk 0)) (C := RX6) (T := TX6) (N := 9) hx hb hw iX6 hown hK hP0 0 rfl rfl 1 (by decide) (hw _ kw_2_28) (fun _ h9 => h9) rfl dX6_undo_18 ?_
    refine cV_v (wc := pS cy a S ++ (pS cy kk K)) (wr := [sO cy hh a kk dd b w ee qq ik, ia cy (hh 1) 7 C]) (rest := []) hx hb hml hown hw hG hK hP0 hD0 hS0 hA hl0 kc_X1_takeFrom kw_2_156 [.ref (kk 0)] (c_X1_takeFrom l D cy G H0.size a S kk K (wf_can wf) (wf_can wk)) [1, 2, 3, 4, 5, 6, 7, 8, 9, 10, 12, 13, 14, 15, 16, 17, 18, 19, 20, 21] [0, 11] rfl rfl rfl rfl rfl 0 rfl rfl rfl rfl rfl (Nat.le_of_ble_eq_true rfl) ⟨Nat.le_of_ble_eq_true rfl, Nat.le_of_ble_eq_true rfl⟩ dX6_undo_21 ⟨Nat.le_of_ble_eq_true rfl, Nat.le_of_ble_eq_true rfl⟩ (fun u9 H1 locs1 hu9 hP1 hD1 hS1 => ?_)
    clear hP0 hD0 hS0 locs0 H0
    replace hP1 : va_P D vwCl ([sO cy hh a kk dd b w ee qq ik, ia cy (hh 1) 7 C] ++ (pS cy a K ++ (pS cy kk K))) H1 := hP1
    replace hD1 : va_D (va_A _ sz) ([sO cy hh a kk dd b w ee qq ik, ia cy (hh 1) 7 C] ++ (pS cy a K ++ (pS cy kk K))) := hD1
    replace hP1 := hP1.sub (ws' := [sO cy hh a kk dd b w ee qq ik] ++ (pS cy a K ++ ([ia cy (hh 1) 7 C] ++ (pS cy kk K)))) [0, 2, 3, 4, 5, 6, 7, 8, 9, 10, 11, 1, 12, 13, 14, 15, 16, 17, 18, 19, 20, 21] rfl
    replace hD1 := hD1.sub (ws' := [sO cy hh a kk dd b w ee qq ik] ++ (pS cy a K ++ ([ia cy (hh 1) 7 C] ++ (pS cy kk K)))) [0, 2, 3, 4, 5, 6, 7, 8, 9, 10, 11, 1, 12, 13, 14, 15, 16, 17, 18, 19, 20, 21] (by decide) rfl
    refine lv_aload_n hx hb dX6_undo_24 rfl (lv_at hl0 0 rfl) ?_
    refine va_get (D := D) (ci := 6) (v := .ref (a 0)) (C := RX6) (T := TX6) (N := 9) hx hb hw iX6 hown hK hP1 0 rfl rfl 0 (by decide) (hw _ kw_2_27) (fun _ h9 => h9) rfl dX6_undo_25 ?_
    refine va_get (D := D) (ci := 1) (v := .int (K 1)) (C := RX1) (T := TX1) (N := 12) hx hb hw iX1 hown hK hP1 1 rfl rfl 1 (by decide) (hw _ kw_1_35) (fun _ h9 => h9) rfl dX6_undo_28 ?_
    have hcd : cUndo ik = 7 := by unfold cUndo; clear hx hb hml hown hr hlocks hw hsz hA hG hK hP1 hD1 hS1 hl0; grind
    have hq9 : ([sO cy hh a kk dd b w ee qq ik] ++ (pS cy a K ++ ([ia cy (hh 1) 7 C] ++ (pS cy kk K)))) = ([sO cy hh a kk dd b w ee qq ik] ++ (pS cy a K ++ ([ia cy (hh 1) 7 (fnd C (cUndo ik))] ++ (pS cy kk K)))) := congrArg (fun z9 => [sO cy hh a kk dd b w ee qq ik] ++ (pS cy a K ++ ([ia cy (hh 1) 7 z9] ++ (pS cy kk K)))) (show C = (fnd C (cUndo ik)) from fnd_o hcd)
    replace hP1 := (congrArg (fun z9 => va_P D vwCl z9 _) hq9).mp hP1
    replace hD1 := (congrArg (fun z9 => va_D _ z9) hq9).mp hD1
    clear hq9
    have hq9 : ([sO cy hh a kk dd b w ee qq ik] ++ (pS cy a K ++ ([ia cy (hh 1) 7 (fnd C (cUndo ik))] ++ (pS cy kk K)))) = ([sO cy hh a kk dd b w ee qq ik] ++ (pS cy a (if cUndo ik = 7 then K else S) ++ ([ia cy (hh 1) 7 (fnd C (cUndo ik))] ++ (pS cy kk K)))) := congrArg (fun z9 => [sO cy hh a kk dd b w ee qq ik] ++ (pS cy a z9 ++ ([ia cy (hh 1) 7 (fnd C (cUndo ik))] ++ (pS cy kk K)))) (show K = (if cUndo ik = 7 then K else S) from (if_pos hcd).symm)
    replace hP1 := (congrArg (fun z9 => va_P D vwCl z9 _) hq9).mp hP1
    replace hD1 := (congrArg (fun z9 => va_D _ z9) hq9).mp hD1
    clear hq9
    refine re_i () hx hb hr hlocks hP1 hD1 hS1 dX6_undo_31 ?_
    exact (ans_o hcd (rfl))
  · refine lv_aload_n hx hb dX6_undo_7 rfl (lv_at hl0 0 rfl) ?_
    refine lv_iconst (v := 3) hx hb dX6_undo_8 (by decide) ?_
    refine cV_i (wc := [sO cy hh a kk dd b w ee qq ik, ia cy (hh 1) 7 C]) (wr := pS cy a S ++ (pS cy kk K)) (rest := []) hx hb hml hown hw hG hK hP0 hD0 hS0 hA hl0 kc_X6_find kw_2_59 [.int 3] (c_X6_find l D cy G H0.size hh a kk dd b w ee qq ik C 3 (by first | omega | assumption)) [0, 11] [1, 2, 3, 4, 5, 6, 7, 8, 9, 10, 12, 13, 14, 15, 16, 17, 18, 19, 20, 21] rfl rfl rfl rfl rfl 0 rfl rfl rfl rfl rfl (Nat.le_of_ble_eq_true rfl) ⟨Nat.le_of_ble_eq_true rfl, Nat.le_of_ble_eq_true rfl⟩ dX6_undo_9 ⟨Nat.le_of_ble_eq_true rfl, Nat.le_of_ble_eq_true rfl⟩ (fun r_9 u9 H1 locs1 hu9 hP1 hD1 hS1 => ?_)
    clear hP0 hD0 hS0 locs0 H0
    have hr_9 := hu9
    replace hP1 : va_P D vwCl (pS cy a S ++ (pS cy kk K ++ ([sO cy hh a kk dd b w ee qq ik, ia cy (hh 1) 7 (upd C 3 (C 3 + 1))]))) H1 := hP1
    replace hD1 : va_D (va_A _ sz) (pS cy a S ++ (pS cy kk K ++ ([sO cy hh a kk dd b w ee qq ik, ia cy (hh 1) 7 (upd C 3 (C 3 + 1))]))) := hD1
    replace hP1 := hP1.sub (ws' := [sO cy hh a kk dd b w ee qq ik] ++ (pS cy a S ++ ([ia cy (hh 1) 7 (upd C 3 (C 3 + 1))] ++ (pS cy kk K)))) [20, 0, 1, 2, 3, 4, 5, 6, 7, 8, 9, 21, 10, 11, 12, 13, 14, 15, 16, 17, 18, 19] rfl
    replace hD1 := hD1.sub (ws' := [sO cy hh a kk dd b w ee qq ik] ++ (pS cy a S ++ ([ia cy (hh 1) 7 (upd C 3 (C 3 + 1))] ++ (pS cy kk K)))) [20, 0, 1, 2, 3, 4, 5, 6, 7, 8, 9, 21, 10, 11, 12, 13, 14, 15, 16, 17, 18, 19] (by decide) rfl
    subst hr_9
    have hcd : cUndo ik = 3 := by unfold cUndo; clear hx hb hml hown hr hlocks hw hsz hA hG hK hP1 hD1 hS1 hl0; grind
    have hq9 : ([sO cy hh a kk dd b w ee qq ik] ++ (pS cy a S ++ ([ia cy (hh 1) 7 (upd C 3 (C 3 + 1))] ++ (pS cy kk K)))) = ([sO cy hh a kk dd b w ee qq ik] ++ (pS cy a S ++ ([ia cy (hh 1) 7 (fnd C (cUndo ik))] ++ (pS cy kk K)))) := congrArg (fun z9 => [sO cy hh a kk dd b w ee qq ik] ++ (pS cy a S ++ ([ia cy (hh 1) 7 z9] ++ (pS cy kk K)))) (show (upd C 3 (C 3 + 1)) = (fnd C (cUndo ik)) from fnd_f hcd (by decide))
    replace hP1 := (congrArg (fun z9 => va_P D vwCl z9 _) hq9).mp hP1
    replace hD1 := (congrArg (fun z9 => va_D _ z9) hq9).mp hD1
    clear hq9
    have hq9 : ([sO cy hh a kk dd b w ee qq ik] ++ (pS cy a S ++ ([ia cy (hh 1) 7 (fnd C (cUndo ik))] ++ (pS cy kk K)))) = ([sO cy hh a kk dd b w ee qq ik] ++ (pS cy a (if cUndo ik = 7 then K else S) ++ ([ia cy (hh 1) 7 (fnd C (cUndo ik))] ++ (pS cy kk K)))) := congrArg (fun z9 => [sO cy hh a kk dd b w ee qq ik] ++ (pS cy a z9 ++ ([ia cy (hh 1) 7 (fnd C (cUndo ik))] ++ (pS cy kk K)))) (show S = (if cUndo ik = 7 then K else S) from (if_neg (fun z9 => absurd (hcd.symm.trans z9) (by decide))).symm)
    replace hP1 := (congrArg (fun z9 => va_P D vwCl z9 _) hq9).mp hP1
    replace hD1 := (congrArg (fun z9 => va_D _ z9) hq9).mp hD1
    clear hq9
    refine re_i () hx hb hr hlocks hP1 hD1 hS1 dX6_undo_12 ?_
    exact (ans_f hcd (by decide) rfl)

theorem kc_X6_tear : kV yX6_tear cX6_tear 2 (some .int) 0 := ⟨kw_4_35, kw_4_36, kw_1_1, kw_4_37, by decide, by decide, by decide +kernel⟩
set_option maxHeartbeats 4000000 in
set_option maxRecDepth 100000 in
theorem c_X6_tear (l : Launch) (D : va_G) (cy : Nat → ClassId) (G : Nat → Nat) (sz : Nat) (hh : Nat → Nat) (a : Nat → Nat) (kk : Nat → Nat) (dd : Nat → Nat) (b : Nat → Nat) (w : Nat → Nat) (ee : Nat → Nat) (qq : Nat → Nat) (ik : Int32) (hik : ik = 0 ∨ ik = 1) : Met l yX6_tear (wm yX6_tear cX6_tear 2 (some .int)) { frames := 0, cells := 0, slots := 0, locals := 0 } (va_Pc [.ref (hh 0)] (pr D (TY cy) G ([sO cy hh a kk dd b w ee qq ik]) sz)) (va_Qi (fun (r : Int32) (u : Unit) => r = ik) (fun (u : Unit) t => po D (va_A ([sO cy hh a kk dd b w ee qq ik]) sz) ([sO cy hh a kk dd b w ee qq 0]) t) (va_A ([sO cy hh a kk dd b w ee qq ik]) sz)) 0 0 (va_A ([sO cy hh a kk dd b w ee qq ik]) sz) := by
  refine mk_rw (by decide) RX6 rfl (Nat.le_of_ble_eq_true rfl) [(0, .ref (hh 0))] rfl ?_
  intro p e s m below meth c hx hb hml hown hr hlocks hin hw hsz hA hG hK H0 locs0 hP0 hD0 hS0 ls0 hl0
  clear hin
  refine lv_aload_n hx hb dX6_tear_0 rfl (lv_at hl0 0 rfl) ?_
  refine va_get (D := D) (ci := 6) (v := .int ik) (C := RX6) (T := TX6) (N := 9) hx hb hw iX6 hown hK hP0 0 rfl rfl 2 (by decide) (hw _ kw_2_29) (fun _ h9 => h9) rfl dX6_tear_1 ?_
  refine lv_if_eq (tgt := 11) hx hb dX6_tear_4 (by decide) (fun c_4 => ?_) (fun c_4 => ?_)
  · refine lv_iconst (v := 0) hx hb dX6_tear_11 (by decide) ?_
    refine lv_istore_n (lv' := [(1, .int 0), (0, .ref (hh 0))]) hx hb dX6_tear_12 rfl hl0 (by decide) rfl (fun ls1 hl1 => ?_)
    clear hl0 ls0
    refine lv_aload_n hx hb dX6_tear_13 rfl (lv_at hl1 1 rfl) ?_
    refine lv_iconst (v := 0) hx hb dX6_tear_14 (by decide) ?_
    refine pt (D := D) (ci := 6) (v := .int 0) (ty := .boolean) (C := RX6) (T := TX6) (N := 9) (ws' := [sO cy hh a kk dd b w ee qq 0]) hx hb hw iX6 tyX6 tyX6_ok nmX6 hown hK hP0 hD0 hS0 0 rfl rfl 2 (by decide) kw_2_29 (fun _ h9 => h9) rfl (by decide +kernel) rfl rfl (Nat.le_of_ble_eq_true rfl) rfl dX6_tear_15 (fun H1 locs1 hP1 hD1 hS1 => ?_)
    clear hP0 hD0 hS0 locs0 H0
    refine lv_iload_n hx hb dX6_tear_18 rfl (lv_at hl1 0 rfl) ?_
    refine re_i () hx hb hr hlocks hP1 hD1 hS1 dX6_tear_19 ?_
    exact (by clear hx hb hml hown hr hlocks hw hsz hA hG hK hP1 hD1 hS1 hl1; grind)
  · refine lv_iconst (v := 1) hx hb dX6_tear_7 (by decide) ?_
    refine lv_goto (tgt := 12) hx hb dX6_tear_8 (by decide) ?_
    refine lv_istore_n (lv' := [(1, .int 1), (0, .ref (hh 0))]) hx hb dX6_tear_12 rfl hl0 (by decide) rfl (fun ls1 hl1 => ?_)
    clear hl0 ls0
    refine lv_aload_n hx hb dX6_tear_13 rfl (lv_at hl1 1 rfl) ?_
    refine lv_iconst (v := 0) hx hb dX6_tear_14 (by decide) ?_
    refine pt (D := D) (ci := 6) (v := .int 0) (ty := .boolean) (C := RX6) (T := TX6) (N := 9) (ws' := [sO cy hh a kk dd b w ee qq 0]) hx hb hw iX6 tyX6 tyX6_ok nmX6 hown hK hP0 hD0 hS0 0 rfl rfl 2 (by decide) kw_2_29 (fun _ h9 => h9) rfl (by decide +kernel) rfl rfl (Nat.le_of_ble_eq_true rfl) rfl dX6_tear_15 (fun H1 locs1 hP1 hD1 hS1 => ?_)
    clear hP0 hD0 hS0 locs0 H0
    refine lv_iload_n hx hb dX6_tear_18 rfl (lv_at hl1 0 rfl) ?_
    refine re_i () hx hb hr hlocks hP1 hD1 hS1 dX6_tear_19 ?_
    exact (by clear hx hb hml hown hr hlocks hw hsz hA hG hK hP1 hD1 hS1 hl1; grind)

theorem kc_X7_image : kV yX7_image cX7_image 2 (some .int) 0 := ⟨kw_5_229, kw_5_230, kw_1_8, kw_5_231, by decide, by decide, by decide +kernel⟩
set_option maxHeartbeats 4000000 in
set_option maxRecDepth 100000 in
theorem c_X7_image (l : Launch) (D : va_G) (cy : Nat → ClassId) (G : Nat → Nat) (sz : Nat) (mm : Nat → Nat) (ik : Int32) (tl : Int32) (fm : Int32) (tz : Int32) (vl : Int32) (iw : Int32) (rm : Int32) (rr : Int32) (om : Int32) (S : Nat → Int32) (K : Nat → Int32)  : Met l yX7_image (wm yX7_image cX7_image 2 (some .int)) { frames := 0, cells := 0, slots := 0, locals := 0 } (va_Pc [.ref (mm 0)] (pr D (TY cy) G ([mO cy mm ik tl fm tz vl iw rm rr om, ia cy (mm 1) 169 S, ia cy (mm 2) 169 K]) sz)) (va_Qi (fun (r : Int32) (u : Unit) => r = 1) (fun (u : Unit) t => po D (va_A ([mO cy mm ik tl fm tz vl iw rm rr om, ia cy (mm 1) 169 S, ia cy (mm 2) 169 K]) sz) ([mO cy mm 1 tl fm tz vl iw rm rr om, ia cy (mm 1) 169 S, ia cy (mm 2) 169 S]) t) (va_A ([mO cy mm ik tl fm tz vl iw rm rr om, ia cy (mm 1) 169 S, ia cy (mm 2) 169 K]) sz)) 0 0 (va_A ([mO cy mm ik tl fm tz vl iw rm rr om, ia cy (mm 1) 169 S, ia cy (mm 2) 169 K]) sz) := by
  refine mk_rw (by decide) RX7 rfl (Nat.le_of_ble_eq_true rfl) [(0, .ref (mm 0))] rfl ?_
  intro p e s m below meth c hx hb hml hown hr hlocks hin hw hsz hA hG hK H0 locs0 hP0 hD0 hS0 ls0 hl0
  clear hin
  refine lv_iconst (v := 0) hx hb dX7_image_0 (by decide) ?_
  refine lv_istore_n (lv' := [(1, .int 0), (0, .ref (mm 0))]) hx hb dX7_image_1 rfl hl0 (by decide) rfl (fun ls1 hl1 => ?_)
  clear hl0 ls0
  have hq9 : ([mO cy mm ik tl fm tz vl iw rm rr om, ia cy (mm 1) 169 S, ia cy (mm 2) 169 K]) = ([mO cy mm ik tl fm tz vl iw rm rr om, ia cy (mm 1) 169 S, ia cy (mm 2) 169 (fil S K 0)]) := congrArg (fun z9 => [mO cy mm ik tl fm tz vl iw rm rr om, ia cy (mm 1) 169 S, ia cy (mm 2) 169 z9]) (show K = (fil S K 0) from fil_0 _ K)
  replace hP0 := (congrArg (fun z9 => va_P D vwCl z9 _) hq9).mp hP0
  replace hD0 := (congrArg (fun z9 => va_D _ z9) hq9).mp hD0
  clear hq9
  refine wlp (ι := Nat) (nL := 2) (fun x9 => (x9 ≤ 169)) (fun x9 => [mO cy mm ik tl fm tz vl iw rm rr om, ia cy (mm 1) 169 S, ia cy (mm 2) 169 (fil S K x9)]) (fun x9 => [(1, .int (nI x9)), (0, .ref (mm 0))]) (fun x9 => []) (fun x9 => 169 - x9) 2 ?_ 0 (by first | omega | assumption | rfl | simp_all) rfl hP0 hD0 hS0 (lv_sub hl1 [0, 1] rfl)
  clear hP0 hD0 hS0 locs0 H0 hl1 ls1
  intro x9 hI ih_2 H1 locs1 ls2 hP1 hD1 hS1 hl2
  obtain ⟨i, rfl⟩ : ∃ z9, z9 = x9 := ⟨_, rfl⟩
  have hi := hI
  replace hi : i ≤ 169 := hi
  replace hP1 : va_P D vwCl ([mO cy mm ik tl fm tz vl iw rm rr om, ia cy (mm 1) 169 S, ia cy (mm 2) 169 (fil S K i)]) H1 := hP1
  replace hD1 : va_D (va_A _ sz) ([mO cy mm ik tl fm tz vl iw rm rr om, ia cy (mm 1) 169 S, ia cy (mm 2) 169 (fil S K i)]) := hD1
  replace hl2 : lv_has ls2 2 [(1, .int (nI i)), (0, .ref (mm 0))] := hl2
  show W p l e _ s m _ below meth c _ _ _ _ _ (F0 m 2 ls2 [])
  refine lv_iload_n hx hb dX7_image_2 rfl (lv_at hl2 0 rfl) ?_
  refine lv_sipush (v := 169) hx hb dX7_image_3 (by decide) ?_
  refine ln_ge (tgt := 27) i 169 rfl rfl (by omega) (by omega) hx hb dX7_image_6 (by decide) (fun c_6 => ?_) (fun c_6 => ?_)
  · have hq9 := (fun j hj => if_pos (by omega) : ∀ j, j < 169 → fil S K i j = S j)
    replace hD1 := cg_D (ws' := [mO cy mm ik tl fm tz vl iw rm rr om, ia cy (mm 1) 169 S, ia cy (mm 2) 169 S]) hD1 (k := 2) rfl rfl
    replace hP1 := cg_P (ws' := [mO cy mm ik tl fm tz vl iw rm rr om, ia cy (mm 1) 169 S, ia cy (mm 2) 169 S]) hP1 (k := 2) rfl hq9 rfl
    clear hq9
    refine lv_aload_n hx hb dX7_image_27 rfl (lv_at hl2 1 rfl) ?_
    refine lv_iconst (v := 1) hx hb dX7_image_28 (by decide) ?_
    refine pt (D := D) (ci := 7) (v := .int 1) (ty := .boolean) (C := RX7) (T := TX7) (N := 23) (ws' := [mO cy mm 1 tl fm tz vl iw rm rr om, ia cy (mm 1) 169 S, ia cy (mm 2) 169 S]) hx hb hw iX7 tyX7 tyX7_ok nmX7 hown hK hP1 hD1 hS1 0 rfl rfl 4 (by decide) kw_4_68 (fun _ h9 => h9) rfl (by decide +kernel) rfl rfl (Nat.le_of_ble_eq_true rfl) rfl dX7_image_29 (fun H2 locs2 hP2 hD2 hS2 => ?_)
    clear hP1 hD1 hS1 locs1 H1
    refine lv_iconst (v := 1) hx hb dX7_image_32 (by decide) ?_
    refine re_i () hx hb hr hlocks hP2 hD2 hS2 dX7_image_33 ?_
    exact (rfl)
  · refine lv_aload_n hx hb dX7_image_9 rfl (lv_at hl2 1 rfl) ?_
    refine va_get (D := D) (ci := 7) (v := .ref (mm 2)) (C := RX7) (T := TX7) (N := 23) hx hb hw iX7 hown hK hP1 0 rfl rfl 1 (by decide) (hw _ kw_4_65) (fun _ h9 => h9) rfl dX7_image_10 ?_
    refine lv_iload_n hx hb dX7_image_13 rfl (lv_at hl2 0 rfl) ?_
    refine lv_aload_n hx hb dX7_image_14 rfl (lv_at hl2 1 rfl) ?_
    refine va_get (D := D) (ci := 7) (v := .ref (mm 1)) (C := RX7) (T := TX7) (N := 23) hx hb hw iX7 hown hK hP1 0 rfl rfl 0 (by decide) (hw _ kw_4_64) (fun _ h9 => h9) rfl dX7_image_15 ?_
    refine lv_iload_n hx hb dX7_image_18 rfl (lv_at hl2 0 rfl) ?_
    refine ald_i (f := S) hx hb hK hP1 1 0 rfl rfl i rfl (by first | omega | assumption) (by decide) dX7_image_19 ?_
    refine ast_i (f := fil S K i) (ws' := [mO cy mm ik tl fm tz vl iw rm rr om, ia cy (mm 1) 169 S, ia cy (mm 2) 169 (upd (fil S K i) i (S i))]) hx hb hK hP1 hD1 hS1 2 0 rfl rfl i rfl (by first | omega | assumption) (by decide) rfl dX7_image_20 (fun H2 locs2 hP2 hD2 hS2 => ?_)
    clear hP1 hD1 hS1 locs1 H1
    refine lv_iinc (v := nI (i + 1)) (lv' := [(1, .int (nI (i + 1))), (0, .ref (mm 0))]) hx hb dX7_image_21 hl2 (k := 0) rfl (nI_inc _) (by decide) rfl (fun ls3 hl3 => ?_)
    clear hl2 ls2
    refine lv_goto (tgt := 2) hx hb dX7_image_24 (by decide) ?_
    have hq9 : ([mO cy mm ik tl fm tz vl iw rm rr om, ia cy (mm 1) 169 S, ia cy (mm 2) 169 (upd (fil S K i) i (S i))]) = ([mO cy mm ik tl fm tz vl iw rm rr om, ia cy (mm 1) 169 S, ia cy (mm 2) 169 (fil S K (i + 1))]) := congrArg (fun z9 => [mO cy mm ik tl fm tz vl iw rm rr om, ia cy (mm 1) 169 S, ia cy (mm 2) 169 z9]) (show (upd (fil S K i) i (S i)) = (fil S K (i + 1)) from fil_s _ K i)
    replace hP2 := (congrArg (fun z9 => va_P D vwCl z9 _) hq9).mp hP2
    replace hD2 := (congrArg (fun z9 => va_D _ z9) hq9).mp hD2
    clear hq9
    exact ih_2 (i + 1) (by first | omega | assumption | rfl | simp_all) (by (try dsimp only); omega) H2 locs2 ls3 hP2 hD2 hS2 (lv_sub hl3 [0, 1] rfl)

theorem kc_X7_undo : kV yX7_undo cX7_undo 2 (some .int) 0 := ⟨kw_5_233, kw_5_234, kw_1_8, kw_5_235, by decide, by decide, by decide +kernel⟩
set_option maxHeartbeats 4000000 in
set_option maxRecDepth 100000 in
theorem c_X7_undo (l : Launch) (D : va_G) (cy : Nat → ClassId) (G : Nat → Nat) (sz : Nat) (mm : Nat → Nat) (ik : Int32) (tl : Int32) (fm : Int32) (tz : Int32) (vl : Int32) (iw : Int32) (rm : Int32) (rr : Int32) (om : Int32) (C : Nat → Int32) (S : Nat → Int32) (K : Nat → Int32)  : Met l yX7_undo (wm yX7_undo cX7_undo 2 (some .int)) { frames := 1, cells := 0, slots := 0, locals := 21 } (va_Pc [.ref (mm 0)] (pr D (TY cy) G ([mO cy mm ik tl fm tz vl iw rm rr om, ia cy (mm 1) 169 S, ia cy (mm 4) 7 C, ia cy (mm 2) 169 K]) sz)) (va_Qi (fun (r : Int32) (u : Unit) => r = ans (cUndo ik) (K 1)) (fun (u : Unit) t => po D (va_A ([mO cy mm ik tl fm tz vl iw rm rr om, ia cy (mm 1) 169 S, ia cy (mm 4) 7 C, ia cy (mm 2) 169 K]) sz) ([mO cy mm ik tl fm tz vl iw rm rr om, ia cy (mm 1) 169 (if cUndo ik = 7 then K else S), ia cy (mm 4) 7 (fnd C (cUndo ik)), ia cy (mm 2) 169 K]) t) (va_A ([mO cy mm ik tl fm tz vl iw rm rr om, ia cy (mm 1) 169 S, ia cy (mm 4) 7 C, ia cy (mm 2) 169 K]) sz)) 0 0 (va_A ([mO cy mm ik tl fm tz vl iw rm rr om, ia cy (mm 1) 169 S, ia cy (mm 4) 7 C, ia cy (mm 2) 169 K]) sz) := by
  refine mk_rw (by decide) RX7 rfl (Nat.le_of_ble_eq_true rfl) [(0, .ref (mm 0))] rfl ?_
  intro p e s m below meth c hx hb hml hown hr hlocks hin hw hsz hA hG hK H0 locs0 hP0 hD0 hS0 ls0 hl0
  clear hin
  refine lv_aload_n hx hb dX7_undo_0 rfl (lv_at hl0 0 rfl) ?_
  refine va_get (D := D) (ci := 7) (v := .int ik) (C := RX7) (T := TX7) (N := 23) hx hb hw iX7 hown hK hP0 0 rfl rfl 4 (by decide) (hw _ kw_4_68) (fun _ h9 => h9) rfl dX7_undo_1 ?_
  refine lv_if_ne (tgt := 14) hx hb dX7_undo_4 (by decide) (fun c_4 => ?_) (fun c_4 => ?_)
  · refine lv_iconst (v := 0) hx hb dX7_undo_14 (by decide) ?_
    refine lv_istore_n (lv' := [(1, .int 0), (0, .ref (mm 0))]) hx hb dX7_undo_15 rfl hl0 (by decide) rfl (fun ls1 hl1 => ?_)
    clear hl0 ls0
    have hq9 : ([mO cy mm ik tl fm tz vl iw rm rr om, ia cy (mm 1) 169 S, ia cy (mm 4) 7 C, ia cy (mm 2) 169 K]) = ([mO cy mm ik tl fm tz vl iw rm rr om, ia cy (mm 1) 169 (fil K S 0), ia cy (mm 4) 7 C, ia cy (mm 2) 169 K]) := congrArg (fun z9 => [mO cy mm ik tl fm tz vl iw rm rr om, ia cy (mm 1) 169 z9, ia cy (mm 4) 7 C, ia cy (mm 2) 169 K]) (show S = (fil K S 0) from fil_0 _ S)
    replace hP0 := (congrArg (fun z9 => va_P D vwCl z9 _) hq9).mp hP0
    replace hD0 := (congrArg (fun z9 => va_D _ z9) hq9).mp hD0
    clear hq9
    refine wlp (ι := Nat) (nL := 2) (fun x9 => (x9 ≤ 169)) (fun x9 => [mO cy mm ik tl fm tz vl iw rm rr om, ia cy (mm 1) 169 (fil K S x9), ia cy (mm 4) 7 C, ia cy (mm 2) 169 K]) (fun x9 => [(1, .int (nI x9)), (0, .ref (mm 0))]) (fun x9 => []) (fun x9 => 169 - x9) 16 ?_ 0 (by first | omega | assumption | rfl | simp_all) rfl hP0 hD0 hS0 (lv_sub hl1 [0, 1] rfl)
    clear hP0 hD0 hS0 locs0 H0 hl1 ls1
    intro x9 hI ih_16 H1 locs1 ls2 hP1 hD1 hS1 hl2
    obtain ⟨i, rfl⟩ : ∃ z9, z9 = x9 := ⟨_, rfl⟩
    have hi := hI
    replace hi : i ≤ 169 := hi
    replace hP1 : va_P D vwCl ([mO cy mm ik tl fm tz vl iw rm rr om, ia cy (mm 1) 169 (fil K S i), ia cy (mm 4) 7 C, ia cy (mm 2) 169 K]) H1 := hP1
    replace hD1 : va_D (va_A _ sz) ([mO cy mm ik tl fm tz vl iw rm rr om, ia cy (mm 1) 169 (fil K S i), ia cy (mm 4) 7 C, ia cy (mm 2) 169 K]) := hD1
    replace hl2 : lv_has ls2 2 [(1, .int (nI i)), (0, .ref (mm 0))] := hl2
    show W p l e _ s m _ below meth c _ _ _ _ _ (F0 m 16 ls2 [])
    refine lv_iload_n hx hb dX7_undo_16 rfl (lv_at hl2 0 rfl) ?_
    refine lv_sipush (v := 169) hx hb dX7_undo_17 (by decide) ?_
    refine ln_ge (tgt := 41) i 169 rfl rfl (by omega) (by omega) hx hb dX7_undo_20 (by decide) (fun c_20 => ?_) (fun c_20 => ?_)
    · have hq9 := (fun j hj => if_pos (by omega) : ∀ j, j < 169 → fil K S i j = K j)
      replace hD1 := cg_D (ws' := [mO cy mm ik tl fm tz vl iw rm rr om, ia cy (mm 1) 169 K, ia cy (mm 4) 7 C, ia cy (mm 2) 169 K]) hD1 (k := 1) rfl rfl
      replace hP1 := cg_P (ws' := [mO cy mm ik tl fm tz vl iw rm rr om, ia cy (mm 1) 169 K, ia cy (mm 4) 7 C, ia cy (mm 2) 169 K]) hP1 (k := 1) rfl hq9 rfl
      clear hq9
      refine lv_aload_n hx hb dX7_undo_41 rfl (lv_at hl2 1 rfl) ?_
      refine va_get (D := D) (ci := 7) (v := .ref (mm 1)) (C := RX7) (T := TX7) (N := 23) hx hb hw iX7 hown hK hP1 0 rfl rfl 0 (by decide) (hw _ kw_4_64) (fun _ h9 => h9) rfl dX7_undo_42 ?_
      refine lv_iconst (v := 1) hx hb dX7_undo_45 (by decide) ?_
      refine ald_i (f := K) hx hb hK hP1 1 0 rfl rfl 1 rfl (by first | omega | assumption) (by decide) dX7_undo_46 ?_
      have hcd : cUndo ik = 7 := by unfold cUndo; clear hx hb hml hown hr hlocks hw hsz hA hG hK hP1 hD1 hS1 hl2 ih_16; grind
      have hq9 : ([mO cy mm ik tl fm tz vl iw rm rr om, ia cy (mm 1) 169 K, ia cy (mm 4) 7 C, ia cy (mm 2) 169 K]) = ([mO cy mm ik tl fm tz vl iw rm rr om, ia cy (mm 1) 169 K, ia cy (mm 4) 7 (fnd C (cUndo ik)), ia cy (mm 2) 169 K]) := congrArg (fun z9 => [mO cy mm ik tl fm tz vl iw rm rr om, ia cy (mm 1) 169 K, ia cy (mm 4) 7 z9, ia cy (mm 2) 169 K]) (show C = (fnd C (cUndo ik)) from fnd_o hcd)
      replace hP1 := (congrArg (fun z9 => va_P D vwCl z9 _) hq9).mp hP1
      replace hD1 := (congrArg (fun z9 => va_D _ z9) hq9).mp hD1
      clear hq9
      have hq9 : ([mO cy mm ik tl fm tz vl iw rm rr om, ia cy (mm 1) 169 K, ia cy (mm 4) 7 (fnd C (cUndo ik)), ia cy (mm 2) 169 K]) = ([mO cy mm ik tl fm tz vl iw rm rr om, ia cy (mm 1) 169 (if cUndo ik = 7 then K else S), ia cy (mm 4) 7 (fnd C (cUndo ik)), ia cy (mm 2) 169 K]) := congrArg (fun z9 => [mO cy mm ik tl fm tz vl iw rm rr om, ia cy (mm 1) 169 z9, ia cy (mm 4) 7 (fnd C (cUndo ik)), ia cy (mm 2) 169 K]) (show K = (if cUndo ik = 7 then K else S) from (if_pos hcd).symm)
      replace hP1 := (congrArg (fun z9 => va_P D vwCl z9 _) hq9).mp hP1
      replace hD1 := (congrArg (fun z9 => va_D _ z9) hq9).mp hD1
      clear hq9
      refine re_i () hx hb hr hlocks hP1 hD1 hS1 dX7_undo_47 ?_
      exact (ans_o hcd (rfl))
    · refine lv_aload_n hx hb dX7_undo_23 rfl (lv_at hl2 1 rfl) ?_
      refine va_get (D := D) (ci := 7) (v := .ref (mm 1)) (C := RX7) (T := TX7) (N := 23) hx hb hw iX7 hown hK hP1 0 rfl rfl 0 (by decide) (hw _ kw_4_64) (fun _ h9 => h9) rfl dX7_undo_24 ?_
      refine lv_iload_n hx hb dX7_undo_27 rfl (lv_at hl2 0 rfl) ?_
      refine lv_aload_n hx hb dX7_undo_28 rfl (lv_at hl2 1 rfl) ?_
      refine va_get (D := D) (ci := 7) (v := .ref (mm 2)) (C := RX7) (T := TX7) (N := 23) hx hb hw iX7 hown hK hP1 0 rfl rfl 1 (by decide) (hw _ kw_4_65) (fun _ h9 => h9) rfl dX7_undo_29 ?_
      refine lv_iload_n hx hb dX7_undo_32 rfl (lv_at hl2 0 rfl) ?_
      refine ald_i (f := K) hx hb hK hP1 3 0 rfl rfl i rfl (by first | omega | assumption) (by decide) dX7_undo_33 ?_
      refine ast_i (f := fil K S i) (ws' := [mO cy mm ik tl fm tz vl iw rm rr om, ia cy (mm 1) 169 (upd (fil K S i) i (K i)), ia cy (mm 4) 7 C, ia cy (mm 2) 169 K]) hx hb hK hP1 hD1 hS1 1 0 rfl rfl i rfl (by first | omega | assumption) (by decide) rfl dX7_undo_34 (fun H2 locs2 hP2 hD2 hS2 => ?_)
      clear hP1 hD1 hS1 locs1 H1
      refine lv_iinc (v := nI (i + 1)) (lv' := [(1, .int (nI (i + 1))), (0, .ref (mm 0))]) hx hb dX7_undo_35 hl2 (k := 0) rfl (nI_inc _) (by decide) rfl (fun ls3 hl3 => ?_)
      clear hl2 ls2
      refine lv_goto (tgt := 16) hx hb dX7_undo_38 (by decide) ?_
      have hq9 : ([mO cy mm ik tl fm tz vl iw rm rr om, ia cy (mm 1) 169 (upd (fil K S i) i (K i)), ia cy (mm 4) 7 C, ia cy (mm 2) 169 K]) = ([mO cy mm ik tl fm tz vl iw rm rr om, ia cy (mm 1) 169 (fil K S (i + 1)), ia cy (mm 4) 7 C, ia cy (mm 2) 169 K]) := congrArg (fun z9 => [mO cy mm ik tl fm tz vl iw rm rr om, ia cy (mm 1) 169 z9, ia cy (mm 4) 7 C, ia cy (mm 2) 169 K]) (show (upd (fil K S i) i (K i)) = (fil K S (i + 1)) from fil_s _ S i)
      replace hP2 := (congrArg (fun z9 => va_P D vwCl z9 _) hq9).mp hP2
      replace hD2 := (congrArg (fun z9 => va_D _ z9) hq9).mp hD2
      clear hq9
      exact ih_16 (i + 1) (by first | omega | assumption | rfl | simp_all) (by (try dsimp only); omega) H2 locs2 ls3 hP2 hD2 hS2 (lv_sub hl3 [0, 1] rfl)
  · refine lv_aload_n hx hb dX7_undo_7 rfl (lv_at hl0 0 rfl) ?_
    refine lv_ldc (v := (-1000000004)) hx hb hown (hw _ kw_5_132) dX7_undo_8 ?_
    refine cV_i (wc := [mO cy mm ik tl fm tz vl iw rm rr om, ia cy (mm 4) 7 C]) (wr := [ia cy (mm 1) 169 S, ia cy (mm 2) 169 K]) (rest := []) hx hb hml hown hw hG hK hP0 hD0 hS0 hA hl0 kc_X7_finds kw_4_139 [.int (-1000000004)] (c_X7_finds l D cy G H0.size mm ik tl fm tz vl iw rm rr om C 3 (-1000000004) (by decide) (by decide)) [0, 2] [1, 3] rfl rfl rfl rfl rfl 0 rfl rfl rfl rfl rfl (Nat.le_of_ble_eq_true rfl) ⟨Nat.le_of_ble_eq_true rfl, Nat.le_of_ble_eq_true rfl⟩ dX7_undo_10 ⟨Nat.le_of_ble_eq_true rfl, Nat.le_of_ble_eq_true rfl⟩ (fun r_10 u9 H1 locs1 hu9 hP1 hD1 hS1 => ?_)
    clear hP0 hD0 hS0 locs0 H0
    have hr_10 := hu9
    replace hP1 : va_P D vwCl ([ia cy (mm 1) 169 S, ia cy (mm 2) 169 K, mO cy mm ik tl fm tz vl iw rm rr om, ia cy (mm 4) 7 (upd C 3 (C 3 + 1))]) H1 := hP1
    replace hD1 : va_D (va_A _ sz) ([ia cy (mm 1) 169 S, ia cy (mm 2) 169 K, mO cy mm ik tl fm tz vl iw rm rr om, ia cy (mm 4) 7 (upd C 3 (C 3 + 1))]) := hD1
    replace hP1 := hP1.sub (ws' := [mO cy mm ik tl fm tz vl iw rm rr om, ia cy (mm 1) 169 S, ia cy (mm 4) 7 (upd C 3 (C 3 + 1)), ia cy (mm 2) 169 K]) [2, 0, 3, 1] rfl
    replace hD1 := hD1.sub (ws' := [mO cy mm ik tl fm tz vl iw rm rr om, ia cy (mm 1) 169 S, ia cy (mm 4) 7 (upd C 3 (C 3 + 1)), ia cy (mm 2) 169 K]) [2, 0, 3, 1] (by decide) rfl
    subst hr_10
    have hcd : cUndo ik = 3 := by unfold cUndo; clear hx hb hml hown hr hlocks hw hsz hA hG hK hP1 hD1 hS1 hl0; grind
    have hq9 : ([mO cy mm ik tl fm tz vl iw rm rr om, ia cy (mm 1) 169 S, ia cy (mm 4) 7 (upd C 3 (C 3 + 1)), ia cy (mm 2) 169 K]) = ([mO cy mm ik tl fm tz vl iw rm rr om, ia cy (mm 1) 169 S, ia cy (mm 4) 7 (fnd C (cUndo ik)), ia cy (mm 2) 169 K]) := congrArg (fun z9 => [mO cy mm ik tl fm tz vl iw rm rr om, ia cy (mm 1) 169 S, ia cy (mm 4) 7 z9, ia cy (mm 2) 169 K]) (show (upd C 3 (C 3 + 1)) = (fnd C (cUndo ik)) from fnd_f hcd (by decide))
    replace hP1 := (congrArg (fun z9 => va_P D vwCl z9 _) hq9).mp hP1
    replace hD1 := (congrArg (fun z9 => va_D _ z9) hq9).mp hD1
    clear hq9
    have hq9 : ([mO cy mm ik tl fm tz vl iw rm rr om, ia cy (mm 1) 169 S, ia cy (mm 4) 7 (fnd C (cUndo ik)), ia cy (mm 2) 169 K]) = ([mO cy mm ik tl fm tz vl iw rm rr om, ia cy (mm 1) 169 (if cUndo ik = 7 then K else S), ia cy (mm 4) 7 (fnd C (cUndo ik)), ia cy (mm 2) 169 K]) := congrArg (fun z9 => [mO cy mm ik tl fm tz vl iw rm rr om, ia cy (mm 1) 169 z9, ia cy (mm 4) 7 (fnd C (cUndo ik)), ia cy (mm 2) 169 K]) (show S = (if cUndo ik = 7 then K else S) from (if_neg (fun z9 => absurd (hcd.symm.trans z9) (by decide))).symm)
    replace hP1 := (congrArg (fun z9 => va_P D vwCl z9 _) hq9).mp hP1
    replace hD1 := (congrArg (fun z9 => va_D _ z9) hq9).mp hD1
    clear hq9
    refine re_i () hx hb hr hlocks hP1 hD1 hS1 dX7_undo_13 ?_
    exact (ans_f hcd (by decide) rfl)

theorem kc_X7_tear : kV yX7_tear cX7_tear 2 (some .int) 0 := ⟨kw_5_237, kw_5_238, kw_1_8, kw_5_239, by decide, by decide, by decide +kernel⟩
set_option maxHeartbeats 4000000 in
set_option maxRecDepth 100000 in
theorem c_X7_tear (l : Launch) (D : va_G) (cy : Nat → ClassId) (G : Nat → Nat) (sz : Nat) (mm : Nat → Nat) (ik : Int32) (tl : Int32) (fm : Int32) (tz : Int32) (vl : Int32) (iw : Int32) (rm : Int32) (rr : Int32) (om : Int32) (hik : ik = 0 ∨ ik = 1) : Met l yX7_tear (wm yX7_tear cX7_tear 2 (some .int)) { frames := 0, cells := 0, slots := 0, locals := 0 } (va_Pc [.ref (mm 0)] (pr D (TY cy) G ([mO cy mm ik tl fm tz vl iw rm rr om]) sz)) (va_Qi (fun (r : Int32) (u : Unit) => r = ik) (fun (u : Unit) t => po D (va_A ([mO cy mm ik tl fm tz vl iw rm rr om]) sz) ([mO cy mm 0 tl fm tz vl iw rm rr om]) t) (va_A ([mO cy mm ik tl fm tz vl iw rm rr om]) sz)) 0 0 (va_A ([mO cy mm ik tl fm tz vl iw rm rr om]) sz) := by
  refine mk_rw (by decide) RX7 rfl (Nat.le_of_ble_eq_true rfl) [(0, .ref (mm 0))] rfl ?_
  intro p e s m below meth c hx hb hml hown hr hlocks hin hw hsz hA hG hK H0 locs0 hP0 hD0 hS0 ls0 hl0
  clear hin
  refine lv_aload_n hx hb dX7_tear_0 rfl (lv_at hl0 0 rfl) ?_
  refine va_get (D := D) (ci := 7) (v := .int ik) (C := RX7) (T := TX7) (N := 23) hx hb hw iX7 hown hK hP0 0 rfl rfl 4 (by decide) (hw _ kw_4_68) (fun _ h9 => h9) rfl dX7_tear_1 ?_
  refine lv_if_eq (tgt := 11) hx hb dX7_tear_4 (by decide) (fun c_4 => ?_) (fun c_4 => ?_)
  · refine lv_iconst (v := 0) hx hb dX7_tear_11 (by decide) ?_
    refine lv_istore_n (lv' := [(1, .int 0), (0, .ref (mm 0))]) hx hb dX7_tear_12 rfl hl0 (by decide) rfl (fun ls1 hl1 => ?_)
    clear hl0 ls0
    refine lv_aload_n hx hb dX7_tear_13 rfl (lv_at hl1 1 rfl) ?_
    refine lv_iconst (v := 0) hx hb dX7_tear_14 (by decide) ?_
    refine pt (D := D) (ci := 7) (v := .int 0) (ty := .boolean) (C := RX7) (T := TX7) (N := 23) (ws' := [mO cy mm 0 tl fm tz vl iw rm rr om]) hx hb hw iX7 tyX7 tyX7_ok nmX7 hown hK hP0 hD0 hS0 0 rfl rfl 4 (by decide) kw_4_68 (fun _ h9 => h9) rfl (by decide +kernel) rfl rfl (Nat.le_of_ble_eq_true rfl) rfl dX7_tear_15 (fun H1 locs1 hP1 hD1 hS1 => ?_)
    clear hP0 hD0 hS0 locs0 H0
    refine lv_iload_n hx hb dX7_tear_18 rfl (lv_at hl1 0 rfl) ?_
    refine re_i () hx hb hr hlocks hP1 hD1 hS1 dX7_tear_19 ?_
    exact (by clear hx hb hml hown hr hlocks hw hsz hA hG hK hP1 hD1 hS1 hl1; grind)
  · refine lv_iconst (v := 1) hx hb dX7_tear_7 (by decide) ?_
    refine lv_goto (tgt := 12) hx hb dX7_tear_8 (by decide) ?_
    refine lv_istore_n (lv' := [(1, .int 1), (0, .ref (mm 0))]) hx hb dX7_tear_12 rfl hl0 (by decide) rfl (fun ls1 hl1 => ?_)
    clear hl0 ls0
    refine lv_aload_n hx hb dX7_tear_13 rfl (lv_at hl1 1 rfl) ?_
    refine lv_iconst (v := 0) hx hb dX7_tear_14 (by decide) ?_
    refine pt (D := D) (ci := 7) (v := .int 0) (ty := .boolean) (C := RX7) (T := TX7) (N := 23) (ws' := [mO cy mm 0 tl fm tz vl iw rm rr om]) hx hb hw iX7 tyX7 tyX7_ok nmX7 hown hK hP0 hD0 hS0 0 rfl rfl 4 (by decide) kw_4_68 (fun _ h9 => h9) rfl (by decide +kernel) rfl rfl (Nat.le_of_ble_eq_true rfl) rfl dX7_tear_15 (fun H1 locs1 hP1 hD1 hS1 => ?_)
    clear hP0 hD0 hS0 locs0 H0
    refine lv_iload_n hx hb dX7_tear_18 rfl (lv_at hl1 0 rfl) ?_
    refine re_i () hx hb hr hlocks hP1 hD1 hS1 dX7_tear_19 ?_
    exact (by clear hx hb hml hown hr hlocks hw hsz hA hG hK hP1 hD1 hS1 hl1; grind)

theorem kc_X6_wipe : kV yX6_wipe cX6_wipe 2 (some .int) 0 := ⟨kw_2_149, kw_2_150, kw_1_1, kw_2_151, by decide, by decide, by decide +kernel⟩
set_option maxHeartbeats 4000000 in
set_option maxRecDepth 100000 in
theorem c_X6_wipe (l : Launch) (D : va_G) (cy : Nat → ClassId) (G : Nat → Nat) (sz : Nat) (hh : Nat → Nat) (a : Nat → Nat) (kk : Nat → Nat) (dd : Nat → Nat) (b : Nat → Nat) (w : Nat → Nat) (ee : Nat → Nat) (qq : Nat → Nat) (ik : Int32) (sa : Int32) (en : Int32) (tk : Int32) (va : Int32) (n : Nat)  : Met l yX6_wipe (wm yX6_wipe cX6_wipe 2 (some .int)) { frames := 0, cells := 0, slots := 0, locals := 0 } (va_Pc [.ref (hh 0)] (pr D (TY cy) G ([sO cy hh a kk dd b w ee qq ik, eO cy ee sa en tk va, pO cy ee (nI n)]) sz)) (va_Qi (fun (r : Int32) (u : Unit) => r = nI n) (fun (u : Unit) t => po D (va_A ([sO cy hh a kk dd b w ee qq ik, eO cy ee sa en tk va, pO cy ee (nI n)]) sz) ([sO cy hh a kk dd b w ee qq ik, eO cy ee sa en tk va, pO cy ee (nI 0)]) t) (va_A ([sO cy hh a kk dd b w ee qq ik, eO cy ee sa en tk va, pO cy ee (nI n)]) sz)) 0 0 (va_A ([sO cy hh a kk dd b w ee qq ik, eO cy ee sa en tk va, pO cy ee (nI n)]) sz) := by
  refine mk_rw (by decide) RX6 rfl (Nat.le_of_ble_eq_true rfl) [(0, .ref (hh 0))] rfl ?_
  intro p e s m below meth c hx hb hml hown hr hlocks hin hw hsz hA hG hK H0 locs0 hP0 hD0 hS0 ls0 hl0
  clear hin
  refine lv_aload_n hx hb dX6_wipe_0 rfl (lv_at hl0 0 rfl) ?_
  refine va_get (D := D) (ci := 6) (v := .ref (ee 0)) (C := RX6) (T := TX6) (N := 9) hx hb hw iX6 hown hK hP0 0 rfl rfl 6 (by decide) (hw _ kw_2_33) (fun _ h9 => h9) rfl dX6_wipe_1 ?_
  refine va_get (D := D) (ci := 4) (v := .ref (ee 1)) (C := RX4) (T := TX4) (N := 5) hx hb hw iX4 hown hK hP0 1 rfl rfl 0 (by decide) (hw _ kw_1_229) (fun _ h9 => h9) rfl dX6_wipe_4 ?_
  refine va_get (D := D) (ci := 3) (v := .int (nI n)) (C := RX3) (T := TX3) (N := 2) hx hb hw iX3 hown hK hP0 2 rfl rfl 1 (by decide) (hw _ kw_1_221) (fun _ h9 => h9) rfl dX6_wipe_7 ?_
  refine lv_istore_n (lv' := [(1, .int (nI n)), (0, .ref (hh 0))]) hx hb dX6_wipe_10 rfl hl0 (by decide) rfl (fun ls1 hl1 => ?_)
  clear hl0 ls0
  refine lv_aload_n hx hb dX6_wipe_11 rfl (lv_at hl1 1 rfl) ?_
  refine va_get (D := D) (ci := 6) (v := .ref (ee 0)) (C := RX6) (T := TX6) (N := 9) hx hb hw iX6 hown hK hP0 0 rfl rfl 6 (by decide) (hw _ kw_2_33) (fun _ h9 => h9) rfl dX6_wipe_12 ?_
  refine va_get (D := D) (ci := 4) (v := .ref (ee 1)) (C := RX4) (T := TX4) (N := 5) hx hb hw iX4 hown hK hP0 1 rfl rfl 0 (by decide) (hw _ kw_1_229) (fun _ h9 => h9) rfl dX6_wipe_15 ?_
  refine lv_iconst (v := 0) hx hb dX6_wipe_18 (by decide) ?_
  refine pt (D := D) (ci := 3) (v := .int 0) (ty := .int) (C := RX3) (T := TX3) (N := 2) (ws' := [sO cy hh a kk dd b w ee qq ik, eO cy ee sa en tk va, pO cy ee 0]) hx hb hw iX3 tyX3 tyX3_ok nmX3 hown hK hP0 hD0 hS0 2 rfl rfl 1 (by decide) kw_1_221 (fun _ h9 => h9) rfl (by decide +kernel) rfl rfl (Nat.le_of_ble_eq_true rfl) rfl dX6_wipe_19 (fun H1 locs1 hP1 hD1 hS1 => ?_)
  clear hP0 hD0 hS0 locs0 H0
  refine lv_iload_n hx hb dX6_wipe_22 rfl (lv_at hl1 0 rfl) ?_
  have hq9 : ([sO cy hh a kk dd b w ee qq ik, eO cy ee sa en tk va, pO cy ee 0]) = [sO cy hh a kk dd b w ee qq ik, eO cy ee sa en tk va, pO cy ee (nI 0)] := rfl
  replace hP1 := (congrArg (fun z9 => va_P D vwCl z9 _) hq9).mp hP1
  replace hD1 := (congrArg (fun z9 => va_D _ z9) hq9).mp hD1
  refine re_i () hx hb hr hlocks hP1 hD1 hS1 dX6_wipe_23 ?_
  exact (rfl)

theorem kc_X7_wipe : kV yX7_wipe cX7_wipe 2 (some .int) 0 := ⟨kw_4_220, kw_4_221, kw_1_8, kw_4_222, by decide, by decide, by decide +kernel⟩
set_option maxHeartbeats 4000000 in
set_option maxRecDepth 100000 in
theorem c_X7_wipe (l : Launch) (D : va_G) (cy : Nat → ClassId) (G : Nat → Nat) (sz : Nat) (mm : Nat → Nat) (ik : Int32) (fm : Int32) (tz : Int32) (vl : Int32) (iw : Int32) (rm : Int32) (rr : Int32) (om : Int32) (n : Nat)  : Met l yX7_wipe (wm yX7_wipe cX7_wipe 2 (some .int)) { frames := 0, cells := 0, slots := 0, locals := 0 } (va_Pc [.ref (mm 0)] (pr D (TY cy) G ([mO cy mm ik (nI n) fm tz vl iw rm rr om]) sz)) (va_Qi (fun (r : Int32) (u : Unit) => r = nI n) (fun (u : Unit) t => po D (va_A ([mO cy mm ik (nI n) fm tz vl iw rm rr om]) sz) ([mO cy mm ik (nI 0) fm tz vl iw rm rr om]) t) (va_A ([mO cy mm ik (nI n) fm tz vl iw rm rr om]) sz)) 0 0 (va_A ([mO cy mm ik (nI n) fm tz vl iw rm rr om]) sz) := by
  refine mk_rw (by decide) RX7 rfl (Nat.le_of_ble_eq_true rfl) [(0, .ref (mm 0))] rfl ?_
  intro p e s m below meth c hx hb hml hown hr hlocks hin hw hsz hA hG hK H0 locs0 hP0 hD0 hS0 ls0 hl0
  clear hin
  refine lv_aload_n hx hb dX7_wipe_0 rfl (lv_at hl0 0 rfl) ?_
  refine va_get (D := D) (ci := 7) (v := .int (nI n)) (C := RX7) (T := TX7) (N := 23) hx hb hw iX7 hown hK hP0 0 rfl rfl 6 (by decide) (hw _ kw_4_70) (fun _ h9 => h9) rfl dX7_wipe_1 ?_
  refine lv_istore_n (lv' := [(1, .int (nI n)), (0, .ref (mm 0))]) hx hb dX7_wipe_4 rfl hl0 (by decide) rfl (fun ls1 hl1 => ?_)
  clear hl0 ls0
  refine lv_aload_n hx hb dX7_wipe_5 rfl (lv_at hl1 1 rfl) ?_
  refine lv_iconst (v := 0) hx hb dX7_wipe_6 (by decide) ?_
  refine pt (D := D) (ci := 7) (v := .int 0) (ty := .int) (C := RX7) (T := TX7) (N := 23) (ws' := [mO cy mm ik 0 fm tz vl iw rm rr om]) hx hb hw iX7 tyX7 tyX7_ok nmX7 hown hK hP0 hD0 hS0 0 rfl rfl 6 (by decide) kw_4_70 (fun _ h9 => h9) rfl (by decide +kernel) rfl rfl (Nat.le_of_ble_eq_true rfl) rfl dX7_wipe_7 (fun H1 locs1 hP1 hD1 hS1 => ?_)
  clear hP0 hD0 hS0 locs0 H0
  refine lv_iload_n hx hb dX7_wipe_10 rfl (lv_at hl1 0 rfl) ?_
  have hq9 : ([mO cy mm ik 0 fm tz vl iw rm rr om]) = [mO cy mm ik (nI 0) fm tz vl iw rm rr om] := rfl
  replace hP1 := (congrArg (fun z9 => va_P D vwCl z9 _) hq9).mp hP1
  replace hD1 := (congrArg (fun z9 => va_D _ z9) hq9).mp hD1
  refine re_i () hx hb hr hlocks hP1 hD1 hS1 dX7_wipe_11 ?_
  exact (rfl)

theorem kc_X6_feed : kV yX6_feed cX6_feed 4 (some .int) 2 := ⟨kw_2_141, kw_2_142, kw_1_1, kw_2_143, by decide, by decide, by decide +kernel⟩
set_option maxHeartbeats 4000000 in
set_option maxRecDepth 100000 in
theorem c_X6_feed (l : Launch) (D : va_G) (cy : Nat → ClassId) (G : Nat → Nat) (sz : Nat) (hh : Nat → Nat) (a : Nat → Nat) (kk : Nat → Nat) (dd : Nat → Nat) (b : Nat → Nat) (w : Nat → Nat) (ee : Nat → Nat) (qq : Nat → Nat) (ik : Int32) (C : Nat → Int32) (sa : Int32) (en : Int32) (tk : Int32) (va : Int32) (n : Nat) (T : Nat → Int32) (x1 : Int32) (x2 : Int32) (hn : n ≤ 120) : Met l yX6_feed (wm yX6_feed cX6_feed 4 (some .int)) { frames := 1, cells := 0, slots := 0, locals := 21 } (va_Pc [.ref (hh 0), .int x1, .int x2] (pr D (TY cy) G ([sO cy hh a kk dd b w ee qq ik, ia cy (hh 1) 7 C, eO cy ee sa en tk va, pO cy ee (nI n), ia cy (ee 2) 120 T]) sz)) (va_Qi (fun (r : Int32) (u : Unit) => r = ans (cFeed x2 n) (nI (n + bstN x2))) (fun (u : Unit) t => po D (va_A ([sO cy hh a kk dd b w ee qq ik, ia cy (hh 1) 7 C, eO cy ee sa en tk va, pO cy ee (nI n), ia cy (ee 2) 120 T]) sz) ([sO cy hh a kk dd b w ee qq ik, ia cy (hh 1) 7 (fnd C (cFeed x2 n)), eO cy ee sa en tk va, pO cy ee (if cFeed x2 n = 7 then nI (n + bstN x2) else nI n), ia cy (ee 2) 120 (if cFeed x2 n = 7 then fdT T n x1 (bstN x2) (bstN x2) else T)]) t) (va_A ([sO cy hh a kk dd b w ee qq ik, ia cy (hh 1) 7 C, eO cy ee sa en tk va, pO cy ee (nI n), ia cy (ee 2) 120 T]) sz)) 0 0 (va_A ([sO cy hh a kk dd b w ee qq ik, ia cy (hh 1) 7 C, eO cy ee sa en tk va, pO cy ee (nI n), ia cy (ee 2) 120 T]) sz) := by
  refine mk_rw (by decide) RX6 rfl (Nat.le_of_ble_eq_true rfl) [(0, .ref (hh 0)), (1, .int x1), (2, .int x2)] rfl ?_
  intro p e s m below meth c hx hb hml hown hr hlocks hin hw hsz hA hG hK H0 locs0 hP0 hD0 hS0 ls0 hl0
  clear hin
  obtain ⟨m9, hm, rfl⟩ : ∃ m9, m9 < 2 ^ 32 ∧ x1 = nI m9 := ⟨_, (nI_all x1).2, (nI_all x1).1⟩
  refine lv_iload_n hx hb dX6_feed_0 rfl (lv_at hl0 2 rfl) ?_
  refine lv_iconst (v := 1) hx hb dX6_feed_1 (by decide) ?_
  refine lv_icmp_lt (tgt := 10) hx hb dX6_feed_2 (by decide) (fun c_2 => ?_) (fun c_2 => ?_)
  · refine lv_aload_n hx hb dX6_feed_10 rfl (lv_at hl0 0 rfl) ?_
    refine lv_iconst (v := 0) hx hb dX6_feed_11 (by decide) ?_
    refine cV_i (wc := [sO cy hh a kk dd b w ee qq ik, ia cy (hh 1) 7 C]) (wr := [eO cy ee sa en tk va, pO cy ee (nI n), ia cy (ee 2) 120 T]) (rest := []) hx hb hml hown hw hG hK hP0 hD0 hS0 hA hl0 kc_X6_find kw_2_59 [.int 0] (c_X6_find l D cy G H0.size hh a kk dd b w ee qq ik C 0 (by first | omega | assumption)) [0, 1] [2, 3, 4] rfl rfl rfl rfl rfl 0 rfl rfl rfl rfl rfl (Nat.le_of_ble_eq_true rfl) ⟨Nat.le_of_ble_eq_true rfl, Nat.le_of_ble_eq_true rfl⟩ dX6_feed_12 ⟨Nat.le_of_ble_eq_true rfl, Nat.le_of_ble_eq_true rfl⟩ (fun r_12 u9 H1 locs1 hu9 hP1 hD1 hS1 => ?_)
    clear hP0 hD0 hS0 locs0 H0
    have hr_12 := hu9
    replace hP1 : va_P D vwCl ([eO cy ee sa en tk va, pO cy ee (nI n), ia cy (ee 2) 120 T, sO cy hh a kk dd b w ee qq ik, ia cy (hh 1) 7 (upd C 0 (C 0 + 1))]) H1 := hP1
    replace hD1 : va_D (va_A _ sz) ([eO cy ee sa en tk va, pO cy ee (nI n), ia cy (ee 2) 120 T, sO cy hh a kk dd b w ee qq ik, ia cy (hh 1) 7 (upd C 0 (C 0 + 1))]) := hD1
    replace hP1 := hP1.sub (ws' := [sO cy hh a kk dd b w ee qq ik, ia cy (hh 1) 7 (upd C 0 (C 0 + 1)), eO cy ee sa en tk va, pO cy ee (nI n), ia cy (ee 2) 120 T]) [3, 4, 0, 1, 2] rfl
    replace hD1 := hD1.sub (ws' := [sO cy hh a kk dd b w ee qq ik, ia cy (hh 1) 7 (upd C 0 (C 0 + 1)), eO cy ee sa en tk va, pO cy ee (nI n), ia cy (ee 2) 120 T]) [3, 4, 0, 1, 2] (by decide) rfl
    subst hr_12
    have hcd : cFeed x2 n = 0 := cFeed_0 (fun z9 => absurd z9.1 (Int32.not_le.mpr c_2))
    have hq9 : ([sO cy hh a kk dd b w ee qq ik, ia cy (hh 1) 7 (upd C 0 (C 0 + 1)), eO cy ee sa en tk va, pO cy ee (nI n), ia cy (ee 2) 120 T]) = ([sO cy hh a kk dd b w ee qq ik, ia cy (hh 1) 7 (fnd C (cFeed x2 n)), eO cy ee sa en tk va, pO cy ee (nI n), ia cy (ee 2) 120 T]) := congrArg (fun z9 => [sO cy hh a kk dd b w ee qq ik, ia cy (hh 1) 7 z9, eO cy ee sa en tk va, pO cy ee (nI n), ia cy (ee 2) 120 T]) (show (upd C 0 (C 0 + 1)) = (fnd C (cFeed x2 n)) from fnd_f hcd (by decide))
    replace hP1 := (congrArg (fun z9 => va_P D vwCl z9 _) hq9).mp hP1
    replace hD1 := (congrArg (fun z9 => va_D _ z9) hq9).mp hD1
    clear hq9
    have hq9 : ([sO cy hh a kk dd b w ee qq ik, ia cy (hh 1) 7 (fnd C (cFeed x2 n)), eO cy ee sa en tk va, pO cy ee (nI n), ia cy (ee 2) 120 T]) = ([sO cy hh a kk dd b w ee qq ik, ia cy (hh 1) 7 (fnd C (cFeed x2 n)), eO cy ee sa en tk va, pO cy ee (if cFeed x2 n = 7 then nI (n + bstN x2) else nI n), ia cy (ee 2) 120 T]) := congrArg (fun z9 => [sO cy hh a kk dd b w ee qq ik, ia cy (hh 1) 7 (fnd C (cFeed x2 n)), eO cy ee sa en tk va, pO cy ee z9, ia cy (ee 2) 120 T]) (show (nI n) = (if cFeed x2 n = 7 then nI (n + bstN x2) else nI n) from (if_neg (fun z9 => absurd (hcd.symm.trans z9) (by decide))).symm)
    replace hP1 := (congrArg (fun z9 => va_P D vwCl z9 _) hq9).mp hP1
    replace hD1 := (congrArg (fun z9 => va_D _ z9) hq9).mp hD1
    clear hq9
    have hq9 : ([sO cy hh a kk dd b w ee qq ik, ia cy (hh 1) 7 (fnd C (cFeed x2 n)), eO cy ee sa en tk va, pO cy ee (if cFeed x2 n = 7 then nI (n + bstN x2) else nI n), ia cy (ee 2) 120 T]) = ([sO cy hh a kk dd b w ee qq ik, ia cy (hh 1) 7 (fnd C (cFeed x2 n)), eO cy ee sa en tk va, pO cy ee (if cFeed x2 n = 7 then nI (n + bstN x2) else nI n), ia cy (ee 2) 120 (if cFeed x2 n = 7 then fdT T n (nI m9) (bstN x2) (bstN x2) else T)]) := congrArg (fun z9 => [sO cy hh a kk dd b w ee qq ik, ia cy (hh 1) 7 (fnd C (cFeed x2 n)), eO cy ee sa en tk va, pO cy ee (if cFeed x2 n = 7 then nI (n + bstN x2) else nI n), ia cy (ee 2) 120 z9]) (show T = (if cFeed x2 n = 7 then fdT T n (nI m9) (bstN x2) (bstN x2) else T) from (if_neg (fun z9 => absurd (hcd.symm.trans z9) (by decide))).symm)
    replace hP1 := (congrArg (fun z9 => va_P D vwCl z9 _) hq9).mp hP1
    replace hD1 := (congrArg (fun z9 => va_D _ z9) hq9).mp hD1
    clear hq9
    refine re_i () hx hb hr hlocks hP1 hD1 hS1 dX6_feed_15 ?_
    exact (ans_f hcd (by decide) rfl)
  · refine lv_iload_n hx hb dX6_feed_5 rfl (lv_at hl0 2 rfl) ?_
    refine lv_iconst (v := 4) hx hb dX6_feed_6 (by decide) ?_
    refine lv_icmp_le (tgt := 16) hx hb dX6_feed_7 (by decide) (fun c_7 => ?_) (fun c_7 => ?_)
    · obtain ⟨k, rfl, hk1, hk4⟩ := in14 ⟨Int32.not_lt.mp c_2, c_7⟩
      have hbk : bstN (nI k) = k := bst_n (by omega)
      refine lv_aload_n hx hb dX6_feed_16 rfl (lv_at hl0 0 rfl) ?_
      refine va_get (D := D) (ci := 6) (v := .ref (ee 0)) (C := RX6) (T := TX6) (N := 9) hx hb hw iX6 hown hK hP0 0 rfl rfl 6 (by decide) (hw _ kw_2_33) (fun _ h9 => h9) rfl dX6_feed_17 ?_
      refine va_get (D := D) (ci := 4) (v := .ref (ee 1)) (C := RX4) (T := TX4) (N := 5) hx hb hw iX4 hown hK hP0 2 rfl rfl 0 (by decide) (hw _ kw_1_229) (fun _ h9 => h9) rfl dX6_feed_20 ?_
      refine va_get (D := D) (ci := 3) (v := .int (nI n)) (C := RX3) (T := TX3) (N := 2) hx hb hw iX3 hown hK hP0 3 rfl rfl 1 (by decide) (hw _ kw_1_221) (fun _ h9 => h9) rfl dX6_feed_23 ?_
      refine lv_bipush (v := 120) hx hb dX6_feed_26 (by decide) ?_
      refine lv_iload_n hx hb dX6_feed_28 rfl (lv_at hl0 2 rfl) ?_
      refine lv_isub hx hb dX6_feed_29 ?_
      refine tp (show (120 - (nI k)) = nI (120 - k) from pk_sub (a := 120) (by omega)) ?_
      refine ln_le (tgt := 39) n (120 - k) rfl rfl (by omega) (by omega) hx hb dX6_feed_30 (by decide) (fun c_30 => ?_) (fun c_30 => ?_)
      · refine lv_iload_n hx hb dX6_feed_39 rfl (lv_at hl0 2 rfl) ?_
        refine lv_iconst (v := 1) hx hb dX6_feed_40 (by decide) ?_
        refine lv_isub hx hb dX6_feed_41 ?_
        refine lv_istore_n (lv' := [(3, .int ((nI k) - 1)), (0, .ref (hh 0)), (1, .int (nI m9)), (2, .int (nI k))]) hx hb dX6_feed_42 rfl hl0 (by decide) rfl (fun ls1 hl1 => ?_)
        clear hl0 ls0
        have hq9 : nI (k - 0) - 1 = (nI k) - 1 := rfl
        replace hl1 : lv_has ls1 4 [(3, .int (nI (k - 0) - 1)), (0, .ref (hh 0)), (1, .int (nI m9)), (2, .int (nI k))] := (congrArg (fun z9 => lv_has ls1 4 [(3, .int z9), (0, .ref (hh 0)), (1, .int (nI m9)), (2, .int (nI k))]) hq9).mpr hl1
        clear hq9
        have hq9 : ([sO cy hh a kk dd b w ee qq ik, ia cy (hh 1) 7 C, eO cy ee sa en tk va, pO cy ee (nI n), ia cy (ee 2) 120 T]) = ([sO cy hh a kk dd b w ee qq ik, ia cy (hh 1) 7 C, eO cy ee sa en tk va, pO cy ee (nI (n + 0)), ia cy (ee 2) 120 T]) := congrArg (fun z9 => [sO cy hh a kk dd b w ee qq ik, ia cy (hh 1) 7 C, eO cy ee sa en tk va, pO cy ee z9, ia cy (ee 2) 120 T]) (show (nI n) = (nI (n + 0)) from rfl)
        replace hP0 := (congrArg (fun z9 => va_P D vwCl z9 _) hq9).mp hP0
        replace hD0 := (congrArg (fun z9 => va_D _ z9) hq9).mp hD0
        clear hq9
        have hq9 : ([sO cy hh a kk dd b w ee qq ik, ia cy (hh 1) 7 C, eO cy ee sa en tk va, pO cy ee (nI (n + 0)), ia cy (ee 2) 120 T]) = ([sO cy hh a kk dd b w ee qq ik, ia cy (hh 1) 7 C, eO cy ee sa en tk va, pO cy ee (nI (n + 0)), ia cy (ee 2) 120 (fdT T n (nI m9) k 0)]) := congrArg (fun z9 => [sO cy hh a kk dd b w ee qq ik, ia cy (hh 1) 7 C, eO cy ee sa en tk va, pO cy ee (nI (n + 0)), ia cy (ee 2) 120 z9]) (show T = (fdT T n (nI m9) k 0) from rfl)
        replace hP0 := (congrArg (fun z9 => va_P D vwCl z9 _) hq9).mp hP0
        replace hD0 := (congrArg (fun z9 => va_D _ z9) hq9).mp hD0
        clear hq9
        refine wlp (ι := Nat) (nL := 4) (fun x9 => (x9 ≤ k)) (fun x9 => [sO cy hh a kk dd b w ee qq ik, ia cy (hh 1) 7 C, eO cy ee sa en tk va, pO cy ee (nI (n + x9)), ia cy (ee 2) 120 (fdT T n (nI m9) k x9)]) (fun x9 => [(3, .int (nI (k - x9) - 1)), (0, .ref (hh 0)), (1, .int (nI m9)), (2, .int (nI k))]) (fun x9 => []) (fun x9 => k - x9) 43 ?_ 0 (by first | omega | assumption | rfl | simp_all) rfl hP0 hD0 hS0 (lv_sub hl1 [0, 1, 2, 3] rfl)
        clear hP0 hD0 hS0 locs0 H0 hl1 ls1
        intro x9 hI ih_43 H1 locs1 ls2 hP1 hD1 hS1 hl2
        obtain ⟨i, rfl⟩ : ∃ z9, z9 = x9 := ⟨_, rfl⟩
        have hi := hI
        replace hi : i ≤ k := hi
        replace hP1 : va_P D vwCl ([sO cy hh a kk dd b w ee qq ik, ia cy (hh 1) 7 C, eO cy ee sa en tk va, pO cy ee (nI (n + i)), ia cy (ee 2) 120 (fdT T n (nI m9) k i)]) H1 := hP1
        replace hD1 : va_D (va_A _ sz) ([sO cy hh a kk dd b w ee qq ik, ia cy (hh 1) 7 C, eO cy ee sa en tk va, pO cy ee (nI (n + i)), ia cy (ee 2) 120 (fdT T n (nI m9) k i)]) := hD1
        replace hl2 : lv_has ls2 4 [(3, .int (nI (k - i) - 1)), (0, .ref (hh 0)), (1, .int (nI m9)), (2, .int (nI k))] := hl2
        show W p l e _ s m _ below meth c _ _ _ _ _ (F0 m 43 ls2 [])
        refine lv_iload_n hx hb dX6_feed_43 rfl (lv_at hl2 0 rfl) ?_
        refine lv_if_lt (tgt := 73) hx hb dX6_feed_44 (by decide) (fun c_44 => ?_) (fun c_44 => ?_)
        · obtain rfl := fd_e (by omega) hi c_44
          refine lv_aload_n hx hb dX6_feed_73 rfl (lv_at hl2 1 rfl) ?_
          refine va_get (D := D) (ci := 6) (v := .ref (ee 0)) (C := RX6) (T := TX6) (N := 9) hx hb hw iX6 hown hK hP1 0 rfl rfl 6 (by decide) (hw _ kw_2_33) (fun _ h9 => h9) rfl dX6_feed_74 ?_
          refine va_get (D := D) (ci := 4) (v := .ref (ee 1)) (C := RX4) (T := TX4) (N := 5) hx hb hw iX4 hown hK hP1 2 rfl rfl 0 (by decide) (hw _ kw_1_229) (fun _ h9 => h9) rfl dX6_feed_77 ?_
          refine va_get (D := D) (ci := 3) (v := .int (nI (n + k))) (C := RX3) (T := TX3) (N := 2) hx hb hw iX3 hown hK hP1 3 rfl rfl 1 (by decide) (hw _ kw_1_221) (fun _ h9 => h9) rfl dX6_feed_80 ?_
          have hcd : cFeed (nI k) n = 7 := cFeed_7 hk1 hk4 (by omega)
          have hq9 : ([sO cy hh a kk dd b w ee qq ik, ia cy (hh 1) 7 C, eO cy ee sa en tk va, pO cy ee (nI (n + k)), ia cy (ee 2) 120 (fdT T n (nI m9) k k)]) = ([sO cy hh a kk dd b w ee qq ik, ia cy (hh 1) 7 (fnd C (cFeed (nI k) n)), eO cy ee sa en tk va, pO cy ee (nI (n + k)), ia cy (ee 2) 120 (fdT T n (nI m9) k k)]) := congrArg (fun z9 => [sO cy hh a kk dd b w ee qq ik, ia cy (hh 1) 7 z9, eO cy ee sa en tk va, pO cy ee (nI (n + k)), ia cy (ee 2) 120 (fdT T n (nI m9) k k)]) (show C = (fnd C (cFeed (nI k) n)) from fnd_o hcd)
          replace hP1 := (congrArg (fun z9 => va_P D vwCl z9 _) hq9).mp hP1
          replace hD1 := (congrArg (fun z9 => va_D _ z9) hq9).mp hD1
          clear hq9
          have hq9 : ([sO cy hh a kk dd b w ee qq ik, ia cy (hh 1) 7 (fnd C (cFeed (nI k) n)), eO cy ee sa en tk va, pO cy ee (nI (n + k)), ia cy (ee 2) 120 (fdT T n (nI m9) k k)]) = ([sO cy hh a kk dd b w ee qq ik, ia cy (hh 1) 7 (fnd C (cFeed (nI k) n)), eO cy ee sa en tk va, pO cy ee (if cFeed (nI k) n = 7 then nI (n + bstN (nI k)) else nI n), ia cy (ee 2) 120 (fdT T n (nI m9) k k)]) := congrArg (fun z9 => [sO cy hh a kk dd b w ee qq ik, ia cy (hh 1) 7 (fnd C (cFeed (nI k) n)), eO cy ee sa en tk va, pO cy ee z9, ia cy (ee 2) 120 (fdT T n (nI m9) k k)]) (show (nI (n + k)) = (if cFeed (nI k) n = 7 then nI (n + bstN (nI k)) else nI n) from by rw [if_pos hcd, hbk])
          replace hP1 := (congrArg (fun z9 => va_P D vwCl z9 _) hq9).mp hP1
          replace hD1 := (congrArg (fun z9 => va_D _ z9) hq9).mp hD1
          clear hq9
          have hq9 : ([sO cy hh a kk dd b w ee qq ik, ia cy (hh 1) 7 (fnd C (cFeed (nI k) n)), eO cy ee sa en tk va, pO cy ee (if cFeed (nI k) n = 7 then nI (n + bstN (nI k)) else nI n), ia cy (ee 2) 120 (fdT T n (nI m9) k k)]) = ([sO cy hh a kk dd b w ee qq ik, ia cy (hh 1) 7 (fnd C (cFeed (nI k) n)), eO cy ee sa en tk va, pO cy ee (if cFeed (nI k) n = 7 then nI (n + bstN (nI k)) else nI n), ia cy (ee 2) 120 (if cFeed (nI k) n = 7 then fdT T n (nI m9) (bstN (nI k)) (bstN (nI k)) else T)]) := congrArg (fun z9 => [sO cy hh a kk dd b w ee qq ik, ia cy (hh 1) 7 (fnd C (cFeed (nI k) n)), eO cy ee sa en tk va, pO cy ee (if cFeed (nI k) n = 7 then nI (n + bstN (nI k)) else nI n), ia cy (ee 2) 120 z9]) (show (fdT T n (nI m9) k k) = (if cFeed (nI k) n = 7 then fdT T n (nI m9) (bstN (nI k)) (bstN (nI k)) else T) from by rw [if_pos hcd, hbk])
          replace hP1 := (congrArg (fun z9 => va_P D vwCl z9 _) hq9).mp hP1
          replace hD1 := (congrArg (fun z9 => va_D _ z9) hq9).mp hD1
          clear hq9
          refine re_i () hx hb hr hlocks hP1 hD1 hS1 dX6_feed_83 ?_
          exact (ans_o hcd (by rw [hbk]))
        · have hik := fd_go (by omega) c_44
          have hq9 : nI (k - 1 - i) = nI (k - i) - 1 := fd_l hik
          replace hl2 : lv_has ls2 4 [(3, .int (nI (k - 1 - i))), (0, .ref (hh 0)), (1, .int (nI m9)), (2, .int (nI k))] := (congrArg (fun z9 => lv_has ls2 4 [(3, .int z9), (0, .ref (hh 0)), (1, .int (nI m9)), (2, .int (nI k))]) hq9).mpr hl2
          clear hq9
          refine lv_aload_n hx hb dX6_feed_47 rfl (lv_at hl2 1 rfl) ?_
          refine va_get (D := D) (ci := 6) (v := .ref (ee 0)) (C := RX6) (T := TX6) (N := 9) hx hb hw iX6 hown hK hP1 0 rfl rfl 6 (by decide) (hw _ kw_2_33) (fun _ h9 => h9) rfl dX6_feed_48 ?_
          refine va_get (D := D) (ci := 4) (v := .ref (ee 1)) (C := RX4) (T := TX4) (N := 5) hx hb hw iX4 hown hK hP1 2 rfl rfl 0 (by decide) (hw _ kw_1_229) (fun _ h9 => h9) rfl dX6_feed_51 ?_
          refine lv_iload_n hx hb dX6_feed_54 rfl (lv_at hl2 2 rfl) ?_
          refine lv_bipush (v := 8) hx hb dX6_feed_55 (by decide) ?_
          refine lv_iload_n hx hb dX6_feed_57 rfl (lv_at hl2 0 rfl) ?_
          refine lv_imul hx hb dX6_feed_58 ?_
          refine tp (show (8 * (nI (k - 1 - i))) = nI (8 * (k - 1 - i)) from pk_mul _ _) ?_
          refine lv_iushr hx hb dX6_feed_59 rfl ?_
          refine lv_sipush (v := 255) hx hb dX6_feed_60 (by decide) ?_
          refine lv_iand hx hb dX6_feed_63 ?_
          refine tp (show ((((nI m9).toUInt32 >>> ((nI (8 * (k - 1 - i))).toUInt32 &&& Int32.toUInt32 31)).toInt32) &&& 255) = byt (nI m9) (k - 1 - i) from byt_u hm (by omega)) ?_
          refine cV_v (wc := [pO cy ee (nI (n + i)), ia cy (ee 2) 120 (fdT T n (nI m9) k i)]) (wr := [sO cy hh a kk dd b w ee qq ik, ia cy (hh 1) 7 C, eO cy ee sa en tk va]) (rest := []) hx hb hml hown hw hG hK hP1 hD1 hS1 hA hl2 kc_X3_put kw_2_144 [.int (byt (nI m9) (k - 1 - i))] (c_X3_put l D cy G H1.size ee (n + i) (fdT T n (nI m9) k i) (byt (nI m9) (k - 1 - i)) (by omega)) [3, 4] [0, 1, 2] rfl rfl rfl rfl rfl 0 rfl rfl rfl rfl rfl (Nat.le_of_ble_eq_true rfl) ⟨Nat.le_of_ble_eq_true rfl, Nat.le_of_ble_eq_true rfl⟩ dX6_feed_64 ⟨Nat.le_of_ble_eq_true rfl, Nat.le_of_ble_eq_true rfl⟩ (fun u9 H2 locs2 hu9 hP2 hD2 hS2 => ?_)
          clear hP1 hD1 hS1 locs1 H1
          replace hP2 : va_P D vwCl ([sO cy hh a kk dd b w ee qq ik, ia cy (hh 1) 7 C, eO cy ee sa en tk va, pO cy ee (nI ((n + i) + 1)), ia cy (ee 2) 120 (upd (fdT T n (nI m9) k i) (n + i) (byt (nI m9) (k - 1 - i)))]) H2 := hP2
          replace hD2 : va_D (va_A _ sz) ([sO cy hh a kk dd b w ee qq ik, ia cy (hh 1) 7 C, eO cy ee sa en tk va, pO cy ee (nI ((n + i) + 1)), ia cy (ee 2) 120 (upd (fdT T n (nI m9) k i) (n + i) (byt (nI m9) (k - 1 - i)))]) := hD2
          refine lv_iinc (v := (nI (k - 1 - i)) + (-1)) (lv' := [(3, .int ((nI (k - 1 - i)) + (-1))), (0, .ref (hh 0)), (1, .int (nI m9)), (2, .int (nI k))]) hx hb dX6_feed_67 hl2 (k := 0) rfl (rfl) (by decide) rfl (fun ls3 hl3 => ?_)
          clear hl2 ls2
          have hq9 : nI (k - (i + 1)) - 1 = (nI (k - 1 - i)) + (-1) := fd_n
          replace hl3 : lv_has ls3 4 [(3, .int (nI (k - (i + 1)) - 1)), (0, .ref (hh 0)), (1, .int (nI m9)), (2, .int (nI k))] := (congrArg (fun z9 => lv_has ls3 4 [(3, .int z9), (0, .ref (hh 0)), (1, .int (nI m9)), (2, .int (nI k))]) hq9).mpr hl3
          clear hq9
          have hq9 : ([sO cy hh a kk dd b w ee qq ik, ia cy (hh 1) 7 C, eO cy ee sa en tk va, pO cy ee (nI ((n + i) + 1)), ia cy (ee 2) 120 (upd (fdT T n (nI m9) k i) (n + i) (byt (nI m9) (k - 1 - i)))]) = ([sO cy hh a kk dd b w ee qq ik, ia cy (hh 1) 7 C, eO cy ee sa en tk va, pO cy ee (nI (n + (i + 1))), ia cy (ee 2) 120 (upd (fdT T n (nI m9) k i) (n + i) (byt (nI m9) (k - 1 - i)))]) := congrArg (fun z9 => [sO cy hh a kk dd b w ee qq ik, ia cy (hh 1) 7 C, eO cy ee sa en tk va, pO cy ee z9, ia cy (ee 2) 120 (upd (fdT T n (nI m9) k i) (n + i) (byt (nI m9) (k - 1 - i)))]) (show (nI ((n + i) + 1)) = (nI (n + (i + 1))) from rfl)
          replace hP2 := (congrArg (fun z9 => va_P D vwCl z9 _) hq9).mp hP2
          replace hD2 := (congrArg (fun z9 => va_D _ z9) hq9).mp hD2
          clear hq9
          have hq9 : ([sO cy hh a kk dd b w ee qq ik, ia cy (hh 1) 7 C, eO cy ee sa en tk va, pO cy ee (nI (n + (i + 1))), ia cy (ee 2) 120 (upd (fdT T n (nI m9) k i) (n + i) (byt (nI m9) (k - 1 - i)))]) = ([sO cy hh a kk dd b w ee qq ik, ia cy (hh 1) 7 C, eO cy ee sa en tk va, pO cy ee (nI (n + (i + 1))), ia cy (ee 2) 120 (fdT T n (nI m9) k (i + 1))]) := congrArg (fun z9 => [sO cy hh a kk dd b w ee qq ik, ia cy (hh 1) 7 C, eO cy ee sa en tk va, pO cy ee (nI (n + (i + 1))), ia cy (ee 2) 120 z9]) (show (upd (fdT T n (nI m9) k i) (n + i) (byt (nI m9) (k - 1 - i))) = (fdT T n (nI m9) k (i + 1)) from rfl)
          replace hP2 := (congrArg (fun z9 => va_P D vwCl z9 _) hq9).mp hP2
          replace hD2 := (congrArg (fun z9 => va_D _ z9) hq9).mp hD2
          clear hq9
          refine lv_goto (tgt := 43) hx hb dX6_feed_70 (by decide) ?_
          exact ih_43 (i + 1) (hik) (by (try dsimp only); omega) H2 locs2 ls3 hP2 hD2 hS2 (lv_sub hl3 [0, 1, 2, 3] rfl)
      · refine lv_aload_n hx hb dX6_feed_33 rfl (lv_at hl0 0 rfl) ?_
        refine lv_iconst (v := 1) hx hb dX6_feed_34 (by decide) ?_
        refine cV_i (wc := [sO cy hh a kk dd b w ee qq ik, ia cy (hh 1) 7 C]) (wr := [eO cy ee sa en tk va, pO cy ee (nI n), ia cy (ee 2) 120 T]) (rest := []) hx hb hml hown hw hG hK hP0 hD0 hS0 hA hl0 kc_X6_find kw_2_59 [.int 1] (c_X6_find l D cy G H0.size hh a kk dd b w ee qq ik C 1 (by first | omega | assumption)) [0, 1] [2, 3, 4] rfl rfl rfl rfl rfl 0 rfl rfl rfl rfl rfl (Nat.le_of_ble_eq_true rfl) ⟨Nat.le_of_ble_eq_true rfl, Nat.le_of_ble_eq_true rfl⟩ dX6_feed_35 ⟨Nat.le_of_ble_eq_true rfl, Nat.le_of_ble_eq_true rfl⟩ (fun r_35 u9 H1 locs1 hu9 hP1 hD1 hS1 => ?_)
        clear hP0 hD0 hS0 locs0 H0
        have hr_35 := hu9
        replace hP1 : va_P D vwCl ([eO cy ee sa en tk va, pO cy ee (nI n), ia cy (ee 2) 120 T, sO cy hh a kk dd b w ee qq ik, ia cy (hh 1) 7 (upd C 1 (C 1 + 1))]) H1 := hP1
        replace hD1 : va_D (va_A _ sz) ([eO cy ee sa en tk va, pO cy ee (nI n), ia cy (ee 2) 120 T, sO cy hh a kk dd b w ee qq ik, ia cy (hh 1) 7 (upd C 1 (C 1 + 1))]) := hD1
        replace hP1 := hP1.sub (ws' := [sO cy hh a kk dd b w ee qq ik, ia cy (hh 1) 7 (upd C 1 (C 1 + 1)), eO cy ee sa en tk va, pO cy ee (nI n), ia cy (ee 2) 120 T]) [3, 4, 0, 1, 2] rfl
        replace hD1 := hD1.sub (ws' := [sO cy hh a kk dd b w ee qq ik, ia cy (hh 1) 7 (upd C 1 (C 1 + 1)), eO cy ee sa en tk va, pO cy ee (nI n), ia cy (ee 2) 120 T]) [3, 4, 0, 1, 2] (by decide) rfl
        subst hr_35
        have hcd : cFeed (nI k) n = 1 := cFeed_1 hk1 hk4 (by omega)
        have hq9 : ([sO cy hh a kk dd b w ee qq ik, ia cy (hh 1) 7 (upd C 1 (C 1 + 1)), eO cy ee sa en tk va, pO cy ee (nI n), ia cy (ee 2) 120 T]) = ([sO cy hh a kk dd b w ee qq ik, ia cy (hh 1) 7 (fnd C (cFeed (nI k) n)), eO cy ee sa en tk va, pO cy ee (nI n), ia cy (ee 2) 120 T]) := congrArg (fun z9 => [sO cy hh a kk dd b w ee qq ik, ia cy (hh 1) 7 z9, eO cy ee sa en tk va, pO cy ee (nI n), ia cy (ee 2) 120 T]) (show (upd C 1 (C 1 + 1)) = (fnd C (cFeed (nI k) n)) from fnd_f hcd (by decide))
        replace hP1 := (congrArg (fun z9 => va_P D vwCl z9 _) hq9).mp hP1
        replace hD1 := (congrArg (fun z9 => va_D _ z9) hq9).mp hD1
        clear hq9
        have hq9 : ([sO cy hh a kk dd b w ee qq ik, ia cy (hh 1) 7 (fnd C (cFeed (nI k) n)), eO cy ee sa en tk va, pO cy ee (nI n), ia cy (ee 2) 120 T]) = ([sO cy hh a kk dd b w ee qq ik, ia cy (hh 1) 7 (fnd C (cFeed (nI k) n)), eO cy ee sa en tk va, pO cy ee (if cFeed (nI k) n = 7 then nI (n + bstN (nI k)) else nI n), ia cy (ee 2) 120 T]) := congrArg (fun z9 => [sO cy hh a kk dd b w ee qq ik, ia cy (hh 1) 7 (fnd C (cFeed (nI k) n)), eO cy ee sa en tk va, pO cy ee z9, ia cy (ee 2) 120 T]) (show (nI n) = (if cFeed (nI k) n = 7 then nI (n + bstN (nI k)) else nI n) from (if_neg (fun z9 => absurd (hcd.symm.trans z9) (by decide))).symm)
        replace hP1 := (congrArg (fun z9 => va_P D vwCl z9 _) hq9).mp hP1
        replace hD1 := (congrArg (fun z9 => va_D _ z9) hq9).mp hD1
        clear hq9
        have hq9 : ([sO cy hh a kk dd b w ee qq ik, ia cy (hh 1) 7 (fnd C (cFeed (nI k) n)), eO cy ee sa en tk va, pO cy ee (if cFeed (nI k) n = 7 then nI (n + bstN (nI k)) else nI n), ia cy (ee 2) 120 T]) = ([sO cy hh a kk dd b w ee qq ik, ia cy (hh 1) 7 (fnd C (cFeed (nI k) n)), eO cy ee sa en tk va, pO cy ee (if cFeed (nI k) n = 7 then nI (n + bstN (nI k)) else nI n), ia cy (ee 2) 120 (if cFeed (nI k) n = 7 then fdT T n (nI m9) (bstN (nI k)) (bstN (nI k)) else T)]) := congrArg (fun z9 => [sO cy hh a kk dd b w ee qq ik, ia cy (hh 1) 7 (fnd C (cFeed (nI k) n)), eO cy ee sa en tk va, pO cy ee (if cFeed (nI k) n = 7 then nI (n + bstN (nI k)) else nI n), ia cy (ee 2) 120 z9]) (show T = (if cFeed (nI k) n = 7 then fdT T n (nI m9) (bstN (nI k)) (bstN (nI k)) else T) from (if_neg (fun z9 => absurd (hcd.symm.trans z9) (by decide))).symm)
        replace hP1 := (congrArg (fun z9 => va_P D vwCl z9 _) hq9).mp hP1
        replace hD1 := (congrArg (fun z9 => va_D _ z9) hq9).mp hD1
        clear hq9
        refine re_i () hx hb hr hlocks hP1 hD1 hS1 dX6_feed_38 ?_
        exact (ans_f hcd (by decide) rfl)
    · refine lv_aload_n hx hb dX6_feed_10 rfl (lv_at hl0 0 rfl) ?_
      refine lv_iconst (v := 0) hx hb dX6_feed_11 (by decide) ?_
      refine cV_i (wc := [sO cy hh a kk dd b w ee qq ik, ia cy (hh 1) 7 C]) (wr := [eO cy ee sa en tk va, pO cy ee (nI n), ia cy (ee 2) 120 T]) (rest := []) hx hb hml hown hw hG hK hP0 hD0 hS0 hA hl0 kc_X6_find kw_2_59 [.int 0] (c_X6_find l D cy G H0.size hh a kk dd b w ee qq ik C 0 (by first | omega | assumption)) [0, 1] [2, 3, 4] rfl rfl rfl rfl rfl 0 rfl rfl rfl rfl rfl (Nat.le_of_ble_eq_true rfl) ⟨Nat.le_of_ble_eq_true rfl, Nat.le_of_ble_eq_true rfl⟩ dX6_feed_12 ⟨Nat.le_of_ble_eq_true rfl, Nat.le_of_ble_eq_true rfl⟩ (fun r_12 u9 H1 locs1 hu9 hP1 hD1 hS1 => ?_)
      clear hP0 hD0 hS0 locs0 H0
      have hr_12 := hu9
      replace hP1 : va_P D vwCl ([eO cy ee sa en tk va, pO cy ee (nI n), ia cy (ee 2) 120 T, sO cy hh a kk dd b w ee qq ik, ia cy (hh 1) 7 (upd C 0 (C 0 + 1))]) H1 := hP1
      replace hD1 : va_D (va_A _ sz) ([eO cy ee sa en tk va, pO cy ee (nI n), ia cy (ee 2) 120 T, sO cy hh a kk dd b w ee qq ik, ia cy (hh 1) 7 (upd C 0 (C 0 + 1))]) := hD1
      replace hP1 := hP1.sub (ws' := [sO cy hh a kk dd b w ee qq ik, ia cy (hh 1) 7 (upd C 0 (C 0 + 1)), eO cy ee sa en tk va, pO cy ee (nI n), ia cy (ee 2) 120 T]) [3, 4, 0, 1, 2] rfl
      replace hD1 := hD1.sub (ws' := [sO cy hh a kk dd b w ee qq ik, ia cy (hh 1) 7 (upd C 0 (C 0 + 1)), eO cy ee sa en tk va, pO cy ee (nI n), ia cy (ee 2) 120 T]) [3, 4, 0, 1, 2] (by decide) rfl
      subst hr_12
      have hcd : cFeed x2 n = 0 := cFeed_0 (fun z9 => absurd z9.2 c_7)
      have hq9 : ([sO cy hh a kk dd b w ee qq ik, ia cy (hh 1) 7 (upd C 0 (C 0 + 1)), eO cy ee sa en tk va, pO cy ee (nI n), ia cy (ee 2) 120 T]) = ([sO cy hh a kk dd b w ee qq ik, ia cy (hh 1) 7 (fnd C (cFeed x2 n)), eO cy ee sa en tk va, pO cy ee (nI n), ia cy (ee 2) 120 T]) := congrArg (fun z9 => [sO cy hh a kk dd b w ee qq ik, ia cy (hh 1) 7 z9, eO cy ee sa en tk va, pO cy ee (nI n), ia cy (ee 2) 120 T]) (show (upd C 0 (C 0 + 1)) = (fnd C (cFeed x2 n)) from fnd_f hcd (by decide))
      replace hP1 := (congrArg (fun z9 => va_P D vwCl z9 _) hq9).mp hP1
      replace hD1 := (congrArg (fun z9 => va_D _ z9) hq9).mp hD1
      clear hq9
      have hq9 : ([sO cy hh a kk dd b w ee qq ik, ia cy (hh 1) 7 (fnd C (cFeed x2 n)), eO cy ee sa en tk va, pO cy ee (nI n), ia cy (ee 2) 120 T]) = ([sO cy hh a kk dd b w ee qq ik, ia cy (hh 1) 7 (fnd C (cFeed x2 n)), eO cy ee sa en tk va, pO cy ee (if cFeed x2 n = 7 then nI (n + bstN x2) else nI n), ia cy (ee 2) 120 T]) := congrArg (fun z9 => [sO cy hh a kk dd b w ee qq ik, ia cy (hh 1) 7 (fnd C (cFeed x2 n)), eO cy ee sa en tk va, pO cy ee z9, ia cy (ee 2) 120 T]) (show (nI n) = (if cFeed x2 n = 7 then nI (n + bstN x2) else nI n) from (if_neg (fun z9 => absurd (hcd.symm.trans z9) (by decide))).symm)
      replace hP1 := (congrArg (fun z9 => va_P D vwCl z9 _) hq9).mp hP1
      replace hD1 := (congrArg (fun z9 => va_D _ z9) hq9).mp hD1
      clear hq9
      have hq9 : ([sO cy hh a kk dd b w ee qq ik, ia cy (hh 1) 7 (fnd C (cFeed x2 n)), eO cy ee sa en tk va, pO cy ee (if cFeed x2 n = 7 then nI (n + bstN x2) else nI n), ia cy (ee 2) 120 T]) = ([sO cy hh a kk dd b w ee qq ik, ia cy (hh 1) 7 (fnd C (cFeed x2 n)), eO cy ee sa en tk va, pO cy ee (if cFeed x2 n = 7 then nI (n + bstN x2) else nI n), ia cy (ee 2) 120 (if cFeed x2 n = 7 then fdT T n (nI m9) (bstN x2) (bstN x2) else T)]) := congrArg (fun z9 => [sO cy hh a kk dd b w ee qq ik, ia cy (hh 1) 7 (fnd C (cFeed x2 n)), eO cy ee sa en tk va, pO cy ee (if cFeed x2 n = 7 then nI (n + bstN x2) else nI n), ia cy (ee 2) 120 z9]) (show T = (if cFeed x2 n = 7 then fdT T n (nI m9) (bstN x2) (bstN x2) else T) from (if_neg (fun z9 => absurd (hcd.symm.trans z9) (by decide))).symm)
      replace hP1 := (congrArg (fun z9 => va_P D vwCl z9 _) hq9).mp hP1
      replace hD1 := (congrArg (fun z9 => va_D _ z9) hq9).mp hD1
      clear hq9
      refine re_i () hx hb hr hlocks hP1 hD1 hS1 dX6_feed_15 ?_
      exact (ans_f hcd (by decide) rfl)

theorem kc_X7_feed : kV yX7_feed cX7_feed 4 (some .int) 2 := ⟨kw_4_215, kw_4_216, kw_1_8, kw_4_217, by decide, by decide, by decide +kernel⟩
set_option maxHeartbeats 4000000 in
set_option maxRecDepth 100000 in
theorem c_X7_feed (l : Launch) (D : va_G) (cy : Nat → ClassId) (G : Nat → Nat) (sz : Nat) (mm : Nat → Nat) (ik : Int32) (fm : Int32) (tz : Int32) (vl : Int32) (iw : Int32) (rm : Int32) (rr : Int32) (om : Int32) (C : Nat → Int32) (n : Nat) (T : Nat → Int32) (x1 : Int32) (x2 : Int32) (hn : n ≤ 120) : Met l yX7_feed (wm yX7_feed cX7_feed 4 (some .int)) { frames := 1, cells := 0, slots := 0, locals := 25 } (va_Pc [.ref (mm 0), .int x1, .int x2] (pr D (TY cy) G ([mO cy mm ik (nI n) fm tz vl iw rm rr om, ia cy (mm 4) 7 C, ia cy (mm 5) 120 T]) sz)) (va_Qi (fun (r : Int32) (u : Unit) => r = ans (cFeed x2 n) (nI (n + bstN x2))) (fun (u : Unit) t => po D (va_A ([mO cy mm ik (nI n) fm tz vl iw rm rr om, ia cy (mm 4) 7 C, ia cy (mm 5) 120 T]) sz) ([mO cy mm ik (if cFeed x2 n = 7 then nI (n + bstN x2) else nI n) fm tz vl iw rm rr om, ia cy (mm 4) 7 (fnd C (cFeed x2 n)), ia cy (mm 5) 120 (if cFeed x2 n = 7 then fdT T n x1 (bstN x2) (bstN x2) else T)]) t) (va_A ([mO cy mm ik (nI n) fm tz vl iw rm rr om, ia cy (mm 4) 7 C, ia cy (mm 5) 120 T]) sz)) 0 0 (va_A ([mO cy mm ik (nI n) fm tz vl iw rm rr om, ia cy (mm 4) 7 C, ia cy (mm 5) 120 T]) sz) := by
  refine mk_rw (by decide) RX7 rfl (Nat.le_of_ble_eq_true rfl) [(0, .ref (mm 0)), (1, .int x1), (2, .int x2)] rfl ?_
  intro p e s m below meth c hx hb hml hown hr hlocks hin hw hsz hA hG hK H0 locs0 hP0 hD0 hS0 ls0 hl0
  clear hin
  obtain ⟨m9, hm, rfl⟩ : ∃ m9, m9 < 2 ^ 32 ∧ x1 = nI m9 := ⟨_, (nI_all x1).2, (nI_all x1).1⟩
  refine lv_iload_n hx hb dX7_feed_0 rfl (lv_at hl0 2 rfl) ?_
  refine lv_i2l hx hb dX7_feed_1 rfl ?_
  refine lv_lconst (v := 1) hx hb dX7_feed_2 (by decide) ?_
  refine lv_ldc2 (v := 4) hx hb hown (hw _ kw_4_218) dX7_feed_3 ?_
  refine rT_i (wc := []) (rest := []) hx hb hml hown hw hG hK hP0 hS0 hA hl0 kc_X7_in kw_4_153 [.long x2.toInt64, .long 1, .long 4] (c_X7_in l D cy G H0.size x2.toInt64 1 4) [] rfl rfl rfl (Nat.le_of_ble_eq_true rfl) ⟨Nat.le_of_ble_eq_true rfl, Nat.le_of_ble_eq_true rfl⟩ dX7_feed_6 ⟨Nat.le_of_ble_eq_true rfl, Nat.le_of_ble_eq_true rfl⟩ (fun r_6 H1 locs1 hr_6 hP1 hS1 => ?_)
  have hD1 := hD0
  clear hP0 hD0 hS0 locs0 H0
  subst hr_6
  refine tp (show (b2i (1 ≤ x2.toInt64 ∧ x2.toInt64 ≤ 4)) = b2i (1 ≤ x2 ∧ x2 ≤ 4) from b2i_iff (in_c (by decide) (by decide))) ?_
  refine lb_ne (tgt := 19) hx hb dX7_feed_9 (by decide) (fun c_9 => ?_) (fun c_9 => ?_)
  · obtain ⟨k, rfl, hk1, hk4⟩ := in14 c_9
    have hbk : bstN (nI k) = k := bst_n (by omega)
    refine lv_aload_n hx hb dX7_feed_19 rfl (lv_at hl0 0 rfl) ?_
    refine va_get (D := D) (ci := 7) (v := .int (nI n)) (C := RX7) (T := TX7) (N := 23) hx hb hw iX7 hown hK hP1 0 rfl rfl 6 (by decide) (hw _ kw_4_70) (fun _ h9 => h9) rfl dX7_feed_20 ?_
    refine lv_iload_n hx hb dX7_feed_23 rfl (lv_at hl0 2 rfl) ?_
    refine lv_iadd hx hb dX7_feed_24 ?_
    refine tp (show ((nI n) + (nI k)) = nI (n + k) from nI_add _ _) ?_
    refine lv_bipush (v := 120) hx hb dX7_feed_25 (by decide) ?_
    refine ln_le (tgt := 37) (n + k) 120 rfl rfl (by omega) (by omega) hx hb dX7_feed_27 (by decide) (fun c_27 => ?_) (fun c_27 => ?_)
    · refine lv_iload_n hx hb dX7_feed_37 rfl (lv_at hl0 2 rfl) ?_
      refine lv_iconst (v := 1) hx hb dX7_feed_38 (by decide) ?_
      refine lv_isub hx hb dX7_feed_39 ?_
      refine lv_istore_n (lv' := [(3, .int ((nI k) - 1)), (0, .ref (mm 0)), (1, .int (nI m9)), (2, .int (nI k))]) hx hb dX7_feed_40 rfl hl0 (by decide) rfl (fun ls1 hl1 => ?_)
      clear hl0 ls0
      have hq9 : nI (k - 0) - 1 = (nI k) - 1 := rfl
      replace hl1 : lv_has ls1 4 [(3, .int (nI (k - 0) - 1)), (0, .ref (mm 0)), (1, .int (nI m9)), (2, .int (nI k))] := (congrArg (fun z9 => lv_has ls1 4 [(3, .int z9), (0, .ref (mm 0)), (1, .int (nI m9)), (2, .int (nI k))]) hq9).mpr hl1
      clear hq9
      have hq9 : ([mO cy mm ik (nI n) fm tz vl iw rm rr om, ia cy (mm 4) 7 C, ia cy (mm 5) 120 T]) = ([mO cy mm ik (nI (n + 0)) fm tz vl iw rm rr om, ia cy (mm 4) 7 C, ia cy (mm 5) 120 T]) := congrArg (fun z9 => [mO cy mm ik z9 fm tz vl iw rm rr om, ia cy (mm 4) 7 C, ia cy (mm 5) 120 T]) (show (nI n) = (nI (n + 0)) from rfl)
      replace hP1 := (congrArg (fun z9 => va_P D vwCl z9 _) hq9).mp hP1
      replace hD1 := (congrArg (fun z9 => va_D _ z9) hq9).mp hD1
      clear hq9
      have hq9 : ([mO cy mm ik (nI (n + 0)) fm tz vl iw rm rr om, ia cy (mm 4) 7 C, ia cy (mm 5) 120 T]) = ([mO cy mm ik (nI (n + 0)) fm tz vl iw rm rr om, ia cy (mm 4) 7 C, ia cy (mm 5) 120 (fdT T n (nI m9) k 0)]) := congrArg (fun z9 => [mO cy mm ik (nI (n + 0)) fm tz vl iw rm rr om, ia cy (mm 4) 7 C, ia cy (mm 5) 120 z9]) (show T = (fdT T n (nI m9) k 0) from rfl)
      replace hP1 := (congrArg (fun z9 => va_P D vwCl z9 _) hq9).mp hP1
      replace hD1 := (congrArg (fun z9 => va_D _ z9) hq9).mp hD1
      clear hq9
      refine wlp (ι := Nat) (nL := 4) (fun x9 => (x9 ≤ k)) (fun x9 => [mO cy mm ik (nI (n + x9)) fm tz vl iw rm rr om, ia cy (mm 4) 7 C, ia cy (mm 5) 120 (fdT T n (nI m9) k x9)]) (fun x9 => [(3, .int (nI (k - x9) - 1)), (0, .ref (mm 0)), (1, .int (nI m9)), (2, .int (nI k))]) (fun x9 => []) (fun x9 => k - x9) 41 ?_ 0 (by first | omega | assumption | rfl | simp_all) rfl hP1 hD1 hS1 (lv_sub hl1 [0, 1, 2, 3] rfl)
      clear hP1 hD1 hS1 locs1 H1 hl1 ls1
      intro x9 hI ih_41 H2 locs2 ls2 hP2 hD2 hS2 hl2
      obtain ⟨i, rfl⟩ : ∃ z9, z9 = x9 := ⟨_, rfl⟩
      have hi := hI
      replace hi : i ≤ k := hi
      replace hP2 : va_P D vwCl ([mO cy mm ik (nI (n + i)) fm tz vl iw rm rr om, ia cy (mm 4) 7 C, ia cy (mm 5) 120 (fdT T n (nI m9) k i)]) H2 := hP2
      replace hD2 : va_D (va_A _ sz) ([mO cy mm ik (nI (n + i)) fm tz vl iw rm rr om, ia cy (mm 4) 7 C, ia cy (mm 5) 120 (fdT T n (nI m9) k i)]) := hD2
      replace hl2 : lv_has ls2 4 [(3, .int (nI (k - i) - 1)), (0, .ref (mm 0)), (1, .int (nI m9)), (2, .int (nI k))] := hl2
      show W p l e _ s m _ below meth c _ _ _ _ _ (F0 m 41 ls2 [])
      refine lv_iload_n hx hb dX7_feed_41 rfl (lv_at hl2 0 rfl) ?_
      refine lv_if_lt (tgt := 80) hx hb dX7_feed_42 (by decide) (fun c_42 => ?_) (fun c_42 => ?_)
      · obtain rfl := fd_e (by omega) hi c_42
        refine lv_aload_n hx hb dX7_feed_80 rfl (lv_at hl2 1 rfl) ?_
        refine va_get (D := D) (ci := 7) (v := .int (nI (n + k))) (C := RX7) (T := TX7) (N := 23) hx hb hw iX7 hown hK hP2 0 rfl rfl 6 (by decide) (hw _ kw_4_70) (fun _ h9 => h9) rfl dX7_feed_81 ?_
        have hcd : cFeed (nI k) n = 7 := cFeed_7 hk1 hk4 (by omega)
        have hq9 : ([mO cy mm ik (nI (n + k)) fm tz vl iw rm rr om, ia cy (mm 4) 7 C, ia cy (mm 5) 120 (fdT T n (nI m9) k k)]) = ([mO cy mm ik (nI (n + k)) fm tz vl iw rm rr om, ia cy (mm 4) 7 (fnd C (cFeed (nI k) n)), ia cy (mm 5) 120 (fdT T n (nI m9) k k)]) := congrArg (fun z9 => [mO cy mm ik (nI (n + k)) fm tz vl iw rm rr om, ia cy (mm 4) 7 z9, ia cy (mm 5) 120 (fdT T n (nI m9) k k)]) (show C = (fnd C (cFeed (nI k) n)) from fnd_o hcd)
        replace hP2 := (congrArg (fun z9 => va_P D vwCl z9 _) hq9).mp hP2
        replace hD2 := (congrArg (fun z9 => va_D _ z9) hq9).mp hD2
        clear hq9
        have hq9 : ([mO cy mm ik (nI (n + k)) fm tz vl iw rm rr om, ia cy (mm 4) 7 (fnd C (cFeed (nI k) n)), ia cy (mm 5) 120 (fdT T n (nI m9) k k)]) = ([mO cy mm ik (if cFeed (nI k) n = 7 then nI (n + bstN (nI k)) else nI n) fm tz vl iw rm rr om, ia cy (mm 4) 7 (fnd C (cFeed (nI k) n)), ia cy (mm 5) 120 (fdT T n (nI m9) k k)]) := congrArg (fun z9 => [mO cy mm ik z9 fm tz vl iw rm rr om, ia cy (mm 4) 7 (fnd C (cFeed (nI k) n)), ia cy (mm 5) 120 (fdT T n (nI m9) k k)]) (show (nI (n + k)) = (if cFeed (nI k) n = 7 then nI (n + bstN (nI k)) else nI n) from by rw [if_pos hcd, hbk])
        replace hP2 := (congrArg (fun z9 => va_P D vwCl z9 _) hq9).mp hP2
        replace hD2 := (congrArg (fun z9 => va_D _ z9) hq9).mp hD2
        clear hq9
        have hq9 : ([mO cy mm ik (if cFeed (nI k) n = 7 then nI (n + bstN (nI k)) else nI n) fm tz vl iw rm rr om, ia cy (mm 4) 7 (fnd C (cFeed (nI k) n)), ia cy (mm 5) 120 (fdT T n (nI m9) k k)]) = ([mO cy mm ik (if cFeed (nI k) n = 7 then nI (n + bstN (nI k)) else nI n) fm tz vl iw rm rr om, ia cy (mm 4) 7 (fnd C (cFeed (nI k) n)), ia cy (mm 5) 120 (if cFeed (nI k) n = 7 then fdT T n (nI m9) (bstN (nI k)) (bstN (nI k)) else T)]) := congrArg (fun z9 => [mO cy mm ik (if cFeed (nI k) n = 7 then nI (n + bstN (nI k)) else nI n) fm tz vl iw rm rr om, ia cy (mm 4) 7 (fnd C (cFeed (nI k) n)), ia cy (mm 5) 120 z9]) (show (fdT T n (nI m9) k k) = (if cFeed (nI k) n = 7 then fdT T n (nI m9) (bstN (nI k)) (bstN (nI k)) else T) from by rw [if_pos hcd, hbk])
        replace hP2 := (congrArg (fun z9 => va_P D vwCl z9 _) hq9).mp hP2
        replace hD2 := (congrArg (fun z9 => va_D _ z9) hq9).mp hD2
        clear hq9
        refine re_i () hx hb hr hlocks hP2 hD2 hS2 dX7_feed_84 ?_
        exact (ans_o hcd (by rw [hbk]))
      · have hik := fd_go (by omega) c_42
        have hq9 : nI (k - 1 - i) = nI (k - i) - 1 := fd_l hik
        replace hl2 : lv_has ls2 4 [(3, .int (nI (k - 1 - i))), (0, .ref (mm 0)), (1, .int (nI m9)), (2, .int (nI k))] := (congrArg (fun z9 => lv_has ls2 4 [(3, .int z9), (0, .ref (mm 0)), (1, .int (nI m9)), (2, .int (nI k))]) hq9).mpr hl2
        clear hq9
        refine lv_aload_n hx hb dX7_feed_45 rfl (lv_at hl2 1 rfl) ?_
        refine va_get (D := D) (ci := 7) (v := .ref (mm 5)) (C := RX7) (T := TX7) (N := 23) hx hb hw iX7 hown hK hP2 0 rfl rfl 5 (by decide) (hw _ kw_4_69) (fun _ h9 => h9) rfl dX7_feed_46 ?_
        refine lv_aload_n hx hb dX7_feed_49 rfl (lv_at hl2 1 rfl) ?_
        refine va_get (D := D) (ci := 7) (v := .int (nI (n + i))) (C := RX7) (T := TX7) (N := 23) hx hb hw iX7 hown hK hP2 0 rfl rfl 6 (by decide) (hw _ kw_4_70) (fun _ h9 => h9) rfl dX7_feed_50 ?_
        refine lv_iload_n hx hb dX7_feed_53 rfl (lv_at hl2 2 rfl) ?_
        refine lv_bipush (v := 8) hx hb dX7_feed_54 (by decide) ?_
        refine lv_iload_n hx hb dX7_feed_56 rfl (lv_at hl2 0 rfl) ?_
        refine lv_imul hx hb dX7_feed_57 ?_
        refine tp (show (8 * (nI (k - 1 - i))) = nI (8 * (k - 1 - i)) from pk_mul _ _) ?_
        refine lv_ishr hx hb dX7_feed_58 ?_
        refine lv_sipush (v := 255) hx hb dX7_feed_59 (by decide) ?_
        refine lv_iand hx hb dX7_feed_62 ?_
        refine tp (show (((nI m9) >>> ((nI (8 * (k - 1 - i))) &&& 31)) &&& 255) = byt (nI m9) (k - 1 - i) from byt_s hm (by omega)) ?_
        refine ast_i (f := fdT T n (nI m9) k i) (ws' := [mO cy mm ik (nI (n + i)) fm tz vl iw rm rr om, ia cy (mm 4) 7 C, ia cy (mm 5) 120 (upd (fdT T n (nI m9) k i) (n + i) (byt (nI m9) (k - 1 - i)))]) hx hb hK hP2 hD2 hS2 2 0 rfl rfl (n + i) rfl (by first | omega | assumption) (by decide) rfl dX7_feed_63 (fun H3 locs3 hP3 hD3 hS3 => ?_)
        clear hP2 hD2 hS2 locs2 H2
        have hq9 : ([mO cy mm ik (nI (n + i)) fm tz vl iw rm rr om, ia cy (mm 4) 7 C, ia cy (mm 5) 120 (upd (fdT T n (nI m9) k i) (n + i) (byt (nI m9) (k - 1 - i)))]) = ([mO cy mm ik (nI (n + i)) fm tz vl iw rm rr om, ia cy (mm 4) 7 C, ia cy (mm 5) 120 (fdT T n (nI m9) k (i + 1))]) := congrArg (fun z9 => [mO cy mm ik (nI (n + i)) fm tz vl iw rm rr om, ia cy (mm 4) 7 C, ia cy (mm 5) 120 z9]) (show (upd (fdT T n (nI m9) k i) (n + i) (byt (nI m9) (k - 1 - i))) = (fdT T n (nI m9) k (i + 1)) from rfl)
        replace hP3 := (congrArg (fun z9 => va_P D vwCl z9 _) hq9).mp hP3
        replace hD3 := (congrArg (fun z9 => va_D _ z9) hq9).mp hD3
        clear hq9
        refine lv_aload_n hx hb dX7_feed_64 rfl (lv_at hl2 1 rfl) ?_
        refine lv_dup hx hb dX7_feed_65 rfl ?_
        refine va_get (D := D) (ci := 7) (v := .int (nI (n + i))) (C := RX7) (T := TX7) (N := 23) hx hb hw iX7 hown hK hP3 0 rfl rfl 6 (by decide) (hw _ kw_4_70) (fun _ h9 => h9) rfl dX7_feed_66 ?_
        refine lv_iconst (v := 1) hx hb dX7_feed_69 (by decide) ?_
        refine lv_iadd hx hb dX7_feed_70 ?_
        refine tp (show ((nI (n + i)) + 1) = nI (n + i + 1) from nI_add _ _) ?_
        refine pt (D := D) (ci := 7) (v := .int (nI (n + i + 1))) (ty := .int) (C := RX7) (T := TX7) (N := 23) (ws' := [mO cy mm ik (nI (n + i + 1)) fm tz vl iw rm rr om, ia cy (mm 4) 7 C, ia cy (mm 5) 120 (fdT T n (nI m9) k (i + 1))]) hx hb hw iX7 tyX7 tyX7_ok nmX7 hown hK hP3 hD3 hS3 0 rfl rfl 6 (by decide) kw_4_70 (fun _ h9 => h9) rfl (by decide +kernel) rfl rfl (Nat.le_of_ble_eq_true rfl) rfl dX7_feed_71 (fun H4 locs4 hP4 hD4 hS4 => ?_)
        clear hP3 hD3 hS3 locs3 H3
        refine lv_iinc (v := (nI (k - 1 - i)) + (-1)) (lv' := [(3, .int ((nI (k - 1 - i)) + (-1))), (0, .ref (mm 0)), (1, .int (nI m9)), (2, .int (nI k))]) hx hb dX7_feed_74 hl2 (k := 0) rfl (rfl) (by decide) rfl (fun ls3 hl3 => ?_)
        clear hl2 ls2
        have hq9 : nI (k - (i + 1)) - 1 = (nI (k - 1 - i)) + (-1) := fd_n
        replace hl3 : lv_has ls3 4 [(3, .int (nI (k - (i + 1)) - 1)), (0, .ref (mm 0)), (1, .int (nI m9)), (2, .int (nI k))] := (congrArg (fun z9 => lv_has ls3 4 [(3, .int z9), (0, .ref (mm 0)), (1, .int (nI m9)), (2, .int (nI k))]) hq9).mpr hl3
        clear hq9
        have hq9 : ([mO cy mm ik (nI (n + i + 1)) fm tz vl iw rm rr om, ia cy (mm 4) 7 C, ia cy (mm 5) 120 (fdT T n (nI m9) k (i + 1))]) = ([mO cy mm ik (nI (n + (i + 1))) fm tz vl iw rm rr om, ia cy (mm 4) 7 C, ia cy (mm 5) 120 (fdT T n (nI m9) k (i + 1))]) := congrArg (fun z9 => [mO cy mm ik z9 fm tz vl iw rm rr om, ia cy (mm 4) 7 C, ia cy (mm 5) 120 (fdT T n (nI m9) k (i + 1))]) (show (nI (n + i + 1)) = (nI (n + (i + 1))) from rfl)
        replace hP4 := (congrArg (fun z9 => va_P D vwCl z9 _) hq9).mp hP4
        replace hD4 := (congrArg (fun z9 => va_D _ z9) hq9).mp hD4
        clear hq9
        refine lv_goto (tgt := 41) hx hb dX7_feed_77 (by decide) ?_
        exact ih_41 (i + 1) (hik) (by (try dsimp only); omega) H4 locs4 ls3 hP4 hD4 hS4 (lv_sub hl3 [0, 1, 2, 3] rfl)
    · refine lv_aload_n hx hb dX7_feed_30 rfl (lv_at hl0 0 rfl) ?_
      refine lv_ldc (v := (-1000000002)) hx hb hown (hw _ kw_4_138) dX7_feed_31 ?_
      refine cV_i (wc := [mO cy mm ik (nI n) fm tz vl iw rm rr om, ia cy (mm 4) 7 C]) (wr := [ia cy (mm 5) 120 T]) (rest := []) hx hb hml hown hw hG hK hP1 hD1 hS1 hA hl0 kc_X7_finds kw_4_139 [.int (-1000000002)] (c_X7_finds l D cy G H1.size mm ik (nI n) fm tz vl iw rm rr om C 1 (-1000000002) (by decide) (by decide)) [0, 1] [2] rfl rfl rfl rfl rfl 0 rfl rfl rfl rfl rfl (Nat.le_of_ble_eq_true rfl) ⟨Nat.le_of_ble_eq_true rfl, Nat.le_of_ble_eq_true rfl⟩ dX7_feed_33 ⟨Nat.le_of_ble_eq_true rfl, Nat.le_of_ble_eq_true rfl⟩ (fun r_33 u9 H2 locs2 hu9 hP2 hD2 hS2 => ?_)
      clear hP1 hD1 hS1 locs1 H1
      have hr_33 := hu9
      replace hP2 : va_P D vwCl ([ia cy (mm 5) 120 T, mO cy mm ik (nI n) fm tz vl iw rm rr om, ia cy (mm 4) 7 (upd C 1 (C 1 + 1))]) H2 := hP2
      replace hD2 : va_D (va_A _ sz) ([ia cy (mm 5) 120 T, mO cy mm ik (nI n) fm tz vl iw rm rr om, ia cy (mm 4) 7 (upd C 1 (C 1 + 1))]) := hD2
      replace hP2 := hP2.sub (ws' := [mO cy mm ik (nI n) fm tz vl iw rm rr om, ia cy (mm 4) 7 (upd C 1 (C 1 + 1)), ia cy (mm 5) 120 T]) [1, 2, 0] rfl
      replace hD2 := hD2.sub (ws' := [mO cy mm ik (nI n) fm tz vl iw rm rr om, ia cy (mm 4) 7 (upd C 1 (C 1 + 1)), ia cy (mm 5) 120 T]) [1, 2, 0] (by decide) rfl
      subst hr_33
      have hcd : cFeed (nI k) n = 1 := cFeed_1 hk1 hk4 (by omega)
      have hq9 : ([mO cy mm ik (nI n) fm tz vl iw rm rr om, ia cy (mm 4) 7 (upd C 1 (C 1 + 1)), ia cy (mm 5) 120 T]) = ([mO cy mm ik (nI n) fm tz vl iw rm rr om, ia cy (mm 4) 7 (fnd C (cFeed (nI k) n)), ia cy (mm 5) 120 T]) := congrArg (fun z9 => [mO cy mm ik (nI n) fm tz vl iw rm rr om, ia cy (mm 4) 7 z9, ia cy (mm 5) 120 T]) (show (upd C 1 (C 1 + 1)) = (fnd C (cFeed (nI k) n)) from fnd_f hcd (by decide))
      replace hP2 := (congrArg (fun z9 => va_P D vwCl z9 _) hq9).mp hP2
      replace hD2 := (congrArg (fun z9 => va_D _ z9) hq9).mp hD2
      clear hq9
      have hq9 : ([mO cy mm ik (nI n) fm tz vl iw rm rr om, ia cy (mm 4) 7 (fnd C (cFeed (nI k) n)), ia cy (mm 5) 120 T]) = ([mO cy mm ik (if cFeed (nI k) n = 7 then nI (n + bstN (nI k)) else nI n) fm tz vl iw rm rr om, ia cy (mm 4) 7 (fnd C (cFeed (nI k) n)), ia cy (mm 5) 120 T]) := congrArg (fun z9 => [mO cy mm ik z9 fm tz vl iw rm rr om, ia cy (mm 4) 7 (fnd C (cFeed (nI k) n)), ia cy (mm 5) 120 T]) (show (nI n) = (if cFeed (nI k) n = 7 then nI (n + bstN (nI k)) else nI n) from (if_neg (fun z9 => absurd (hcd.symm.trans z9) (by decide))).symm)
      replace hP2 := (congrArg (fun z9 => va_P D vwCl z9 _) hq9).mp hP2
      replace hD2 := (congrArg (fun z9 => va_D _ z9) hq9).mp hD2
      clear hq9
      have hq9 : ([mO cy mm ik (if cFeed (nI k) n = 7 then nI (n + bstN (nI k)) else nI n) fm tz vl iw rm rr om, ia cy (mm 4) 7 (fnd C (cFeed (nI k) n)), ia cy (mm 5) 120 T]) = ([mO cy mm ik (if cFeed (nI k) n = 7 then nI (n + bstN (nI k)) else nI n) fm tz vl iw rm rr om, ia cy (mm 4) 7 (fnd C (cFeed (nI k) n)), ia cy (mm 5) 120 (if cFeed (nI k) n = 7 then fdT T n (nI m9) (bstN (nI k)) (bstN (nI k)) else T)]) := congrArg (fun z9 => [mO cy mm ik (if cFeed (nI k) n = 7 then nI (n + bstN (nI k)) else nI n) fm tz vl iw rm rr om, ia cy (mm 4) 7 (fnd C (cFeed (nI k) n)), ia cy (mm 5) 120 z9]) (show T = (if cFeed (nI k) n = 7 then fdT T n (nI m9) (bstN (nI k)) (bstN (nI k)) else T) from (if_neg (fun z9 => absurd (hcd.symm.trans z9) (by decide))).symm)
      replace hP2 := (congrArg (fun z9 => va_P D vwCl z9 _) hq9).mp hP2
      replace hD2 := (congrArg (fun z9 => va_D _ z9) hq9).mp hD2
      clear hq9
      refine re_i () hx hb hr hlocks hP2 hD2 hS2 dX7_feed_36 ?_
      exact (ans_f hcd (by decide) rfl)
  · refine lv_aload_n hx hb dX7_feed_12 rfl (lv_at hl0 0 rfl) ?_
    refine lv_ldc (v := (-1000000001)) hx hb hown (hw _ kw_4_143) dX7_feed_13 ?_
    refine cV_i (wc := [mO cy mm ik (nI n) fm tz vl iw rm rr om, ia cy (mm 4) 7 C]) (wr := [ia cy (mm 5) 120 T]) (rest := []) hx hb hml hown hw hG hK hP1 hD1 hS1 hA hl0 kc_X7_finds kw_4_139 [.int (-1000000001)] (c_X7_finds l D cy G H1.size mm ik (nI n) fm tz vl iw rm rr om C 0 (-1000000001) (by decide) (by decide)) [0, 1] [2] rfl rfl rfl rfl rfl 0 rfl rfl rfl rfl rfl (Nat.le_of_ble_eq_true rfl) ⟨Nat.le_of_ble_eq_true rfl, Nat.le_of_ble_eq_true rfl⟩ dX7_feed_15 ⟨Nat.le_of_ble_eq_true rfl, Nat.le_of_ble_eq_true rfl⟩ (fun r_15 u9 H2 locs2 hu9 hP2 hD2 hS2 => ?_)
    clear hP1 hD1 hS1 locs1 H1
    have hr_15 := hu9
    replace hP2 : va_P D vwCl ([ia cy (mm 5) 120 T, mO cy mm ik (nI n) fm tz vl iw rm rr om, ia cy (mm 4) 7 (upd C 0 (C 0 + 1))]) H2 := hP2
    replace hD2 : va_D (va_A _ sz) ([ia cy (mm 5) 120 T, mO cy mm ik (nI n) fm tz vl iw rm rr om, ia cy (mm 4) 7 (upd C 0 (C 0 + 1))]) := hD2
    replace hP2 := hP2.sub (ws' := [mO cy mm ik (nI n) fm tz vl iw rm rr om, ia cy (mm 4) 7 (upd C 0 (C 0 + 1)), ia cy (mm 5) 120 T]) [1, 2, 0] rfl
    replace hD2 := hD2.sub (ws' := [mO cy mm ik (nI n) fm tz vl iw rm rr om, ia cy (mm 4) 7 (upd C 0 (C 0 + 1)), ia cy (mm 5) 120 T]) [1, 2, 0] (by decide) rfl
    subst hr_15
    have hcd : cFeed x2 n = 0 := cFeed_0 c_9
    have hq9 : ([mO cy mm ik (nI n) fm tz vl iw rm rr om, ia cy (mm 4) 7 (upd C 0 (C 0 + 1)), ia cy (mm 5) 120 T]) = ([mO cy mm ik (nI n) fm tz vl iw rm rr om, ia cy (mm 4) 7 (fnd C (cFeed x2 n)), ia cy (mm 5) 120 T]) := congrArg (fun z9 => [mO cy mm ik (nI n) fm tz vl iw rm rr om, ia cy (mm 4) 7 z9, ia cy (mm 5) 120 T]) (show (upd C 0 (C 0 + 1)) = (fnd C (cFeed x2 n)) from fnd_f hcd (by decide))
    replace hP2 := (congrArg (fun z9 => va_P D vwCl z9 _) hq9).mp hP2
    replace hD2 := (congrArg (fun z9 => va_D _ z9) hq9).mp hD2
    clear hq9
    have hq9 : ([mO cy mm ik (nI n) fm tz vl iw rm rr om, ia cy (mm 4) 7 (fnd C (cFeed x2 n)), ia cy (mm 5) 120 T]) = ([mO cy mm ik (if cFeed x2 n = 7 then nI (n + bstN x2) else nI n) fm tz vl iw rm rr om, ia cy (mm 4) 7 (fnd C (cFeed x2 n)), ia cy (mm 5) 120 T]) := congrArg (fun z9 => [mO cy mm ik z9 fm tz vl iw rm rr om, ia cy (mm 4) 7 (fnd C (cFeed x2 n)), ia cy (mm 5) 120 T]) (show (nI n) = (if cFeed x2 n = 7 then nI (n + bstN x2) else nI n) from (if_neg (fun z9 => absurd (hcd.symm.trans z9) (by decide))).symm)
    replace hP2 := (congrArg (fun z9 => va_P D vwCl z9 _) hq9).mp hP2
    replace hD2 := (congrArg (fun z9 => va_D _ z9) hq9).mp hD2
    clear hq9
    have hq9 : ([mO cy mm ik (if cFeed x2 n = 7 then nI (n + bstN x2) else nI n) fm tz vl iw rm rr om, ia cy (mm 4) 7 (fnd C (cFeed x2 n)), ia cy (mm 5) 120 T]) = ([mO cy mm ik (if cFeed x2 n = 7 then nI (n + bstN x2) else nI n) fm tz vl iw rm rr om, ia cy (mm 4) 7 (fnd C (cFeed x2 n)), ia cy (mm 5) 120 (if cFeed x2 n = 7 then fdT T n (nI m9) (bstN x2) (bstN x2) else T)]) := congrArg (fun z9 => [mO cy mm ik (if cFeed x2 n = 7 then nI (n + bstN x2) else nI n) fm tz vl iw rm rr om, ia cy (mm 4) 7 (fnd C (cFeed x2 n)), ia cy (mm 5) 120 z9]) (show T = (if cFeed x2 n = 7 then fdT T n (nI m9) (bstN x2) (bstN x2) else T) from (if_neg (fun z9 => absurd (hcd.symm.trans z9) (by decide))).symm)
    replace hP2 := (congrArg (fun z9 => va_P D vwCl z9 _) hq9).mp hP2
    replace hD2 := (congrArg (fun z9 => va_D _ z9) hq9).mp hD2
    clear hq9
    refine re_i () hx hb hr hlocks hP2 hD2 hS2 dX7_feed_18 ?_
    exact (ans_f hcd (by decide) rfl)
