theorem kc_X6_pressure : kV yX6_pressure cX6_pressure 2 (some .int) 1 := ⟨kw_3_49, kw_3_50, kw_1_1, kw_3_51, by decide, by decide, by decide +kernel⟩
set_option maxHeartbeats 4000000 in
set_option maxRecDepth 100000 in
theorem c_X6_pressure (l : Launch) (D : va_G) (cy : Nat → ClassId) (G : Nat → Nat) (sz : Nat) (hh : Nat → Nat) (a : Nat → Nat) (kk : Nat → Nat) (dd : Nat → Nat) (b : Nat → Nat) (w : Nat → Nat) (ee : Nat → Nat) (qq : Nat → Nat) (ik : Int32) (S : Nat → Int32) (C : Nat → Int32) (P : Nat → Int32) (F : Nat → Int32) (N : Nat → Int32) (B : Nat → Int32) (O : Nat → Int32) (Sd : Nat → Int32) (Dv : Nat → Int32) (L : Nat → Nat → Int32) (rc : Int32) (re : Int32) (fr : Int32) (lo : Int32) (sm : Int32) (x1 : Int32) (wf : wf S) : Met l yX6_pressure (wm yX6_pressure cX6_pressure 2 (some .int)) { frames := 5, cells := 0, slots := 0, locals := 109 } (va_Pc [.ref (hh 0), .int x1] (pr D (TY cy) G ([sO cy hh a kk dd b w ee qq ik] ++ (pS cy a S ++ ([ia cy (hh 1) 7 C] ++ (aS cy b P F N B O Sd Dv L rc re fr lo sm)))) sz)) (va_Qi (fun (r : Int32) (u : (Nat → Int32) × (Nat → Int32) × (Nat → Int32) × (Nat → Int32) × (Nat → Int32) × (Nat → Int32) × (Nat → Int32) × (Nat → Nat → Int32) × Int32 × Int32 × Int32 × Int32 × Int32) => r = ans (cR S x1) (PR S (bstN x1))) (fun (u : (Nat → Int32) × (Nat → Int32) × (Nat → Int32) × (Nat → Int32) × (Nat → Int32) × (Nat → Int32) × (Nat → Int32) × (Nat → Nat → Int32) × Int32 × Int32 × Int32 × Int32 × Int32) t => po D (va_A ([sO cy hh a kk dd b w ee qq ik] ++ (pS cy a S ++ ([ia cy (hh 1) 7 C] ++ (aS cy b P F N B O Sd Dv L rc re fr lo sm)))) sz) ([sO cy hh a kk dd b w ee qq ik] ++ (pS cy a S ++ ([ia cy (hh 1) 7 (fnd C (cR S x1))] ++ (aS cy b u.1 u.2.1 u.2.2.1 u.2.2.2.1 u.2.2.2.2.1 u.2.2.2.2.2.1 u.2.2.2.2.2.2.1 u.2.2.2.2.2.2.2.1 u.2.2.2.2.2.2.2.2.1 u.2.2.2.2.2.2.2.2.2.1 u.2.2.2.2.2.2.2.2.2.2.1 u.2.2.2.2.2.2.2.2.2.2.2.1 u.2.2.2.2.2.2.2.2.2.2.2.2)))) t) (va_A ([sO cy hh a kk dd b w ee qq ik] ++ (pS cy a S ++ ([ia cy (hh 1) 7 C] ++ (aS cy b P F N B O Sd Dv L rc re fr lo sm)))) sz)) 0 0 (va_A ([sO cy hh a kk dd b w ee qq ik] ++ (pS cy a S ++ ([ia cy (hh 1) 7 C] ++ (aS cy b P F N B O Sd Dv L rc re fr lo sm)))) sz) := by
  refine mk_rw (by decide) RX6 rfl (Nat.le_of_ble_eq_true rfl) [(0, .ref (hh 0)), (1, .int x1)] rfl ?_
  intro p e s m below meth c hx hb hml hown hr hlocks hin hw hsz hA hG hK H0 locs0 hP0 hD0 hS0 ls0 hl0
  clear hin
  have hg20 := wf_g20 wf
  have hr6 := wf_r6 wf
  refine lv_aload_n hx hb dX6_pressure_0 rfl (lv_at hl0 0 rfl) ?_
  refine va_get (D := D) (ci := 6) (v := .ref (a 0)) (C := RX6) (T := TX6) (N := 9) hx hb hw iX6 hown hK hP0 0 rfl rfl 0 (by decide) (hw _ kw_2_27) (fun _ h9 => h9) rfl dX6_pressure_1 ?_
  refine lv_iload_n hx hb dX6_pressure_4 rfl (lv_at hl0 1 rfl) ?_
  refine rV_i (wc := pS cy a S) (rest := []) hx hb hml hown hw hG hK hP0 hS0 hA hl0 kc_X1_hasRoom kw_2_75 [.int x1] (c_X1_hasRoom l D cy G H0.size a S x1) [1, 2, 3, 4, 5, 6, 7, 8, 9, 10] rfl 0 rfl rfl rfl rfl rfl (Nat.le_of_ble_eq_true rfl) ⟨Nat.le_of_ble_eq_true rfl, Nat.le_of_ble_eq_true rfl⟩ dX6_pressure_5 ⟨Nat.le_of_ble_eq_true rfl, Nat.le_of_ble_eq_true rfl⟩ (fun r_5 H1 locs1 hr_5 hP1 hS1 => ?_)
  have hD1 := hD0
  clear hP0 hD0 hS0 locs0 H0
  subst hr_5
  refine lb_ne (tgt := 17) hx hb dX6_pressure_8 (by decide) (fun c_8 => ?_) (fun c_8 => ?_)
  · obtain ⟨j, hj, rfl⟩ := wf_room wf c_8
    have hbj : bstN (nI j) = j := bst_n (by omega)
    refine lv_aload_n hx hb dX6_pressure_17 rfl (lv_at hl0 0 rfl) ?_
    refine va_get (D := D) (ci := 6) (v := .ref (b 0)) (C := RX6) (T := TX6) (N := 9) hx hb hw iX6 hown hK hP1 0 rfl rfl 4 (by decide) (hw _ kw_2_31) (fun _ h9 => h9) rfl dX6_pressure_18 ?_
    refine lv_aload_n hx hb dX6_pressure_21 rfl (lv_at hl0 0 rfl) ?_
    refine va_get (D := D) (ci := 6) (v := .ref (a 0)) (C := RX6) (T := TX6) (N := 9) hx hb hw iX6 hown hK hP1 0 rfl rfl 0 (by decide) (hw _ kw_2_27) (fun _ h9 => h9) rfl dX6_pressure_22 ?_
    refine cV_v (wc := aS cy b P F N B O Sd Dv L rc re fr lo sm ++ (pS cy a S)) (wr := [sO cy hh a kk dd b w ee qq ik, ia cy (hh 1) 7 C]) (rest := []) hx hb hml hown hw hG hK hP1 hD1 hS1 hA hl0 kc_X0_settle kw_3_52 [.ref (a 0)] (c_X0_settle l D cy G H1.size b P F N B O Sd Dv L rc re fr lo sm a S (by first | omega | assumption)) [12, 13, 14, 15, 16, 17, 18, 19, 20, 21, 22, 23, 24, 25, 26, 1, 2, 3, 4, 5, 6, 7, 8, 9, 10] [0, 11] rfl rfl rfl rfl rfl 0 rfl rfl rfl rfl rfl (Nat.le_of_ble_eq_true rfl) ⟨Nat.le_of_ble_eq_true rfl, Nat.le_of_ble_eq_true rfl⟩ dX6_pressure_25 ⟨Nat.le_of_ble_eq_true rfl, Nat.le_of_ble_eq_true rfl⟩ (fun u9 H2 locs2 hu9 hP2 hD2 hS2 => ?_)
    clear hP1 hD1 hS1 locs1 H1
    obtain ⟨F1_25, N1_25, B1_25, O1_25, Sd1_25, Dv1_25, L1_25⟩ := u9
    have hF_25 := hu9
    replace hF_25 : ∀ g, g < gcN S → F1_25 g = flow S (PR S) g := hF_25
    replace hP2 : va_P D vwCl ([sO cy hh a kk dd b w ee qq ik, ia cy (hh 1) 7 C] ++ (aS cy b (PR S) F1_25 N1_25 B1_25 O1_25 Sd1_25 Dv1_25 L1_25 (nI (RC S)) (b2i (RC S = 60)) (fresh S) (lost S) (b2i (smokes S = true)) ++ (pS cy a S))) H2 := hP2
    replace hD2 : va_D (va_A _ sz) ([sO cy hh a kk dd b w ee qq ik, ia cy (hh 1) 7 C] ++ (aS cy b (PR S) F1_25 N1_25 B1_25 O1_25 Sd1_25 Dv1_25 L1_25 (nI (RC S)) (b2i (RC S = 60)) (fresh S) (lost S) (b2i (smokes S = true)) ++ (pS cy a S))) := hD2
    replace hP2 := hP2.sub (ws' := [sO cy hh a kk dd b w ee qq ik] ++ (pS cy a S ++ ([ia cy (hh 1) 7 C] ++ (aS cy b (PR S) F1_25 N1_25 B1_25 O1_25 Sd1_25 Dv1_25 L1_25 (nI (RC S)) (b2i (RC S = 60)) (fresh S) (lost S) (b2i (smokes S = true)))))) [0, 17, 18, 19, 20, 21, 22, 23, 24, 25, 26, 1, 2, 3, 4, 5, 6, 7, 8, 9, 10, 11, 12, 13, 14, 15, 16] rfl
    replace hD2 := hD2.sub (ws' := [sO cy hh a kk dd b w ee qq ik] ++ (pS cy a S ++ ([ia cy (hh 1) 7 C] ++ (aS cy b (PR S) F1_25 N1_25 B1_25 O1_25 Sd1_25 Dv1_25 L1_25 (nI (RC S)) (b2i (RC S = 60)) (fresh S) (lost S) (b2i (smokes S = true)))))) [0, 17, 18, 19, 20, 21, 22, 23, 24, 25, 26, 1, 2, 3, 4, 5, 6, 7, 8, 9, 10, 11, 12, 13, 14, 15, 16] (by decide) rfl
    refine lv_aload_n hx hb dX6_pressure_28 rfl (lv_at hl0 0 rfl) ?_
    refine va_get (D := D) (ci := 6) (v := .ref (b 0)) (C := RX6) (T := TX6) (N := 9) hx hb hw iX6 hown hK hP2 0 rfl rfl 4 (by decide) (hw _ kw_2_31) (fun _ h9 => h9) rfl dX6_pressure_29 ?_
    refine va_get (D := D) (ci := 0) (v := .ref (b 1)) (C := RX0) (T := TX0) (N := 13) hx hb hw iX0 hown hK hP2 12 rfl rfl 0 (by decide) (hw _ kw_1_103) (fun _ h9 => h9) rfl dX6_pressure_32 ?_
    refine lv_iload_n hx hb dX6_pressure_35 rfl (lv_at hl0 1 rfl) ?_
    refine ald_i (f := PR S) hx hb hK hP2 13 0 rfl rfl j rfl (by first | omega | assumption) (by decide) dX6_pressure_36 ?_
    have hcd : cR S (nI j) = 7 := by unfold cR; clear hx hb hml hown hr hlocks hw hsz hA hG hK hP2 hD2 hS2 hl0; grind
    have hq9 : ([sO cy hh a kk dd b w ee qq ik] ++ (pS cy a S ++ ([ia cy (hh 1) 7 C] ++ (aS cy b (PR S) F1_25 N1_25 B1_25 O1_25 Sd1_25 Dv1_25 L1_25 (nI (RC S)) (b2i (RC S = 60)) (fresh S) (lost S) (b2i (smokes S = true)))))) = ([sO cy hh a kk dd b w ee qq ik] ++ (pS cy a S ++ ([ia cy (hh 1) 7 (fnd C (cR S (nI j)))] ++ (aS cy b (PR S) F1_25 N1_25 B1_25 O1_25 Sd1_25 Dv1_25 L1_25 (nI (RC S)) (b2i (RC S = 60)) (fresh S) (lost S) (b2i (smokes S = true)))))) := congrArg (fun z9 => [sO cy hh a kk dd b w ee qq ik] ++ (pS cy a S ++ ([ia cy (hh 1) 7 z9] ++ (aS cy b (PR S) F1_25 N1_25 B1_25 O1_25 Sd1_25 Dv1_25 L1_25 (nI (RC S)) (b2i (RC S = 60)) (fresh S) (lost S) (b2i (smokes S = true)))))) (show C = (fnd C (cR S (nI j))) from fnd_o hcd)
    replace hP2 := (congrArg (fun z9 => va_P D vwCl z9 _) hq9).mp hP2
    replace hD2 := (congrArg (fun z9 => va_D _ z9) hq9).mp hD2
    clear hq9
    refine re_i (PR S, F1_25, N1_25, B1_25, O1_25, Sd1_25, Dv1_25, L1_25, nI (RC S), b2i (RC S = 60), fresh S, lost S, b2i (smokes S = true)) hx hb hr hlocks hP2 hD2 hS2 dX6_pressure_37 ?_
    exact (ans_o hcd (by rw [hbj]))
  · refine lv_aload_n hx hb dX6_pressure_11 rfl (lv_at hl0 0 rfl) ?_
    refine lv_iconst (v := 0) hx hb dX6_pressure_12 (by decide) ?_
    refine cV_i (wc := [sO cy hh a kk dd b w ee qq ik, ia cy (hh 1) 7 C]) (wr := pS cy a S ++ (aS cy b P F N B O Sd Dv L rc re fr lo sm)) (rest := []) hx hb hml hown hw hG hK hP1 hD1 hS1 hA hl0 kc_X6_find kw_2_59 [.int 0] (c_X6_find l D cy G H1.size hh a kk dd b w ee qq ik C 0 (by first | omega | assumption)) [0, 11] [1, 2, 3, 4, 5, 6, 7, 8, 9, 10, 12, 13, 14, 15, 16, 17, 18, 19, 20, 21, 22, 23, 24, 25, 26] rfl rfl rfl rfl rfl 0 rfl rfl rfl rfl rfl (Nat.le_of_ble_eq_true rfl) ⟨Nat.le_of_ble_eq_true rfl, Nat.le_of_ble_eq_true rfl⟩ dX6_pressure_13 ⟨Nat.le_of_ble_eq_true rfl, Nat.le_of_ble_eq_true rfl⟩ (fun r_13 u9 H2 locs2 hu9 hP2 hD2 hS2 => ?_)
    clear hP1 hD1 hS1 locs1 H1
    have hr_13 := hu9
    replace hP2 : va_P D vwCl (pS cy a S ++ (aS cy b P F N B O Sd Dv L rc re fr lo sm ++ ([sO cy hh a kk dd b w ee qq ik, ia cy (hh 1) 7 (upd C 0 (C 0 + 1))]))) H2 := hP2
    replace hD2 : va_D (va_A _ sz) (pS cy a S ++ (aS cy b P F N B O Sd Dv L rc re fr lo sm ++ ([sO cy hh a kk dd b w ee qq ik, ia cy (hh 1) 7 (upd C 0 (C 0 + 1))]))) := hD2
    replace hP2 := hP2.sub (ws' := [sO cy hh a kk dd b w ee qq ik] ++ (pS cy a S ++ ([ia cy (hh 1) 7 (upd C 0 (C 0 + 1))] ++ (aS cy b P F N B O Sd Dv L rc re fr lo sm)))) [25, 0, 1, 2, 3, 4, 5, 6, 7, 8, 9, 26, 10, 11, 12, 13, 14, 15, 16, 17, 18, 19, 20, 21, 22, 23, 24] rfl
    replace hD2 := hD2.sub (ws' := [sO cy hh a kk dd b w ee qq ik] ++ (pS cy a S ++ ([ia cy (hh 1) 7 (upd C 0 (C 0 + 1))] ++ (aS cy b P F N B O Sd Dv L rc re fr lo sm)))) [25, 0, 1, 2, 3, 4, 5, 6, 7, 8, 9, 26, 10, 11, 12, 13, 14, 15, 16, 17, 18, 19, 20, 21, 22, 23, 24] (by decide) rfl
    subst hr_13
    have hcd : cR S x1 = 0 := by unfold cR; clear hx hb hml hown hr hlocks hw hsz hA hG hK hP2 hD2 hS2 hl0; grind
    have hq9 : ([sO cy hh a kk dd b w ee qq ik] ++ (pS cy a S ++ ([ia cy (hh 1) 7 (upd C 0 (C 0 + 1))] ++ (aS cy b P F N B O Sd Dv L rc re fr lo sm)))) = ([sO cy hh a kk dd b w ee qq ik] ++ (pS cy a S ++ ([ia cy (hh 1) 7 (fnd C (cR S x1))] ++ (aS cy b P F N B O Sd Dv L rc re fr lo sm)))) := congrArg (fun z9 => [sO cy hh a kk dd b w ee qq ik] ++ (pS cy a S ++ ([ia cy (hh 1) 7 z9] ++ (aS cy b P F N B O Sd Dv L rc re fr lo sm)))) (show (upd C 0 (C 0 + 1)) = (fnd C (cR S x1)) from fnd_f hcd (by decide))
    replace hP2 := (congrArg (fun z9 => va_P D vwCl z9 _) hq9).mp hP2
    replace hD2 := (congrArg (fun z9 => va_D _ z9) hq9).mp hD2
    clear hq9
    refine re_i (P, F, N, B, O, Sd, Dv, L, rc, re, fr, lo, sm) hx hb hr hlocks hP2 hD2 hS2 dX6_pressure_16 ?_
    exact (ans_f hcd (by decide) rfl)

theorem kc_X6_flow : kV yX6_flow cX6_flow 2 (some .int) 1 := ⟨kw_3_85, kw_3_86, kw_1_1, kw_3_87, by decide, by decide, by decide +kernel⟩
set_option maxHeartbeats 4000000 in
set_option maxRecDepth 100000 in
theorem c_X6_flow (l : Launch) (D : va_G) (cy : Nat → ClassId) (G : Nat → Nat) (sz : Nat) (hh : Nat → Nat) (a : Nat → Nat) (kk : Nat → Nat) (dd : Nat → Nat) (b : Nat → Nat) (w : Nat → Nat) (ee : Nat → Nat) (qq : Nat → Nat) (ik : Int32) (S : Nat → Int32) (C : Nat → Int32) (P : Nat → Int32) (F : Nat → Int32) (N : Nat → Int32) (B : Nat → Int32) (O : Nat → Int32) (Sd : Nat → Int32) (Dv : Nat → Int32) (L : Nat → Nat → Int32) (rc : Int32) (re : Int32) (fr : Int32) (lo : Int32) (sm : Int32) (x1 : Int32) (wf : wf S) : Met l yX6_flow (wm yX6_flow cX6_flow 2 (some .int)) { frames := 5, cells := 0, slots := 0, locals := 109 } (va_Pc [.ref (hh 0), .int x1] (pr D (TY cy) G ([sO cy hh a kk dd b w ee qq ik] ++ (pS cy a S ++ ([ia cy (hh 1) 7 C] ++ (aS cy b P F N B O Sd Dv L rc re fr lo sm)))) sz)) (va_Qi (fun (r : Int32) (u : (Nat → Int32) × (Nat → Int32) × (Nat → Int32) × (Nat → Int32) × (Nat → Int32) × (Nat → Int32) × (Nat → Int32) × (Nat → Nat → Int32) × Int32 × Int32 × Int32 × Int32 × Int32) => r = ans (cG S x1) (flow S (PR S) (bstN x1))) (fun (u : (Nat → Int32) × (Nat → Int32) × (Nat → Int32) × (Nat → Int32) × (Nat → Int32) × (Nat → Int32) × (Nat → Int32) × (Nat → Nat → Int32) × Int32 × Int32 × Int32 × Int32 × Int32) t => po D (va_A ([sO cy hh a kk dd b w ee qq ik] ++ (pS cy a S ++ ([ia cy (hh 1) 7 C] ++ (aS cy b P F N B O Sd Dv L rc re fr lo sm)))) sz) ([sO cy hh a kk dd b w ee qq ik] ++ (pS cy a S ++ ([ia cy (hh 1) 7 (fnd C (cG S x1))] ++ (aS cy b u.1 u.2.1 u.2.2.1 u.2.2.2.1 u.2.2.2.2.1 u.2.2.2.2.2.1 u.2.2.2.2.2.2.1 u.2.2.2.2.2.2.2.1 u.2.2.2.2.2.2.2.2.1 u.2.2.2.2.2.2.2.2.2.1 u.2.2.2.2.2.2.2.2.2.2.1 u.2.2.2.2.2.2.2.2.2.2.2.1 u.2.2.2.2.2.2.2.2.2.2.2.2)))) t) (va_A ([sO cy hh a kk dd b w ee qq ik] ++ (pS cy a S ++ ([ia cy (hh 1) 7 C] ++ (aS cy b P F N B O Sd Dv L rc re fr lo sm)))) sz)) 0 0 (va_A ([sO cy hh a kk dd b w ee qq ik] ++ (pS cy a S ++ ([ia cy (hh 1) 7 C] ++ (aS cy b P F N B O Sd Dv L rc re fr lo sm)))) sz) := by
  refine mk_rw (by decide) RX6 rfl (Nat.le_of_ble_eq_true rfl) [(0, .ref (hh 0)), (1, .int x1)] rfl ?_
  intro p e s m below meth c hx hb hml hown hr hlocks hin hw hsz hA hG hK H0 locs0 hP0 hD0 hS0 ls0 hl0
  clear hin
  have hg20 := wf_g20 wf
  have hr6 := wf_r6 wf
  refine lv_aload_n hx hb dX6_flow_0 rfl (lv_at hl0 0 rfl) ?_
  refine va_get (D := D) (ci := 6) (v := .ref (a 0)) (C := RX6) (T := TX6) (N := 9) hx hb hw iX6 hown hK hP0 0 rfl rfl 0 (by decide) (hw _ kw_2_27) (fun _ h9 => h9) rfl dX6_flow_1 ?_
  refine lv_iload_n hx hb dX6_flow_4 rfl (lv_at hl0 1 rfl) ?_
  refine rV_i (wc := pS cy a S) (rest := []) hx hb hml hown hw hG hK hP0 hS0 hA hl0 kc_X1_hasGap kw_2_98 [.int x1] (c_X1_hasGap l D cy G H0.size a S x1) [1, 2, 3, 4, 5, 6, 7, 8, 9, 10] rfl 0 rfl rfl rfl rfl rfl (Nat.le_of_ble_eq_true rfl) ⟨Nat.le_of_ble_eq_true rfl, Nat.le_of_ble_eq_true rfl⟩ dX6_flow_5 ⟨Nat.le_of_ble_eq_true rfl, Nat.le_of_ble_eq_true rfl⟩ (fun r_5 H1 locs1 hr_5 hP1 hS1 => ?_)
  have hD1 := hD0
  clear hP0 hD0 hS0 locs0 H0
  subst hr_5
  refine lb_ne (tgt := 17) hx hb dX6_flow_8 (by decide) (fun c_8 => ?_) (fun c_8 => ?_)
  · obtain ⟨j, hj, rfl⟩ := wf_gap wf c_8
    have hbj : bstN (nI j) = j := bst_n (by omega)
    refine lv_aload_n hx hb dX6_flow_17 rfl (lv_at hl0 0 rfl) ?_
    refine va_get (D := D) (ci := 6) (v := .ref (b 0)) (C := RX6) (T := TX6) (N := 9) hx hb hw iX6 hown hK hP1 0 rfl rfl 4 (by decide) (hw _ kw_2_31) (fun _ h9 => h9) rfl dX6_flow_18 ?_
    refine lv_aload_n hx hb dX6_flow_21 rfl (lv_at hl0 0 rfl) ?_
    refine va_get (D := D) (ci := 6) (v := .ref (a 0)) (C := RX6) (T := TX6) (N := 9) hx hb hw iX6 hown hK hP1 0 rfl rfl 0 (by decide) (hw _ kw_2_27) (fun _ h9 => h9) rfl dX6_flow_22 ?_
    refine cV_v (wc := aS cy b P F N B O Sd Dv L rc re fr lo sm ++ (pS cy a S)) (wr := [sO cy hh a kk dd b w ee qq ik, ia cy (hh 1) 7 C]) (rest := []) hx hb hml hown hw hG hK hP1 hD1 hS1 hA hl0 kc_X0_settle kw_3_52 [.ref (a 0)] (c_X0_settle l D cy G H1.size b P F N B O Sd Dv L rc re fr lo sm a S (by first | omega | assumption)) [12, 13, 14, 15, 16, 17, 18, 19, 20, 21, 22, 23, 24, 25, 26, 1, 2, 3, 4, 5, 6, 7, 8, 9, 10] [0, 11] rfl rfl rfl rfl rfl 0 rfl rfl rfl rfl rfl (Nat.le_of_ble_eq_true rfl) ⟨Nat.le_of_ble_eq_true rfl, Nat.le_of_ble_eq_true rfl⟩ dX6_flow_25 ⟨Nat.le_of_ble_eq_true rfl, Nat.le_of_ble_eq_true rfl⟩ (fun u9 H2 locs2 hu9 hP2 hD2 hS2 => ?_)
    clear hP1 hD1 hS1 locs1 H1
    obtain ⟨F1_25, N1_25, B1_25, O1_25, Sd1_25, Dv1_25, L1_25⟩ := u9
    have hF_25 := hu9
    replace hF_25 : ∀ g, g < gcN S → F1_25 g = flow S (PR S) g := hF_25
    replace hP2 : va_P D vwCl ([sO cy hh a kk dd b w ee qq ik, ia cy (hh 1) 7 C] ++ (aS cy b (PR S) F1_25 N1_25 B1_25 O1_25 Sd1_25 Dv1_25 L1_25 (nI (RC S)) (b2i (RC S = 60)) (fresh S) (lost S) (b2i (smokes S = true)) ++ (pS cy a S))) H2 := hP2
    replace hD2 : va_D (va_A _ sz) ([sO cy hh a kk dd b w ee qq ik, ia cy (hh 1) 7 C] ++ (aS cy b (PR S) F1_25 N1_25 B1_25 O1_25 Sd1_25 Dv1_25 L1_25 (nI (RC S)) (b2i (RC S = 60)) (fresh S) (lost S) (b2i (smokes S = true)) ++ (pS cy a S))) := hD2
    replace hP2 := hP2.sub (ws' := [sO cy hh a kk dd b w ee qq ik] ++ (pS cy a S ++ ([ia cy (hh 1) 7 C] ++ (aS cy b (PR S) F1_25 N1_25 B1_25 O1_25 Sd1_25 Dv1_25 L1_25 (nI (RC S)) (b2i (RC S = 60)) (fresh S) (lost S) (b2i (smokes S = true)))))) [0, 17, 18, 19, 20, 21, 22, 23, 24, 25, 26, 1, 2, 3, 4, 5, 6, 7, 8, 9, 10, 11, 12, 13, 14, 15, 16] rfl
    replace hD2 := hD2.sub (ws' := [sO cy hh a kk dd b w ee qq ik] ++ (pS cy a S ++ ([ia cy (hh 1) 7 C] ++ (aS cy b (PR S) F1_25 N1_25 B1_25 O1_25 Sd1_25 Dv1_25 L1_25 (nI (RC S)) (b2i (RC S = 60)) (fresh S) (lost S) (b2i (smokes S = true)))))) [0, 17, 18, 19, 20, 21, 22, 23, 24, 25, 26, 1, 2, 3, 4, 5, 6, 7, 8, 9, 10, 11, 12, 13, 14, 15, 16] (by decide) rfl
    refine lv_aload_n hx hb dX6_flow_28 rfl (lv_at hl0 0 rfl) ?_
    refine va_get (D := D) (ci := 6) (v := .ref (b 0)) (C := RX6) (T := TX6) (N := 9) hx hb hw iX6 hown hK hP2 0 rfl rfl 4 (by decide) (hw _ kw_2_31) (fun _ h9 => h9) rfl dX6_flow_29 ?_
    refine va_get (D := D) (ci := 0) (v := .ref (b 2)) (C := RX0) (T := TX0) (N := 13) hx hb hw iX0 hown hK hP2 12 rfl rfl 1 (by decide) (hw _ kw_1_106) (fun _ h9 => h9) rfl dX6_flow_32 ?_
    refine lv_iload_n hx hb dX6_flow_35 rfl (lv_at hl0 1 rfl) ?_
    refine ald_i (f := F1_25) hx hb hK hP2 14 0 rfl rfl j rfl (by first | omega | assumption) (by decide) dX6_flow_36 ?_
    refine tp (show (F1_25 j) = flow S (PR S) j from hF_25 j hj) ?_
    have hcd : cG S (nI j) = 7 := by unfold cG; clear hx hb hml hown hr hlocks hw hsz hA hG hK hP2 hD2 hS2 hl0; grind
    have hq9 : ([sO cy hh a kk dd b w ee qq ik] ++ (pS cy a S ++ ([ia cy (hh 1) 7 C] ++ (aS cy b (PR S) F1_25 N1_25 B1_25 O1_25 Sd1_25 Dv1_25 L1_25 (nI (RC S)) (b2i (RC S = 60)) (fresh S) (lost S) (b2i (smokes S = true)))))) = ([sO cy hh a kk dd b w ee qq ik] ++ (pS cy a S ++ ([ia cy (hh 1) 7 (fnd C (cG S (nI j)))] ++ (aS cy b (PR S) F1_25 N1_25 B1_25 O1_25 Sd1_25 Dv1_25 L1_25 (nI (RC S)) (b2i (RC S = 60)) (fresh S) (lost S) (b2i (smokes S = true)))))) := congrArg (fun z9 => [sO cy hh a kk dd b w ee qq ik] ++ (pS cy a S ++ ([ia cy (hh 1) 7 z9] ++ (aS cy b (PR S) F1_25 N1_25 B1_25 O1_25 Sd1_25 Dv1_25 L1_25 (nI (RC S)) (b2i (RC S = 60)) (fresh S) (lost S) (b2i (smokes S = true)))))) (show C = (fnd C (cG S (nI j))) from fnd_o hcd)
    replace hP2 := (congrArg (fun z9 => va_P D vwCl z9 _) hq9).mp hP2
    replace hD2 := (congrArg (fun z9 => va_D _ z9) hq9).mp hD2
    clear hq9
    refine re_i (PR S, F1_25, N1_25, B1_25, O1_25, Sd1_25, Dv1_25, L1_25, nI (RC S), b2i (RC S = 60), fresh S, lost S, b2i (smokes S = true)) hx hb hr hlocks hP2 hD2 hS2 dX6_flow_37 ?_
    exact (ans_o hcd (by rw [hbj]))
  · refine lv_aload_n hx hb dX6_flow_11 rfl (lv_at hl0 0 rfl) ?_
    refine lv_iconst (v := 0) hx hb dX6_flow_12 (by decide) ?_
    refine cV_i (wc := [sO cy hh a kk dd b w ee qq ik, ia cy (hh 1) 7 C]) (wr := pS cy a S ++ (aS cy b P F N B O Sd Dv L rc re fr lo sm)) (rest := []) hx hb hml hown hw hG hK hP1 hD1 hS1 hA hl0 kc_X6_find kw_2_59 [.int 0] (c_X6_find l D cy G H1.size hh a kk dd b w ee qq ik C 0 (by first | omega | assumption)) [0, 11] [1, 2, 3, 4, 5, 6, 7, 8, 9, 10, 12, 13, 14, 15, 16, 17, 18, 19, 20, 21, 22, 23, 24, 25, 26] rfl rfl rfl rfl rfl 0 rfl rfl rfl rfl rfl (Nat.le_of_ble_eq_true rfl) ⟨Nat.le_of_ble_eq_true rfl, Nat.le_of_ble_eq_true rfl⟩ dX6_flow_13 ⟨Nat.le_of_ble_eq_true rfl, Nat.le_of_ble_eq_true rfl⟩ (fun r_13 u9 H2 locs2 hu9 hP2 hD2 hS2 => ?_)
    clear hP1 hD1 hS1 locs1 H1
    have hr_13 := hu9
    replace hP2 : va_P D vwCl (pS cy a S ++ (aS cy b P F N B O Sd Dv L rc re fr lo sm ++ ([sO cy hh a kk dd b w ee qq ik, ia cy (hh 1) 7 (upd C 0 (C 0 + 1))]))) H2 := hP2
    replace hD2 : va_D (va_A _ sz) (pS cy a S ++ (aS cy b P F N B O Sd Dv L rc re fr lo sm ++ ([sO cy hh a kk dd b w ee qq ik, ia cy (hh 1) 7 (upd C 0 (C 0 + 1))]))) := hD2
    replace hP2 := hP2.sub (ws' := [sO cy hh a kk dd b w ee qq ik] ++ (pS cy a S ++ ([ia cy (hh 1) 7 (upd C 0 (C 0 + 1))] ++ (aS cy b P F N B O Sd Dv L rc re fr lo sm)))) [25, 0, 1, 2, 3, 4, 5, 6, 7, 8, 9, 26, 10, 11, 12, 13, 14, 15, 16, 17, 18, 19, 20, 21, 22, 23, 24] rfl
    replace hD2 := hD2.sub (ws' := [sO cy hh a kk dd b w ee qq ik] ++ (pS cy a S ++ ([ia cy (hh 1) 7 (upd C 0 (C 0 + 1))] ++ (aS cy b P F N B O Sd Dv L rc re fr lo sm)))) [25, 0, 1, 2, 3, 4, 5, 6, 7, 8, 9, 26, 10, 11, 12, 13, 14, 15, 16, 17, 18, 19, 20, 21, 22, 23, 24] (by decide) rfl
    subst hr_13
    have hcd : cG S x1 = 0 := by unfold cG; clear hx hb hml hown hr hlocks hw hsz hA hG hK hP2 hD2 hS2 hl0; grind
    have hq9 : ([sO cy hh a kk dd b w ee qq ik] ++ (pS cy a S ++ ([ia cy (hh 1) 7 (upd C 0 (C 0 + 1))] ++ (aS cy b P F N B O Sd Dv L rc re fr lo sm)))) = ([sO cy hh a kk dd b w ee qq ik] ++ (pS cy a S ++ ([ia cy (hh 1) 7 (fnd C (cG S x1))] ++ (aS cy b P F N B O Sd Dv L rc re fr lo sm)))) := congrArg (fun z9 => [sO cy hh a kk dd b w ee qq ik] ++ (pS cy a S ++ ([ia cy (hh 1) 7 z9] ++ (aS cy b P F N B O Sd Dv L rc re fr lo sm)))) (show (upd C 0 (C 0 + 1)) = (fnd C (cG S x1)) from fnd_f hcd (by decide))
    replace hP2 := (congrArg (fun z9 => va_P D vwCl z9 _) hq9).mp hP2
    replace hD2 := (congrArg (fun z9 => va_D _ z9) hq9).mp hD2
    clear hq9
    refine re_i (P, F, N, B, O, Sd, Dv, L, rc, re, fr, lo, sm) hx hb hr hlocks hP2 hD2 hS2 dX6_flow_16 ?_
    exact (ans_f hcd (by decide) rfl)

theorem kc_X6_lean : kV yX6_lean cX6_lean 2 (some .int) 1 := ⟨kw_3_89, kw_3_90, kw_1_1, kw_3_91, by decide, by decide, by decide +kernel⟩
set_option maxHeartbeats 4000000 in
set_option maxRecDepth 100000 in
theorem c_X6_lean (l : Launch) (D : va_G) (cy : Nat → ClassId) (G : Nat → Nat) (sz : Nat) (hh : Nat → Nat) (a : Nat → Nat) (kk : Nat → Nat) (dd : Nat → Nat) (b : Nat → Nat) (w : Nat → Nat) (ee : Nat → Nat) (qq : Nat → Nat) (ik : Int32) (S : Nat → Int32) (C : Nat → Int32) (P : Nat → Int32) (F : Nat → Int32) (N : Nat → Int32) (B : Nat → Int32) (O : Nat → Int32) (Sd : Nat → Int32) (Dv : Nat → Int32) (L : Nat → Nat → Int32) (rc : Int32) (re : Int32) (fr : Int32) (lo : Int32) (sm : Int32) (x1 : Int32) (wf : wf S) : Met l yX6_lean (wm yX6_lean cX6_lean 2 (some .int)) { frames := 5, cells := 0, slots := 0, locals := 109 } (va_Pc [.ref (hh 0), .int x1] (pr D (TY cy) G ([sO cy hh a kk dd b w ee qq ik] ++ (pS cy a S ++ ([ia cy (hh 1) 7 C] ++ (aS cy b P F N B O Sd Dv L rc re fr lo sm)))) sz)) (va_Qi (fun (r : Int32) (u : (Nat → Int32) × (Nat → Int32) × (Nat → Int32) × (Nat → Int32) × (Nat → Int32) × (Nat → Int32) × (Nat → Int32) × (Nat → Nat → Int32) × Int32 × Int32 × Int32 × Int32 × Int32) => r = ans (cG S x1) (lean (flow S (PR S) (bstN x1)))) (fun (u : (Nat → Int32) × (Nat → Int32) × (Nat → Int32) × (Nat → Int32) × (Nat → Int32) × (Nat → Int32) × (Nat → Int32) × (Nat → Nat → Int32) × Int32 × Int32 × Int32 × Int32 × Int32) t => po D (va_A ([sO cy hh a kk dd b w ee qq ik] ++ (pS cy a S ++ ([ia cy (hh 1) 7 C] ++ (aS cy b P F N B O Sd Dv L rc re fr lo sm)))) sz) ([sO cy hh a kk dd b w ee qq ik] ++ (pS cy a S ++ ([ia cy (hh 1) 7 (fnd C (cG S x1))] ++ (aS cy b u.1 u.2.1 u.2.2.1 u.2.2.2.1 u.2.2.2.2.1 u.2.2.2.2.2.1 u.2.2.2.2.2.2.1 u.2.2.2.2.2.2.2.1 u.2.2.2.2.2.2.2.2.1 u.2.2.2.2.2.2.2.2.2.1 u.2.2.2.2.2.2.2.2.2.2.1 u.2.2.2.2.2.2.2.2.2.2.2.1 u.2.2.2.2.2.2.2.2.2.2.2.2)))) t) (va_A ([sO cy hh a kk dd b w ee qq ik] ++ (pS cy a S ++ ([ia cy (hh 1) 7 C] ++ (aS cy b P F N B O Sd Dv L rc re fr lo sm)))) sz)) 0 0 (va_A ([sO cy hh a kk dd b w ee qq ik] ++ (pS cy a S ++ ([ia cy (hh 1) 7 C] ++ (aS cy b P F N B O Sd Dv L rc re fr lo sm)))) sz) := by
  refine mk_rw (by decide) RX6 rfl (Nat.le_of_ble_eq_true rfl) [(0, .ref (hh 0)), (1, .int x1)] rfl ?_
  intro p e s m below meth c hx hb hml hown hr hlocks hin hw hsz hA hG hK H0 locs0 hP0 hD0 hS0 ls0 hl0
  clear hin
  have hg20 := wf_g20 wf
  have hr6 := wf_r6 wf
  refine lv_aload_n hx hb dX6_lean_0 rfl (lv_at hl0 0 rfl) ?_
  refine va_get (D := D) (ci := 6) (v := .ref (a 0)) (C := RX6) (T := TX6) (N := 9) hx hb hw iX6 hown hK hP0 0 rfl rfl 0 (by decide) (hw _ kw_2_27) (fun _ h9 => h9) rfl dX6_lean_1 ?_
  refine lv_iload_n hx hb dX6_lean_4 rfl (lv_at hl0 1 rfl) ?_
  refine rV_i (wc := pS cy a S) (rest := []) hx hb hml hown hw hG hK hP0 hS0 hA hl0 kc_X1_hasGap kw_2_98 [.int x1] (c_X1_hasGap l D cy G H0.size a S x1) [1, 2, 3, 4, 5, 6, 7, 8, 9, 10] rfl 0 rfl rfl rfl rfl rfl (Nat.le_of_ble_eq_true rfl) ⟨Nat.le_of_ble_eq_true rfl, Nat.le_of_ble_eq_true rfl⟩ dX6_lean_5 ⟨Nat.le_of_ble_eq_true rfl, Nat.le_of_ble_eq_true rfl⟩ (fun r_5 H1 locs1 hr_5 hP1 hS1 => ?_)
  have hD1 := hD0
  clear hP0 hD0 hS0 locs0 H0
  subst hr_5
  refine lb_ne (tgt := 17) hx hb dX6_lean_8 (by decide) (fun c_8 => ?_) (fun c_8 => ?_)
  · obtain ⟨j, hj, rfl⟩ := wf_gap wf c_8
    have hbj : bstN (nI j) = j := bst_n (by omega)
    refine lv_aload_n hx hb dX6_lean_17 rfl (lv_at hl0 0 rfl) ?_
    refine va_get (D := D) (ci := 6) (v := .ref (b 0)) (C := RX6) (T := TX6) (N := 9) hx hb hw iX6 hown hK hP1 0 rfl rfl 4 (by decide) (hw _ kw_2_31) (fun _ h9 => h9) rfl dX6_lean_18 ?_
    refine lv_aload_n hx hb dX6_lean_21 rfl (lv_at hl0 0 rfl) ?_
    refine va_get (D := D) (ci := 6) (v := .ref (a 0)) (C := RX6) (T := TX6) (N := 9) hx hb hw iX6 hown hK hP1 0 rfl rfl 0 (by decide) (hw _ kw_2_27) (fun _ h9 => h9) rfl dX6_lean_22 ?_
    refine cV_v (wc := aS cy b P F N B O Sd Dv L rc re fr lo sm ++ (pS cy a S)) (wr := [sO cy hh a kk dd b w ee qq ik, ia cy (hh 1) 7 C]) (rest := []) hx hb hml hown hw hG hK hP1 hD1 hS1 hA hl0 kc_X0_settle kw_3_52 [.ref (a 0)] (c_X0_settle l D cy G H1.size b P F N B O Sd Dv L rc re fr lo sm a S (by first | omega | assumption)) [12, 13, 14, 15, 16, 17, 18, 19, 20, 21, 22, 23, 24, 25, 26, 1, 2, 3, 4, 5, 6, 7, 8, 9, 10] [0, 11] rfl rfl rfl rfl rfl 0 rfl rfl rfl rfl rfl (Nat.le_of_ble_eq_true rfl) ⟨Nat.le_of_ble_eq_true rfl, Nat.le_of_ble_eq_true rfl⟩ dX6_lean_25 ⟨Nat.le_of_ble_eq_true rfl, Nat.le_of_ble_eq_true rfl⟩ (fun u9 H2 locs2 hu9 hP2 hD2 hS2 => ?_)
    clear hP1 hD1 hS1 locs1 H1
    obtain ⟨F1_25, N1_25, B1_25, O1_25, Sd1_25, Dv1_25, L1_25⟩ := u9
    have hF_25 := hu9
    replace hF_25 : ∀ g, g < gcN S → F1_25 g = flow S (PR S) g := hF_25
    replace hP2 : va_P D vwCl ([sO cy hh a kk dd b w ee qq ik, ia cy (hh 1) 7 C] ++ (aS cy b (PR S) F1_25 N1_25 B1_25 O1_25 Sd1_25 Dv1_25 L1_25 (nI (RC S)) (b2i (RC S = 60)) (fresh S) (lost S) (b2i (smokes S = true)) ++ (pS cy a S))) H2 := hP2
    replace hD2 : va_D (va_A _ sz) ([sO cy hh a kk dd b w ee qq ik, ia cy (hh 1) 7 C] ++ (aS cy b (PR S) F1_25 N1_25 B1_25 O1_25 Sd1_25 Dv1_25 L1_25 (nI (RC S)) (b2i (RC S = 60)) (fresh S) (lost S) (b2i (smokes S = true)) ++ (pS cy a S))) := hD2
    replace hP2 := hP2.sub (ws' := [sO cy hh a kk dd b w ee qq ik] ++ (pS cy a S ++ ([ia cy (hh 1) 7 C] ++ (aS cy b (PR S) F1_25 N1_25 B1_25 O1_25 Sd1_25 Dv1_25 L1_25 (nI (RC S)) (b2i (RC S = 60)) (fresh S) (lost S) (b2i (smokes S = true)))))) [0, 17, 18, 19, 20, 21, 22, 23, 24, 25, 26, 1, 2, 3, 4, 5, 6, 7, 8, 9, 10, 11, 12, 13, 14, 15, 16] rfl
    replace hD2 := hD2.sub (ws' := [sO cy hh a kk dd b w ee qq ik] ++ (pS cy a S ++ ([ia cy (hh 1) 7 C] ++ (aS cy b (PR S) F1_25 N1_25 B1_25 O1_25 Sd1_25 Dv1_25 L1_25 (nI (RC S)) (b2i (RC S = 60)) (fresh S) (lost S) (b2i (smokes S = true)))))) [0, 17, 18, 19, 20, 21, 22, 23, 24, 25, 26, 1, 2, 3, 4, 5, 6, 7, 8, 9, 10, 11, 12, 13, 14, 15, 16] (by decide) rfl
    refine lv_aload_n hx hb dX6_lean_28 rfl (lv_at hl0 0 rfl) ?_
    refine va_get (D := D) (ci := 6) (v := .ref (b 0)) (C := RX6) (T := TX6) (N := 9) hx hb hw iX6 hown hK hP2 0 rfl rfl 4 (by decide) (hw _ kw_2_31) (fun _ h9 => h9) rfl dX6_lean_29 ?_
    refine va_get (D := D) (ci := 0) (v := .ref (b 2)) (C := RX0) (T := TX0) (N := 13) hx hb hw iX0 hown hK hP2 12 rfl rfl 1 (by decide) (hw _ kw_1_106) (fun _ h9 => h9) rfl dX6_lean_32 ?_
    refine lv_iload_n hx hb dX6_lean_35 rfl (lv_at hl0 1 rfl) ?_
    refine ald_i (f := F1_25) hx hb hK hP2 14 0 rfl rfl j rfl (by first | omega | assumption) (by decide) dX6_lean_36 ?_
    refine tp (show (F1_25 j) = flow S (PR S) j from hF_25 j hj) ?_
    refine rT_i (wc := []) (rest := []) hx hb hml hown hw hG hK hP2 hS2 hA hl0 kc_X6_leanOf kw_3_92 [.int (flow S (PR S) j)] (c_X6_leanOf l D cy G H2.size (flow S (PR S) j)) [] rfl rfl rfl (Nat.le_of_ble_eq_true rfl) ⟨Nat.le_of_ble_eq_true rfl, Nat.le_of_ble_eq_true rfl⟩ dX6_lean_37 ⟨Nat.le_of_ble_eq_true rfl, Nat.le_of_ble_eq_true rfl⟩ (fun r_37 H3 locs3 hr_37 hP3 hS3 => ?_)
    have hD3 := hD2
    clear hP2 hD2 hS2 locs2 H2
    subst hr_37
    have hcd : cG S (nI j) = 7 := by unfold cG; clear hx hb hml hown hr hlocks hw hsz hA hG hK hP3 hD3 hS3 hl0; grind
    have hq9 : ([sO cy hh a kk dd b w ee qq ik] ++ (pS cy a S ++ ([ia cy (hh 1) 7 C] ++ (aS cy b (PR S) F1_25 N1_25 B1_25 O1_25 Sd1_25 Dv1_25 L1_25 (nI (RC S)) (b2i (RC S = 60)) (fresh S) (lost S) (b2i (smokes S = true)))))) = ([sO cy hh a kk dd b w ee qq ik] ++ (pS cy a S ++ ([ia cy (hh 1) 7 (fnd C (cG S (nI j)))] ++ (aS cy b (PR S) F1_25 N1_25 B1_25 O1_25 Sd1_25 Dv1_25 L1_25 (nI (RC S)) (b2i (RC S = 60)) (fresh S) (lost S) (b2i (smokes S = true)))))) := congrArg (fun z9 => [sO cy hh a kk dd b w ee qq ik] ++ (pS cy a S ++ ([ia cy (hh 1) 7 z9] ++ (aS cy b (PR S) F1_25 N1_25 B1_25 O1_25 Sd1_25 Dv1_25 L1_25 (nI (RC S)) (b2i (RC S = 60)) (fresh S) (lost S) (b2i (smokes S = true)))))) (show C = (fnd C (cG S (nI j))) from fnd_o hcd)
    replace hP3 := (congrArg (fun z9 => va_P D vwCl z9 _) hq9).mp hP3
    replace hD3 := (congrArg (fun z9 => va_D _ z9) hq9).mp hD3
    clear hq9
    refine re_i (PR S, F1_25, N1_25, B1_25, O1_25, Sd1_25, Dv1_25, L1_25, nI (RC S), b2i (RC S = 60), fresh S, lost S, b2i (smokes S = true)) hx hb hr hlocks hP3 hD3 hS3 dX6_lean_40 ?_
    exact (ans_o hcd (by rw [hbj]))
  · refine lv_aload_n hx hb dX6_lean_11 rfl (lv_at hl0 0 rfl) ?_
    refine lv_iconst (v := 0) hx hb dX6_lean_12 (by decide) ?_
    refine cV_i (wc := [sO cy hh a kk dd b w ee qq ik, ia cy (hh 1) 7 C]) (wr := pS cy a S ++ (aS cy b P F N B O Sd Dv L rc re fr lo sm)) (rest := []) hx hb hml hown hw hG hK hP1 hD1 hS1 hA hl0 kc_X6_find kw_2_59 [.int 0] (c_X6_find l D cy G H1.size hh a kk dd b w ee qq ik C 0 (by first | omega | assumption)) [0, 11] [1, 2, 3, 4, 5, 6, 7, 8, 9, 10, 12, 13, 14, 15, 16, 17, 18, 19, 20, 21, 22, 23, 24, 25, 26] rfl rfl rfl rfl rfl 0 rfl rfl rfl rfl rfl (Nat.le_of_ble_eq_true rfl) ⟨Nat.le_of_ble_eq_true rfl, Nat.le_of_ble_eq_true rfl⟩ dX6_lean_13 ⟨Nat.le_of_ble_eq_true rfl, Nat.le_of_ble_eq_true rfl⟩ (fun r_13 u9 H2 locs2 hu9 hP2 hD2 hS2 => ?_)
    clear hP1 hD1 hS1 locs1 H1
    have hr_13 := hu9
    replace hP2 : va_P D vwCl (pS cy a S ++ (aS cy b P F N B O Sd Dv L rc re fr lo sm ++ ([sO cy hh a kk dd b w ee qq ik, ia cy (hh 1) 7 (upd C 0 (C 0 + 1))]))) H2 := hP2
    replace hD2 : va_D (va_A _ sz) (pS cy a S ++ (aS cy b P F N B O Sd Dv L rc re fr lo sm ++ ([sO cy hh a kk dd b w ee qq ik, ia cy (hh 1) 7 (upd C 0 (C 0 + 1))]))) := hD2
    replace hP2 := hP2.sub (ws' := [sO cy hh a kk dd b w ee qq ik] ++ (pS cy a S ++ ([ia cy (hh 1) 7 (upd C 0 (C 0 + 1))] ++ (aS cy b P F N B O Sd Dv L rc re fr lo sm)))) [25, 0, 1, 2, 3, 4, 5, 6, 7, 8, 9, 26, 10, 11, 12, 13, 14, 15, 16, 17, 18, 19, 20, 21, 22, 23, 24] rfl
    replace hD2 := hD2.sub (ws' := [sO cy hh a kk dd b w ee qq ik] ++ (pS cy a S ++ ([ia cy (hh 1) 7 (upd C 0 (C 0 + 1))] ++ (aS cy b P F N B O Sd Dv L rc re fr lo sm)))) [25, 0, 1, 2, 3, 4, 5, 6, 7, 8, 9, 26, 10, 11, 12, 13, 14, 15, 16, 17, 18, 19, 20, 21, 22, 23, 24] (by decide) rfl
    subst hr_13
    have hcd : cG S x1 = 0 := by unfold cG; clear hx hb hml hown hr hlocks hw hsz hA hG hK hP2 hD2 hS2 hl0; grind
    have hq9 : ([sO cy hh a kk dd b w ee qq ik] ++ (pS cy a S ++ ([ia cy (hh 1) 7 (upd C 0 (C 0 + 1))] ++ (aS cy b P F N B O Sd Dv L rc re fr lo sm)))) = ([sO cy hh a kk dd b w ee qq ik] ++ (pS cy a S ++ ([ia cy (hh 1) 7 (fnd C (cG S x1))] ++ (aS cy b P F N B O Sd Dv L rc re fr lo sm)))) := congrArg (fun z9 => [sO cy hh a kk dd b w ee qq ik] ++ (pS cy a S ++ ([ia cy (hh 1) 7 z9] ++ (aS cy b P F N B O Sd Dv L rc re fr lo sm)))) (show (upd C 0 (C 0 + 1)) = (fnd C (cG S x1)) from fnd_f hcd (by decide))
    replace hP2 := (congrArg (fun z9 => va_P D vwCl z9 _) hq9).mp hP2
    replace hD2 := (congrArg (fun z9 => va_D _ z9) hq9).mp hD2
    clear hq9
    refine re_i (P, F, N, B, O, Sd, Dv, L, rc, re, fr, lo, sm) hx hb hr hlocks hP2 hD2 hS2 dX6_lean_16 ?_
    exact (ans_f hcd (by decide) rfl)

theorem kc_X6_rounds : kV yX6_rounds cX6_rounds 1 (some .int) 0 := ⟨kw_3_100, kw_3_101, kw_1_1, kw_3_102, by decide, by decide, by decide +kernel⟩
set_option maxHeartbeats 4000000 in
set_option maxRecDepth 100000 in
theorem c_X6_rounds (l : Launch) (D : va_G) (cy : Nat → ClassId) (G : Nat → Nat) (sz : Nat) (hh : Nat → Nat) (a : Nat → Nat) (kk : Nat → Nat) (dd : Nat → Nat) (b : Nat → Nat) (w : Nat → Nat) (ee : Nat → Nat) (qq : Nat → Nat) (ik : Int32) (S : Nat → Int32) (P : Nat → Int32) (F : Nat → Int32) (N : Nat → Int32) (B : Nat → Int32) (O : Nat → Int32) (Sd : Nat → Int32) (Dv : Nat → Int32) (L : Nat → Nat → Int32) (rc : Int32) (re : Int32) (fr : Int32) (lo : Int32) (sm : Int32) (wf : wf S) : Met l yX6_rounds (wm yX6_rounds cX6_rounds 1 (some .int)) { frames := 5, cells := 0, slots := 0, locals := 109 } (va_Pc [.ref (hh 0)] (pr D (TY cy) G ([sO cy hh a kk dd b w ee qq ik] ++ (pS cy a S ++ (aS cy b P F N B O Sd Dv L rc re fr lo sm))) sz)) (va_Qi (fun (r : Int32) (u : (Nat → Int32) × (Nat → Int32) × (Nat → Int32) × (Nat → Int32) × (Nat → Int32) × (Nat → Int32) × (Nat → Int32) × (Nat → Nat → Int32) × Int32 × Int32 × Int32 × Int32 × Int32) => r = nI (RC S)) (fun (u : (Nat → Int32) × (Nat → Int32) × (Nat → Int32) × (Nat → Int32) × (Nat → Int32) × (Nat → Int32) × (Nat → Int32) × (Nat → Nat → Int32) × Int32 × Int32 × Int32 × Int32 × Int32) t => po D (va_A ([sO cy hh a kk dd b w ee qq ik] ++ (pS cy a S ++ (aS cy b P F N B O Sd Dv L rc re fr lo sm))) sz) ([sO cy hh a kk dd b w ee qq ik] ++ (pS cy a S ++ (aS cy b u.1 u.2.1 u.2.2.1 u.2.2.2.1 u.2.2.2.2.1 u.2.2.2.2.2.1 u.2.2.2.2.2.2.1 u.2.2.2.2.2.2.2.1 u.2.2.2.2.2.2.2.2.1 u.2.2.2.2.2.2.2.2.2.1 u.2.2.2.2.2.2.2.2.2.2.1 u.2.2.2.2.2.2.2.2.2.2.2.1 u.2.2.2.2.2.2.2.2.2.2.2.2))) t) (va_A ([sO cy hh a kk dd b w ee qq ik] ++ (pS cy a S ++ (aS cy b P F N B O Sd Dv L rc re fr lo sm))) sz)) 0 0 (va_A ([sO cy hh a kk dd b w ee qq ik] ++ (pS cy a S ++ (aS cy b P F N B O Sd Dv L rc re fr lo sm))) sz) := by
  refine mk_rw (by decide) RX6 rfl (Nat.le_of_ble_eq_true rfl) [(0, .ref (hh 0))] rfl ?_
  intro p e s m below meth c hx hb hml hown hr hlocks hin hw hsz hA hG hK H0 locs0 hP0 hD0 hS0 ls0 hl0
  clear hin
  refine lv_aload_n hx hb dX6_rounds_0 rfl (lv_at hl0 0 rfl) ?_
  refine va_get (D := D) (ci := 6) (v := .ref (b 0)) (C := RX6) (T := TX6) (N := 9) hx hb hw iX6 hown hK hP0 0 rfl rfl 4 (by decide) (hw _ kw_2_31) (fun _ h9 => h9) rfl dX6_rounds_1 ?_
  refine lv_aload_n hx hb dX6_rounds_4 rfl (lv_at hl0 0 rfl) ?_
  refine va_get (D := D) (ci := 6) (v := .ref (a 0)) (C := RX6) (T := TX6) (N := 9) hx hb hw iX6 hown hK hP0 0 rfl rfl 0 (by decide) (hw _ kw_2_27) (fun _ h9 => h9) rfl dX6_rounds_5 ?_
  refine cV_v (wc := aS cy b P F N B O Sd Dv L rc re fr lo sm ++ (pS cy a S)) (wr := [sO cy hh a kk dd b w ee qq ik]) (rest := []) hx hb hml hown hw hG hK hP0 hD0 hS0 hA hl0 kc_X0_settle kw_3_52 [.ref (a 0)] (c_X0_settle l D cy G H0.size b P F N B O Sd Dv L rc re fr lo sm a S (by first | omega | assumption)) [11, 12, 13, 14, 15, 16, 17, 18, 19, 20, 21, 22, 23, 24, 25, 1, 2, 3, 4, 5, 6, 7, 8, 9, 10] [0] rfl rfl rfl rfl rfl 0 rfl rfl rfl rfl rfl (Nat.le_of_ble_eq_true rfl) ⟨Nat.le_of_ble_eq_true rfl, Nat.le_of_ble_eq_true rfl⟩ dX6_rounds_8 ⟨Nat.le_of_ble_eq_true rfl, Nat.le_of_ble_eq_true rfl⟩ (fun u9 H1 locs1 hu9 hP1 hD1 hS1 => ?_)
  clear hP0 hD0 hS0 locs0 H0
  obtain ⟨F1_8, N1_8, B1_8, O1_8, Sd1_8, Dv1_8, L1_8⟩ := u9
  have hF_8 := hu9
  replace hF_8 : ∀ g, g < gcN S → F1_8 g = flow S (PR S) g := hF_8
  replace hP1 : va_P D vwCl ([sO cy hh a kk dd b w ee qq ik] ++ (aS cy b (PR S) F1_8 N1_8 B1_8 O1_8 Sd1_8 Dv1_8 L1_8 (nI (RC S)) (b2i (RC S = 60)) (fresh S) (lost S) (b2i (smokes S = true)) ++ (pS cy a S))) H1 := hP1
  replace hD1 : va_D (va_A _ sz) ([sO cy hh a kk dd b w ee qq ik] ++ (aS cy b (PR S) F1_8 N1_8 B1_8 O1_8 Sd1_8 Dv1_8 L1_8 (nI (RC S)) (b2i (RC S = 60)) (fresh S) (lost S) (b2i (smokes S = true)) ++ (pS cy a S))) := hD1
  replace hP1 := hP1.sub (ws' := [sO cy hh a kk dd b w ee qq ik] ++ (pS cy a S ++ (aS cy b (PR S) F1_8 N1_8 B1_8 O1_8 Sd1_8 Dv1_8 L1_8 (nI (RC S)) (b2i (RC S = 60)) (fresh S) (lost S) (b2i (smokes S = true))))) [0, 16, 17, 18, 19, 20, 21, 22, 23, 24, 25, 1, 2, 3, 4, 5, 6, 7, 8, 9, 10, 11, 12, 13, 14, 15] rfl
  replace hD1 := hD1.sub (ws' := [sO cy hh a kk dd b w ee qq ik] ++ (pS cy a S ++ (aS cy b (PR S) F1_8 N1_8 B1_8 O1_8 Sd1_8 Dv1_8 L1_8 (nI (RC S)) (b2i (RC S = 60)) (fresh S) (lost S) (b2i (smokes S = true))))) [0, 16, 17, 18, 19, 20, 21, 22, 23, 24, 25, 1, 2, 3, 4, 5, 6, 7, 8, 9, 10, 11, 12, 13, 14, 15] (by decide) rfl
  refine lv_aload_n hx hb dX6_rounds_11 rfl (lv_at hl0 0 rfl) ?_
  refine va_get (D := D) (ci := 6) (v := .ref (b 0)) (C := RX6) (T := TX6) (N := 9) hx hb hw iX6 hown hK hP1 0 rfl rfl 4 (by decide) (hw _ kw_2_31) (fun _ h9 => h9) rfl dX6_rounds_12 ?_
  refine va_get (D := D) (ci := 0) (v := .int (nI (RC S))) (C := RX0) (T := TX0) (N := 13) hx hb hw iX0 hown hK hP1 11 rfl rfl 2 (by decide) (hw _ kw_1_108) (fun _ h9 => h9) rfl dX6_rounds_15 ?_
  refine re_i (PR S, F1_8, N1_8, B1_8, O1_8, Sd1_8, Dv1_8, L1_8, nI (RC S), b2i (RC S = 60), fresh S, lost S, b2i (smokes S = true)) hx hb hr hlocks hP1 hD1 hS1 dX6_rounds_18 ?_
  exact (rfl)

theorem kc_X6_rest : kV yX6_rest cX6_rest 4 (some .int) 1 := ⟨kw_3_104, kw_3_105, kw_1_1, kw_3_106, by decide, by decide, by decide +kernel⟩
set_option maxHeartbeats 4000000 in
set_option maxRecDepth 100000 in
theorem c_X6_rest (l : Launch) (D : va_G) (cy : Nat → ClassId) (G : Nat → Nat) (sz : Nat) (hh : Nat → Nat) (a : Nat → Nat) (kk : Nat → Nat) (dd : Nat → Nat) (b : Nat → Nat) (w : Nat → Nat) (ee : Nat → Nat) (qq : Nat → Nat) (ik : Int32) (S : Nat → Int32) (C : Nat → Int32) (P : Nat → Int32) (F : Nat → Int32) (N : Nat → Int32) (B : Nat → Int32) (O : Nat → Int32) (Sd : Nat → Int32) (Dv : Nat → Int32) (L : Nat → Nat → Int32) (rc : Int32) (re : Int32) (fr : Int32) (lo : Int32) (sm : Int32) (x1 : Int32) (wf : wf S) : Met l yX6_rest (wm yX6_rest cX6_rest 4 (some .int)) { frames := 5, cells := 0, slots := 0, locals := 109 } (va_Pc [.ref (hh 0), .int x1] (pr D (TY cy) G ([sO cy hh a kk dd b w ee qq ik] ++ (pS cy a S ++ ([ia cy (hh 1) 7 C] ++ (aS cy b P F N B O Sd Dv L rc re fr lo sm)))) sz)) (va_Qi (fun (r : Int32) (u : (Nat → Int32) × (Nat → Int32) × (Nat → Int32) × (Nat → Int32) × (Nat → Int32) × (Nat → Int32) × (Nat → Int32) × (Nat → Nat → Int32) × Int32 × Int32 × Int32 × Int32 × Int32) => r = ans (cR S x1) (rst S (PR S) (bstN x1) (gcN S))) (fun (u : (Nat → Int32) × (Nat → Int32) × (Nat → Int32) × (Nat → Int32) × (Nat → Int32) × (Nat → Int32) × (Nat → Int32) × (Nat → Nat → Int32) × Int32 × Int32 × Int32 × Int32 × Int32) t => po D (va_A ([sO cy hh a kk dd b w ee qq ik] ++ (pS cy a S ++ ([ia cy (hh 1) 7 C] ++ (aS cy b P F N B O Sd Dv L rc re fr lo sm)))) sz) ([sO cy hh a kk dd b w ee qq ik] ++ (pS cy a S ++ ([ia cy (hh 1) 7 (fnd C (cR S x1))] ++ (aS cy b u.1 u.2.1 u.2.2.1 u.2.2.2.1 u.2.2.2.2.1 u.2.2.2.2.2.1 u.2.2.2.2.2.2.1 u.2.2.2.2.2.2.2.1 u.2.2.2.2.2.2.2.2.1 u.2.2.2.2.2.2.2.2.2.1 u.2.2.2.2.2.2.2.2.2.2.1 u.2.2.2.2.2.2.2.2.2.2.2.1 u.2.2.2.2.2.2.2.2.2.2.2.2)))) t) (va_A ([sO cy hh a kk dd b w ee qq ik] ++ (pS cy a S ++ ([ia cy (hh 1) 7 C] ++ (aS cy b P F N B O Sd Dv L rc re fr lo sm)))) sz)) 0 0 (va_A ([sO cy hh a kk dd b w ee qq ik] ++ (pS cy a S ++ ([ia cy (hh 1) 7 C] ++ (aS cy b P F N B O Sd Dv L rc re fr lo sm)))) sz) := by
  refine mk_rw (by decide) RX6 rfl (Nat.le_of_ble_eq_true rfl) [(0, .ref (hh 0)), (1, .int x1)] rfl ?_
  intro p e s m below meth c hx hb hml hown hr hlocks hin hw hsz hA hG hK H0 locs0 hP0 hD0 hS0 ls0 hl0
  clear hin
  have hg20 := wf_g20 wf
  have hr6 := wf_r6 wf
  refine lv_aload_n hx hb dX6_rest_0 rfl (lv_at hl0 0 rfl) ?_
  refine va_get (D := D) (ci := 6) (v := .ref (a 0)) (C := RX6) (T := TX6) (N := 9) hx hb hw iX6 hown hK hP0 0 rfl rfl 0 (by decide) (hw _ kw_2_27) (fun _ h9 => h9) rfl dX6_rest_1 ?_
  refine lv_iload_n hx hb dX6_rest_4 rfl (lv_at hl0 1 rfl) ?_
  refine rV_i (wc := pS cy a S) (rest := []) hx hb hml hown hw hG hK hP0 hS0 hA hl0 kc_X1_hasRoom kw_2_75 [.int x1] (c_X1_hasRoom l D cy G H0.size a S x1) [1, 2, 3, 4, 5, 6, 7, 8, 9, 10] rfl 0 rfl rfl rfl rfl rfl (Nat.le_of_ble_eq_true rfl) ⟨Nat.le_of_ble_eq_true rfl, Nat.le_of_ble_eq_true rfl⟩ dX6_rest_5 ⟨Nat.le_of_ble_eq_true rfl, Nat.le_of_ble_eq_true rfl⟩ (fun r_5 H1 locs1 hr_5 hP1 hS1 => ?_)
  have hD1 := hD0
  clear hP0 hD0 hS0 locs0 H0
  subst hr_5
  refine lb_ne (tgt := 17) hx hb dX6_rest_8 (by decide) (fun c_8 => ?_) (fun c_8 => ?_)
  · obtain ⟨j, hj, rfl⟩ := wf_room wf c_8
    have hbj : bstN (nI j) = j := bst_n (by omega)
    refine lv_aload_n hx hb dX6_rest_17 rfl (lv_at hl0 0 rfl) ?_
    refine va_get (D := D) (ci := 6) (v := .ref (b 0)) (C := RX6) (T := TX6) (N := 9) hx hb hw iX6 hown hK hP1 0 rfl rfl 4 (by decide) (hw _ kw_2_31) (fun _ h9 => h9) rfl dX6_rest_18 ?_
    refine lv_aload_n hx hb dX6_rest_21 rfl (lv_at hl0 0 rfl) ?_
    refine va_get (D := D) (ci := 6) (v := .ref (a 0)) (C := RX6) (T := TX6) (N := 9) hx hb hw iX6 hown hK hP1 0 rfl rfl 0 (by decide) (hw _ kw_2_27) (fun _ h9 => h9) rfl dX6_rest_22 ?_
    refine cV_v (wc := aS cy b P F N B O Sd Dv L rc re fr lo sm ++ (pS cy a S)) (wr := [sO cy hh a kk dd b w ee qq ik, ia cy (hh 1) 7 C]) (rest := []) hx hb hml hown hw hG hK hP1 hD1 hS1 hA hl0 kc_X0_settle kw_3_52 [.ref (a 0)] (c_X0_settle l D cy G H1.size b P F N B O Sd Dv L rc re fr lo sm a S (by first | omega | assumption)) [12, 13, 14, 15, 16, 17, 18, 19, 20, 21, 22, 23, 24, 25, 26, 1, 2, 3, 4, 5, 6, 7, 8, 9, 10] [0, 11] rfl rfl rfl rfl rfl 0 rfl rfl rfl rfl rfl (Nat.le_of_ble_eq_true rfl) ⟨Nat.le_of_ble_eq_true rfl, Nat.le_of_ble_eq_true rfl⟩ dX6_rest_25 ⟨Nat.le_of_ble_eq_true rfl, Nat.le_of_ble_eq_true rfl⟩ (fun u9 H2 locs2 hu9 hP2 hD2 hS2 => ?_)
    clear hP1 hD1 hS1 locs1 H1
    obtain ⟨F1_25, N1_25, B1_25, O1_25, Sd1_25, Dv1_25, L1_25⟩ := u9
    have hF_25 := hu9
    replace hF_25 : ∀ g, g < gcN S → F1_25 g = flow S (PR S) g := hF_25
    replace hP2 : va_P D vwCl ([sO cy hh a kk dd b w ee qq ik, ia cy (hh 1) 7 C] ++ (aS cy b (PR S) F1_25 N1_25 B1_25 O1_25 Sd1_25 Dv1_25 L1_25 (nI (RC S)) (b2i (RC S = 60)) (fresh S) (lost S) (b2i (smokes S = true)) ++ (pS cy a S))) H2 := hP2
    replace hD2 : va_D (va_A _ sz) ([sO cy hh a kk dd b w ee qq ik, ia cy (hh 1) 7 C] ++ (aS cy b (PR S) F1_25 N1_25 B1_25 O1_25 Sd1_25 Dv1_25 L1_25 (nI (RC S)) (b2i (RC S = 60)) (fresh S) (lost S) (b2i (smokes S = true)) ++ (pS cy a S))) := hD2
    replace hP2 := hP2.sub (ws' := [sO cy hh a kk dd b w ee qq ik] ++ (pS cy a S ++ ([ia cy (hh 1) 7 C] ++ (aS cy b (PR S) F1_25 N1_25 B1_25 O1_25 Sd1_25 Dv1_25 L1_25 (nI (RC S)) (b2i (RC S = 60)) (fresh S) (lost S) (b2i (smokes S = true)))))) [0, 17, 18, 19, 20, 21, 22, 23, 24, 25, 26, 1, 2, 3, 4, 5, 6, 7, 8, 9, 10, 11, 12, 13, 14, 15, 16] rfl
    replace hD2 := hD2.sub (ws' := [sO cy hh a kk dd b w ee qq ik] ++ (pS cy a S ++ ([ia cy (hh 1) 7 C] ++ (aS cy b (PR S) F1_25 N1_25 B1_25 O1_25 Sd1_25 Dv1_25 L1_25 (nI (RC S)) (b2i (RC S = 60)) (fresh S) (lost S) (b2i (smokes S = true)))))) [0, 17, 18, 19, 20, 21, 22, 23, 24, 25, 26, 1, 2, 3, 4, 5, 6, 7, 8, 9, 10, 11, 12, 13, 14, 15, 16] (by decide) rfl
    refine lv_iconst (v := 0) hx hb dX6_rest_28 (by decide) ?_
    refine lv_istore_n (lv' := [(2, .int 0), (0, .ref (hh 0)), (1, .int (nI j))]) hx hb dX6_rest_29 rfl hl0 (by decide) rfl (fun ls1 hl1 => ?_)
    clear hl0 ls0
    refine lv_iconst (v := 0) hx hb dX6_rest_30 (by decide) ?_
    refine lv_istore_n (lv' := [(3, .int 0), (2, .int 0), (0, .ref (hh 0)), (1, .int (nI j))]) hx hb dX6_rest_31 rfl hl1 (by decide) rfl (fun ls2 hl2 => ?_)
    clear hl1 ls1
    refine wlp (ι := Nat) (nL := 4) (fun x9 => (x9 ≤ gcN S)) (fun x9 => [sO cy hh a kk dd b w ee qq ik] ++ (pS cy a S ++ ([ia cy (hh 1) 7 C] ++ (aS cy b (PR S) F1_25 N1_25 B1_25 O1_25 Sd1_25 Dv1_25 L1_25 (nI (RC S)) (b2i (RC S = 60)) (fresh S) (lost S) (b2i (smokes S = true)))))) (fun x9 => [(3, .int (nI x9)), (2, .int (rst S (PR S) j x9)), (0, .ref (hh 0)), (1, .int (nI j))]) (fun x9 => []) (fun x9 => gcN S - x9) 32 ?_ 0 (by first | omega | assumption | rfl | simp_all) rfl hP2 hD2 hS2 (lv_sub hl2 [0, 1, 2, 3] rfl)
    clear hP2 hD2 hS2 locs2 H2 hl2 ls2
    intro x9 hI ih_32 H3 locs3 ls3 hP3 hD3 hS3 hl3
    obtain ⟨i, rfl⟩ : ∃ z9, z9 = x9 := ⟨_, rfl⟩
    have hi := hI
    replace hi : i ≤ gcN S := hi
    replace hP3 : va_P D vwCl ([sO cy hh a kk dd b w ee qq ik] ++ (pS cy a S ++ ([ia cy (hh 1) 7 C] ++ (aS cy b (PR S) F1_25 N1_25 B1_25 O1_25 Sd1_25 Dv1_25 L1_25 (nI (RC S)) (b2i (RC S = 60)) (fresh S) (lost S) (b2i (smokes S = true)))))) H3 := hP3
    replace hD3 : va_D (va_A _ sz) ([sO cy hh a kk dd b w ee qq ik] ++ (pS cy a S ++ ([ia cy (hh 1) 7 C] ++ (aS cy b (PR S) F1_25 N1_25 B1_25 O1_25 Sd1_25 Dv1_25 L1_25 (nI (RC S)) (b2i (RC S = 60)) (fresh S) (lost S) (b2i (smokes S = true)))))) := hD3
    replace hl3 : lv_has ls3 4 [(3, .int (nI i)), (2, .int (rst S (PR S) j i)), (0, .ref (hh 0)), (1, .int (nI j))] := hl3
    show W p l e _ s m _ below meth c _ _ _ _ _ (F0 m 32 ls3 [])
    refine lv_iload_n hx hb dX6_rest_32 rfl (lv_at hl3 0 rfl) ?_
    refine lv_aload_n hx hb dX6_rest_33 rfl (lv_at hl3 2 rfl) ?_
    refine va_get (D := D) (ci := 6) (v := .ref (a 0)) (C := RX6) (T := TX6) (N := 9) hx hb hw iX6 hown hK hP3 0 rfl rfl 0 (by decide) (hw _ kw_2_27) (fun _ h9 => h9) rfl dX6_rest_34 ?_
    refine va_get (D := D) (ci := 1) (v := .int (S 1)) (C := RX1) (T := TX1) (N := 12) hx hb hw iX1 hown hK hP3 1 rfl rfl 1 (by decide) (hw _ kw_1_35) (fun _ h9 => h9) rfl dX6_rest_37 ?_
    refine tp (show (S 1) = nI (gcN S) from wf_g wf) ?_
    refine ln_ge (tgt := 102) i (gcN S) rfl rfl (by omega) (by omega) hx hb dX6_rest_40 (by decide) (fun c_40 => ?_) (fun c_40 => ?_)
    · obtain rfl : i = gcN S := (by omega)
      refine lv_iload_n hx hb dX6_rest_102 rfl (lv_at hl3 1 rfl) ?_
      have hcd : cR S (nI j) = 7 := by unfold cR; clear hx hb hml hown hr hlocks hw hsz hA hG hK hP3 hD3 hS3 hl3 ih_32; grind
      have hq9 : ([sO cy hh a kk dd b w ee qq ik] ++ (pS cy a S ++ ([ia cy (hh 1) 7 C] ++ (aS cy b (PR S) F1_25 N1_25 B1_25 O1_25 Sd1_25 Dv1_25 L1_25 (nI (RC S)) (b2i (RC S = 60)) (fresh S) (lost S) (b2i (smokes S = true)))))) = ([sO cy hh a kk dd b w ee qq ik] ++ (pS cy a S ++ ([ia cy (hh 1) 7 (fnd C (cR S (nI j)))] ++ (aS cy b (PR S) F1_25 N1_25 B1_25 O1_25 Sd1_25 Dv1_25 L1_25 (nI (RC S)) (b2i (RC S = 60)) (fresh S) (lost S) (b2i (smokes S = true)))))) := congrArg (fun z9 => [sO cy hh a kk dd b w ee qq ik] ++ (pS cy a S ++ ([ia cy (hh 1) 7 z9] ++ (aS cy b (PR S) F1_25 N1_25 B1_25 O1_25 Sd1_25 Dv1_25 L1_25 (nI (RC S)) (b2i (RC S = 60)) (fresh S) (lost S) (b2i (smokes S = true)))))) (show C = (fnd C (cR S (nI j))) from fnd_o hcd)
      replace hP3 := (congrArg (fun z9 => va_P D vwCl z9 _) hq9).mp hP3
      replace hD3 := (congrArg (fun z9 => va_D _ z9) hq9).mp hD3
      clear hq9
      refine re_i (PR S, F1_25, N1_25, B1_25, O1_25, Sd1_25, Dv1_25, L1_25, nI (RC S), b2i (RC S = 60), fresh S, lost S, b2i (smokes S = true)) hx hb hr hlocks hP3 hD3 hS3 dX6_rest_103 ?_
      exact (ans_o hcd (by rw [hbj]))
    · have hotk := ot_k (k := j) wf c_40 (by omega)
      have hri := wf_rm6 wf c_40
      refine lv_aload_n hx hb dX6_rest_43 rfl (lv_at hl3 2 rfl) ?_
      refine va_get (D := D) (ci := 6) (v := .ref (a 0)) (C := RX6) (T := TX6) (N := 9) hx hb hw iX6 hown hK hP3 0 rfl rfl 0 (by decide) (hw _ kw_2_27) (fun _ h9 => h9) rfl dX6_rest_44 ?_
      refine va_get (D := D) (ci := 1) (v := .ref (a 2)) (C := RX1) (T := TX1) (N := 12) hx hb hw iX1 hown hK hP3 1 rfl rfl 3 (by decide) (hw _ kw_1_43) (fun _ h9 => h9) rfl dX6_rest_47 ?_
      refine lv_iload_n hx hb dX6_rest_50 rfl (lv_at hl3 0 rfl) ?_
      refine ald_i (f := fun g => S (10 + 8 * g)) hx hb hK hP3 3 0 rfl rfl i rfl (by first | omega | assumption) (by decide) dX6_rest_51 ?_
      refine tp (show (S (10 + 8 * i)) = nI (rmN S i) from wf_rm wf c_40) ?_
      refine lv_iload_n hx hb dX6_rest_52 rfl (lv_at hl3 3 rfl) ?_
      refine ln_ne (tgt := 71) (rmN S i) j rfl rfl (by omega) (by omega) hx hb dX6_rest_53 (by decide) (fun c_53 => ?_) (fun c_53 => ?_)
      · refine lv_aload_n hx hb dX6_rest_71 rfl (lv_at hl3 2 rfl) ?_
        refine va_get (D := D) (ci := 6) (v := .ref (a 0)) (C := RX6) (T := TX6) (N := 9) hx hb hw iX6 hown hK hP3 0 rfl rfl 0 (by decide) (hw _ kw_2_27) (fun _ h9 => h9) rfl dX6_rest_72 ?_
        refine va_get (D := D) (ci := 1) (v := .ref (a 3)) (C := RX1) (T := TX1) (N := 12) hx hb hw iX1 hown hK hP3 1 rfl rfl 4 (by decide) (hw _ kw_1_46) (fun _ h9 => h9) rfl dX6_rest_75 ?_
        refine lv_iload_n hx hb dX6_rest_78 rfl (lv_at hl3 0 rfl) ?_
        refine ald_i (f := fun g => S (11 + 8 * g)) hx hb hK hP3 4 0 rfl rfl i rfl (by first | omega | assumption) (by decide) dX6_rest_79 ?_
        refine lv_iload_n hx hb dX6_rest_80 rfl (lv_at hl3 3 rfl) ?_
        refine lv_icmp_ne (tgt := 96) hx hb dX6_rest_81 (by decide) (fun c_81 => ?_) (fun c_81 => ?_)
        · have hq9 : rst S (PR S) j (i + 1) = rst S (PR S) j i := by clear hx hb hml hown hr hlocks hw hsz hA hG hK hP3 hD3 hS3 hl3 ih_32; grind [rst]
          replace hl3 : lv_has ls3 4 [(3, .int (nI i)), (2, .int (rst S (PR S) j (i + 1))), (0, .ref (hh 0)), (1, .int (nI j))] := (congrArg (fun z9 => lv_has ls3 4 [(3, .int (nI i)), (2, .int z9), (0, .ref (hh 0)), (1, .int (nI j))]) hq9).mpr hl3
          clear hq9
          refine lv_iinc (v := nI (i + 1)) (lv' := [(3, .int (nI (i + 1))), (2, .int (rst S (PR S) j (i + 1))), (0, .ref (hh 0)), (1, .int (nI j))]) hx hb dX6_rest_96 hl3 (k := 0) rfl (nI_inc _) (by decide) rfl (fun ls4 hl4 => ?_)
          clear hl3 ls3
          refine lv_goto (tgt := 32) hx hb dX6_rest_99 (by decide) ?_
          exact ih_32 (i + 1) (by first | omega | assumption | rfl | simp_all) (by (try dsimp only); omega) H3 locs3 ls4 hP3 hD3 hS3 (lv_sub hl4 [0, 1, 2, 3] rfl)
        · refine lv_iload_n hx hb dX6_rest_84 rfl (lv_at hl3 1 rfl) ?_
          refine lv_aload_n hx hb dX6_rest_85 rfl (lv_at hl3 2 rfl) ?_
          refine va_get (D := D) (ci := 6) (v := .ref (b 0)) (C := RX6) (T := TX6) (N := 9) hx hb hw iX6 hown hK hP3 0 rfl rfl 4 (by decide) (hw _ kw_2_31) (fun _ h9 => h9) rfl dX6_rest_86 ?_
          refine va_get (D := D) (ci := 0) (v := .ref (b 2)) (C := RX0) (T := TX0) (N := 13) hx hb hw iX0 hown hK hP3 12 rfl rfl 1 (by decide) (hw _ kw_1_106) (fun _ h9 => h9) rfl dX6_rest_89 ?_
          refine lv_iload_n hx hb dX6_rest_92 rfl (lv_at hl3 0 rfl) ?_
          refine ald_i (f := F1_25) hx hb hK hP3 14 0 rfl rfl i rfl (by first | omega | assumption) (by decide) dX6_rest_93 ?_
          refine tp (show (F1_25 i) = flow S (PR S) i from hF_25 i c_40) ?_
          refine lv_isub hx hb dX6_rest_94 ?_
          refine lv_istore_n (lv' := [(2, .int ((rst S (PR S) j i) - (flow S (PR S) i))), (3, .int (nI i)), (0, .ref (hh 0)), (1, .int (nI j))]) hx hb dX6_rest_95 rfl hl3 (by decide) rfl (fun ls4 hl4 => ?_)
          clear hl3 ls3
          have hq9 : rst S (PR S) j (i + 1) = (rst S (PR S) j i) - (flow S (PR S) i) := by clear hx hb hml hown hr hlocks hw hsz hA hG hK hP3 hD3 hS3 hl4 ih_32; grind [rst]
          replace hl4 : lv_has ls4 4 [(2, .int (rst S (PR S) j (i + 1))), (3, .int (nI i)), (0, .ref (hh 0)), (1, .int (nI j))] := (congrArg (fun z9 => lv_has ls4 4 [(2, .int z9), (3, .int (nI i)), (0, .ref (hh 0)), (1, .int (nI j))]) hq9).mpr hl4
          clear hq9
          refine lv_iinc (v := nI (i + 1)) (lv' := [(3, .int (nI (i + 1))), (2, .int (rst S (PR S) j (i + 1))), (0, .ref (hh 0)), (1, .int (nI j))]) hx hb dX6_rest_96 hl4 (k := 1) rfl (nI_inc _) (by decide) rfl (fun ls5 hl5 => ?_)
          clear hl4 ls4
          refine lv_goto (tgt := 32) hx hb dX6_rest_99 (by decide) ?_
          exact ih_32 (i + 1) (by first | omega | assumption | rfl | simp_all) (by (try dsimp only); omega) H3 locs3 ls5 hP3 hD3 hS3 (lv_sub hl5 [0, 1, 2, 3] rfl)
      · refine lv_iload_n hx hb dX6_rest_56 rfl (lv_at hl3 1 rfl) ?_
        refine lv_aload_n hx hb dX6_rest_57 rfl (lv_at hl3 2 rfl) ?_
        refine va_get (D := D) (ci := 6) (v := .ref (b 0)) (C := RX6) (T := TX6) (N := 9) hx hb hw iX6 hown hK hP3 0 rfl rfl 4 (by decide) (hw _ kw_2_31) (fun _ h9 => h9) rfl dX6_rest_58 ?_
        refine va_get (D := D) (ci := 0) (v := .ref (b 2)) (C := RX0) (T := TX0) (N := 13) hx hb hw iX0 hown hK hP3 12 rfl rfl 1 (by decide) (hw _ kw_1_106) (fun _ h9 => h9) rfl dX6_rest_61 ?_
        refine lv_iload_n hx hb dX6_rest_64 rfl (lv_at hl3 0 rfl) ?_
        refine ald_i (f := F1_25) hx hb hK hP3 14 0 rfl rfl i rfl (by first | omega | assumption) (by decide) dX6_rest_65 ?_
        refine tp (show (F1_25 i) = flow S (PR S) i from hF_25 i c_40) ?_
        refine lv_iadd hx hb dX6_rest_66 ?_
        refine lv_istore_n (lv' := [(2, .int ((rst S (PR S) j i) + (flow S (PR S) i))), (3, .int (nI i)), (0, .ref (hh 0)), (1, .int (nI j))]) hx hb dX6_rest_67 rfl hl3 (by decide) rfl (fun ls4 hl4 => ?_)
        clear hl3 ls3
        refine lv_goto (tgt := 96) hx hb dX6_rest_68 (by decide) ?_
        have hq9 : rst S (PR S) j (i + 1) = (rst S (PR S) j i) + (flow S (PR S) i) := by clear hx hb hml hown hr hlocks hw hsz hA hG hK hP3 hD3 hS3 hl4 ih_32; grind [rst]
        replace hl4 : lv_has ls4 4 [(2, .int (rst S (PR S) j (i + 1))), (3, .int (nI i)), (0, .ref (hh 0)), (1, .int (nI j))] := (congrArg (fun z9 => lv_has ls4 4 [(2, .int z9), (3, .int (nI i)), (0, .ref (hh 0)), (1, .int (nI j))]) hq9).mpr hl4
        clear hq9
        refine lv_iinc (v := nI (i + 1)) (lv' := [(3, .int (nI (i + 1))), (2, .int (rst S (PR S) j (i + 1))), (0, .ref (hh 0)), (1, .int (nI j))]) hx hb dX6_rest_96 hl4 (k := 1) rfl (nI_inc _) (by decide) rfl (fun ls5 hl5 => ?_)
        clear hl4 ls4
        refine lv_goto (tgt := 32) hx hb dX6_rest_99 (by decide) ?_
        exact ih_32 (i + 1) (by first | omega | assumption | rfl | simp_all) (by (try dsimp only); omega) H3 locs3 ls5 hP3 hD3 hS3 (lv_sub hl5 [0, 1, 2, 3] rfl)
  · refine lv_aload_n hx hb dX6_rest_11 rfl (lv_at hl0 0 rfl) ?_
    refine lv_iconst (v := 0) hx hb dX6_rest_12 (by decide) ?_
    refine cV_i (wc := [sO cy hh a kk dd b w ee qq ik, ia cy (hh 1) 7 C]) (wr := pS cy a S ++ (aS cy b P F N B O Sd Dv L rc re fr lo sm)) (rest := []) hx hb hml hown hw hG hK hP1 hD1 hS1 hA hl0 kc_X6_find kw_2_59 [.int 0] (c_X6_find l D cy G H1.size hh a kk dd b w ee qq ik C 0 (by first | omega | assumption)) [0, 11] [1, 2, 3, 4, 5, 6, 7, 8, 9, 10, 12, 13, 14, 15, 16, 17, 18, 19, 20, 21, 22, 23, 24, 25, 26] rfl rfl rfl rfl rfl 0 rfl rfl rfl rfl rfl (Nat.le_of_ble_eq_true rfl) ⟨Nat.le_of_ble_eq_true rfl, Nat.le_of_ble_eq_true rfl⟩ dX6_rest_13 ⟨Nat.le_of_ble_eq_true rfl, Nat.le_of_ble_eq_true rfl⟩ (fun r_13 u9 H2 locs2 hu9 hP2 hD2 hS2 => ?_)
    clear hP1 hD1 hS1 locs1 H1
    have hr_13 := hu9
    replace hP2 : va_P D vwCl (pS cy a S ++ (aS cy b P F N B O Sd Dv L rc re fr lo sm ++ ([sO cy hh a kk dd b w ee qq ik, ia cy (hh 1) 7 (upd C 0 (C 0 + 1))]))) H2 := hP2
    replace hD2 : va_D (va_A _ sz) (pS cy a S ++ (aS cy b P F N B O Sd Dv L rc re fr lo sm ++ ([sO cy hh a kk dd b w ee qq ik, ia cy (hh 1) 7 (upd C 0 (C 0 + 1))]))) := hD2
    replace hP2 := hP2.sub (ws' := [sO cy hh a kk dd b w ee qq ik] ++ (pS cy a S ++ ([ia cy (hh 1) 7 (upd C 0 (C 0 + 1))] ++ (aS cy b P F N B O Sd Dv L rc re fr lo sm)))) [25, 0, 1, 2, 3, 4, 5, 6, 7, 8, 9, 26, 10, 11, 12, 13, 14, 15, 16, 17, 18, 19, 20, 21, 22, 23, 24] rfl
    replace hD2 := hD2.sub (ws' := [sO cy hh a kk dd b w ee qq ik] ++ (pS cy a S ++ ([ia cy (hh 1) 7 (upd C 0 (C 0 + 1))] ++ (aS cy b P F N B O Sd Dv L rc re fr lo sm)))) [25, 0, 1, 2, 3, 4, 5, 6, 7, 8, 9, 26, 10, 11, 12, 13, 14, 15, 16, 17, 18, 19, 20, 21, 22, 23, 24] (by decide) rfl
    subst hr_13
    have hcd : cR S x1 = 0 := by unfold cR; clear hx hb hml hown hr hlocks hw hsz hA hG hK hP2 hD2 hS2 hl0; grind
    have hq9 : ([sO cy hh a kk dd b w ee qq ik] ++ (pS cy a S ++ ([ia cy (hh 1) 7 (upd C 0 (C 0 + 1))] ++ (aS cy b P F N B O Sd Dv L rc re fr lo sm)))) = ([sO cy hh a kk dd b w ee qq ik] ++ (pS cy a S ++ ([ia cy (hh 1) 7 (fnd C (cR S x1))] ++ (aS cy b P F N B O Sd Dv L rc re fr lo sm)))) := congrArg (fun z9 => [sO cy hh a kk dd b w ee qq ik] ++ (pS cy a S ++ ([ia cy (hh 1) 7 z9] ++ (aS cy b P F N B O Sd Dv L rc re fr lo sm)))) (show (upd C 0 (C 0 + 1)) = (fnd C (cR S x1)) from fnd_f hcd (by decide))
    replace hP2 := (congrArg (fun z9 => va_P D vwCl z9 _) hq9).mp hP2
    replace hD2 := (congrArg (fun z9 => va_D _ z9) hq9).mp hD2
    clear hq9
    refine re_i (P, F, N, B, O, Sd, Dv, L, rc, re, fr, lo, sm) hx hb hr hlocks hP2 hD2 hS2 dX6_rest_16 ?_
    exact (ans_f hcd (by decide) rfl)

theorem kc_X6_air : kV yX6_air cX6_air 2 (some .int) 1 := ⟨kw_3_108, kw_3_109, kw_1_1, kw_3_110, by decide, by decide, by decide +kernel⟩
set_option maxHeartbeats 4000000 in
set_option maxRecDepth 100000 in
theorem c_X6_air (l : Launch) (D : va_G) (cy : Nat → ClassId) (G : Nat → Nat) (sz : Nat) (hh : Nat → Nat) (a : Nat → Nat) (kk : Nat → Nat) (dd : Nat → Nat) (b : Nat → Nat) (w : Nat → Nat) (ee : Nat → Nat) (qq : Nat → Nat) (ik : Int32) (S : Nat → Int32) (C : Nat → Int32) (P : Nat → Int32) (F : Nat → Int32) (N : Nat → Int32) (B : Nat → Int32) (O : Nat → Int32) (Sd : Nat → Int32) (Dv : Nat → Int32) (L : Nat → Nat → Int32) (rc : Int32) (re : Int32) (fr : Int32) (lo : Int32) (sm : Int32) (x1 : Int32) (wf : wf S) : Met l yX6_air (wm yX6_air cX6_air 2 (some .int)) { frames := 5, cells := 0, slots := 0, locals := 109 } (va_Pc [.ref (hh 0), .int x1] (pr D (TY cy) G ([sO cy hh a kk dd b w ee qq ik] ++ (pS cy a S ++ ([ia cy (hh 1) 7 C] ++ (aS cy b P F N B O Sd Dv L rc re fr lo sm)))) sz)) (va_Qi (fun (r : Int32) (u : (Nat → Int32) × (Nat → Int32) × (Nat → Int32) × (Nat → Int32) × (Nat → Int32) × (Nat → Int32) × (Nat → Int32) × (Nat → Nat → Int32) × Int32 × Int32 × Int32 × Int32 × Int32) => r = ans (cAir x1) (vAir S x1)) (fun (u : (Nat → Int32) × (Nat → Int32) × (Nat → Int32) × (Nat → Int32) × (Nat → Int32) × (Nat → Int32) × (Nat → Int32) × (Nat → Nat → Int32) × Int32 × Int32 × Int32 × Int32 × Int32) t => po D (va_A ([sO cy hh a kk dd b w ee qq ik] ++ (pS cy a S ++ ([ia cy (hh 1) 7 C] ++ (aS cy b P F N B O Sd Dv L rc re fr lo sm)))) sz) ([sO cy hh a kk dd b w ee qq ik] ++ (pS cy a S ++ ([ia cy (hh 1) 7 (fnd C (cAir x1))] ++ (aS cy b u.1 u.2.1 u.2.2.1 u.2.2.2.1 u.2.2.2.2.1 u.2.2.2.2.2.1 u.2.2.2.2.2.2.1 u.2.2.2.2.2.2.2.1 u.2.2.2.2.2.2.2.2.1 u.2.2.2.2.2.2.2.2.2.1 u.2.2.2.2.2.2.2.2.2.2.1 u.2.2.2.2.2.2.2.2.2.2.2.1 u.2.2.2.2.2.2.2.2.2.2.2.2)))) t) (va_A ([sO cy hh a kk dd b w ee qq ik] ++ (pS cy a S ++ ([ia cy (hh 1) 7 C] ++ (aS cy b P F N B O Sd Dv L rc re fr lo sm)))) sz)) 0 0 (va_A ([sO cy hh a kk dd b w ee qq ik] ++ (pS cy a S ++ ([ia cy (hh 1) 7 C] ++ (aS cy b P F N B O Sd Dv L rc re fr lo sm)))) sz) := by
  refine mk_rw (by decide) RX6 rfl (Nat.le_of_ble_eq_true rfl) [(0, .ref (hh 0)), (1, .int x1)] rfl ?_
  intro p e s m below meth c hx hb hml hown hr hlocks hin hw hsz hA hG hK H0 locs0 hP0 hD0 hS0 ls0 hl0
  clear hin
  refine lv_iload_n hx hb dX6_air_0 rfl (lv_at hl0 1 rfl) ?_
  refine lv_if_lt (tgt := 9) hx hb dX6_air_1 (by decide) (fun c_1 => ?_) (fun c_1 => ?_)
  · refine lv_aload_n hx hb dX6_air_9 rfl (lv_at hl0 0 rfl) ?_
    refine lv_iconst (v := 0) hx hb dX6_air_10 (by decide) ?_
    refine cV_i (wc := [sO cy hh a kk dd b w ee qq ik, ia cy (hh 1) 7 C]) (wr := pS cy a S ++ (aS cy b P F N B O Sd Dv L rc re fr lo sm)) (rest := []) hx hb hml hown hw hG hK hP0 hD0 hS0 hA hl0 kc_X6_find kw_2_59 [.int 0] (c_X6_find l D cy G H0.size hh a kk dd b w ee qq ik C 0 (by first | omega | assumption)) [0, 11] [1, 2, 3, 4, 5, 6, 7, 8, 9, 10, 12, 13, 14, 15, 16, 17, 18, 19, 20, 21, 22, 23, 24, 25, 26] rfl rfl rfl rfl rfl 0 rfl rfl rfl rfl rfl (Nat.le_of_ble_eq_true rfl) ⟨Nat.le_of_ble_eq_true rfl, Nat.le_of_ble_eq_true rfl⟩ dX6_air_11 ⟨Nat.le_of_ble_eq_true rfl, Nat.le_of_ble_eq_true rfl⟩ (fun r_11 u9 H1 locs1 hu9 hP1 hD1 hS1 => ?_)
    clear hP0 hD0 hS0 locs0 H0
    have hr_11 := hu9
    replace hP1 : va_P D vwCl (pS cy a S ++ (aS cy b P F N B O Sd Dv L rc re fr lo sm ++ ([sO cy hh a kk dd b w ee qq ik, ia cy (hh 1) 7 (upd C 0 (C 0 + 1))]))) H1 := hP1
    replace hD1 : va_D (va_A _ sz) (pS cy a S ++ (aS cy b P F N B O Sd Dv L rc re fr lo sm ++ ([sO cy hh a kk dd b w ee qq ik, ia cy (hh 1) 7 (upd C 0 (C 0 + 1))]))) := hD1
    replace hP1 := hP1.sub (ws' := [sO cy hh a kk dd b w ee qq ik] ++ (pS cy a S ++ ([ia cy (hh 1) 7 (upd C 0 (C 0 + 1))] ++ (aS cy b P F N B O Sd Dv L rc re fr lo sm)))) [25, 0, 1, 2, 3, 4, 5, 6, 7, 8, 9, 26, 10, 11, 12, 13, 14, 15, 16, 17, 18, 19, 20, 21, 22, 23, 24] rfl
    replace hD1 := hD1.sub (ws' := [sO cy hh a kk dd b w ee qq ik] ++ (pS cy a S ++ ([ia cy (hh 1) 7 (upd C 0 (C 0 + 1))] ++ (aS cy b P F N B O Sd Dv L rc re fr lo sm)))) [25, 0, 1, 2, 3, 4, 5, 6, 7, 8, 9, 26, 10, 11, 12, 13, 14, 15, 16, 17, 18, 19, 20, 21, 22, 23, 24] (by decide) rfl
    subst hr_11
    have hcd : cAir x1 = 0 := by unfold cAir; clear hx hb hml hown hr hlocks hw hsz hA hG hK hP1 hD1 hS1 hl0; grind
    have hq9 : ([sO cy hh a kk dd b w ee qq ik] ++ (pS cy a S ++ ([ia cy (hh 1) 7 (upd C 0 (C 0 + 1))] ++ (aS cy b P F N B O Sd Dv L rc re fr lo sm)))) = ([sO cy hh a kk dd b w ee qq ik] ++ (pS cy a S ++ ([ia cy (hh 1) 7 (fnd C (cAir x1))] ++ (aS cy b P F N B O Sd Dv L rc re fr lo sm)))) := congrArg (fun z9 => [sO cy hh a kk dd b w ee qq ik] ++ (pS cy a S ++ ([ia cy (hh 1) 7 z9] ++ (aS cy b P F N B O Sd Dv L rc re fr lo sm)))) (show (upd C 0 (C 0 + 1)) = (fnd C (cAir x1)) from fnd_f hcd (by decide))
    replace hP1 := (congrArg (fun z9 => va_P D vwCl z9 _) hq9).mp hP1
    replace hD1 := (congrArg (fun z9 => va_D _ z9) hq9).mp hD1
    clear hq9
    refine re_i (P, F, N, B, O, Sd, Dv, L, rc, re, fr, lo, sm) hx hb hr hlocks hP1 hD1 hS1 dX6_air_14 ?_
    exact (ans_f hcd (by decide) rfl)
  · refine lv_iload_n hx hb dX6_air_4 rfl (lv_at hl0 1 rfl) ?_
    refine lv_iconst (v := 3) hx hb dX6_air_5 (by decide) ?_
    refine lv_icmp_le (tgt := 15) hx hb dX6_air_6 (by decide) (fun c_6 => ?_) (fun c_6 => ?_)
    · refine lv_aload_n hx hb dX6_air_15 rfl (lv_at hl0 0 rfl) ?_
      refine va_get (D := D) (ci := 6) (v := .ref (b 0)) (C := RX6) (T := TX6) (N := 9) hx hb hw iX6 hown hK hP0 0 rfl rfl 4 (by decide) (hw _ kw_2_31) (fun _ h9 => h9) rfl dX6_air_16 ?_
      refine lv_aload_n hx hb dX6_air_19 rfl (lv_at hl0 0 rfl) ?_
      refine va_get (D := D) (ci := 6) (v := .ref (a 0)) (C := RX6) (T := TX6) (N := 9) hx hb hw iX6 hown hK hP0 0 rfl rfl 0 (by decide) (hw _ kw_2_27) (fun _ h9 => h9) rfl dX6_air_20 ?_
      refine cV_v (wc := aS cy b P F N B O Sd Dv L rc re fr lo sm ++ (pS cy a S)) (wr := [sO cy hh a kk dd b w ee qq ik, ia cy (hh 1) 7 C]) (rest := []) hx hb hml hown hw hG hK hP0 hD0 hS0 hA hl0 kc_X0_settle kw_3_52 [.ref (a 0)] (c_X0_settle l D cy G H0.size b P F N B O Sd Dv L rc re fr lo sm a S (by first | omega | assumption)) [12, 13, 14, 15, 16, 17, 18, 19, 20, 21, 22, 23, 24, 25, 26, 1, 2, 3, 4, 5, 6, 7, 8, 9, 10] [0, 11] rfl rfl rfl rfl rfl 0 rfl rfl rfl rfl rfl (Nat.le_of_ble_eq_true rfl) ⟨Nat.le_of_ble_eq_true rfl, Nat.le_of_ble_eq_true rfl⟩ dX6_air_23 ⟨Nat.le_of_ble_eq_true rfl, Nat.le_of_ble_eq_true rfl⟩ (fun u9 H1 locs1 hu9 hP1 hD1 hS1 => ?_)
      clear hP0 hD0 hS0 locs0 H0
      obtain ⟨F1_23, N1_23, B1_23, O1_23, Sd1_23, Dv1_23, L1_23⟩ := u9
      have hF_23 := hu9
      replace hF_23 : ∀ g, g < gcN S → F1_23 g = flow S (PR S) g := hF_23
      replace hP1 : va_P D vwCl ([sO cy hh a kk dd b w ee qq ik, ia cy (hh 1) 7 C] ++ (aS cy b (PR S) F1_23 N1_23 B1_23 O1_23 Sd1_23 Dv1_23 L1_23 (nI (RC S)) (b2i (RC S = 60)) (fresh S) (lost S) (b2i (smokes S = true)) ++ (pS cy a S))) H1 := hP1
      replace hD1 : va_D (va_A _ sz) ([sO cy hh a kk dd b w ee qq ik, ia cy (hh 1) 7 C] ++ (aS cy b (PR S) F1_23 N1_23 B1_23 O1_23 Sd1_23 Dv1_23 L1_23 (nI (RC S)) (b2i (RC S = 60)) (fresh S) (lost S) (b2i (smokes S = true)) ++ (pS cy a S))) := hD1
      replace hP1 := hP1.sub (ws' := [sO cy hh a kk dd b w ee qq ik] ++ (pS cy a S ++ ([ia cy (hh 1) 7 C] ++ (aS cy b (PR S) F1_23 N1_23 B1_23 O1_23 Sd1_23 Dv1_23 L1_23 (nI (RC S)) (b2i (RC S = 60)) (fresh S) (lost S) (b2i (smokes S = true)))))) [0, 17, 18, 19, 20, 21, 22, 23, 24, 25, 26, 1, 2, 3, 4, 5, 6, 7, 8, 9, 10, 11, 12, 13, 14, 15, 16] rfl
      replace hD1 := hD1.sub (ws' := [sO cy hh a kk dd b w ee qq ik] ++ (pS cy a S ++ ([ia cy (hh 1) 7 C] ++ (aS cy b (PR S) F1_23 N1_23 B1_23 O1_23 Sd1_23 Dv1_23 L1_23 (nI (RC S)) (b2i (RC S = 60)) (fresh S) (lost S) (b2i (smokes S = true)))))) [0, 17, 18, 19, 20, 21, 22, 23, 24, 25, 26, 1, 2, 3, 4, 5, 6, 7, 8, 9, 10, 11, 12, 13, 14, 15, 16] (by decide) rfl
      refine lv_iload_n hx hb dX6_air_26 rfl (lv_at hl0 1 rfl) ?_
      by_cases c_27_0 : x1 = 0
      · refine tp c_27_0 ?_
        refine lv_tableIn (off := 25) (tgt := 52) hx hb dX6_air_27 (by decide) (by decide) (by decide) (by decide) ?_
        refine lv_aload_n hx hb dX6_air_52 rfl (lv_at hl0 0 rfl) ?_
        refine va_get (D := D) (ci := 6) (v := .ref (b 0)) (C := RX6) (T := TX6) (N := 9) hx hb hw iX6 hown hK hP1 0 rfl rfl 4 (by decide) (hw _ kw_2_31) (fun _ h9 => h9) rfl dX6_air_53 ?_
        refine va_get (D := D) (ci := 0) (v := .int (fresh S)) (C := RX0) (T := TX0) (N := 13) hx hb hw iX0 hown hK hP1 12 rfl rfl 4 (by decide) (hw _ kw_1_113) (fun _ h9 => h9) rfl dX6_air_56 ?_
        have hcd : cAir x1 = 7 := by unfold cAir; clear hx hb hml hown hr hlocks hw hsz hA hG hK hP1 hD1 hS1 hl0; grind
        have hq9 : ([sO cy hh a kk dd b w ee qq ik] ++ (pS cy a S ++ ([ia cy (hh 1) 7 C] ++ (aS cy b (PR S) F1_23 N1_23 B1_23 O1_23 Sd1_23 Dv1_23 L1_23 (nI (RC S)) (b2i (RC S = 60)) (fresh S) (lost S) (b2i (smokes S = true)))))) = ([sO cy hh a kk dd b w ee qq ik] ++ (pS cy a S ++ ([ia cy (hh 1) 7 (fnd C (cAir x1))] ++ (aS cy b (PR S) F1_23 N1_23 B1_23 O1_23 Sd1_23 Dv1_23 L1_23 (nI (RC S)) (b2i (RC S = 60)) (fresh S) (lost S) (b2i (smokes S = true)))))) := congrArg (fun z9 => [sO cy hh a kk dd b w ee qq ik] ++ (pS cy a S ++ ([ia cy (hh 1) 7 z9] ++ (aS cy b (PR S) F1_23 N1_23 B1_23 O1_23 Sd1_23 Dv1_23 L1_23 (nI (RC S)) (b2i (RC S = 60)) (fresh S) (lost S) (b2i (smokes S = true)))))) (show C = (fnd C (cAir x1)) from fnd_o hcd)
        replace hP1 := (congrArg (fun z9 => va_P D vwCl z9 _) hq9).mp hP1
        replace hD1 := (congrArg (fun z9 => va_D _ z9) hq9).mp hD1
        clear hq9
        refine re_i (PR S, F1_23, N1_23, B1_23, O1_23, Sd1_23, Dv1_23, L1_23, nI (RC S), b2i (RC S = 60), fresh S, lost S, b2i (smokes S = true)) hx hb hr hlocks hP1 hD1 hS1 dX6_air_59 ?_
        exact (ans_o hcd (by unfold vAir; clear hx hb hml hown hr hlocks hw hsz hA hG hK hP1 hD1 hS1 hl0; grind [b2i]))
      by_cases c_27_1 : x1 = 1
      · refine tp c_27_1 ?_
        refine lv_tableIn (off := 33) (tgt := 60) hx hb dX6_air_27 (by decide) (by decide) (by decide) (by decide) ?_
        refine lv_aload_n hx hb dX6_air_60 rfl (lv_at hl0 0 rfl) ?_
        refine va_get (D := D) (ci := 6) (v := .ref (b 0)) (C := RX6) (T := TX6) (N := 9) hx hb hw iX6 hown hK hP1 0 rfl rfl 4 (by decide) (hw _ kw_2_31) (fun _ h9 => h9) rfl dX6_air_61 ?_
        refine va_get (D := D) (ci := 0) (v := .int (lost S)) (C := RX0) (T := TX0) (N := 13) hx hb hw iX0 hown hK hP1 12 rfl rfl 5 (by decide) (hw _ kw_1_116) (fun _ h9 => h9) rfl dX6_air_64 ?_
        have hcd : cAir x1 = 7 := by unfold cAir; clear hx hb hml hown hr hlocks hw hsz hA hG hK hP1 hD1 hS1 hl0; grind
        have hq9 : ([sO cy hh a kk dd b w ee qq ik] ++ (pS cy a S ++ ([ia cy (hh 1) 7 C] ++ (aS cy b (PR S) F1_23 N1_23 B1_23 O1_23 Sd1_23 Dv1_23 L1_23 (nI (RC S)) (b2i (RC S = 60)) (fresh S) (lost S) (b2i (smokes S = true)))))) = ([sO cy hh a kk dd b w ee qq ik] ++ (pS cy a S ++ ([ia cy (hh 1) 7 (fnd C (cAir x1))] ++ (aS cy b (PR S) F1_23 N1_23 B1_23 O1_23 Sd1_23 Dv1_23 L1_23 (nI (RC S)) (b2i (RC S = 60)) (fresh S) (lost S) (b2i (smokes S = true)))))) := congrArg (fun z9 => [sO cy hh a kk dd b w ee qq ik] ++ (pS cy a S ++ ([ia cy (hh 1) 7 z9] ++ (aS cy b (PR S) F1_23 N1_23 B1_23 O1_23 Sd1_23 Dv1_23 L1_23 (nI (RC S)) (b2i (RC S = 60)) (fresh S) (lost S) (b2i (smokes S = true)))))) (show C = (fnd C (cAir x1)) from fnd_o hcd)
        replace hP1 := (congrArg (fun z9 => va_P D vwCl z9 _) hq9).mp hP1
        replace hD1 := (congrArg (fun z9 => va_D _ z9) hq9).mp hD1
        clear hq9
        refine re_i (PR S, F1_23, N1_23, B1_23, O1_23, Sd1_23, Dv1_23, L1_23, nI (RC S), b2i (RC S = 60), fresh S, lost S, b2i (smokes S = true)) hx hb hr hlocks hP1 hD1 hS1 dX6_air_67 ?_
        exact (ans_o hcd (by unfold vAir; clear hx hb hml hown hr hlocks hw hsz hA hG hK hP1 hD1 hS1 hl0; grind [b2i]))
      by_cases c_27_2 : x1 = 2
      · refine tp c_27_2 ?_
        refine lv_tableIn (off := 41) (tgt := 68) hx hb dX6_air_27 (by decide) (by decide) (by decide) (by decide) ?_
        refine lv_aload_n hx hb dX6_air_68 rfl (lv_at hl0 0 rfl) ?_
        refine va_get (D := D) (ci := 6) (v := .ref (b 0)) (C := RX6) (T := TX6) (N := 9) hx hb hw iX6 hown hK hP1 0 rfl rfl 4 (by decide) (hw _ kw_2_31) (fun _ h9 => h9) rfl dX6_air_69 ?_
        refine va_get (D := D) (ci := 0) (v := .int (b2i (smokes S = true))) (C := RX0) (T := TX0) (N := 13) hx hb hw iX0 hown hK hP1 12 rfl rfl 6 (by decide) (hw _ kw_1_119) (fun _ h9 => h9) rfl dX6_air_72 ?_
        refine lb_eq (tgt := 82) hx hb dX6_air_75 (by decide) (fun c_75 => ?_) (fun c_75 => ?_)
        · refine lv_iconst (v := 0) hx hb dX6_air_82 (by decide) ?_
          have hcd : cAir x1 = 7 := by unfold cAir; clear hx hb hml hown hr hlocks hw hsz hA hG hK hP1 hD1 hS1 hl0; grind
          have hq9 : ([sO cy hh a kk dd b w ee qq ik] ++ (pS cy a S ++ ([ia cy (hh 1) 7 C] ++ (aS cy b (PR S) F1_23 N1_23 B1_23 O1_23 Sd1_23 Dv1_23 L1_23 (nI (RC S)) (b2i (RC S = 60)) (fresh S) (lost S) (b2i (smokes S = true)))))) = ([sO cy hh a kk dd b w ee qq ik] ++ (pS cy a S ++ ([ia cy (hh 1) 7 (fnd C (cAir x1))] ++ (aS cy b (PR S) F1_23 N1_23 B1_23 O1_23 Sd1_23 Dv1_23 L1_23 (nI (RC S)) (b2i (RC S = 60)) (fresh S) (lost S) (b2i (smokes S = true)))))) := congrArg (fun z9 => [sO cy hh a kk dd b w ee qq ik] ++ (pS cy a S ++ ([ia cy (hh 1) 7 z9] ++ (aS cy b (PR S) F1_23 N1_23 B1_23 O1_23 Sd1_23 Dv1_23 L1_23 (nI (RC S)) (b2i (RC S = 60)) (fresh S) (lost S) (b2i (smokes S = true)))))) (show C = (fnd C (cAir x1)) from fnd_o hcd)
          replace hP1 := (congrArg (fun z9 => va_P D vwCl z9 _) hq9).mp hP1
          replace hD1 := (congrArg (fun z9 => va_D _ z9) hq9).mp hD1
          clear hq9
          refine re_i (PR S, F1_23, N1_23, B1_23, O1_23, Sd1_23, Dv1_23, L1_23, nI (RC S), b2i (RC S = 60), fresh S, lost S, b2i (smokes S = true)) hx hb hr hlocks hP1 hD1 hS1 dX6_air_83 ?_
          exact (ans_o hcd (by unfold vAir; clear hx hb hml hown hr hlocks hw hsz hA hG hK hP1 hD1 hS1 hl0; grind [b2i]))
        · refine lv_iconst (v := 1) hx hb dX6_air_78 (by decide) ?_
          refine lv_goto (tgt := 83) hx hb dX6_air_79 (by decide) ?_
          have hcd : cAir x1 = 7 := by unfold cAir; clear hx hb hml hown hr hlocks hw hsz hA hG hK hP1 hD1 hS1 hl0; grind
          have hq9 : ([sO cy hh a kk dd b w ee qq ik] ++ (pS cy a S ++ ([ia cy (hh 1) 7 C] ++ (aS cy b (PR S) F1_23 N1_23 B1_23 O1_23 Sd1_23 Dv1_23 L1_23 (nI (RC S)) (b2i (RC S = 60)) (fresh S) (lost S) (b2i (smokes S = true)))))) = ([sO cy hh a kk dd b w ee qq ik] ++ (pS cy a S ++ ([ia cy (hh 1) 7 (fnd C (cAir x1))] ++ (aS cy b (PR S) F1_23 N1_23 B1_23 O1_23 Sd1_23 Dv1_23 L1_23 (nI (RC S)) (b2i (RC S = 60)) (fresh S) (lost S) (b2i (smokes S = true)))))) := congrArg (fun z9 => [sO cy hh a kk dd b w ee qq ik] ++ (pS cy a S ++ ([ia cy (hh 1) 7 z9] ++ (aS cy b (PR S) F1_23 N1_23 B1_23 O1_23 Sd1_23 Dv1_23 L1_23 (nI (RC S)) (b2i (RC S = 60)) (fresh S) (lost S) (b2i (smokes S = true)))))) (show C = (fnd C (cAir x1)) from fnd_o hcd)
          replace hP1 := (congrArg (fun z9 => va_P D vwCl z9 _) hq9).mp hP1
          replace hD1 := (congrArg (fun z9 => va_D _ z9) hq9).mp hD1
          clear hq9
          refine re_i (PR S, F1_23, N1_23, B1_23, O1_23, Sd1_23, Dv1_23, L1_23, nI (RC S), b2i (RC S = 60), fresh S, lost S, b2i (smokes S = true)) hx hb hr hlocks hP1 hD1 hS1 dX6_air_83 ?_
          exact (ans_o hcd (by unfold vAir; clear hx hb hml hown hr hlocks hw hsz hA hG hK hP1 hD1 hS1 hl0; grind [b2i]))
      refine lv_tableOut (tgt := 84) hx hb dX6_air_27 (sw_out 0 2 (fun v h1 h2 e => ?_)) (by decide) ?_
      · have e := Int32.toInt_inj.mp (e.trans (show v = ((Int32.ofInt v).toInt) from by rcases (show v = 0 ∨ v = 1 ∨ v = 2 by omega) with rfl | rfl | rfl <;> rfl))
        rcases (show v = 0 ∨ v = 1 ∨ v = 2 by omega) with rfl | rfl | rfl
        · exact c_27_0 e
        · exact c_27_1 e
        · exact c_27_2 e
      · refine lv_aload_n hx hb dX6_air_84 rfl (lv_at hl0 0 rfl) ?_
        refine va_get (D := D) (ci := 6) (v := .ref (b 0)) (C := RX6) (T := TX6) (N := 9) hx hb hw iX6 hown hK hP1 0 rfl rfl 4 (by decide) (hw _ kw_2_31) (fun _ h9 => h9) rfl dX6_air_85 ?_
        refine va_get (D := D) (ci := 0) (v := .int (b2i (RC S = 60))) (C := RX0) (T := TX0) (N := 13) hx hb hw iX0 hown hK hP1 12 rfl rfl 3 (by decide) (hw _ kw_1_110) (fun _ h9 => h9) rfl dX6_air_88 ?_
        refine lb_eq (tgt := 98) hx hb dX6_air_91 (by decide) (fun c_91 => ?_) (fun c_91 => ?_)
        · refine lv_iconst (v := 0) hx hb dX6_air_98 (by decide) ?_
          have hcd : cAir x1 = 7 := by unfold cAir; clear hx hb hml hown hr hlocks hw hsz hA hG hK hP1 hD1 hS1 hl0; grind
          have hq9 : ([sO cy hh a kk dd b w ee qq ik] ++ (pS cy a S ++ ([ia cy (hh 1) 7 C] ++ (aS cy b (PR S) F1_23 N1_23 B1_23 O1_23 Sd1_23 Dv1_23 L1_23 (nI (RC S)) (b2i (RC S = 60)) (fresh S) (lost S) (b2i (smokes S = true)))))) = ([sO cy hh a kk dd b w ee qq ik] ++ (pS cy a S ++ ([ia cy (hh 1) 7 (fnd C (cAir x1))] ++ (aS cy b (PR S) F1_23 N1_23 B1_23 O1_23 Sd1_23 Dv1_23 L1_23 (nI (RC S)) (b2i (RC S = 60)) (fresh S) (lost S) (b2i (smokes S = true)))))) := congrArg (fun z9 => [sO cy hh a kk dd b w ee qq ik] ++ (pS cy a S ++ ([ia cy (hh 1) 7 z9] ++ (aS cy b (PR S) F1_23 N1_23 B1_23 O1_23 Sd1_23 Dv1_23 L1_23 (nI (RC S)) (b2i (RC S = 60)) (fresh S) (lost S) (b2i (smokes S = true)))))) (show C = (fnd C (cAir x1)) from fnd_o hcd)
          replace hP1 := (congrArg (fun z9 => va_P D vwCl z9 _) hq9).mp hP1
          replace hD1 := (congrArg (fun z9 => va_D _ z9) hq9).mp hD1
          clear hq9
          refine re_i (PR S, F1_23, N1_23, B1_23, O1_23, Sd1_23, Dv1_23, L1_23, nI (RC S), b2i (RC S = 60), fresh S, lost S, b2i (smokes S = true)) hx hb hr hlocks hP1 hD1 hS1 dX6_air_99 ?_
          exact (ans_o hcd (by unfold vAir; clear hx hb hml hown hr hlocks hw hsz hA hG hK hP1 hD1 hS1 hl0; grind [b2i]))
        · refine lv_iconst (v := 1) hx hb dX6_air_94 (by decide) ?_
          refine lv_goto (tgt := 99) hx hb dX6_air_95 (by decide) ?_
          have hcd : cAir x1 = 7 := by unfold cAir; clear hx hb hml hown hr hlocks hw hsz hA hG hK hP1 hD1 hS1 hl0; grind
          have hq9 : ([sO cy hh a kk dd b w ee qq ik] ++ (pS cy a S ++ ([ia cy (hh 1) 7 C] ++ (aS cy b (PR S) F1_23 N1_23 B1_23 O1_23 Sd1_23 Dv1_23 L1_23 (nI (RC S)) (b2i (RC S = 60)) (fresh S) (lost S) (b2i (smokes S = true)))))) = ([sO cy hh a kk dd b w ee qq ik] ++ (pS cy a S ++ ([ia cy (hh 1) 7 (fnd C (cAir x1))] ++ (aS cy b (PR S) F1_23 N1_23 B1_23 O1_23 Sd1_23 Dv1_23 L1_23 (nI (RC S)) (b2i (RC S = 60)) (fresh S) (lost S) (b2i (smokes S = true)))))) := congrArg (fun z9 => [sO cy hh a kk dd b w ee qq ik] ++ (pS cy a S ++ ([ia cy (hh 1) 7 z9] ++ (aS cy b (PR S) F1_23 N1_23 B1_23 O1_23 Sd1_23 Dv1_23 L1_23 (nI (RC S)) (b2i (RC S = 60)) (fresh S) (lost S) (b2i (smokes S = true)))))) (show C = (fnd C (cAir x1)) from fnd_o hcd)
          replace hP1 := (congrArg (fun z9 => va_P D vwCl z9 _) hq9).mp hP1
          replace hD1 := (congrArg (fun z9 => va_D _ z9) hq9).mp hD1
          clear hq9
          refine re_i (PR S, F1_23, N1_23, B1_23, O1_23, Sd1_23, Dv1_23, L1_23, nI (RC S), b2i (RC S = 60), fresh S, lost S, b2i (smokes S = true)) hx hb hr hlocks hP1 hD1 hS1 dX6_air_99 ?_
          exact (ans_o hcd (by unfold vAir; clear hx hb hml hown hr hlocks hw hsz hA hG hK hP1 hD1 hS1 hl0; grind [b2i]))
    · refine lv_aload_n hx hb dX6_air_9 rfl (lv_at hl0 0 rfl) ?_
      refine lv_iconst (v := 0) hx hb dX6_air_10 (by decide) ?_
      refine cV_i (wc := [sO cy hh a kk dd b w ee qq ik, ia cy (hh 1) 7 C]) (wr := pS cy a S ++ (aS cy b P F N B O Sd Dv L rc re fr lo sm)) (rest := []) hx hb hml hown hw hG hK hP0 hD0 hS0 hA hl0 kc_X6_find kw_2_59 [.int 0] (c_X6_find l D cy G H0.size hh a kk dd b w ee qq ik C 0 (by first | omega | assumption)) [0, 11] [1, 2, 3, 4, 5, 6, 7, 8, 9, 10, 12, 13, 14, 15, 16, 17, 18, 19, 20, 21, 22, 23, 24, 25, 26] rfl rfl rfl rfl rfl 0 rfl rfl rfl rfl rfl (Nat.le_of_ble_eq_true rfl) ⟨Nat.le_of_ble_eq_true rfl, Nat.le_of_ble_eq_true rfl⟩ dX6_air_11 ⟨Nat.le_of_ble_eq_true rfl, Nat.le_of_ble_eq_true rfl⟩ (fun r_11 u9 H1 locs1 hu9 hP1 hD1 hS1 => ?_)
      clear hP0 hD0 hS0 locs0 H0
      have hr_11 := hu9
      replace hP1 : va_P D vwCl (pS cy a S ++ (aS cy b P F N B O Sd Dv L rc re fr lo sm ++ ([sO cy hh a kk dd b w ee qq ik, ia cy (hh 1) 7 (upd C 0 (C 0 + 1))]))) H1 := hP1
      replace hD1 : va_D (va_A _ sz) (pS cy a S ++ (aS cy b P F N B O Sd Dv L rc re fr lo sm ++ ([sO cy hh a kk dd b w ee qq ik, ia cy (hh 1) 7 (upd C 0 (C 0 + 1))]))) := hD1
      replace hP1 := hP1.sub (ws' := [sO cy hh a kk dd b w ee qq ik] ++ (pS cy a S ++ ([ia cy (hh 1) 7 (upd C 0 (C 0 + 1))] ++ (aS cy b P F N B O Sd Dv L rc re fr lo sm)))) [25, 0, 1, 2, 3, 4, 5, 6, 7, 8, 9, 26, 10, 11, 12, 13, 14, 15, 16, 17, 18, 19, 20, 21, 22, 23, 24] rfl
      replace hD1 := hD1.sub (ws' := [sO cy hh a kk dd b w ee qq ik] ++ (pS cy a S ++ ([ia cy (hh 1) 7 (upd C 0 (C 0 + 1))] ++ (aS cy b P F N B O Sd Dv L rc re fr lo sm)))) [25, 0, 1, 2, 3, 4, 5, 6, 7, 8, 9, 26, 10, 11, 12, 13, 14, 15, 16, 17, 18, 19, 20, 21, 22, 23, 24] (by decide) rfl
      subst hr_11
      have hcd : cAir x1 = 0 := by unfold cAir; clear hx hb hml hown hr hlocks hw hsz hA hG hK hP1 hD1 hS1 hl0; grind
      have hq9 : ([sO cy hh a kk dd b w ee qq ik] ++ (pS cy a S ++ ([ia cy (hh 1) 7 (upd C 0 (C 0 + 1))] ++ (aS cy b P F N B O Sd Dv L rc re fr lo sm)))) = ([sO cy hh a kk dd b w ee qq ik] ++ (pS cy a S ++ ([ia cy (hh 1) 7 (fnd C (cAir x1))] ++ (aS cy b P F N B O Sd Dv L rc re fr lo sm)))) := congrArg (fun z9 => [sO cy hh a kk dd b w ee qq ik] ++ (pS cy a S ++ ([ia cy (hh 1) 7 z9] ++ (aS cy b P F N B O Sd Dv L rc re fr lo sm)))) (show (upd C 0 (C 0 + 1)) = (fnd C (cAir x1)) from fnd_f hcd (by decide))
      replace hP1 := (congrArg (fun z9 => va_P D vwCl z9 _) hq9).mp hP1
      replace hD1 := (congrArg (fun z9 => va_D _ z9) hq9).mp hD1
      clear hq9
      refine re_i (P, F, N, B, O, Sd, Dv, L, rc, re, fr, lo, sm) hx hb hr hlocks hP1 hD1 hS1 dX6_air_14 ?_
      exact (ans_f hcd (by decide) rfl)

theorem kc_X6_seed : kV yX6_seed cX6_seed 3 (some .int) 1 := ⟨kw_3_112, kw_3_113, kw_1_1, kw_3_114, by decide, by decide, by decide +kernel⟩
set_option maxHeartbeats 4000000 in
set_option maxRecDepth 100000 in
theorem c_X6_seed (l : Launch) (D : va_G) (cy : Nat → ClassId) (G : Nat → Nat) (sz : Nat) (hh : Nat → Nat) (a : Nat → Nat) (kk : Nat → Nat) (dd : Nat → Nat) (b : Nat → Nat) (w : Nat → Nat) (ee : Nat → Nat) (qq : Nat → Nat) (ik : Int32) (S : Nat → Int32) (v : Int32)  : Met l yX6_seed (wm yX6_seed cX6_seed 3 (some .int)) { frames := 0, cells := 0, slots := 0, locals := 0 } (va_Pc [.ref (hh 0), .int v] (pr D (TY cy) G ([sO cy hh a kk dd b w ee qq ik] ++ (pS cy a S)) sz)) (va_Qi (fun (r : Int32) (u : Unit) => r = S 8) (fun (u : Unit) t => po D (va_A ([sO cy hh a kk dd b w ee qq ik] ++ (pS cy a S)) sz) ([sO cy hh a kk dd b w ee qq ik] ++ (pS cy a (upd S 8 v))) t) (va_A ([sO cy hh a kk dd b w ee qq ik] ++ (pS cy a S)) sz)) 0 0 (va_A ([sO cy hh a kk dd b w ee qq ik] ++ (pS cy a S)) sz) := by
  refine mk_rw (by decide) RX6 rfl (Nat.le_of_ble_eq_true rfl) [(0, .ref (hh 0)), (1, .int v)] rfl ?_
  intro p e s m below meth c hx hb hml hown hr hlocks hin hw hsz hA hG hK H0 locs0 hP0 hD0 hS0 ls0 hl0
  clear hin
  refine lv_aload_n hx hb dX6_seed_0 rfl (lv_at hl0 0 rfl) ?_
  refine va_get (D := D) (ci := 6) (v := .ref (a 0)) (C := RX6) (T := TX6) (N := 9) hx hb hw iX6 hown hK hP0 0 rfl rfl 0 (by decide) (hw _ kw_2_27) (fun _ h9 => h9) rfl dX6_seed_1 ?_
  refine va_get (D := D) (ci := 1) (v := .int (S 8)) (C := RX1) (T := TX1) (N := 12) hx hb hw iX1 hown hK hP0 1 rfl rfl 11 (by decide) (hw _ kw_1_66) (fun _ h9 => h9) rfl dX6_seed_4 ?_
  refine lv_istore_n (lv' := [(2, .int (S 8)), (0, .ref (hh 0)), (1, .int v)]) hx hb dX6_seed_7 rfl hl0 (by decide) rfl (fun ls1 hl1 => ?_)
  clear hl0 ls0
  refine lv_aload_n hx hb dX6_seed_8 rfl (lv_at hl1 1 rfl) ?_
  refine va_get (D := D) (ci := 6) (v := .ref (a 0)) (C := RX6) (T := TX6) (N := 9) hx hb hw iX6 hown hK hP0 0 rfl rfl 0 (by decide) (hw _ kw_2_27) (fun _ h9 => h9) rfl dX6_seed_9 ?_
  refine lv_iload_n hx hb dX6_seed_12 rfl (lv_at hl1 2 rfl) ?_
  refine pt (D := D) (ci := 1) (v := .int v) (ty := .int) (C := RX1) (T := TX1) (N := 12) (ws' := [sO cy hh a kk dd b w ee qq ik] ++ (pS cy a (upd S 8 v))) hx hb hw iX1 tyX1 tyX1_ok nmX1 hown hK hP0 hD0 hS0 1 rfl rfl 11 (by decide) kw_1_66 (fun _ h9 => h9) rfl (by decide +kernel) rfl rfl (Nat.le_of_ble_eq_true rfl) (congrArg (fun z => [sO cy hh a kk dd b w ee qq ik] ++ (z)) (pS_f8 cy a S v)) dX6_seed_13 (fun H1 locs1 hP1 hD1 hS1 => ?_)
  clear hP0 hD0 hS0 locs0 H0
  refine lv_iload_n hx hb dX6_seed_16 rfl (lv_at hl1 0 rfl) ?_
  refine re_i () hx hb hr hlocks hP1 hD1 hS1 dX6_seed_17 ?_
  exact (rfl)

theorem kc_X6_seenAt : kV yX6_seenAt cX6_seenAt 3 (some .int) 1 := ⟨kw_3_121, kw_s_19, kw_1_1, kw_3_122, by decide, by decide, by decide +kernel⟩
set_option maxHeartbeats 4000000 in
set_option maxRecDepth 100000 in
theorem c_X6_seenAt (l : Launch) (D : va_G) (cy : Nat → ClassId) (G : Nat → Nat) (sz : Nat) (hh : Nat → Nat) (a : Nat → Nat) (kk : Nat → Nat) (dd : Nat → Nat) (b : Nat → Nat) (w : Nat → Nat) (ee : Nat → Nat) (qq : Nat → Nat) (ik : Int32) (S : Nat → Int32) (P : Nat → Int32) (F : Nat → Int32) (N : Nat → Int32) (B : Nat → Int32) (O : Nat → Int32) (Sd : Nat → Int32) (Dv : Nat → Int32) (L : Nat → Nat → Int32) (rc : Int32) (re : Int32) (fr : Int32) (lo : Int32) (sm : Int32) (j : Nat) (wf : wf S) (hj : j < gcN S) : Met l yX6_seenAt (wm yX6_seenAt cX6_seenAt 3 (some .int)) { frames := 2, cells := 0, slots := 0, locals := 43 } (va_Pc [.ref (hh 0), .int (nI j)] (pr D (TY cy) G ([sO cy hh a kk dd b w ee qq ik] ++ (pS cy a S ++ (aS cy b P F N B O Sd Dv L rc re fr lo sm))) sz)) (va_Qi (fun (r : Int32) (u : Unit) => r = seenV S (F j) j) (fun (u : Unit) t => po D (va_A ([sO cy hh a kk dd b w ee qq ik] ++ (pS cy a S ++ (aS cy b P F N B O Sd Dv L rc re fr lo sm))) sz) ([sO cy hh a kk dd b w ee qq ik] ++ (pS cy a (drw S) ++ (aS cy b P F N B O Sd Dv L rc re fr lo sm))) t) (va_A ([sO cy hh a kk dd b w ee qq ik] ++ (pS cy a S ++ (aS cy b P F N B O Sd Dv L rc re fr lo sm))) sz)) 0 0 (va_A ([sO cy hh a kk dd b w ee qq ik] ++ (pS cy a S ++ (aS cy b P F N B O Sd Dv L rc re fr lo sm))) sz) := by
  refine mk_rw (by decide) RX6 rfl (Nat.le_of_ble_eq_true rfl) [(0, .ref (hh 0)), (1, .int (nI j))] rfl ?_
  intro p e s m below meth c hx hb hml hown hr hlocks hin hw hsz hA hG hK H0 locs0 hP0 hD0 hS0 ls0 hl0
  clear hin
  have hg20 := wf_g20 wf
  refine lv_aload_n hx hb dX6_seenAt_0 rfl (lv_at hl0 0 rfl) ?_
  refine va_get (D := D) (ci := 6) (v := .ref (a 0)) (C := RX6) (T := TX6) (N := 9) hx hb hw iX6 hown hK hP0 0 rfl rfl 0 (by decide) (hw _ kw_2_27) (fun _ h9 => h9) rfl dX6_seenAt_1 ?_
  refine lv_aload_n hx hb dX6_seenAt_4 rfl (lv_at hl0 0 rfl) ?_
  refine va_get (D := D) (ci := 6) (v := .ref (a 0)) (C := RX6) (T := TX6) (N := 9) hx hb hw iX6 hown hK hP0 0 rfl rfl 0 (by decide) (hw _ kw_2_27) (fun _ h9 => h9) rfl dX6_seenAt_5 ?_
  refine va_get (D := D) (ci := 1) (v := .int (S 8)) (C := RX1) (T := TX1) (N := 12) hx hb hw iX1 hown hK hP0 1 rfl rfl 11 (by decide) (hw _ kw_1_66) (fun _ h9 => h9) rfl dX6_seenAt_8 ?_
  refine lv_ldcw (v := 1103515245) hx hb hown (hw _ kw_3_123) dX6_seenAt_11 ?_
  refine lv_imul hx hb dX6_seenAt_14 ?_
  refine lv_sipush (v := 12345) hx hb dX6_seenAt_15 (by decide) ?_
  refine lv_iadd hx hb dX6_seenAt_18 ?_
  refine pt (D := D) (ci := 1) (v := .int (((S 8) * 1103515245) + 12345)) (ty := .int) (C := RX1) (T := TX1) (N := 12) (ws' := [sO cy hh a kk dd b w ee qq ik] ++ (pS cy a (upd S 8 (((S 8) * 1103515245) + 12345)) ++ (aS cy b P F N B O Sd Dv L rc re fr lo sm))) hx hb hw iX1 tyX1 tyX1_ok nmX1 hown hK hP0 hD0 hS0 1 rfl rfl 11 (by decide) kw_1_66 (fun _ h9 => h9) rfl (by decide +kernel) rfl rfl (Nat.le_of_ble_eq_true rfl) (congrArg (fun z => [sO cy hh a kk dd b w ee qq ik] ++ (z ++ (aS cy b P F N B O Sd Dv L rc re fr lo sm))) (pS_f8 cy a S (((S 8) * 1103515245) + 12345))) dX6_seenAt_19 (fun H1 locs1 hP1 hD1 hS1 => ?_)
  clear hP0 hD0 hS0 locs0 H0
  have hq9 : ([sO cy hh a kk dd b w ee qq ik] ++ (pS cy a (upd S 8 (((S 8) * 1103515245) + 12345)) ++ (aS cy b P F N B O Sd Dv L rc re fr lo sm))) = ([sO cy hh a kk dd b w ee qq ik] ++ (pS cy a (drw S) ++ (aS cy b P F N B O Sd Dv L rc re fr lo sm))) := congrArg (fun z9 => [sO cy hh a kk dd b w ee qq ik] ++ (pS cy a z9 ++ (aS cy b P F N B O Sd Dv L rc re fr lo sm))) (show (upd S 8 (((S 8) * 1103515245) + 12345)) = (drw S) from rfl)
  replace hP1 := (congrArg (fun z9 => va_P D vwCl z9 _) hq9).mp hP1
  replace hD1 := (congrArg (fun z9 => va_D _ z9) hq9).mp hD1
  clear hq9
  refine lv_aload_n hx hb dX6_seenAt_22 rfl (lv_at hl0 0 rfl) ?_
  refine va_get (D := D) (ci := 6) (v := .ref (a 0)) (C := RX6) (T := TX6) (N := 9) hx hb hw iX6 hown hK hP1 0 rfl rfl 0 (by decide) (hw _ kw_2_27) (fun _ h9 => h9) rfl dX6_seenAt_23 ?_
  refine va_get (D := D) (ci := 1) (v := .int ((drw S) 8)) (C := RX1) (T := TX1) (N := 12) hx hb hw iX1 hown hK hP1 1 rfl rfl 11 (by decide) (hw _ kw_1_66) (fun _ h9 => h9) rfl dX6_seenAt_26 ?_
  refine lv_bipush (v := 8) hx hb dX6_seenAt_29 (by decide) ?_
  refine lv_iushr hx hb dX6_seenAt_31 rfl ?_
  refine lv_bipush (v := 100) hx hb dX6_seenAt_32 (by decide) ?_
  refine lv_irem hx hb dX6_seenAt_34 (by decide) ?_
  refine tp (show (((((drw S) 8).toUInt32 >>> ((8 : Int32).toUInt32 &&& Int32.toUInt32 31)).toInt32) - ((((drw S) 8).toUInt32 >>> ((8 : Int32).toUInt32 &&& Int32.toUInt32 31)).toInt32) / 100 * 100) = drawV (drw S 8) from rfl) ?_
  refine lv_istore_n (lv' := [(2, .int (drawV (drw S 8))), (0, .ref (hh 0)), (1, .int (nI j))]) hx hb dX6_seenAt_35 rfl hl0 (by decide) rfl (fun ls1 hl1 => ?_)
  clear hl0 ls0
  refine lv_aload_n hx hb dX6_seenAt_36 rfl (lv_at hl1 1 rfl) ?_
  refine va_get (D := D) (ci := 6) (v := .ref (a 0)) (C := RX6) (T := TX6) (N := 9) hx hb hw iX6 hown hK hP1 0 rfl rfl 0 (by decide) (hw _ kw_2_27) (fun _ h9 => h9) rfl dX6_seenAt_37 ?_
  refine va_get (D := D) (ci := 1) (v := .ref (a 1)) (C := RX1) (T := TX1) (N := 12) hx hb hw iX1 hown hK hP1 1 rfl rfl 2 (by decide) (hw _ kw_1_40) (fun _ h9 => h9) rfl dX6_seenAt_40 ?_
  refine lv_iload_n hx hb dX6_seenAt_43 rfl (lv_at hl1 2 rfl) ?_
  refine ald_i (f := fun g => (drw S) (9 + 8 * g)) hx hb hK hP1 2 0 rfl rfl j rfl (by first | omega | assumption) (by decide) dX6_seenAt_44 ?_
  refine tp (show ((drw S) (9 + 8 * j)) = S (9 + 8 * j) from drw_n (by omega)) ?_
  refine lv_iconst (v := 1) hx hb dX6_seenAt_45 (by decide) ?_
  refine lv_icmp_eq (tgt := 62) hx hb dX6_seenAt_46 (by decide) (fun c_46 => ?_) (fun c_46 => ?_)
  · refine lv_iconst (v := 0) hx hb dX6_seenAt_62 (by decide) ?_
    refine re_i () hx hb hr hlocks hP1 hD1 hS1 dX6_seenAt_63 ?_
    exact (by unfold seenV; clear hx hb hml hown hr hlocks hw hsz hA hG hK hP1 hD1 hS1 hl1; grind)
  · refine lv_iload_n hx hb dX6_seenAt_49 rfl (lv_at hl1 0 rfl) ?_
    refine lv_aload_n hx hb dX6_seenAt_50 rfl (lv_at hl1 1 rfl) ?_
    refine va_get (D := D) (ci := 6) (v := .ref (a 0)) (C := RX6) (T := TX6) (N := 9) hx hb hw iX6 hown hK hP1 0 rfl rfl 0 (by decide) (hw _ kw_2_27) (fun _ h9 => h9) rfl dX6_seenAt_51 ?_
    refine va_get (D := D) (ci := 1) (v := .ref (a 9)) (C := RX1) (T := TX1) (N := 12) hx hb hw iX1 hown hK hP1 1 rfl rfl 10 (by decide) (hw _ kw_1_63) (fun _ h9 => h9) rfl dX6_seenAt_54 ?_
    refine lv_iconst (v := 5) hx hb dX6_seenAt_57 (by decide) ?_
    refine ald_i (f := fun k => if k < 6 then (drw S) (2 + k) else 0) hx hb hK hP1 10 0 rfl rfl 5 rfl (by first | omega | assumption) (by decide) dX6_seenAt_58 ?_
    refine tp (show (if 5 < 6 then (drw S) (2 + 5) else 0) = S 7 from (if_pos (by decide)).trans (drw_n (by decide))) ?_
    refine lv_icmp_ge (tgt := 64) hx hb dX6_seenAt_59 (by decide) (fun c_59 => ?_) (fun c_59 => ?_)
    · refine lv_aload_n hx hb dX6_seenAt_64 rfl (lv_at hl1 1 rfl) ?_
      refine va_get (D := D) (ci := 6) (v := .ref (b 0)) (C := RX6) (T := TX6) (N := 9) hx hb hw iX6 hown hK hP1 0 rfl rfl 4 (by decide) (hw _ kw_2_31) (fun _ h9 => h9) rfl dX6_seenAt_65 ?_
      refine va_get (D := D) (ci := 0) (v := .ref (b 2)) (C := RX0) (T := TX0) (N := 13) hx hb hw iX0 hown hK hP1 11 rfl rfl 1 (by decide) (hw _ kw_1_106) (fun _ h9 => h9) rfl dX6_seenAt_68 ?_
      refine lv_iload_n hx hb dX6_seenAt_71 rfl (lv_at hl1 2 rfl) ?_
      refine ald_i (f := F) hx hb hK hP1 13 0 rfl rfl j rfl (by first | omega | assumption) (by decide) dX6_seenAt_72 ?_
      refine rT_i (wc := []) (rest := []) hx hb hml hown hw hG hK hP1 hS1 hA hl1 kc_X6_leanOf kw_3_92 [.int (F j)] (c_X6_leanOf l D cy G H1.size (F j)) [] rfl rfl rfl (Nat.le_of_ble_eq_true rfl) ⟨Nat.le_of_ble_eq_true rfl, Nat.le_of_ble_eq_true rfl⟩ dX6_seenAt_73 ⟨Nat.le_of_ble_eq_true rfl, Nat.le_of_ble_eq_true rfl⟩ (fun r_73 H2 locs2 hr_73 hP2 hS2 => ?_)
      have hD2 := hD1
      clear hP1 hD1 hS1 locs1 H1
      subst hr_73
      refine re_i () hx hb hr hlocks hP2 hD2 hS2 dX6_seenAt_76 ?_
      exact (by unfold seenV; clear hx hb hml hown hr hlocks hw hsz hA hG hK hP2 hD2 hS2 hl1; grind)
    · refine lv_iconst (v := 0) hx hb dX6_seenAt_62 (by decide) ?_
      refine re_i () hx hb hr hlocks hP1 hD1 hS1 dX6_seenAt_63 ?_
      exact (by unfold seenV; clear hx hb hml hown hr hlocks hw hsz hA hG hK hP1 hD1 hS1 hl1; grind)

theorem kc_X6_stick : kV yX6_stick cX6_stick 2 (some .int) 1 := ⟨kw_3_116, kw_3_117, kw_1_1, kw_3_118, by decide, by decide, by decide +kernel⟩
set_option maxHeartbeats 4000000 in
set_option maxRecDepth 100000 in
theorem c_X6_stick (l : Launch) (D : va_G) (cy : Nat → ClassId) (G : Nat → Nat) (sz : Nat) (hh : Nat → Nat) (a : Nat → Nat) (kk : Nat → Nat) (dd : Nat → Nat) (b : Nat → Nat) (w : Nat → Nat) (ee : Nat → Nat) (qq : Nat → Nat) (ik : Int32) (S : Nat → Int32) (C : Nat → Int32) (P : Nat → Int32) (F : Nat → Int32) (N : Nat → Int32) (B : Nat → Int32) (O : Nat → Int32) (Sd : Nat → Int32) (Dv : Nat → Int32) (L : Nat → Nat → Int32) (rc : Int32) (re : Int32) (fr : Int32) (lo : Int32) (sm : Int32) (x1 : Int32) (wf : wf S) : Met l yX6_stick (wm yX6_stick cX6_stick 2 (some .int)) { frames := 5, cells := 0, slots := 0, locals := 109 } (va_Pc [.ref (hh 0), .int x1] (pr D (TY cy) G ([sO cy hh a kk dd b w ee qq ik] ++ (pS cy a S ++ ([ia cy (hh 1) 7 C] ++ (aS cy b P F N B O Sd Dv L rc re fr lo sm)))) sz)) (va_Qi (fun (r : Int32) (u : (Nat → Int32) × (Nat → Int32) × (Nat → Int32) × (Nat → Int32) × (Nat → Int32) × (Nat → Int32) × (Nat → Int32) × (Nat → Nat → Int32) × Int32 × Int32 × Int32 × Int32 × Int32) => r = ans (cG S x1) (seenV S (flow S (PR S) (bstN x1)) (bstN x1))) (fun (u : (Nat → Int32) × (Nat → Int32) × (Nat → Int32) × (Nat → Int32) × (Nat → Int32) × (Nat → Int32) × (Nat → Int32) × (Nat → Nat → Int32) × Int32 × Int32 × Int32 × Int32 × Int32) t => po D (va_A ([sO cy hh a kk dd b w ee qq ik] ++ (pS cy a S ++ ([ia cy (hh 1) 7 C] ++ (aS cy b P F N B O Sd Dv L rc re fr lo sm)))) sz) ([sO cy hh a kk dd b w ee qq ik] ++ (pS cy a (if cG S x1 = 7 then drw S else S) ++ ([ia cy (hh 1) 7 (fnd C (cG S x1))] ++ (aS cy b u.1 u.2.1 u.2.2.1 u.2.2.2.1 u.2.2.2.2.1 u.2.2.2.2.2.1 u.2.2.2.2.2.2.1 u.2.2.2.2.2.2.2.1 u.2.2.2.2.2.2.2.2.1 u.2.2.2.2.2.2.2.2.2.1 u.2.2.2.2.2.2.2.2.2.2.1 u.2.2.2.2.2.2.2.2.2.2.2.1 u.2.2.2.2.2.2.2.2.2.2.2.2)))) t) (va_A ([sO cy hh a kk dd b w ee qq ik] ++ (pS cy a S ++ ([ia cy (hh 1) 7 C] ++ (aS cy b P F N B O Sd Dv L rc re fr lo sm)))) sz)) 0 0 (va_A ([sO cy hh a kk dd b w ee qq ik] ++ (pS cy a S ++ ([ia cy (hh 1) 7 C] ++ (aS cy b P F N B O Sd Dv L rc re fr lo sm)))) sz) := by
  refine mk_rw (by decide) RX6 rfl (Nat.le_of_ble_eq_true rfl) [(0, .ref (hh 0)), (1, .int x1)] rfl ?_
  intro p e s m below meth c hx hb hml hown hr hlocks hin hw hsz hA hG hK H0 locs0 hP0 hD0 hS0 ls0 hl0
  clear hin
  have hg20 := wf_g20 wf
  have hr6 := wf_r6 wf
  refine lv_aload_n hx hb dX6_stick_0 rfl (lv_at hl0 0 rfl) ?_
  refine va_get (D := D) (ci := 6) (v := .ref (a 0)) (C := RX6) (T := TX6) (N := 9) hx hb hw iX6 hown hK hP0 0 rfl rfl 0 (by decide) (hw _ kw_2_27) (fun _ h9 => h9) rfl dX6_stick_1 ?_
  refine lv_iload_n hx hb dX6_stick_4 rfl (lv_at hl0 1 rfl) ?_
  refine rV_i (wc := pS cy a S) (rest := []) hx hb hml hown hw hG hK hP0 hS0 hA hl0 kc_X1_hasGap kw_2_98 [.int x1] (c_X1_hasGap l D cy G H0.size a S x1) [1, 2, 3, 4, 5, 6, 7, 8, 9, 10] rfl 0 rfl rfl rfl rfl rfl (Nat.le_of_ble_eq_true rfl) ⟨Nat.le_of_ble_eq_true rfl, Nat.le_of_ble_eq_true rfl⟩ dX6_stick_5 ⟨Nat.le_of_ble_eq_true rfl, Nat.le_of_ble_eq_true rfl⟩ (fun r_5 H1 locs1 hr_5 hP1 hS1 => ?_)
  have hD1 := hD0
  clear hP0 hD0 hS0 locs0 H0
  subst hr_5
  refine lb_ne (tgt := 17) hx hb dX6_stick_8 (by decide) (fun c_8 => ?_) (fun c_8 => ?_)
  · obtain ⟨j, hj, rfl⟩ := wf_gap wf c_8
    have hbj : bstN (nI j) = j := bst_n (by omega)
    refine lv_aload_n hx hb dX6_stick_17 rfl (lv_at hl0 0 rfl) ?_
    refine va_get (D := D) (ci := 6) (v := .ref (b 0)) (C := RX6) (T := TX6) (N := 9) hx hb hw iX6 hown hK hP1 0 rfl rfl 4 (by decide) (hw _ kw_2_31) (fun _ h9 => h9) rfl dX6_stick_18 ?_
    refine lv_aload_n hx hb dX6_stick_21 rfl (lv_at hl0 0 rfl) ?_
    refine va_get (D := D) (ci := 6) (v := .ref (a 0)) (C := RX6) (T := TX6) (N := 9) hx hb hw iX6 hown hK hP1 0 rfl rfl 0 (by decide) (hw _ kw_2_27) (fun _ h9 => h9) rfl dX6_stick_22 ?_
    refine cV_v (wc := aS cy b P F N B O Sd Dv L rc re fr lo sm ++ (pS cy a S)) (wr := [sO cy hh a kk dd b w ee qq ik, ia cy (hh 1) 7 C]) (rest := []) hx hb hml hown hw hG hK hP1 hD1 hS1 hA hl0 kc_X0_settle kw_3_52 [.ref (a 0)] (c_X0_settle l D cy G H1.size b P F N B O Sd Dv L rc re fr lo sm a S (by first | omega | assumption)) [12, 13, 14, 15, 16, 17, 18, 19, 20, 21, 22, 23, 24, 25, 26, 1, 2, 3, 4, 5, 6, 7, 8, 9, 10] [0, 11] rfl rfl rfl rfl rfl 0 rfl rfl rfl rfl rfl (Nat.le_of_ble_eq_true rfl) ⟨Nat.le_of_ble_eq_true rfl, Nat.le_of_ble_eq_true rfl⟩ dX6_stick_25 ⟨Nat.le_of_ble_eq_true rfl, Nat.le_of_ble_eq_true rfl⟩ (fun u9 H2 locs2 hu9 hP2 hD2 hS2 => ?_)
    clear hP1 hD1 hS1 locs1 H1
    obtain ⟨F1_25, N1_25, B1_25, O1_25, Sd1_25, Dv1_25, L1_25⟩ := u9
    have hF_25 := hu9
    replace hF_25 : ∀ g, g < gcN S → F1_25 g = flow S (PR S) g := hF_25
    replace hP2 : va_P D vwCl ([sO cy hh a kk dd b w ee qq ik, ia cy (hh 1) 7 C] ++ (aS cy b (PR S) F1_25 N1_25 B1_25 O1_25 Sd1_25 Dv1_25 L1_25 (nI (RC S)) (b2i (RC S = 60)) (fresh S) (lost S) (b2i (smokes S = true)) ++ (pS cy a S))) H2 := hP2
    replace hD2 : va_D (va_A _ sz) ([sO cy hh a kk dd b w ee qq ik, ia cy (hh 1) 7 C] ++ (aS cy b (PR S) F1_25 N1_25 B1_25 O1_25 Sd1_25 Dv1_25 L1_25 (nI (RC S)) (b2i (RC S = 60)) (fresh S) (lost S) (b2i (smokes S = true)) ++ (pS cy a S))) := hD2
    replace hP2 := hP2.sub (ws' := [sO cy hh a kk dd b w ee qq ik] ++ (pS cy a S ++ ([ia cy (hh 1) 7 C] ++ (aS cy b (PR S) F1_25 N1_25 B1_25 O1_25 Sd1_25 Dv1_25 L1_25 (nI (RC S)) (b2i (RC S = 60)) (fresh S) (lost S) (b2i (smokes S = true)))))) [0, 17, 18, 19, 20, 21, 22, 23, 24, 25, 26, 1, 2, 3, 4, 5, 6, 7, 8, 9, 10, 11, 12, 13, 14, 15, 16] rfl
    replace hD2 := hD2.sub (ws' := [sO cy hh a kk dd b w ee qq ik] ++ (pS cy a S ++ ([ia cy (hh 1) 7 C] ++ (aS cy b (PR S) F1_25 N1_25 B1_25 O1_25 Sd1_25 Dv1_25 L1_25 (nI (RC S)) (b2i (RC S = 60)) (fresh S) (lost S) (b2i (smokes S = true)))))) [0, 17, 18, 19, 20, 21, 22, 23, 24, 25, 26, 1, 2, 3, 4, 5, 6, 7, 8, 9, 10, 11, 12, 13, 14, 15, 16] (by decide) rfl
    refine lv_aload_n hx hb dX6_stick_28 rfl (lv_at hl0 0 rfl) ?_
    refine lv_iload_n hx hb dX6_stick_29 rfl (lv_at hl0 1 rfl) ?_
    refine cV_i (wc := [sO cy hh a kk dd b w ee qq ik] ++ (pS cy a S ++ (aS cy b (PR S) F1_25 N1_25 B1_25 O1_25 Sd1_25 Dv1_25 L1_25 (nI (RC S)) (b2i (RC S = 60)) (fresh S) (lost S) (b2i (smokes S = true))))) (wr := [ia cy (hh 1) 7 C]) (rest := []) hx hb hml hown hw hG hK hP2 hD2 hS2 hA hl0 kc_X6_seenAt kw_3_119 [.int (nI j)] (c_X6_seenAt l D cy G H2.size hh a kk dd b w ee qq ik S (PR S) F1_25 N1_25 B1_25 O1_25 Sd1_25 Dv1_25 L1_25 (nI (RC S)) (b2i (RC S = 60)) (fresh S) (lost S) (b2i (smokes S = true)) j (by first | omega | assumption) (by first | omega | assumption)) [0, 1, 2, 3, 4, 5, 6, 7, 8, 9, 10, 12, 13, 14, 15, 16, 17, 18, 19, 20, 21, 22, 23, 24, 25, 26] [11] rfl rfl rfl rfl rfl 0 rfl rfl rfl rfl rfl (Nat.le_of_ble_eq_true rfl) ⟨Nat.le_of_ble_eq_true rfl, Nat.le_of_ble_eq_true rfl⟩ dX6_stick_30 ⟨Nat.le_of_ble_eq_true rfl, Nat.le_of_ble_eq_true rfl⟩ (fun r_30 u9 H3 locs3 hu9 hP3 hD3 hS3 => ?_)
    clear hP2 hD2 hS2 locs2 H2
    have hr_30 := hu9
    replace hP3 : va_P D vwCl ([ia cy (hh 1) 7 C, sO cy hh a kk dd b w ee qq ik] ++ (pS cy a (drw S) ++ (aS cy b (PR S) F1_25 N1_25 B1_25 O1_25 Sd1_25 Dv1_25 L1_25 (nI (RC S)) (b2i (RC S = 60)) (fresh S) (lost S) (b2i (smokes S = true))))) H3 := hP3
    replace hD3 : va_D (va_A _ sz) ([ia cy (hh 1) 7 C, sO cy hh a kk dd b w ee qq ik] ++ (pS cy a (drw S) ++ (aS cy b (PR S) F1_25 N1_25 B1_25 O1_25 Sd1_25 Dv1_25 L1_25 (nI (RC S)) (b2i (RC S = 60)) (fresh S) (lost S) (b2i (smokes S = true))))) := hD3
    replace hP3 := hP3.sub (ws' := [sO cy hh a kk dd b w ee qq ik] ++ (pS cy a (drw S) ++ ([ia cy (hh 1) 7 C] ++ (aS cy b (PR S) F1_25 N1_25 B1_25 O1_25 Sd1_25 Dv1_25 L1_25 (nI (RC S)) (b2i (RC S = 60)) (fresh S) (lost S) (b2i (smokes S = true)))))) [1, 2, 3, 4, 5, 6, 7, 8, 9, 10, 11, 0, 12, 13, 14, 15, 16, 17, 18, 19, 20, 21, 22, 23, 24, 25, 26] rfl
    replace hD3 := hD3.sub (ws' := [sO cy hh a kk dd b w ee qq ik] ++ (pS cy a (drw S) ++ ([ia cy (hh 1) 7 C] ++ (aS cy b (PR S) F1_25 N1_25 B1_25 O1_25 Sd1_25 Dv1_25 L1_25 (nI (RC S)) (b2i (RC S = 60)) (fresh S) (lost S) (b2i (smokes S = true)))))) [1, 2, 3, 4, 5, 6, 7, 8, 9, 10, 11, 0, 12, 13, 14, 15, 16, 17, 18, 19, 20, 21, 22, 23, 24, 25, 26] (by decide) rfl
    subst hr_30
    have hcd : cG S (nI j) = 7 := by unfold cG; clear hx hb hml hown hr hlocks hw hsz hA hG hK hP3 hD3 hS3 hl0; grind
    have hq9 : ([sO cy hh a kk dd b w ee qq ik] ++ (pS cy a (drw S) ++ ([ia cy (hh 1) 7 C] ++ (aS cy b (PR S) F1_25 N1_25 B1_25 O1_25 Sd1_25 Dv1_25 L1_25 (nI (RC S)) (b2i (RC S = 60)) (fresh S) (lost S) (b2i (smokes S = true)))))) = ([sO cy hh a kk dd b w ee qq ik] ++ (pS cy a (drw S) ++ ([ia cy (hh 1) 7 (fnd C (cG S (nI j)))] ++ (aS cy b (PR S) F1_25 N1_25 B1_25 O1_25 Sd1_25 Dv1_25 L1_25 (nI (RC S)) (b2i (RC S = 60)) (fresh S) (lost S) (b2i (smokes S = true)))))) := congrArg (fun z9 => [sO cy hh a kk dd b w ee qq ik] ++ (pS cy a (drw S) ++ ([ia cy (hh 1) 7 z9] ++ (aS cy b (PR S) F1_25 N1_25 B1_25 O1_25 Sd1_25 Dv1_25 L1_25 (nI (RC S)) (b2i (RC S = 60)) (fresh S) (lost S) (b2i (smokes S = true)))))) (show C = (fnd C (cG S (nI j))) from fnd_o hcd)
    replace hP3 := (congrArg (fun z9 => va_P D vwCl z9 _) hq9).mp hP3
    replace hD3 := (congrArg (fun z9 => va_D _ z9) hq9).mp hD3
    clear hq9
    have hq9 : ([sO cy hh a kk dd b w ee qq ik] ++ (pS cy a (drw S) ++ ([ia cy (hh 1) 7 (fnd C (cG S (nI j)))] ++ (aS cy b (PR S) F1_25 N1_25 B1_25 O1_25 Sd1_25 Dv1_25 L1_25 (nI (RC S)) (b2i (RC S = 60)) (fresh S) (lost S) (b2i (smokes S = true)))))) = ([sO cy hh a kk dd b w ee qq ik] ++ (pS cy a (if cG S (nI j) = 7 then drw S else S) ++ ([ia cy (hh 1) 7 (fnd C (cG S (nI j)))] ++ (aS cy b (PR S) F1_25 N1_25 B1_25 O1_25 Sd1_25 Dv1_25 L1_25 (nI (RC S)) (b2i (RC S = 60)) (fresh S) (lost S) (b2i (smokes S = true)))))) := congrArg (fun z9 => [sO cy hh a kk dd b w ee qq ik] ++ (pS cy a z9 ++ ([ia cy (hh 1) 7 (fnd C (cG S (nI j)))] ++ (aS cy b (PR S) F1_25 N1_25 B1_25 O1_25 Sd1_25 Dv1_25 L1_25 (nI (RC S)) (b2i (RC S = 60)) (fresh S) (lost S) (b2i (smokes S = true)))))) (show (drw S) = (if cG S (nI j) = 7 then drw S else S) from (if_pos hcd).symm)
    replace hP3 := (congrArg (fun z9 => va_P D vwCl z9 _) hq9).mp hP3
    replace hD3 := (congrArg (fun z9 => va_D _ z9) hq9).mp hD3
    clear hq9
    refine re_i (PR S, F1_25, N1_25, B1_25, O1_25, Sd1_25, Dv1_25, L1_25, nI (RC S), b2i (RC S = 60), fresh S, lost S, b2i (smokes S = true)) hx hb hr hlocks hP3 hD3 hS3 dX6_stick_33 ?_
    exact (ans_o hcd (by rw [hbj, hF_25 j hj]))
  · refine lv_aload_n hx hb dX6_stick_11 rfl (lv_at hl0 0 rfl) ?_
    refine lv_iconst (v := 0) hx hb dX6_stick_12 (by decide) ?_
    refine cV_i (wc := [sO cy hh a kk dd b w ee qq ik, ia cy (hh 1) 7 C]) (wr := pS cy a S ++ (aS cy b P F N B O Sd Dv L rc re fr lo sm)) (rest := []) hx hb hml hown hw hG hK hP1 hD1 hS1 hA hl0 kc_X6_find kw_2_59 [.int 0] (c_X6_find l D cy G H1.size hh a kk dd b w ee qq ik C 0 (by first | omega | assumption)) [0, 11] [1, 2, 3, 4, 5, 6, 7, 8, 9, 10, 12, 13, 14, 15, 16, 17, 18, 19, 20, 21, 22, 23, 24, 25, 26] rfl rfl rfl rfl rfl 0 rfl rfl rfl rfl rfl (Nat.le_of_ble_eq_true rfl) ⟨Nat.le_of_ble_eq_true rfl, Nat.le_of_ble_eq_true rfl⟩ dX6_stick_13 ⟨Nat.le_of_ble_eq_true rfl, Nat.le_of_ble_eq_true rfl⟩ (fun r_13 u9 H2 locs2 hu9 hP2 hD2 hS2 => ?_)
    clear hP1 hD1 hS1 locs1 H1
    have hr_13 := hu9
    replace hP2 : va_P D vwCl (pS cy a S ++ (aS cy b P F N B O Sd Dv L rc re fr lo sm ++ ([sO cy hh a kk dd b w ee qq ik, ia cy (hh 1) 7 (upd C 0 (C 0 + 1))]))) H2 := hP2
    replace hD2 : va_D (va_A _ sz) (pS cy a S ++ (aS cy b P F N B O Sd Dv L rc re fr lo sm ++ ([sO cy hh a kk dd b w ee qq ik, ia cy (hh 1) 7 (upd C 0 (C 0 + 1))]))) := hD2
    replace hP2 := hP2.sub (ws' := [sO cy hh a kk dd b w ee qq ik] ++ (pS cy a S ++ ([ia cy (hh 1) 7 (upd C 0 (C 0 + 1))] ++ (aS cy b P F N B O Sd Dv L rc re fr lo sm)))) [25, 0, 1, 2, 3, 4, 5, 6, 7, 8, 9, 26, 10, 11, 12, 13, 14, 15, 16, 17, 18, 19, 20, 21, 22, 23, 24] rfl
    replace hD2 := hD2.sub (ws' := [sO cy hh a kk dd b w ee qq ik] ++ (pS cy a S ++ ([ia cy (hh 1) 7 (upd C 0 (C 0 + 1))] ++ (aS cy b P F N B O Sd Dv L rc re fr lo sm)))) [25, 0, 1, 2, 3, 4, 5, 6, 7, 8, 9, 26, 10, 11, 12, 13, 14, 15, 16, 17, 18, 19, 20, 21, 22, 23, 24] (by decide) rfl
    subst hr_13
    have hcd : cG S x1 = 0 := by unfold cG; clear hx hb hml hown hr hlocks hw hsz hA hG hK hP2 hD2 hS2 hl0; grind
    have hq9 : ([sO cy hh a kk dd b w ee qq ik] ++ (pS cy a S ++ ([ia cy (hh 1) 7 (upd C 0 (C 0 + 1))] ++ (aS cy b P F N B O Sd Dv L rc re fr lo sm)))) = ([sO cy hh a kk dd b w ee qq ik] ++ (pS cy a S ++ ([ia cy (hh 1) 7 (fnd C (cG S x1))] ++ (aS cy b P F N B O Sd Dv L rc re fr lo sm)))) := congrArg (fun z9 => [sO cy hh a kk dd b w ee qq ik] ++ (pS cy a S ++ ([ia cy (hh 1) 7 z9] ++ (aS cy b P F N B O Sd Dv L rc re fr lo sm)))) (show (upd C 0 (C 0 + 1)) = (fnd C (cG S x1)) from fnd_f hcd (by decide))
    replace hP2 := (congrArg (fun z9 => va_P D vwCl z9 _) hq9).mp hP2
    replace hD2 := (congrArg (fun z9 => va_D _ z9) hq9).mp hD2
    clear hq9
    have hq9 : ([sO cy hh a kk dd b w ee qq ik] ++ (pS cy a S ++ ([ia cy (hh 1) 7 (fnd C (cG S x1))] ++ (aS cy b P F N B O Sd Dv L rc re fr lo sm)))) = ([sO cy hh a kk dd b w ee qq ik] ++ (pS cy a (if cG S x1 = 7 then drw S else S) ++ ([ia cy (hh 1) 7 (fnd C (cG S x1))] ++ (aS cy b P F N B O Sd Dv L rc re fr lo sm)))) := congrArg (fun z9 => [sO cy hh a kk dd b w ee qq ik] ++ (pS cy a z9 ++ ([ia cy (hh 1) 7 (fnd C (cG S x1))] ++ (aS cy b P F N B O Sd Dv L rc re fr lo sm)))) (show S = (if cG S x1 = 7 then drw S else S) from (if_neg (fun z9 => absurd (hcd.symm.trans z9) (by decide))).symm)
    replace hP2 := (congrArg (fun z9 => va_P D vwCl z9 _) hq9).mp hP2
    replace hD2 := (congrArg (fun z9 => va_D _ z9) hq9).mp hD2
    clear hq9
    refine re_i (P, F, N, B, O, Sd, Dv, L, rc, re, fr, lo, sm) hx hb hr hlocks hP2 hD2 hS2 dX6_stick_16 ?_
    exact (ans_f hcd (by decide) rfl)

theorem kc_X6_most : kV yX6_most cX6_most 3 (some .int) 0 := ⟨kw_3_148, kw_3_149, kw_1_1, kw_3_150, by decide, by decide, by decide +kernel⟩
set_option maxHeartbeats 4000000 in
set_option maxRecDepth 100000 in
theorem c_X6_most (l : Launch) (D : va_G) (cy : Nat → ClassId) (G : Nat → Nat) (sz : Nat) (hh : Nat → Nat) (a : Nat → Nat) (kk : Nat → Nat) (dd : Nat → Nat) (b : Nat → Nat) (w : Nat → Nat) (ee : Nat → Nat) (qq : Nat → Nat) (ik : Int32) (S : Nat → Int32) (C : Nat → Int32) (P : Nat → Int32) (F : Nat → Int32) (N : Nat → Int32) (B : Nat → Int32) (O : Nat → Int32) (Sd : Nat → Int32) (Dv : Nat → Int32) (L : Nat → Nat → Int32) (rc : Int32) (re : Int32) (fr : Int32) (lo : Int32) (sm : Int32) (wf : wf S) : Met l yX6_most (wm yX6_most cX6_most 3 (some .int)) { frames := 5, cells := 0, slots := 0, locals := 109 } (va_Pc [.ref (hh 0)] (pr D (TY cy) G ([sO cy hh a kk dd b w ee qq ik] ++ (pS cy a S ++ ([ia cy (hh 1) 7 C] ++ (aS cy b P F N B O Sd Dv L rc re fr lo sm)))) sz)) (va_Qi (fun (r : Int32) (u : (Nat → Int32) × (Nat → Int32) × (Nat → Int32) × (Nat → Int32) × (Nat → Int32) × (Nat → Int32) × (Nat → Int32) × (Nat → Nat → Int32) × Int32 × Int32 × Int32 × Int32 × Int32) => r = ans (cMost S) (nI (mst (flow S (PR S)) (gcN S)))) (fun (u : (Nat → Int32) × (Nat → Int32) × (Nat → Int32) × (Nat → Int32) × (Nat → Int32) × (Nat → Int32) × (Nat → Int32) × (Nat → Nat → Int32) × Int32 × Int32 × Int32 × Int32 × Int32) t => po D (va_A ([sO cy hh a kk dd b w ee qq ik] ++ (pS cy a S ++ ([ia cy (hh 1) 7 C] ++ (aS cy b P F N B O Sd Dv L rc re fr lo sm)))) sz) ([sO cy hh a kk dd b w ee qq ik] ++ (pS cy a S ++ ([ia cy (hh 1) 7 (fnd C (cMost S))] ++ (aS cy b u.1 u.2.1 u.2.2.1 u.2.2.2.1 u.2.2.2.2.1 u.2.2.2.2.2.1 u.2.2.2.2.2.2.1 u.2.2.2.2.2.2.2.1 u.2.2.2.2.2.2.2.2.1 u.2.2.2.2.2.2.2.2.2.1 u.2.2.2.2.2.2.2.2.2.2.1 u.2.2.2.2.2.2.2.2.2.2.2.1 u.2.2.2.2.2.2.2.2.2.2.2.2)))) t) (va_A ([sO cy hh a kk dd b w ee qq ik] ++ (pS cy a S ++ ([ia cy (hh 1) 7 C] ++ (aS cy b P F N B O Sd Dv L rc re fr lo sm)))) sz)) 0 0 (va_A ([sO cy hh a kk dd b w ee qq ik] ++ (pS cy a S ++ ([ia cy (hh 1) 7 C] ++ (aS cy b P F N B O Sd Dv L rc re fr lo sm)))) sz) := by
  refine mk_rw (by decide) RX6 rfl (Nat.le_of_ble_eq_true rfl) [(0, .ref (hh 0))] rfl ?_
  intro p e s m below meth c hx hb hml hown hr hlocks hin hw hsz hA hG hK H0 locs0 hP0 hD0 hS0 ls0 hl0
  clear hin
  have hg20 := wf_g20 wf
  have hr6 := wf_r6 wf
  have hg0 : S 1 = 0 ↔ gcN S = 0 := by rw [wf_g wf]; exact nI_eq (b := 0) (by omega) (by decide)
  have hn0 : nI (gcN S) = 0 ↔ gcN S = 0 := nI_eq (b := 0) (by omega) (by decide)
  refine lv_aload_n hx hb dX6_most_0 rfl (lv_at hl0 0 rfl) ?_
  refine va_get (D := D) (ci := 6) (v := .ref (a 0)) (C := RX6) (T := TX6) (N := 9) hx hb hw iX6 hown hK hP0 0 rfl rfl 0 (by decide) (hw _ kw_2_27) (fun _ h9 => h9) rfl dX6_most_1 ?_
  refine va_get (D := D) (ci := 1) (v := .int (S 1)) (C := RX1) (T := TX1) (N := 12) hx hb hw iX1 hown hK hP0 1 rfl rfl 1 (by decide) (hw _ kw_1_35) (fun _ h9 => h9) rfl dX6_most_4 ?_
  refine tp (show (S 1) = nI (gcN S) from wf_g wf) ?_
  refine lv_if_ne (tgt := 16) hx hb dX6_most_7 (by decide) (fun c_7 => ?_) (fun c_7 => ?_)
  · have hg1 : 1 ≤ gcN S := by have := wid_c1 (by omega) c_7; omega
    refine lv_aload_n hx hb dX6_most_16 rfl (lv_at hl0 0 rfl) ?_
    refine va_get (D := D) (ci := 6) (v := .ref (b 0)) (C := RX6) (T := TX6) (N := 9) hx hb hw iX6 hown hK hP0 0 rfl rfl 4 (by decide) (hw _ kw_2_31) (fun _ h9 => h9) rfl dX6_most_17 ?_
    refine lv_aload_n hx hb dX6_most_20 rfl (lv_at hl0 0 rfl) ?_
    refine va_get (D := D) (ci := 6) (v := .ref (a 0)) (C := RX6) (T := TX6) (N := 9) hx hb hw iX6 hown hK hP0 0 rfl rfl 0 (by decide) (hw _ kw_2_27) (fun _ h9 => h9) rfl dX6_most_21 ?_
    refine cV_v (wc := aS cy b P F N B O Sd Dv L rc re fr lo sm ++ (pS cy a S)) (wr := [sO cy hh a kk dd b w ee qq ik, ia cy (hh 1) 7 C]) (rest := []) hx hb hml hown hw hG hK hP0 hD0 hS0 hA hl0 kc_X0_settle kw_3_52 [.ref (a 0)] (c_X0_settle l D cy G H0.size b P F N B O Sd Dv L rc re fr lo sm a S (by first | omega | assumption)) [12, 13, 14, 15, 16, 17, 18, 19, 20, 21, 22, 23, 24, 25, 26, 1, 2, 3, 4, 5, 6, 7, 8, 9, 10] [0, 11] rfl rfl rfl rfl rfl 0 rfl rfl rfl rfl rfl (Nat.le_of_ble_eq_true rfl) ⟨Nat.le_of_ble_eq_true rfl, Nat.le_of_ble_eq_true rfl⟩ dX6_most_24 ⟨Nat.le_of_ble_eq_true rfl, Nat.le_of_ble_eq_true rfl⟩ (fun u9 H1 locs1 hu9 hP1 hD1 hS1 => ?_)
    clear hP0 hD0 hS0 locs0 H0
    obtain ⟨F1_24, N1_24, B1_24, O1_24, Sd1_24, Dv1_24, L1_24⟩ := u9
    have hF_24 := hu9
    replace hF_24 : ∀ g, g < gcN S → F1_24 g = flow S (PR S) g := hF_24
    replace hP1 : va_P D vwCl ([sO cy hh a kk dd b w ee qq ik, ia cy (hh 1) 7 C] ++ (aS cy b (PR S) F1_24 N1_24 B1_24 O1_24 Sd1_24 Dv1_24 L1_24 (nI (RC S)) (b2i (RC S = 60)) (fresh S) (lost S) (b2i (smokes S = true)) ++ (pS cy a S))) H1 := hP1
    replace hD1 : va_D (va_A _ sz) ([sO cy hh a kk dd b w ee qq ik, ia cy (hh 1) 7 C] ++ (aS cy b (PR S) F1_24 N1_24 B1_24 O1_24 Sd1_24 Dv1_24 L1_24 (nI (RC S)) (b2i (RC S = 60)) (fresh S) (lost S) (b2i (smokes S = true)) ++ (pS cy a S))) := hD1
    replace hP1 := hP1.sub (ws' := [sO cy hh a kk dd b w ee qq ik] ++ (pS cy a S ++ ([ia cy (hh 1) 7 C] ++ (aS cy b (PR S) F1_24 N1_24 B1_24 O1_24 Sd1_24 Dv1_24 L1_24 (nI (RC S)) (b2i (RC S = 60)) (fresh S) (lost S) (b2i (smokes S = true)))))) [0, 17, 18, 19, 20, 21, 22, 23, 24, 25, 26, 1, 2, 3, 4, 5, 6, 7, 8, 9, 10, 11, 12, 13, 14, 15, 16] rfl
    replace hD1 := hD1.sub (ws' := [sO cy hh a kk dd b w ee qq ik] ++ (pS cy a S ++ ([ia cy (hh 1) 7 C] ++ (aS cy b (PR S) F1_24 N1_24 B1_24 O1_24 Sd1_24 Dv1_24 L1_24 (nI (RC S)) (b2i (RC S = 60)) (fresh S) (lost S) (b2i (smokes S = true)))))) [0, 17, 18, 19, 20, 21, 22, 23, 24, 25, 26, 1, 2, 3, 4, 5, 6, 7, 8, 9, 10, 11, 12, 13, 14, 15, 16] (by decide) rfl
    refine lv_iconst (v := 0) hx hb dX6_most_27 (by decide) ?_
    refine lv_istore_n (lv' := [(1, .int 0), (0, .ref (hh 0))]) hx hb dX6_most_28 rfl hl0 (by decide) rfl (fun ls1 hl1 => ?_)
    clear hl0 ls0
    refine lv_iconst (v := 1) hx hb dX6_most_29 (by decide) ?_
    refine lv_istore_n (lv' := [(2, .int 1), (1, .int 0), (0, .ref (hh 0))]) hx hb dX6_most_30 rfl hl1 (by decide) rfl (fun ls2 hl2 => ?_)
    clear hl1 ls1
    have hq9 : nI (mst (flow S (PR S)) 1) = 0 := show nI (mst (flow S (PR S)) 1) = nI 0 from congrArg nI (by have := mst_lt (flow S (PR S)) 1 (by decide); omega)
    replace hl2 : lv_has ls2 3 [(2, .int 1), (1, .int (nI (mst (flow S (PR S)) 1))), (0, .ref (hh 0))] := (congrArg (fun z9 => lv_has ls2 3 [(2, .int 1), (1, .int z9), (0, .ref (hh 0))]) hq9).mpr hl2
    clear hq9
    refine wlp (ι := Nat) (nL := 3) (fun x9 => (x9 ≤ gcN S) ∧ (1 ≤ x9)) (fun x9 => [sO cy hh a kk dd b w ee qq ik] ++ (pS cy a S ++ ([ia cy (hh 1) 7 C] ++ (aS cy b (PR S) F1_24 N1_24 B1_24 O1_24 Sd1_24 Dv1_24 L1_24 (nI (RC S)) (b2i (RC S = 60)) (fresh S) (lost S) (b2i (smokes S = true)))))) (fun x9 => [(2, .int (nI x9)), (1, .int (nI (mst (flow S (PR S)) x9))), (0, .ref (hh 0))]) (fun x9 => []) (fun x9 => gcN S - x9) 31 ?_ 1 (⟨by first | omega | assumption | rfl | simp_all, by first | omega | assumption | rfl | simp_all⟩) rfl hP1 hD1 hS1 (lv_sub hl2 [0, 1, 2] rfl)
    clear hP1 hD1 hS1 locs1 H1 hl2 ls2
    intro x9 hI ih_31 H2 locs2 ls3 hP2 hD2 hS2 hl3
    obtain ⟨i, rfl⟩ : ∃ z9, z9 = x9 := ⟨_, rfl⟩
    obtain ⟨hi, hi1⟩ := hI
    replace hi : i ≤ gcN S := hi
    replace hi1 : 1 ≤ i := hi1
    replace hP2 : va_P D vwCl ([sO cy hh a kk dd b w ee qq ik] ++ (pS cy a S ++ ([ia cy (hh 1) 7 C] ++ (aS cy b (PR S) F1_24 N1_24 B1_24 O1_24 Sd1_24 Dv1_24 L1_24 (nI (RC S)) (b2i (RC S = 60)) (fresh S) (lost S) (b2i (smokes S = true)))))) H2 := hP2
    replace hD2 : va_D (va_A _ sz) ([sO cy hh a kk dd b w ee qq ik] ++ (pS cy a S ++ ([ia cy (hh 1) 7 C] ++ (aS cy b (PR S) F1_24 N1_24 B1_24 O1_24 Sd1_24 Dv1_24 L1_24 (nI (RC S)) (b2i (RC S = 60)) (fresh S) (lost S) (b2i (smokes S = true)))))) := hD2
    replace hl3 : lv_has ls3 3 [(2, .int (nI i)), (1, .int (nI (mst (flow S (PR S)) i))), (0, .ref (hh 0))] := hl3
    show W p l e _ s m _ below meth c _ _ _ _ _ (F0 m 31 ls3 [])
    refine lv_iload_n hx hb dX6_most_31 rfl (lv_at hl3 0 rfl) ?_
    refine lv_aload_n hx hb dX6_most_32 rfl (lv_at hl3 2 rfl) ?_
    refine va_get (D := D) (ci := 6) (v := .ref (a 0)) (C := RX6) (T := TX6) (N := 9) hx hb hw iX6 hown hK hP2 0 rfl rfl 0 (by decide) (hw _ kw_2_27) (fun _ h9 => h9) rfl dX6_most_33 ?_
    refine va_get (D := D) (ci := 1) (v := .int (S 1)) (C := RX1) (T := TX1) (N := 12) hx hb hw iX1 hown hK hP2 1 rfl rfl 1 (by decide) (hw _ kw_1_35) (fun _ h9 => h9) rfl dX6_most_36 ?_
    refine tp (show (S 1) = nI (gcN S) from wf_g wf) ?_
    refine ln_ge (tgt := 77) i (gcN S) rfl rfl (by omega) (by omega) hx hb dX6_most_39 (by decide) (fun c_39 => ?_) (fun c_39 => ?_)
    · obtain rfl : i = gcN S := (by omega)
      refine lv_iload_n hx hb dX6_most_77 rfl (lv_at hl3 1 rfl) ?_
      have hcd : cMost S = 7 := by unfold cMost; clear hx hb hml hown hr hlocks hw hsz hA hG hK hP2 hD2 hS2 hl3 ih_31; grind
      have hq9 : ([sO cy hh a kk dd b w ee qq ik] ++ (pS cy a S ++ ([ia cy (hh 1) 7 C] ++ (aS cy b (PR S) F1_24 N1_24 B1_24 O1_24 Sd1_24 Dv1_24 L1_24 (nI (RC S)) (b2i (RC S = 60)) (fresh S) (lost S) (b2i (smokes S = true)))))) = ([sO cy hh a kk dd b w ee qq ik] ++ (pS cy a S ++ ([ia cy (hh 1) 7 (fnd C (cMost S))] ++ (aS cy b (PR S) F1_24 N1_24 B1_24 O1_24 Sd1_24 Dv1_24 L1_24 (nI (RC S)) (b2i (RC S = 60)) (fresh S) (lost S) (b2i (smokes S = true)))))) := congrArg (fun z9 => [sO cy hh a kk dd b w ee qq ik] ++ (pS cy a S ++ ([ia cy (hh 1) 7 z9] ++ (aS cy b (PR S) F1_24 N1_24 B1_24 O1_24 Sd1_24 Dv1_24 L1_24 (nI (RC S)) (b2i (RC S = 60)) (fresh S) (lost S) (b2i (smokes S = true)))))) (show C = (fnd C (cMost S)) from fnd_o hcd)
      replace hP2 := (congrArg (fun z9 => va_P D vwCl z9 _) hq9).mp hP2
      replace hD2 := (congrArg (fun z9 => va_D _ z9) hq9).mp hD2
      clear hq9
      refine re_i (PR S, F1_24, N1_24, B1_24, O1_24, Sd1_24, Dv1_24, L1_24, nI (RC S), b2i (RC S = 60), fresh S, lost S, b2i (smokes S = true)) hx hb hr hlocks hP2 hD2 hS2 dX6_most_78 ?_
      exact (ans_o hcd (rfl))
    · have hml9 := mst_lt (flow S (PR S)) i (by omega)
      refine lv_aload_n hx hb dX6_most_42 rfl (lv_at hl3 2 rfl) ?_
      refine va_get (D := D) (ci := 6) (v := .ref (b 0)) (C := RX6) (T := TX6) (N := 9) hx hb hw iX6 hown hK hP2 0 rfl rfl 4 (by decide) (hw _ kw_2_31) (fun _ h9 => h9) rfl dX6_most_43 ?_
      refine va_get (D := D) (ci := 0) (v := .ref (b 2)) (C := RX0) (T := TX0) (N := 13) hx hb hw iX0 hown hK hP2 12 rfl rfl 1 (by decide) (hw _ kw_1_106) (fun _ h9 => h9) rfl dX6_most_46 ?_
      refine lv_iload_n hx hb dX6_most_49 rfl (lv_at hl3 0 rfl) ?_
      refine ald_i (f := F1_24) hx hb hK hP2 14 0 rfl rfl i rfl (by first | omega | assumption) (by decide) dX6_most_50 ?_
      refine tp (show (F1_24 i) = flow S (PR S) i from hF_24 i c_39) ?_
      refine va_mabs hx hb (by rw [hml]; exact hl3.1.symm) hown (hw _ kw_3_95) (hw _ kw_3_96) (hw _ kw_1_10) (hw _ kwm_abs) (Nat.le_of_ble_eq_true rfl) (Nat.le_of_ble_eq_true rfl) (Nat.le_of_ble_eq_true rfl) (Nat.le_of_ble_eq_true rfl) dX6_most_51 ?_
      refine tp (show (if 0 ≤ (flow S (PR S) i) then (flow S (PR S) i) else 0 - (flow S (PR S) i)) = absI (flow S (PR S) i) from abs_a _) ?_
      refine lv_aload_n hx hb dX6_most_54 rfl (lv_at hl3 2 rfl) ?_
      refine va_get (D := D) (ci := 6) (v := .ref (b 0)) (C := RX6) (T := TX6) (N := 9) hx hb hw iX6 hown hK hP2 0 rfl rfl 4 (by decide) (hw _ kw_2_31) (fun _ h9 => h9) rfl dX6_most_55 ?_
      refine va_get (D := D) (ci := 0) (v := .ref (b 2)) (C := RX0) (T := TX0) (N := 13) hx hb hw iX0 hown hK hP2 12 rfl rfl 1 (by decide) (hw _ kw_1_106) (fun _ h9 => h9) rfl dX6_most_58 ?_
      refine lv_iload_n hx hb dX6_most_61 rfl (lv_at hl3 1 rfl) ?_
      refine ald_i (f := F1_24) hx hb hK hP2 14 0 rfl rfl (mst (flow S (PR S)) i) rfl (by omega) (by decide) dX6_most_62 ?_
      refine tp (show (F1_24 (mst (flow S (PR S)) i)) = flow S (PR S) (mst (flow S (PR S)) i) from hF_24 _ (by omega)) ?_
      refine va_mabs hx hb (by rw [hml]; exact hl3.1.symm) hown (hw _ kw_3_95) (hw _ kw_3_96) (hw _ kw_1_10) (hw _ kwm_abs) (Nat.le_of_ble_eq_true rfl) (Nat.le_of_ble_eq_true rfl) (Nat.le_of_ble_eq_true rfl) (Nat.le_of_ble_eq_true rfl) dX6_most_63 ?_
      refine tp (show (if 0 ≤ (flow S (PR S) (mst (flow S (PR S)) i)) then (flow S (PR S) (mst (flow S (PR S)) i)) else 0 - (flow S (PR S) (mst (flow S (PR S)) i))) = absI (flow S (PR S) (mst (flow S (PR S)) i)) from abs_a _) ?_
      refine lv_icmp_le (tgt := 71) hx hb dX6_most_66 (by decide) (fun c_66 => ?_) (fun c_66 => ?_)
      · have hq9 : nI (mst (flow S (PR S)) (i + 1)) = nI (mst (flow S (PR S)) i) := congrArg nI (by clear hx hb hml hown hr hlocks hw hsz hA hG hK hP2 hD2 hS2 hl3 ih_31; grind [mst])
        replace hl3 : lv_has ls3 3 [(2, .int (nI i)), (1, .int (nI (mst (flow S (PR S)) (i + 1)))), (0, .ref (hh 0))] := (congrArg (fun z9 => lv_has ls3 3 [(2, .int (nI i)), (1, .int z9), (0, .ref (hh 0))]) hq9).mpr hl3
        clear hq9
        refine lv_iinc (v := nI (i + 1)) (lv' := [(2, .int (nI (i + 1))), (1, .int (nI (mst (flow S (PR S)) (i + 1)))), (0, .ref (hh 0))]) hx hb dX6_most_71 hl3 (k := 0) rfl (nI_inc _) (by decide) rfl (fun ls4 hl4 => ?_)
        clear hl3 ls3
        refine lv_goto (tgt := 31) hx hb dX6_most_74 (by decide) ?_
        exact ih_31 (i + 1) (⟨by first | omega | assumption | rfl | simp_all, by first | omega | assumption | rfl | simp_all⟩) (by (try dsimp only); omega) H2 locs2 ls4 hP2 hD2 hS2 (lv_sub hl4 [0, 1, 2] rfl)
      · refine lv_iload_n hx hb dX6_most_69 rfl (lv_at hl3 0 rfl) ?_
        refine lv_istore_n (lv' := [(1, .int (nI i)), (2, .int (nI i)), (0, .ref (hh 0))]) hx hb dX6_most_70 rfl hl3 (by decide) rfl (fun ls4 hl4 => ?_)
        clear hl3 ls3
        have hq9 : nI (mst (flow S (PR S)) (i + 1)) = nI i := congrArg nI (by clear hx hb hml hown hr hlocks hw hsz hA hG hK hP2 hD2 hS2 hl4 ih_31; grind [mst])
        replace hl4 : lv_has ls4 3 [(1, .int (nI (mst (flow S (PR S)) (i + 1)))), (2, .int (nI i)), (0, .ref (hh 0))] := (congrArg (fun z9 => lv_has ls4 3 [(1, .int z9), (2, .int (nI i)), (0, .ref (hh 0))]) hq9).mpr hl4
        clear hq9
        refine lv_iinc (v := nI (i + 1)) (lv' := [(2, .int (nI (i + 1))), (1, .int (nI (mst (flow S (PR S)) (i + 1)))), (0, .ref (hh 0))]) hx hb dX6_most_71 hl4 (k := 1) rfl (nI_inc _) (by decide) rfl (fun ls5 hl5 => ?_)
        clear hl4 ls4
        refine lv_goto (tgt := 31) hx hb dX6_most_74 (by decide) ?_
        exact ih_31 (i + 1) (⟨by first | omega | assumption | rfl | simp_all, by first | omega | assumption | rfl | simp_all⟩) (by (try dsimp only); omega) H2 locs2 ls5 hP2 hD2 hS2 (lv_sub hl5 [0, 1, 2] rfl)
  · refine lv_aload_n hx hb dX6_most_10 rfl (lv_at hl0 0 rfl) ?_
    refine lv_iconst (v := 3) hx hb dX6_most_11 (by decide) ?_
    refine cV_i (wc := [sO cy hh a kk dd b w ee qq ik, ia cy (hh 1) 7 C]) (wr := pS cy a S ++ (aS cy b P F N B O Sd Dv L rc re fr lo sm)) (rest := []) hx hb hml hown hw hG hK hP0 hD0 hS0 hA hl0 kc_X6_find kw_2_59 [.int 3] (c_X6_find l D cy G H0.size hh a kk dd b w ee qq ik C 3 (by first | omega | assumption)) [0, 11] [1, 2, 3, 4, 5, 6, 7, 8, 9, 10, 12, 13, 14, 15, 16, 17, 18, 19, 20, 21, 22, 23, 24, 25, 26] rfl rfl rfl rfl rfl 0 rfl rfl rfl rfl rfl (Nat.le_of_ble_eq_true rfl) ⟨Nat.le_of_ble_eq_true rfl, Nat.le_of_ble_eq_true rfl⟩ dX6_most_12 ⟨Nat.le_of_ble_eq_true rfl, Nat.le_of_ble_eq_true rfl⟩ (fun r_12 u9 H1 locs1 hu9 hP1 hD1 hS1 => ?_)
    clear hP0 hD0 hS0 locs0 H0
    have hr_12 := hu9
    replace hP1 : va_P D vwCl (pS cy a S ++ (aS cy b P F N B O Sd Dv L rc re fr lo sm ++ ([sO cy hh a kk dd b w ee qq ik, ia cy (hh 1) 7 (upd C 3 (C 3 + 1))]))) H1 := hP1
    replace hD1 : va_D (va_A _ sz) (pS cy a S ++ (aS cy b P F N B O Sd Dv L rc re fr lo sm ++ ([sO cy hh a kk dd b w ee qq ik, ia cy (hh 1) 7 (upd C 3 (C 3 + 1))]))) := hD1
    replace hP1 := hP1.sub (ws' := [sO cy hh a kk dd b w ee qq ik] ++ (pS cy a S ++ ([ia cy (hh 1) 7 (upd C 3 (C 3 + 1))] ++ (aS cy b P F N B O Sd Dv L rc re fr lo sm)))) [25, 0, 1, 2, 3, 4, 5, 6, 7, 8, 9, 26, 10, 11, 12, 13, 14, 15, 16, 17, 18, 19, 20, 21, 22, 23, 24] rfl
    replace hD1 := hD1.sub (ws' := [sO cy hh a kk dd b w ee qq ik] ++ (pS cy a S ++ ([ia cy (hh 1) 7 (upd C 3 (C 3 + 1))] ++ (aS cy b P F N B O Sd Dv L rc re fr lo sm)))) [25, 0, 1, 2, 3, 4, 5, 6, 7, 8, 9, 26, 10, 11, 12, 13, 14, 15, 16, 17, 18, 19, 20, 21, 22, 23, 24] (by decide) rfl
    subst hr_12
    have hcd : cMost S = 3 := by unfold cMost; clear hx hb hml hown hr hlocks hw hsz hA hG hK hP1 hD1 hS1 hl0; grind
    have hq9 : ([sO cy hh a kk dd b w ee qq ik] ++ (pS cy a S ++ ([ia cy (hh 1) 7 (upd C 3 (C 3 + 1))] ++ (aS cy b P F N B O Sd Dv L rc re fr lo sm)))) = ([sO cy hh a kk dd b w ee qq ik] ++ (pS cy a S ++ ([ia cy (hh 1) 7 (fnd C (cMost S))] ++ (aS cy b P F N B O Sd Dv L rc re fr lo sm)))) := congrArg (fun z9 => [sO cy hh a kk dd b w ee qq ik] ++ (pS cy a S ++ ([ia cy (hh 1) 7 z9] ++ (aS cy b P F N B O Sd Dv L rc re fr lo sm)))) (show (upd C 3 (C 3 + 1)) = (fnd C (cMost S)) from fnd_f hcd (by decide))
    replace hP1 := (congrArg (fun z9 => va_P D vwCl z9 _) hq9).mp hP1
    replace hD1 := (congrArg (fun z9 => va_D _ z9) hq9).mp hD1
    clear hq9
    refine re_i (P, F, N, B, O, Sd, Dv, L, rc, re, fr, lo, sm) hx hb hr hlocks hP1 hD1 hS1 dX6_most_15 ?_
    exact (ans_f hcd (by decide) rfl)

theorem kc_X6_widths : kV yX6_widths cX6_widths 4 (some .int) 3 := ⟨kw_3_137, kw_3_138, kw_1_1, kw_3_139, by decide, by decide, by decide +kernel⟩
set_option maxHeartbeats 4000000 in
set_option maxRecDepth 100000 in
theorem c_X6_widths (l : Launch) (D : va_G) (cy : Nat → ClassId) (G : Nat → Nat) (sz : Nat) (hh : Nat → Nat) (a : Nat → Nat) (kk : Nat → Nat) (dd : Nat → Nat) (b : Nat → Nat) (w : Nat → Nat) (ee : Nat → Nat) (qq : Nat → Nat) (ik : Int32) (S : Nat → Int32) (C : Nat → Int32) (x : Nat → Nat) (wc : Int32) (lw : Int32) (gw : Int32) (ss : Int32) (sl : Int32) (sc : Int32) (sp : Int32) (b2 : Nat → Nat) (P2 : Nat → Int32) (F2 : Nat → Int32) (N2 : Nat → Int32) (B2 : Nat → Int32) (O2 : Nat → Int32) (Sd2 : Nat → Int32) (Dv2 : Nat → Int32) (L2 : Nat → Nat → Int32) (rc2 : Int32) (re2 : Int32) (fr2 : Int32) (lo2 : Int32) (sm2 : Int32) (X : Nat → Int32) (x1 : Int32) (x2 : Int32) (x3 : Int32) (hX : can X) (wf : wf S) : Met l yX6_widths (wm yX6_widths cX6_widths 4 (some .int)) { frames := 6, cells := 0, slots := 0, locals := 133 } (va_Pc [.ref (hh 0), .int x1, .int x2, .int x3] (pr D (TY cy) G ([sO cy hh a kk dd b w ee qq ik] ++ (pS cy a S ++ ([ia cy (hh 1) 7 C, tO cy w b2 x wc lw gw ss sl sc sp] ++ (aS cy b2 P2 F2 N2 B2 O2 Sd2 Dv2 L2 rc2 re2 fr2 lo2 sm2 ++ (pS cy x X))))) sz)) (va_Qi (fun (r : Int32) (u : (Nat → Int32) × (Nat → Int32) × (Nat → Int32) × (Nat → Int32) × (Nat → Int32) × (Nat → Int32) × (Nat → Int32) × (Nat → Nat → Int32) × Int32 × Int32 × Int32 × Int32 × Int32 × (Nat → Int32) × Int32 × Int32 × Int32) => (r = ans (cWidths S x1 x2 x3) (vWidths S (bstN x1) x2 x3)) ∧ (can u.2.2.2.2.2.2.2.2.2.2.2.2.2.1)) (fun (u : (Nat → Int32) × (Nat → Int32) × (Nat → Int32) × (Nat → Int32) × (Nat → Int32) × (Nat → Int32) × (Nat → Int32) × (Nat → Nat → Int32) × Int32 × Int32 × Int32 × Int32 × Int32 × (Nat → Int32) × Int32 × Int32 × Int32) t => po D (va_A ([sO cy hh a kk dd b w ee qq ik] ++ (pS cy a S ++ ([ia cy (hh 1) 7 C, tO cy w b2 x wc lw gw ss sl sc sp] ++ (aS cy b2 P2 F2 N2 B2 O2 Sd2 Dv2 L2 rc2 re2 fr2 lo2 sm2 ++ (pS cy x X))))) sz) ([sO cy hh a kk dd b w ee qq ik] ++ (pS cy a S ++ ([ia cy (hh 1) 7 (fnd C (cWidths S x1 x2 x3)), tO cy w b2 x u.2.2.2.2.2.2.2.2.2.2.2.2.2.2.1 u.2.2.2.2.2.2.2.2.2.2.2.2.2.2.2.1 u.2.2.2.2.2.2.2.2.2.2.2.2.2.2.2.2 ss sl sc sp] ++ (aS cy b2 u.1 u.2.1 u.2.2.1 u.2.2.2.1 u.2.2.2.2.1 u.2.2.2.2.2.1 u.2.2.2.2.2.2.1 u.2.2.2.2.2.2.2.1 u.2.2.2.2.2.2.2.2.1 u.2.2.2.2.2.2.2.2.2.1 u.2.2.2.2.2.2.2.2.2.2.1 u.2.2.2.2.2.2.2.2.2.2.2.1 u.2.2.2.2.2.2.2.2.2.2.2.2.1 ++ (pS cy x u.2.2.2.2.2.2.2.2.2.2.2.2.2.1))))) t) (va_A ([sO cy hh a kk dd b w ee qq ik] ++ (pS cy a S ++ ([ia cy (hh 1) 7 C, tO cy w b2 x wc lw gw ss sl sc sp] ++ (aS cy b2 P2 F2 N2 B2 O2 Sd2 Dv2 L2 rc2 re2 fr2 lo2 sm2 ++ (pS cy x X))))) sz)) 0 0 (va_A ([sO cy hh a kk dd b w ee qq ik] ++ (pS cy a S ++ ([ia cy (hh 1) 7 C, tO cy w b2 x wc lw gw ss sl sc sp] ++ (aS cy b2 P2 F2 N2 B2 O2 Sd2 Dv2 L2 rc2 re2 fr2 lo2 sm2 ++ (pS cy x X))))) sz) := by
  refine mk_rw (by decide) RX6 rfl (Nat.le_of_ble_eq_true rfl) [(0, .ref (hh 0)), (1, .int x1), (2, .int x2), (3, .int x3)] rfl ?_
  intro p e s m below meth c hx hb hml hown hr hlocks hin hw hsz hA hG hK H0 locs0 hP0 hD0 hS0 ls0 hl0
  clear hin
  have hg20 := wf_g20 wf
  have hr6 := wf_r6 wf
  refine lv_aload_n hx hb dX6_widths_0 rfl (lv_at hl0 0 rfl) ?_
  refine va_get (D := D) (ci := 6) (v := .ref (a 0)) (C := RX6) (T := TX6) (N := 9) hx hb hw iX6 hown hK hP0 0 rfl rfl 0 (by decide) (hw _ kw_2_27) (fun _ h9 => h9) rfl dX6_widths_1 ?_
  refine lv_iload_n hx hb dX6_widths_4 rfl (lv_at hl0 1 rfl) ?_
  refine rV_i (wc := pS cy a S) (rest := []) hx hb hml hown hw hG hK hP0 hS0 hA hl0 kc_X1_hasGap kw_2_98 [.int x1] (c_X1_hasGap l D cy G H0.size a S x1) [1, 2, 3, 4, 5, 6, 7, 8, 9, 10] rfl 0 rfl rfl rfl rfl rfl (Nat.le_of_ble_eq_true rfl) ⟨Nat.le_of_ble_eq_true rfl, Nat.le_of_ble_eq_true rfl⟩ dX6_widths_5 ⟨Nat.le_of_ble_eq_true rfl, Nat.le_of_ble_eq_true rfl⟩ (fun r_5 H1 locs1 hr_5 hP1 hS1 => ?_)
  have hD1 := hD0
  clear hP0 hD0 hS0 locs0 H0
  subst hr_5
  refine lb_eq (tgt := 32) hx hb dX6_widths_8 (by decide) (fun c_8 => ?_) (fun c_8 => ?_)
  · refine lv_aload_n hx hb dX6_widths_32 rfl (lv_at hl0 0 rfl) ?_
    refine lv_iconst (v := 0) hx hb dX6_widths_33 (by decide) ?_
    refine cV_i (wc := [sO cy hh a kk dd b w ee qq ik, ia cy (hh 1) 7 C]) (wr := pS cy a S ++ ([tO cy w b2 x wc lw gw ss sl sc sp] ++ (aS cy b2 P2 F2 N2 B2 O2 Sd2 Dv2 L2 rc2 re2 fr2 lo2 sm2 ++ (pS cy x X)))) (rest := []) hx hb hml hown hw hG hK hP1 hD1 hS1 hA hl0 kc_X6_find kw_2_59 [.int 0] (c_X6_find l D cy G H1.size hh a kk dd b w ee qq ik C 0 (by first | omega | assumption)) [0, 11] [1, 2, 3, 4, 5, 6, 7, 8, 9, 10, 12, 13, 14, 15, 16, 17, 18, 19, 20, 21, 22, 23, 24, 25, 26, 27, 28, 29, 30, 31, 32, 33, 34, 35, 36, 37] rfl rfl rfl rfl rfl 0 rfl rfl rfl rfl rfl (Nat.le_of_ble_eq_true rfl) ⟨Nat.le_of_ble_eq_true rfl, Nat.le_of_ble_eq_true rfl⟩ dX6_widths_34 ⟨Nat.le_of_ble_eq_true rfl, Nat.le_of_ble_eq_true rfl⟩ (fun r_34 u9 H2 locs2 hu9 hP2 hD2 hS2 => ?_)
    clear hP1 hD1 hS1 locs1 H1
    have hr_34 := hu9
    replace hP2 : va_P D vwCl (pS cy a S ++ ([tO cy w b2 x wc lw gw ss sl sc sp] ++ (aS cy b2 P2 F2 N2 B2 O2 Sd2 Dv2 L2 rc2 re2 fr2 lo2 sm2 ++ (pS cy x X ++ ([sO cy hh a kk dd b w ee qq ik, ia cy (hh 1) 7 (upd C 0 (C 0 + 1))]))))) H2 := hP2
    replace hD2 : va_D (va_A _ sz) (pS cy a S ++ ([tO cy w b2 x wc lw gw ss sl sc sp] ++ (aS cy b2 P2 F2 N2 B2 O2 Sd2 Dv2 L2 rc2 re2 fr2 lo2 sm2 ++ (pS cy x X ++ ([sO cy hh a kk dd b w ee qq ik, ia cy (hh 1) 7 (upd C 0 (C 0 + 1))]))))) := hD2
    replace hP2 := hP2.sub (ws' := [sO cy hh a kk dd b w ee qq ik] ++ (pS cy a S ++ ([ia cy (hh 1) 7 (upd C 0 (C 0 + 1)), tO cy w b2 x wc lw gw ss sl sc sp] ++ (aS cy b2 P2 F2 N2 B2 O2 Sd2 Dv2 L2 rc2 re2 fr2 lo2 sm2 ++ (pS cy x X))))) [36, 0, 1, 2, 3, 4, 5, 6, 7, 8, 9, 37, 10, 11, 12, 13, 14, 15, 16, 17, 18, 19, 20, 21, 22, 23, 24, 25, 26, 27, 28, 29, 30, 31, 32, 33, 34, 35] rfl
    replace hD2 := hD2.sub (ws' := [sO cy hh a kk dd b w ee qq ik] ++ (pS cy a S ++ ([ia cy (hh 1) 7 (upd C 0 (C 0 + 1)), tO cy w b2 x wc lw gw ss sl sc sp] ++ (aS cy b2 P2 F2 N2 B2 O2 Sd2 Dv2 L2 rc2 re2 fr2 lo2 sm2 ++ (pS cy x X))))) [36, 0, 1, 2, 3, 4, 5, 6, 7, 8, 9, 37, 10, 11, 12, 13, 14, 15, 16, 17, 18, 19, 20, 21, 22, 23, 24, 25, 26, 27, 28, 29, 30, 31, 32, 33, 34, 35] (by decide) rfl
    subst hr_34
    have hcd : cWidths S x1 x2 x3 = 0 := by unfold cWidths; clear hx hb hml hown hr hlocks hw hsz hA hG hK hP2 hD2 hS2 hl0; grind
    have hq9 : ([sO cy hh a kk dd b w ee qq ik] ++ (pS cy a S ++ ([ia cy (hh 1) 7 (upd C 0 (C 0 + 1)), tO cy w b2 x wc lw gw ss sl sc sp] ++ (aS cy b2 P2 F2 N2 B2 O2 Sd2 Dv2 L2 rc2 re2 fr2 lo2 sm2 ++ (pS cy x X))))) = ([sO cy hh a kk dd b w ee qq ik] ++ (pS cy a S ++ ([ia cy (hh 1) 7 (fnd C (cWidths S x1 x2 x3)), tO cy w b2 x wc lw gw ss sl sc sp] ++ (aS cy b2 P2 F2 N2 B2 O2 Sd2 Dv2 L2 rc2 re2 fr2 lo2 sm2 ++ (pS cy x X))))) := congrArg (fun z9 => [sO cy hh a kk dd b w ee qq ik] ++ (pS cy a S ++ ([ia cy (hh 1) 7 z9, tO cy w b2 x wc lw gw ss sl sc sp] ++ (aS cy b2 P2 F2 N2 B2 O2 Sd2 Dv2 L2 rc2 re2 fr2 lo2 sm2 ++ (pS cy x X))))) (show (upd C 0 (C 0 + 1)) = (fnd C (cWidths S x1 x2 x3)) from fnd_f hcd (by decide))
    replace hP2 := (congrArg (fun z9 => va_P D vwCl z9 _) hq9).mp hP2
    replace hD2 := (congrArg (fun z9 => va_D _ z9) hq9).mp hD2
    clear hq9
    refine re_i (P2, F2, N2, B2, O2, Sd2, Dv2, L2, rc2, re2, fr2, lo2, sm2, X, wc, lw, gw) hx hb hr hlocks hP2 hD2 hS2 dX6_widths_37 ?_
    exact (⟨ans_f hcd (by decide) rfl, hX⟩)
  · refine lv_iload_n hx hb dX6_widths_11 rfl (lv_at hl0 2 rfl) ?_
    refine lv_bipush (v := (-9)) hx hb dX6_widths_12 (by decide) ?_
    refine lv_icmp_lt (tgt := 32) hx hb dX6_widths_14 (by decide) (fun c_14 => ?_) (fun c_14 => ?_)
    · refine lv_aload_n hx hb dX6_widths_32 rfl (lv_at hl0 0 rfl) ?_
      refine lv_iconst (v := 0) hx hb dX6_widths_33 (by decide) ?_
      refine cV_i (wc := [sO cy hh a kk dd b w ee qq ik, ia cy (hh 1) 7 C]) (wr := pS cy a S ++ ([tO cy w b2 x wc lw gw ss sl sc sp] ++ (aS cy b2 P2 F2 N2 B2 O2 Sd2 Dv2 L2 rc2 re2 fr2 lo2 sm2 ++ (pS cy x X)))) (rest := []) hx hb hml hown hw hG hK hP1 hD1 hS1 hA hl0 kc_X6_find kw_2_59 [.int 0] (c_X6_find l D cy G H1.size hh a kk dd b w ee qq ik C 0 (by first | omega | assumption)) [0, 11] [1, 2, 3, 4, 5, 6, 7, 8, 9, 10, 12, 13, 14, 15, 16, 17, 18, 19, 20, 21, 22, 23, 24, 25, 26, 27, 28, 29, 30, 31, 32, 33, 34, 35, 36, 37] rfl rfl rfl rfl rfl 0 rfl rfl rfl rfl rfl (Nat.le_of_ble_eq_true rfl) ⟨Nat.le_of_ble_eq_true rfl, Nat.le_of_ble_eq_true rfl⟩ dX6_widths_34 ⟨Nat.le_of_ble_eq_true rfl, Nat.le_of_ble_eq_true rfl⟩ (fun r_34 u9 H2 locs2 hu9 hP2 hD2 hS2 => ?_)
      clear hP1 hD1 hS1 locs1 H1
      have hr_34 := hu9
      replace hP2 : va_P D vwCl (pS cy a S ++ ([tO cy w b2 x wc lw gw ss sl sc sp] ++ (aS cy b2 P2 F2 N2 B2 O2 Sd2 Dv2 L2 rc2 re2 fr2 lo2 sm2 ++ (pS cy x X ++ ([sO cy hh a kk dd b w ee qq ik, ia cy (hh 1) 7 (upd C 0 (C 0 + 1))]))))) H2 := hP2
      replace hD2 : va_D (va_A _ sz) (pS cy a S ++ ([tO cy w b2 x wc lw gw ss sl sc sp] ++ (aS cy b2 P2 F2 N2 B2 O2 Sd2 Dv2 L2 rc2 re2 fr2 lo2 sm2 ++ (pS cy x X ++ ([sO cy hh a kk dd b w ee qq ik, ia cy (hh 1) 7 (upd C 0 (C 0 + 1))]))))) := hD2
      replace hP2 := hP2.sub (ws' := [sO cy hh a kk dd b w ee qq ik] ++ (pS cy a S ++ ([ia cy (hh 1) 7 (upd C 0 (C 0 + 1)), tO cy w b2 x wc lw gw ss sl sc sp] ++ (aS cy b2 P2 F2 N2 B2 O2 Sd2 Dv2 L2 rc2 re2 fr2 lo2 sm2 ++ (pS cy x X))))) [36, 0, 1, 2, 3, 4, 5, 6, 7, 8, 9, 37, 10, 11, 12, 13, 14, 15, 16, 17, 18, 19, 20, 21, 22, 23, 24, 25, 26, 27, 28, 29, 30, 31, 32, 33, 34, 35] rfl
      replace hD2 := hD2.sub (ws' := [sO cy hh a kk dd b w ee qq ik] ++ (pS cy a S ++ ([ia cy (hh 1) 7 (upd C 0 (C 0 + 1)), tO cy w b2 x wc lw gw ss sl sc sp] ++ (aS cy b2 P2 F2 N2 B2 O2 Sd2 Dv2 L2 rc2 re2 fr2 lo2 sm2 ++ (pS cy x X))))) [36, 0, 1, 2, 3, 4, 5, 6, 7, 8, 9, 37, 10, 11, 12, 13, 14, 15, 16, 17, 18, 19, 20, 21, 22, 23, 24, 25, 26, 27, 28, 29, 30, 31, 32, 33, 34, 35] (by decide) rfl
      subst hr_34
      have hcd : cWidths S x1 x2 x3 = 0 := by unfold cWidths; clear hx hb hml hown hr hlocks hw hsz hA hG hK hP2 hD2 hS2 hl0; grind
      have hq9 : ([sO cy hh a kk dd b w ee qq ik] ++ (pS cy a S ++ ([ia cy (hh 1) 7 (upd C 0 (C 0 + 1)), tO cy w b2 x wc lw gw ss sl sc sp] ++ (aS cy b2 P2 F2 N2 B2 O2 Sd2 Dv2 L2 rc2 re2 fr2 lo2 sm2 ++ (pS cy x X))))) = ([sO cy hh a kk dd b w ee qq ik] ++ (pS cy a S ++ ([ia cy (hh 1) 7 (fnd C (cWidths S x1 x2 x3)), tO cy w b2 x wc lw gw ss sl sc sp] ++ (aS cy b2 P2 F2 N2 B2 O2 Sd2 Dv2 L2 rc2 re2 fr2 lo2 sm2 ++ (pS cy x X))))) := congrArg (fun z9 => [sO cy hh a kk dd b w ee qq ik] ++ (pS cy a S ++ ([ia cy (hh 1) 7 z9, tO cy w b2 x wc lw gw ss sl sc sp] ++ (aS cy b2 P2 F2 N2 B2 O2 Sd2 Dv2 L2 rc2 re2 fr2 lo2 sm2 ++ (pS cy x X))))) (show (upd C 0 (C 0 + 1)) = (fnd C (cWidths S x1 x2 x3)) from fnd_f hcd (by decide))
      replace hP2 := (congrArg (fun z9 => va_P D vwCl z9 _) hq9).mp hP2
      replace hD2 := (congrArg (fun z9 => va_D _ z9) hq9).mp hD2
      clear hq9
      refine re_i (P2, F2, N2, B2, O2, Sd2, Dv2, L2, rc2, re2, fr2, lo2, sm2, X, wc, lw, gw) hx hb hr hlocks hP2 hD2 hS2 dX6_widths_37 ?_
      exact (⟨ans_f hcd (by decide) rfl, hX⟩)
    · refine lv_iload_n hx hb dX6_widths_17 rfl (lv_at hl0 2 rfl) ?_
      refine lv_bipush (v := 9) hx hb dX6_widths_18 (by decide) ?_
      refine lv_icmp_gt (tgt := 32) hx hb dX6_widths_20 (by decide) (fun c_20 => ?_) (fun c_20 => ?_)
      · refine lv_aload_n hx hb dX6_widths_32 rfl (lv_at hl0 0 rfl) ?_
        refine lv_iconst (v := 0) hx hb dX6_widths_33 (by decide) ?_
        refine cV_i (wc := [sO cy hh a kk dd b w ee qq ik, ia cy (hh 1) 7 C]) (wr := pS cy a S ++ ([tO cy w b2 x wc lw gw ss sl sc sp] ++ (aS cy b2 P2 F2 N2 B2 O2 Sd2 Dv2 L2 rc2 re2 fr2 lo2 sm2 ++ (pS cy x X)))) (rest := []) hx hb hml hown hw hG hK hP1 hD1 hS1 hA hl0 kc_X6_find kw_2_59 [.int 0] (c_X6_find l D cy G H1.size hh a kk dd b w ee qq ik C 0 (by first | omega | assumption)) [0, 11] [1, 2, 3, 4, 5, 6, 7, 8, 9, 10, 12, 13, 14, 15, 16, 17, 18, 19, 20, 21, 22, 23, 24, 25, 26, 27, 28, 29, 30, 31, 32, 33, 34, 35, 36, 37] rfl rfl rfl rfl rfl 0 rfl rfl rfl rfl rfl (Nat.le_of_ble_eq_true rfl) ⟨Nat.le_of_ble_eq_true rfl, Nat.le_of_ble_eq_true rfl⟩ dX6_widths_34 ⟨Nat.le_of_ble_eq_true rfl, Nat.le_of_ble_eq_true rfl⟩ (fun r_34 u9 H2 locs2 hu9 hP2 hD2 hS2 => ?_)
        clear hP1 hD1 hS1 locs1 H1
        have hr_34 := hu9
        replace hP2 : va_P D vwCl (pS cy a S ++ ([tO cy w b2 x wc lw gw ss sl sc sp] ++ (aS cy b2 P2 F2 N2 B2 O2 Sd2 Dv2 L2 rc2 re2 fr2 lo2 sm2 ++ (pS cy x X ++ ([sO cy hh a kk dd b w ee qq ik, ia cy (hh 1) 7 (upd C 0 (C 0 + 1))]))))) H2 := hP2
        replace hD2 : va_D (va_A _ sz) (pS cy a S ++ ([tO cy w b2 x wc lw gw ss sl sc sp] ++ (aS cy b2 P2 F2 N2 B2 O2 Sd2 Dv2 L2 rc2 re2 fr2 lo2 sm2 ++ (pS cy x X ++ ([sO cy hh a kk dd b w ee qq ik, ia cy (hh 1) 7 (upd C 0 (C 0 + 1))]))))) := hD2
        replace hP2 := hP2.sub (ws' := [sO cy hh a kk dd b w ee qq ik] ++ (pS cy a S ++ ([ia cy (hh 1) 7 (upd C 0 (C 0 + 1)), tO cy w b2 x wc lw gw ss sl sc sp] ++ (aS cy b2 P2 F2 N2 B2 O2 Sd2 Dv2 L2 rc2 re2 fr2 lo2 sm2 ++ (pS cy x X))))) [36, 0, 1, 2, 3, 4, 5, 6, 7, 8, 9, 37, 10, 11, 12, 13, 14, 15, 16, 17, 18, 19, 20, 21, 22, 23, 24, 25, 26, 27, 28, 29, 30, 31, 32, 33, 34, 35] rfl
        replace hD2 := hD2.sub (ws' := [sO cy hh a kk dd b w ee qq ik] ++ (pS cy a S ++ ([ia cy (hh 1) 7 (upd C 0 (C 0 + 1)), tO cy w b2 x wc lw gw ss sl sc sp] ++ (aS cy b2 P2 F2 N2 B2 O2 Sd2 Dv2 L2 rc2 re2 fr2 lo2 sm2 ++ (pS cy x X))))) [36, 0, 1, 2, 3, 4, 5, 6, 7, 8, 9, 37, 10, 11, 12, 13, 14, 15, 16, 17, 18, 19, 20, 21, 22, 23, 24, 25, 26, 27, 28, 29, 30, 31, 32, 33, 34, 35] (by decide) rfl
        subst hr_34
        have hcd : cWidths S x1 x2 x3 = 0 := by unfold cWidths; clear hx hb hml hown hr hlocks hw hsz hA hG hK hP2 hD2 hS2 hl0; grind
        have hq9 : ([sO cy hh a kk dd b w ee qq ik] ++ (pS cy a S ++ ([ia cy (hh 1) 7 (upd C 0 (C 0 + 1)), tO cy w b2 x wc lw gw ss sl sc sp] ++ (aS cy b2 P2 F2 N2 B2 O2 Sd2 Dv2 L2 rc2 re2 fr2 lo2 sm2 ++ (pS cy x X))))) = ([sO cy hh a kk dd b w ee qq ik] ++ (pS cy a S ++ ([ia cy (hh 1) 7 (fnd C (cWidths S x1 x2 x3)), tO cy w b2 x wc lw gw ss sl sc sp] ++ (aS cy b2 P2 F2 N2 B2 O2 Sd2 Dv2 L2 rc2 re2 fr2 lo2 sm2 ++ (pS cy x X))))) := congrArg (fun z9 => [sO cy hh a kk dd b w ee qq ik] ++ (pS cy a S ++ ([ia cy (hh 1) 7 z9, tO cy w b2 x wc lw gw ss sl sc sp] ++ (aS cy b2 P2 F2 N2 B2 O2 Sd2 Dv2 L2 rc2 re2 fr2 lo2 sm2 ++ (pS cy x X))))) (show (upd C 0 (C 0 + 1)) = (fnd C (cWidths S x1 x2 x3)) from fnd_f hcd (by decide))
        replace hP2 := (congrArg (fun z9 => va_P D vwCl z9 _) hq9).mp hP2
        replace hD2 := (congrArg (fun z9 => va_D _ z9) hq9).mp hD2
        clear hq9
        refine re_i (P2, F2, N2, B2, O2, Sd2, Dv2, L2, rc2, re2, fr2, lo2, sm2, X, wc, lw, gw) hx hb hr hlocks hP2 hD2 hS2 dX6_widths_37 ?_
        exact (⟨ans_f hcd (by decide) rfl, hX⟩)
      · refine lv_iload_n hx hb dX6_widths_23 rfl (lv_at hl0 3 rfl) ?_
        refine lv_if_lt (tgt := 32) hx hb dX6_widths_24 (by decide) (fun c_24 => ?_) (fun c_24 => ?_)
        · refine lv_aload_n hx hb dX6_widths_32 rfl (lv_at hl0 0 rfl) ?_
          refine lv_iconst (v := 0) hx hb dX6_widths_33 (by decide) ?_
          refine cV_i (wc := [sO cy hh a kk dd b w ee qq ik, ia cy (hh 1) 7 C]) (wr := pS cy a S ++ ([tO cy w b2 x wc lw gw ss sl sc sp] ++ (aS cy b2 P2 F2 N2 B2 O2 Sd2 Dv2 L2 rc2 re2 fr2 lo2 sm2 ++ (pS cy x X)))) (rest := []) hx hb hml hown hw hG hK hP1 hD1 hS1 hA hl0 kc_X6_find kw_2_59 [.int 0] (c_X6_find l D cy G H1.size hh a kk dd b w ee qq ik C 0 (by first | omega | assumption)) [0, 11] [1, 2, 3, 4, 5, 6, 7, 8, 9, 10, 12, 13, 14, 15, 16, 17, 18, 19, 20, 21, 22, 23, 24, 25, 26, 27, 28, 29, 30, 31, 32, 33, 34, 35, 36, 37] rfl rfl rfl rfl rfl 0 rfl rfl rfl rfl rfl (Nat.le_of_ble_eq_true rfl) ⟨Nat.le_of_ble_eq_true rfl, Nat.le_of_ble_eq_true rfl⟩ dX6_widths_34 ⟨Nat.le_of_ble_eq_true rfl, Nat.le_of_ble_eq_true rfl⟩ (fun r_34 u9 H2 locs2 hu9 hP2 hD2 hS2 => ?_)
          clear hP1 hD1 hS1 locs1 H1
          have hr_34 := hu9
          replace hP2 : va_P D vwCl (pS cy a S ++ ([tO cy w b2 x wc lw gw ss sl sc sp] ++ (aS cy b2 P2 F2 N2 B2 O2 Sd2 Dv2 L2 rc2 re2 fr2 lo2 sm2 ++ (pS cy x X ++ ([sO cy hh a kk dd b w ee qq ik, ia cy (hh 1) 7 (upd C 0 (C 0 + 1))]))))) H2 := hP2
          replace hD2 : va_D (va_A _ sz) (pS cy a S ++ ([tO cy w b2 x wc lw gw ss sl sc sp] ++ (aS cy b2 P2 F2 N2 B2 O2 Sd2 Dv2 L2 rc2 re2 fr2 lo2 sm2 ++ (pS cy x X ++ ([sO cy hh a kk dd b w ee qq ik, ia cy (hh 1) 7 (upd C 0 (C 0 + 1))]))))) := hD2
          replace hP2 := hP2.sub (ws' := [sO cy hh a kk dd b w ee qq ik] ++ (pS cy a S ++ ([ia cy (hh 1) 7 (upd C 0 (C 0 + 1)), tO cy w b2 x wc lw gw ss sl sc sp] ++ (aS cy b2 P2 F2 N2 B2 O2 Sd2 Dv2 L2 rc2 re2 fr2 lo2 sm2 ++ (pS cy x X))))) [36, 0, 1, 2, 3, 4, 5, 6, 7, 8, 9, 37, 10, 11, 12, 13, 14, 15, 16, 17, 18, 19, 20, 21, 22, 23, 24, 25, 26, 27, 28, 29, 30, 31, 32, 33, 34, 35] rfl
          replace hD2 := hD2.sub (ws' := [sO cy hh a kk dd b w ee qq ik] ++ (pS cy a S ++ ([ia cy (hh 1) 7 (upd C 0 (C 0 + 1)), tO cy w b2 x wc lw gw ss sl sc sp] ++ (aS cy b2 P2 F2 N2 B2 O2 Sd2 Dv2 L2 rc2 re2 fr2 lo2 sm2 ++ (pS cy x X))))) [36, 0, 1, 2, 3, 4, 5, 6, 7, 8, 9, 37, 10, 11, 12, 13, 14, 15, 16, 17, 18, 19, 20, 21, 22, 23, 24, 25, 26, 27, 28, 29, 30, 31, 32, 33, 34, 35] (by decide) rfl
          subst hr_34
          have hcd : cWidths S x1 x2 x3 = 0 := by unfold cWidths; clear hx hb hml hown hr hlocks hw hsz hA hG hK hP2 hD2 hS2 hl0; grind
          have hq9 : ([sO cy hh a kk dd b w ee qq ik] ++ (pS cy a S ++ ([ia cy (hh 1) 7 (upd C 0 (C 0 + 1)), tO cy w b2 x wc lw gw ss sl sc sp] ++ (aS cy b2 P2 F2 N2 B2 O2 Sd2 Dv2 L2 rc2 re2 fr2 lo2 sm2 ++ (pS cy x X))))) = ([sO cy hh a kk dd b w ee qq ik] ++ (pS cy a S ++ ([ia cy (hh 1) 7 (fnd C (cWidths S x1 x2 x3)), tO cy w b2 x wc lw gw ss sl sc sp] ++ (aS cy b2 P2 F2 N2 B2 O2 Sd2 Dv2 L2 rc2 re2 fr2 lo2 sm2 ++ (pS cy x X))))) := congrArg (fun z9 => [sO cy hh a kk dd b w ee qq ik] ++ (pS cy a S ++ ([ia cy (hh 1) 7 z9, tO cy w b2 x wc lw gw ss sl sc sp] ++ (aS cy b2 P2 F2 N2 B2 O2 Sd2 Dv2 L2 rc2 re2 fr2 lo2 sm2 ++ (pS cy x X))))) (show (upd C 0 (C 0 + 1)) = (fnd C (cWidths S x1 x2 x3)) from fnd_f hcd (by decide))
          replace hP2 := (congrArg (fun z9 => va_P D vwCl z9 _) hq9).mp hP2
          replace hD2 := (congrArg (fun z9 => va_D _ z9) hq9).mp hD2
          clear hq9
          refine re_i (P2, F2, N2, B2, O2, Sd2, Dv2, L2, rc2, re2, fr2, lo2, sm2, X, wc, lw, gw) hx hb hr hlocks hP2 hD2 hS2 dX6_widths_37 ?_
          exact (⟨ans_f hcd (by decide) rfl, hX⟩)
        · refine lv_iload_n hx hb dX6_widths_27 rfl (lv_at hl0 3 rfl) ?_
          refine lv_iconst (v := 2) hx hb dX6_widths_28 (by decide) ?_
          refine lv_icmp_le (tgt := 38) hx hb dX6_widths_29 (by decide) (fun c_29 => ?_) (fun c_29 => ?_)
          · obtain ⟨j, hj, rfl⟩ := wf_gap wf c_8
            have hbj : bstN (nI j) = j := bst_n (by omega)
            refine lv_aload_n hx hb dX6_widths_38 rfl (lv_at hl0 0 rfl) ?_
            refine va_get (D := D) (ci := 6) (v := .ref (w 0)) (C := RX6) (T := TX6) (N := 9) hx hb hw iX6 hown hK hP1 0 rfl rfl 5 (by decide) (hw _ kw_2_32) (fun _ h9 => h9) rfl dX6_widths_39 ?_
            refine lv_aload_n hx hb dX6_widths_42 rfl (lv_at hl0 0 rfl) ?_
            refine va_get (D := D) (ci := 6) (v := .ref (a 0)) (C := RX6) (T := TX6) (N := 9) hx hb hw iX6 hown hK hP1 0 rfl rfl 0 (by decide) (hw _ kw_2_27) (fun _ h9 => h9) rfl dX6_widths_43 ?_
            refine lv_iload_n hx hb dX6_widths_46 rfl (lv_at hl0 1 rfl) ?_
            refine lv_iload_n hx hb dX6_widths_47 rfl (lv_at hl0 2 rfl) ?_
            refine cV_v (wc := [tO cy w b2 x wc lw gw ss sl sc sp] ++ (aS cy b2 P2 F2 N2 B2 O2 Sd2 Dv2 L2 rc2 re2 fr2 lo2 sm2 ++ (pS cy x X ++ (pS cy a S)))) (wr := [sO cy hh a kk dd b w ee qq ik, ia cy (hh 1) 7 C]) (rest := []) hx hb hml hown hw hG hK hP1 hD1 hS1 hA hl0 kc_X5_findWidths kw_3_140 [.ref (a 0), .int (nI j), .int x2] (c_X5_findWidths l D cy G H1.size w b2 x wc lw gw ss sl sc sp P2 F2 N2 B2 O2 Sd2 Dv2 L2 rc2 re2 fr2 lo2 sm2 X a S j x2 (by first | omega | assumption) (by first | omega | assumption) (by first | omega | assumption)) [12, 13, 14, 15, 16, 17, 18, 19, 20, 21, 22, 23, 24, 25, 26, 27, 28, 29, 30, 31, 32, 33, 34, 35, 36, 37, 1, 2, 3, 4, 5, 6, 7, 8, 9, 10] [0, 11] rfl rfl rfl rfl rfl 0 rfl rfl rfl rfl rfl (Nat.le_of_ble_eq_true rfl) ⟨Nat.le_of_ble_eq_true rfl, Nat.le_of_ble_eq_true rfl⟩ dX6_widths_48 ⟨Nat.le_of_ble_eq_true rfl, Nat.le_of_ble_eq_true rfl⟩ (fun u9 H2 locs2 hu9 hP2 hD2 hS2 => ?_)
            clear hP1 hD1 hS1 locs1 H1
            obtain ⟨P1_48, F1_48, N1_48, B1_48, O1_48, Sd1_48, Dv1_48, L1_48, rc1_48, re1_48, fr1_48, lo1_48, sm1_48, X1_48, lw1_48, gw1_48⟩ := u9
            obtain ⟨hX1_48, hW_48⟩ := hu9
            replace hX1_48 : can X1_48 := hX1_48
            replace hW_48 : cntN (okW S j x2) 100 ≠ 0 → lw1_48 = nI (lowN (okW S j x2) 100) ∧ gw1_48 = nI (hiN (okW S j x2) 100) := hW_48
            replace hP2 : va_P D vwCl ([sO cy hh a kk dd b w ee qq ik, ia cy (hh 1) 7 C, tO cy w b2 x (nI (cntN (okW S j x2) 100)) lw1_48 gw1_48 ss sl sc sp] ++ (aS cy b2 P1_48 F1_48 N1_48 B1_48 O1_48 Sd1_48 Dv1_48 L1_48 rc1_48 re1_48 fr1_48 lo1_48 sm1_48 ++ (pS cy x X1_48 ++ (pS cy a S)))) H2 := hP2
            replace hD2 : va_D (va_A _ sz) ([sO cy hh a kk dd b w ee qq ik, ia cy (hh 1) 7 C, tO cy w b2 x (nI (cntN (okW S j x2) 100)) lw1_48 gw1_48 ss sl sc sp] ++ (aS cy b2 P1_48 F1_48 N1_48 B1_48 O1_48 Sd1_48 Dv1_48 L1_48 rc1_48 re1_48 fr1_48 lo1_48 sm1_48 ++ (pS cy x X1_48 ++ (pS cy a S)))) := hD2
            replace hP2 := hP2.sub (ws' := [sO cy hh a kk dd b w ee qq ik] ++ (pS cy a S ++ ([ia cy (hh 1) 7 C, tO cy w b2 x (nI (cntN (okW S j x2) 100)) lw1_48 gw1_48 ss sl sc sp] ++ (aS cy b2 P1_48 F1_48 N1_48 B1_48 O1_48 Sd1_48 Dv1_48 L1_48 rc1_48 re1_48 fr1_48 lo1_48 sm1_48 ++ (pS cy x X1_48))))) [0, 28, 29, 30, 31, 32, 33, 34, 35, 36, 37, 1, 2, 3, 4, 5, 6, 7, 8, 9, 10, 11, 12, 13, 14, 15, 16, 17, 18, 19, 20, 21, 22, 23, 24, 25, 26, 27] rfl
            replace hD2 := hD2.sub (ws' := [sO cy hh a kk dd b w ee qq ik] ++ (pS cy a S ++ ([ia cy (hh 1) 7 C, tO cy w b2 x (nI (cntN (okW S j x2) 100)) lw1_48 gw1_48 ss sl sc sp] ++ (aS cy b2 P1_48 F1_48 N1_48 B1_48 O1_48 Sd1_48 Dv1_48 L1_48 rc1_48 re1_48 fr1_48 lo1_48 sm1_48 ++ (pS cy x X1_48))))) [0, 28, 29, 30, 31, 32, 33, 34, 35, 36, 37, 1, 2, 3, 4, 5, 6, 7, 8, 9, 10, 11, 12, 13, 14, 15, 16, 17, 18, 19, 20, 21, 22, 23, 24, 25, 26, 27] (by decide) rfl
            have hcn := cntN_le (okW S j x2) 100
            have hcn0 : nI (cntN (okW S j x2) 100) = 0 ↔ cntN (okW S j x2) 100 = 0 := nI_eq (b := 0) (by omega) (by decide)
            refine lv_iload_n hx hb dX6_widths_51 rfl (lv_at hl0 3 rfl) ?_
            refine lv_if_ne (tgt := 63) hx hb dX6_widths_52 (by decide) (fun c_52 => ?_) (fun c_52 => ?_)
            · refine lv_aload_n hx hb dX6_widths_63 rfl (lv_at hl0 0 rfl) ?_
              refine va_get (D := D) (ci := 6) (v := .ref (w 0)) (C := RX6) (T := TX6) (N := 9) hx hb hw iX6 hown hK hP2 0 rfl rfl 5 (by decide) (hw _ kw_2_32) (fun _ h9 => h9) rfl dX6_widths_64 ?_
              refine va_get (D := D) (ci := 5) (v := .int (nI (cntN (okW S j x2) 100))) (C := RX5) (T := TX5) (N := 11) hx hb hw iX5 hown hK hP2 12 rfl rfl 1 (by decide) (hw _ kw_1_166) (fun _ h9 => h9) rfl dX6_widths_67 ?_
              refine lv_if_ne (tgt := 79) hx hb dX6_widths_70 (by decide) (fun c_70 => ?_) (fun c_70 => ?_)
              · refine lv_iload_n hx hb dX6_widths_79 rfl (lv_at hl0 3 rfl) ?_
                refine lv_iconst (v := 1) hx hb dX6_widths_80 (by decide) ?_
                refine lv_icmp_ne (tgt := 94) hx hb dX6_widths_81 (by decide) (fun c_81 => ?_) (fun c_81 => ?_)
                · refine lv_aload_n hx hb dX6_widths_94 rfl (lv_at hl0 0 rfl) ?_
                  refine va_get (D := D) (ci := 6) (v := .ref (w 0)) (C := RX6) (T := TX6) (N := 9) hx hb hw iX6 hown hK hP2 0 rfl rfl 5 (by decide) (hw _ kw_2_32) (fun _ h9 => h9) rfl dX6_widths_95 ?_
                  refine va_get (D := D) (ci := 5) (v := .int gw1_48) (C := RX5) (T := TX5) (N := 11) hx hb hw iX5 hown hK hP2 12 rfl rfl 3 (by decide) (hw _ kw_1_170) (fun _ h9 => h9) rfl dX6_widths_98 ?_
                  have hcd : cWidths S (nI j) x2 x3 = 7 := by unfold cWidths; rw [hbj]; clear hx hb hml hown hr hlocks hw hsz hA hG hK hP2 hD2 hS2 hl0; grind
                  have hq9 : ([sO cy hh a kk dd b w ee qq ik] ++ (pS cy a S ++ ([ia cy (hh 1) 7 C, tO cy w b2 x (nI (cntN (okW S j x2) 100)) lw1_48 gw1_48 ss sl sc sp] ++ (aS cy b2 P1_48 F1_48 N1_48 B1_48 O1_48 Sd1_48 Dv1_48 L1_48 rc1_48 re1_48 fr1_48 lo1_48 sm1_48 ++ (pS cy x X1_48))))) = ([sO cy hh a kk dd b w ee qq ik] ++ (pS cy a S ++ ([ia cy (hh 1) 7 (fnd C (cWidths S (nI j) x2 x3)), tO cy w b2 x (nI (cntN (okW S j x2) 100)) lw1_48 gw1_48 ss sl sc sp] ++ (aS cy b2 P1_48 F1_48 N1_48 B1_48 O1_48 Sd1_48 Dv1_48 L1_48 rc1_48 re1_48 fr1_48 lo1_48 sm1_48 ++ (pS cy x X1_48))))) := congrArg (fun z9 => [sO cy hh a kk dd b w ee qq ik] ++ (pS cy a S ++ ([ia cy (hh 1) 7 z9, tO cy w b2 x (nI (cntN (okW S j x2) 100)) lw1_48 gw1_48 ss sl sc sp] ++ (aS cy b2 P1_48 F1_48 N1_48 B1_48 O1_48 Sd1_48 Dv1_48 L1_48 rc1_48 re1_48 fr1_48 lo1_48 sm1_48 ++ (pS cy x X1_48))))) (show C = (fnd C (cWidths S (nI j) x2 x3)) from fnd_o hcd)
                  replace hP2 := (congrArg (fun z9 => va_P D vwCl z9 _) hq9).mp hP2
                  replace hD2 := (congrArg (fun z9 => va_D _ z9) hq9).mp hD2
                  clear hq9
                  refine re_i (P1_48, F1_48, N1_48, B1_48, O1_48, Sd1_48, Dv1_48, L1_48, rc1_48, re1_48, fr1_48, lo1_48, sm1_48, X1_48, nI (cntN (okW S j x2) 100), lw1_48, gw1_48) hx hb hr hlocks hP2 hD2 hS2 dX6_widths_101 ?_
                  exact (⟨ans_o hcd (by rw [hbj]; unfold vWidths; clear hx hb hml hown hr hlocks hw hsz hA hG hK hP2 hD2 hS2 hl0; grind), hX1_48⟩)
                · refine lv_aload_n hx hb dX6_widths_84 rfl (lv_at hl0 0 rfl) ?_
                  refine va_get (D := D) (ci := 6) (v := .ref (w 0)) (C := RX6) (T := TX6) (N := 9) hx hb hw iX6 hown hK hP2 0 rfl rfl 5 (by decide) (hw _ kw_2_32) (fun _ h9 => h9) rfl dX6_widths_85 ?_
                  refine va_get (D := D) (ci := 5) (v := .int lw1_48) (C := RX5) (T := TX5) (N := 11) hx hb hw iX5 hown hK hP2 12 rfl rfl 2 (by decide) (hw _ kw_1_168) (fun _ h9 => h9) rfl dX6_widths_88 ?_
                  refine lv_goto (tgt := 101) hx hb dX6_widths_91 (by decide) ?_
                  have hcd : cWidths S (nI j) x2 x3 = 7 := by unfold cWidths; rw [hbj]; clear hx hb hml hown hr hlocks hw hsz hA hG hK hP2 hD2 hS2 hl0; grind
                  have hq9 : ([sO cy hh a kk dd b w ee qq ik] ++ (pS cy a S ++ ([ia cy (hh 1) 7 C, tO cy w b2 x (nI (cntN (okW S j x2) 100)) lw1_48 gw1_48 ss sl sc sp] ++ (aS cy b2 P1_48 F1_48 N1_48 B1_48 O1_48 Sd1_48 Dv1_48 L1_48 rc1_48 re1_48 fr1_48 lo1_48 sm1_48 ++ (pS cy x X1_48))))) = ([sO cy hh a kk dd b w ee qq ik] ++ (pS cy a S ++ ([ia cy (hh 1) 7 (fnd C (cWidths S (nI j) x2 x3)), tO cy w b2 x (nI (cntN (okW S j x2) 100)) lw1_48 gw1_48 ss sl sc sp] ++ (aS cy b2 P1_48 F1_48 N1_48 B1_48 O1_48 Sd1_48 Dv1_48 L1_48 rc1_48 re1_48 fr1_48 lo1_48 sm1_48 ++ (pS cy x X1_48))))) := congrArg (fun z9 => [sO cy hh a kk dd b w ee qq ik] ++ (pS cy a S ++ ([ia cy (hh 1) 7 z9, tO cy w b2 x (nI (cntN (okW S j x2) 100)) lw1_48 gw1_48 ss sl sc sp] ++ (aS cy b2 P1_48 F1_48 N1_48 B1_48 O1_48 Sd1_48 Dv1_48 L1_48 rc1_48 re1_48 fr1_48 lo1_48 sm1_48 ++ (pS cy x X1_48))))) (show C = (fnd C (cWidths S (nI j) x2 x3)) from fnd_o hcd)
                  replace hP2 := (congrArg (fun z9 => va_P D vwCl z9 _) hq9).mp hP2
                  replace hD2 := (congrArg (fun z9 => va_D _ z9) hq9).mp hD2
                  clear hq9
                  refine re_i (P1_48, F1_48, N1_48, B1_48, O1_48, Sd1_48, Dv1_48, L1_48, rc1_48, re1_48, fr1_48, lo1_48, sm1_48, X1_48, nI (cntN (okW S j x2) 100), lw1_48, gw1_48) hx hb hr hlocks hP2 hD2 hS2 dX6_widths_101 ?_
                  exact (⟨ans_o hcd (by rw [hbj]; unfold vWidths; clear hx hb hml hown hr hlocks hw hsz hA hG hK hP2 hD2 hS2 hl0; grind), hX1_48⟩)
              · refine lv_aload_n hx hb dX6_widths_73 rfl (lv_at hl0 0 rfl) ?_
                refine lv_iconst (v := 3) hx hb dX6_widths_74 (by decide) ?_
                refine cV_i (wc := [sO cy hh a kk dd b w ee qq ik, ia cy (hh 1) 7 C]) (wr := pS cy a S ++ ([tO cy w b2 x (nI (cntN (okW S j x2) 100)) lw1_48 gw1_48 ss sl sc sp] ++ (aS cy b2 P1_48 F1_48 N1_48 B1_48 O1_48 Sd1_48 Dv1_48 L1_48 rc1_48 re1_48 fr1_48 lo1_48 sm1_48 ++ (pS cy x X1_48)))) (rest := []) hx hb hml hown hw hG hK hP2 hD2 hS2 hA hl0 kc_X6_find kw_2_59 [.int 3] (c_X6_find l D cy G H2.size hh a kk dd b w ee qq ik C 3 (by first | omega | assumption)) [0, 11] [1, 2, 3, 4, 5, 6, 7, 8, 9, 10, 12, 13, 14, 15, 16, 17, 18, 19, 20, 21, 22, 23, 24, 25, 26, 27, 28, 29, 30, 31, 32, 33, 34, 35, 36, 37] rfl rfl rfl rfl rfl 0 rfl rfl rfl rfl rfl (Nat.le_of_ble_eq_true rfl) ⟨Nat.le_of_ble_eq_true rfl, Nat.le_of_ble_eq_true rfl⟩ dX6_widths_75 ⟨Nat.le_of_ble_eq_true rfl, Nat.le_of_ble_eq_true rfl⟩ (fun r_75 u9 H3 locs3 hu9 hP3 hD3 hS3 => ?_)
                clear hP2 hD2 hS2 locs2 H2
                have hr_75 := hu9
                replace hP3 : va_P D vwCl (pS cy a S ++ ([tO cy w b2 x (nI (cntN (okW S j x2) 100)) lw1_48 gw1_48 ss sl sc sp] ++ (aS cy b2 P1_48 F1_48 N1_48 B1_48 O1_48 Sd1_48 Dv1_48 L1_48 rc1_48 re1_48 fr1_48 lo1_48 sm1_48 ++ (pS cy x X1_48 ++ ([sO cy hh a kk dd b w ee qq ik, ia cy (hh 1) 7 (upd C 3 (C 3 + 1))]))))) H3 := hP3
                replace hD3 : va_D (va_A _ sz) (pS cy a S ++ ([tO cy w b2 x (nI (cntN (okW S j x2) 100)) lw1_48 gw1_48 ss sl sc sp] ++ (aS cy b2 P1_48 F1_48 N1_48 B1_48 O1_48 Sd1_48 Dv1_48 L1_48 rc1_48 re1_48 fr1_48 lo1_48 sm1_48 ++ (pS cy x X1_48 ++ ([sO cy hh a kk dd b w ee qq ik, ia cy (hh 1) 7 (upd C 3 (C 3 + 1))]))))) := hD3
                replace hP3 := hP3.sub (ws' := [sO cy hh a kk dd b w ee qq ik] ++ (pS cy a S ++ ([ia cy (hh 1) 7 (upd C 3 (C 3 + 1)), tO cy w b2 x (nI (cntN (okW S j x2) 100)) lw1_48 gw1_48 ss sl sc sp] ++ (aS cy b2 P1_48 F1_48 N1_48 B1_48 O1_48 Sd1_48 Dv1_48 L1_48 rc1_48 re1_48 fr1_48 lo1_48 sm1_48 ++ (pS cy x X1_48))))) [36, 0, 1, 2, 3, 4, 5, 6, 7, 8, 9, 37, 10, 11, 12, 13, 14, 15, 16, 17, 18, 19, 20, 21, 22, 23, 24, 25, 26, 27, 28, 29, 30, 31, 32, 33, 34, 35] rfl
                replace hD3 := hD3.sub (ws' := [sO cy hh a kk dd b w ee qq ik] ++ (pS cy a S ++ ([ia cy (hh 1) 7 (upd C 3 (C 3 + 1)), tO cy w b2 x (nI (cntN (okW S j x2) 100)) lw1_48 gw1_48 ss sl sc sp] ++ (aS cy b2 P1_48 F1_48 N1_48 B1_48 O1_48 Sd1_48 Dv1_48 L1_48 rc1_48 re1_48 fr1_48 lo1_48 sm1_48 ++ (pS cy x X1_48))))) [36, 0, 1, 2, 3, 4, 5, 6, 7, 8, 9, 37, 10, 11, 12, 13, 14, 15, 16, 17, 18, 19, 20, 21, 22, 23, 24, 25, 26, 27, 28, 29, 30, 31, 32, 33, 34, 35] (by decide) rfl
                subst hr_75
                have hcd : cWidths S (nI j) x2 x3 = 3 := by unfold cWidths; rw [hbj]; clear hx hb hml hown hr hlocks hw hsz hA hG hK hP3 hD3 hS3 hl0; grind
                have hq9 : ([sO cy hh a kk dd b w ee qq ik] ++ (pS cy a S ++ ([ia cy (hh 1) 7 (upd C 3 (C 3 + 1)), tO cy w b2 x (nI (cntN (okW S j x2) 100)) lw1_48 gw1_48 ss sl sc sp] ++ (aS cy b2 P1_48 F1_48 N1_48 B1_48 O1_48 Sd1_48 Dv1_48 L1_48 rc1_48 re1_48 fr1_48 lo1_48 sm1_48 ++ (pS cy x X1_48))))) = ([sO cy hh a kk dd b w ee qq ik] ++ (pS cy a S ++ ([ia cy (hh 1) 7 (fnd C (cWidths S (nI j) x2 x3)), tO cy w b2 x (nI (cntN (okW S j x2) 100)) lw1_48 gw1_48 ss sl sc sp] ++ (aS cy b2 P1_48 F1_48 N1_48 B1_48 O1_48 Sd1_48 Dv1_48 L1_48 rc1_48 re1_48 fr1_48 lo1_48 sm1_48 ++ (pS cy x X1_48))))) := congrArg (fun z9 => [sO cy hh a kk dd b w ee qq ik] ++ (pS cy a S ++ ([ia cy (hh 1) 7 z9, tO cy w b2 x (nI (cntN (okW S j x2) 100)) lw1_48 gw1_48 ss sl sc sp] ++ (aS cy b2 P1_48 F1_48 N1_48 B1_48 O1_48 Sd1_48 Dv1_48 L1_48 rc1_48 re1_48 fr1_48 lo1_48 sm1_48 ++ (pS cy x X1_48))))) (show (upd C 3 (C 3 + 1)) = (fnd C (cWidths S (nI j) x2 x3)) from fnd_f hcd (by decide))
                replace hP3 := (congrArg (fun z9 => va_P D vwCl z9 _) hq9).mp hP3
                replace hD3 := (congrArg (fun z9 => va_D _ z9) hq9).mp hD3
                clear hq9
                refine re_i (P1_48, F1_48, N1_48, B1_48, O1_48, Sd1_48, Dv1_48, L1_48, rc1_48, re1_48, fr1_48, lo1_48, sm1_48, X1_48, nI (cntN (okW S j x2) 100), lw1_48, gw1_48) hx hb hr hlocks hP3 hD3 hS3 dX6_widths_78 ?_
                exact (⟨ans_f hcd (by decide) rfl, hX1_48⟩)
            · refine lv_aload_n hx hb dX6_widths_55 rfl (lv_at hl0 0 rfl) ?_
              refine va_get (D := D) (ci := 6) (v := .ref (w 0)) (C := RX6) (T := TX6) (N := 9) hx hb hw iX6 hown hK hP2 0 rfl rfl 5 (by decide) (hw _ kw_2_32) (fun _ h9 => h9) rfl dX6_widths_56 ?_
              refine va_get (D := D) (ci := 5) (v := .int (nI (cntN (okW S j x2) 100))) (C := RX5) (T := TX5) (N := 11) hx hb hw iX5 hown hK hP2 12 rfl rfl 1 (by decide) (hw _ kw_1_166) (fun _ h9 => h9) rfl dX6_widths_59 ?_
              have hcd : cWidths S (nI j) x2 x3 = 7 := by unfold cWidths; rw [hbj]; clear hx hb hml hown hr hlocks hw hsz hA hG hK hP2 hD2 hS2 hl0; grind
              have hq9 : ([sO cy hh a kk dd b w ee qq ik] ++ (pS cy a S ++ ([ia cy (hh 1) 7 C, tO cy w b2 x (nI (cntN (okW S j x2) 100)) lw1_48 gw1_48 ss sl sc sp] ++ (aS cy b2 P1_48 F1_48 N1_48 B1_48 O1_48 Sd1_48 Dv1_48 L1_48 rc1_48 re1_48 fr1_48 lo1_48 sm1_48 ++ (pS cy x X1_48))))) = ([sO cy hh a kk dd b w ee qq ik] ++ (pS cy a S ++ ([ia cy (hh 1) 7 (fnd C (cWidths S (nI j) x2 x3)), tO cy w b2 x (nI (cntN (okW S j x2) 100)) lw1_48 gw1_48 ss sl sc sp] ++ (aS cy b2 P1_48 F1_48 N1_48 B1_48 O1_48 Sd1_48 Dv1_48 L1_48 rc1_48 re1_48 fr1_48 lo1_48 sm1_48 ++ (pS cy x X1_48))))) := congrArg (fun z9 => [sO cy hh a kk dd b w ee qq ik] ++ (pS cy a S ++ ([ia cy (hh 1) 7 z9, tO cy w b2 x (nI (cntN (okW S j x2) 100)) lw1_48 gw1_48 ss sl sc sp] ++ (aS cy b2 P1_48 F1_48 N1_48 B1_48 O1_48 Sd1_48 Dv1_48 L1_48 rc1_48 re1_48 fr1_48 lo1_48 sm1_48 ++ (pS cy x X1_48))))) (show C = (fnd C (cWidths S (nI j) x2 x3)) from fnd_o hcd)
              replace hP2 := (congrArg (fun z9 => va_P D vwCl z9 _) hq9).mp hP2
              replace hD2 := (congrArg (fun z9 => va_D _ z9) hq9).mp hD2
              clear hq9
              refine re_i (P1_48, F1_48, N1_48, B1_48, O1_48, Sd1_48, Dv1_48, L1_48, rc1_48, re1_48, fr1_48, lo1_48, sm1_48, X1_48, nI (cntN (okW S j x2) 100), lw1_48, gw1_48) hx hb hr hlocks hP2 hD2 hS2 dX6_widths_62 ?_
              exact (⟨ans_o hcd (by rw [hbj]; unfold vWidths; clear hx hb hml hown hr hlocks hw hsz hA hG hK hP2 hD2 hS2 hl0; grind), hX1_48⟩)
          · refine lv_aload_n hx hb dX6_widths_32 rfl (lv_at hl0 0 rfl) ?_
            refine lv_iconst (v := 0) hx hb dX6_widths_33 (by decide) ?_
            refine cV_i (wc := [sO cy hh a kk dd b w ee qq ik, ia cy (hh 1) 7 C]) (wr := pS cy a S ++ ([tO cy w b2 x wc lw gw ss sl sc sp] ++ (aS cy b2 P2 F2 N2 B2 O2 Sd2 Dv2 L2 rc2 re2 fr2 lo2 sm2 ++ (pS cy x X)))) (rest := []) hx hb hml hown hw hG hK hP1 hD1 hS1 hA hl0 kc_X6_find kw_2_59 [.int 0] (c_X6_find l D cy G H1.size hh a kk dd b w ee qq ik C 0 (by first | omega | assumption)) [0, 11] [1, 2, 3, 4, 5, 6, 7, 8, 9, 10, 12, 13, 14, 15, 16, 17, 18, 19, 20, 21, 22, 23, 24, 25, 26, 27, 28, 29, 30, 31, 32, 33, 34, 35, 36, 37] rfl rfl rfl rfl rfl 0 rfl rfl rfl rfl rfl (Nat.le_of_ble_eq_true rfl) ⟨Nat.le_of_ble_eq_true rfl, Nat.le_of_ble_eq_true rfl⟩ dX6_widths_34 ⟨Nat.le_of_ble_eq_true rfl, Nat.le_of_ble_eq_true rfl⟩ (fun r_34 u9 H2 locs2 hu9 hP2 hD2 hS2 => ?_)
            clear hP1 hD1 hS1 locs1 H1
            have hr_34 := hu9
            replace hP2 : va_P D vwCl (pS cy a S ++ ([tO cy w b2 x wc lw gw ss sl sc sp] ++ (aS cy b2 P2 F2 N2 B2 O2 Sd2 Dv2 L2 rc2 re2 fr2 lo2 sm2 ++ (pS cy x X ++ ([sO cy hh a kk dd b w ee qq ik, ia cy (hh 1) 7 (upd C 0 (C 0 + 1))]))))) H2 := hP2
            replace hD2 : va_D (va_A _ sz) (pS cy a S ++ ([tO cy w b2 x wc lw gw ss sl sc sp] ++ (aS cy b2 P2 F2 N2 B2 O2 Sd2 Dv2 L2 rc2 re2 fr2 lo2 sm2 ++ (pS cy x X ++ ([sO cy hh a kk dd b w ee qq ik, ia cy (hh 1) 7 (upd C 0 (C 0 + 1))]))))) := hD2
            replace hP2 := hP2.sub (ws' := [sO cy hh a kk dd b w ee qq ik] ++ (pS cy a S ++ ([ia cy (hh 1) 7 (upd C 0 (C 0 + 1)), tO cy w b2 x wc lw gw ss sl sc sp] ++ (aS cy b2 P2 F2 N2 B2 O2 Sd2 Dv2 L2 rc2 re2 fr2 lo2 sm2 ++ (pS cy x X))))) [36, 0, 1, 2, 3, 4, 5, 6, 7, 8, 9, 37, 10, 11, 12, 13, 14, 15, 16, 17, 18, 19, 20, 21, 22, 23, 24, 25, 26, 27, 28, 29, 30, 31, 32, 33, 34, 35] rfl
            replace hD2 := hD2.sub (ws' := [sO cy hh a kk dd b w ee qq ik] ++ (pS cy a S ++ ([ia cy (hh 1) 7 (upd C 0 (C 0 + 1)), tO cy w b2 x wc lw gw ss sl sc sp] ++ (aS cy b2 P2 F2 N2 B2 O2 Sd2 Dv2 L2 rc2 re2 fr2 lo2 sm2 ++ (pS cy x X))))) [36, 0, 1, 2, 3, 4, 5, 6, 7, 8, 9, 37, 10, 11, 12, 13, 14, 15, 16, 17, 18, 19, 20, 21, 22, 23, 24, 25, 26, 27, 28, 29, 30, 31, 32, 33, 34, 35] (by decide) rfl
            subst hr_34
            have hcd : cWidths S x1 x2 x3 = 0 := by unfold cWidths; clear hx hb hml hown hr hlocks hw hsz hA hG hK hP2 hD2 hS2 hl0; grind
            have hq9 : ([sO cy hh a kk dd b w ee qq ik] ++ (pS cy a S ++ ([ia cy (hh 1) 7 (upd C 0 (C 0 + 1)), tO cy w b2 x wc lw gw ss sl sc sp] ++ (aS cy b2 P2 F2 N2 B2 O2 Sd2 Dv2 L2 rc2 re2 fr2 lo2 sm2 ++ (pS cy x X))))) = ([sO cy hh a kk dd b w ee qq ik] ++ (pS cy a S ++ ([ia cy (hh 1) 7 (fnd C (cWidths S x1 x2 x3)), tO cy w b2 x wc lw gw ss sl sc sp] ++ (aS cy b2 P2 F2 N2 B2 O2 Sd2 Dv2 L2 rc2 re2 fr2 lo2 sm2 ++ (pS cy x X))))) := congrArg (fun z9 => [sO cy hh a kk dd b w ee qq ik] ++ (pS cy a S ++ ([ia cy (hh 1) 7 z9, tO cy w b2 x wc lw gw ss sl sc sp] ++ (aS cy b2 P2 F2 N2 B2 O2 Sd2 Dv2 L2 rc2 re2 fr2 lo2 sm2 ++ (pS cy x X))))) (show (upd C 0 (C 0 + 1)) = (fnd C (cWidths S x1 x2 x3)) from fnd_f hcd (by decide))
            replace hP2 := (congrArg (fun z9 => va_P D vwCl z9 _) hq9).mp hP2
            replace hD2 := (congrArg (fun z9 => va_D _ z9) hq9).mp hD2
            clear hq9
            refine re_i (P2, F2, N2, B2, O2, Sd2, Dv2, L2, rc2, re2, fr2, lo2, sm2, X, wc, lw, gw) hx hb hr hlocks hP2 hD2 hS2 dX6_widths_37 ?_
            exact (⟨ans_f hcd (by decide) rfl, hX⟩)
