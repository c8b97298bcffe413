theorem kc_X7_pressure : kV yX7_pressure cX7_pressure 2 (some .int) 1 := ⟨kw_5_54, kw_5_55, kw_1_8, kw_5_56, by decide, by decide, by decide +kernel⟩
set_option maxHeartbeats 4000000 in
set_option maxRecDepth 100000 in
theorem c_X7_pressure (l : Launch) (D : va_G) (cy : Nat → ClassId) (G : Nat → Nat) (sz : Nat) (mm : Nat → Nat) (ik : Int32) (tl : Int32) (fm : Int32) (tz : Int32) (vl : Int32) (iw : Int32) (rm : Int32) (rr : Int32) (om : Int32) (S : Nat → Int32) (C : Nat → Int32) (P : Nat → Int32) (N : Nat → Int32) (x1 : Int32) (wf : wf S) : Met l yX7_pressure (wm yX7_pressure cX7_pressure 2 (some .int)) { frames := 5, cells := 0, slots := 0, locals := 113 } (va_Pc [.ref (mm 0), .int x1] (pr D (TY cy) G ([mO cy mm ik tl fm tz vl iw rm rr om, ia cy (mm 1) 169 S, ia cy (mm 4) 7 C, ia cy (mm 6) 6 P, ia cy (mm 7) 6 N]) sz)) (va_Qi (fun (r : Int32) (u : (Nat → Int32) × (Nat → Int32) × Int32 × Int32) => r = ans (cR S x1) (PR S (bstN x1))) (fun (u : (Nat → Int32) × (Nat → Int32) × Int32 × Int32) t => po D (va_A ([mO cy mm ik tl fm tz vl iw rm rr om, ia cy (mm 1) 169 S, ia cy (mm 4) 7 C, ia cy (mm 6) 6 P, ia cy (mm 7) 6 N]) sz) ([mO cy mm ik tl fm tz vl iw u.2.2.1 u.2.2.2 om, ia cy (mm 1) 169 S, ia cy (mm 4) 7 (fnd C (cR S x1)), ia cy (mm 6) 6 u.1, ia cy (mm 7) 6 u.2.1]) t) (va_A ([mO cy mm ik tl fm tz vl iw rm rr om, ia cy (mm 1) 169 S, ia cy (mm 4) 7 C, ia cy (mm 6) 6 P, ia cy (mm 7) 6 N]) sz)) 0 0 (va_A ([mO cy mm ik tl fm tz vl iw rm rr om, ia cy (mm 1) 169 S, ia cy (mm 4) 7 C, ia cy (mm 6) 6 P, ia cy (mm 7) 6 N]) sz) := by
  refine mk_rw (by decide) RX7 rfl (Nat.le_of_ble_eq_true rfl) [(0, .ref (mm 0)), (1, .int x1)] rfl ?_
  intro p e s m below meth c hx hb hml hown hr hlocks hin hw hsz hA hG hK H0 locs0 hP0 hD0 hS0 ls0 hl0
  clear hin
  have hg20 := wf_g20 wf
  have hr6 := wf_r6 wf
  refine lv_aload_n hx hb dX7_pressure_0 rfl (lv_at hl0 0 rfl) ?_
  refine lv_iload_n hx hb dX7_pressure_1 rfl (lv_at hl0 1 rfl) ?_
  refine rV_i (wc := [mO cy mm ik tl fm tz vl iw rm rr om, ia cy (mm 1) 169 S]) (rest := []) hx hb hml hown hw hG hK hP0 hS0 hA hl0 kc_X7_isRoom kw_4_156 [.int x1] (c_X7_isRoom l D cy G H0.size mm ik tl fm tz vl iw rm rr om S x1 (by first | omega | assumption)) [0, 1] rfl 0 rfl rfl rfl rfl rfl (Nat.le_of_ble_eq_true rfl) ⟨Nat.le_of_ble_eq_true rfl, Nat.le_of_ble_eq_true rfl⟩ dX7_pressure_2 ⟨Nat.le_of_ble_eq_true rfl, Nat.le_of_ble_eq_true rfl⟩ (fun r_2 H1 locs1 hr_2 hP1 hS1 => ?_)
  have hD1 := hD0
  clear hP0 hD0 hS0 locs0 H0
  subst hr_2
  refine lb_ne (tgt := 15) hx hb dX7_pressure_5 (by decide) (fun c_5 => ?_) (fun c_5 => ?_)
  · obtain ⟨j, hj, rfl⟩ := wf_room wf c_5
    have hbj : bstN (nI j) = j := bst_n (by omega)
    refine lv_aload_n hx hb dX7_pressure_15 rfl (lv_at hl0 0 rfl) ?_
    refine cV_v (wc := [mO cy mm ik tl fm tz vl iw rm rr om, ia cy (mm 1) 169 S, ia cy (mm 6) 6 P, ia cy (mm 7) 6 N]) (wr := [ia cy (mm 4) 7 C]) (rest := []) hx hb hml hown hw hG hK hP1 hD1 hS1 hA hl0 kc_X7_rests kw_5_57 [] (c_X7_rests l D cy G H1.size mm ik tl fm tz vl iw rm rr om S P N (by first | omega | assumption)) [0, 1, 3, 4] [2] rfl rfl rfl rfl rfl 0 rfl rfl rfl rfl rfl (Nat.le_of_ble_eq_true rfl) ⟨Nat.le_of_ble_eq_true rfl, Nat.le_of_ble_eq_true rfl⟩ dX7_pressure_16 ⟨Nat.le_of_ble_eq_true rfl, Nat.le_of_ble_eq_true rfl⟩ (fun u9 H2 locs2 hu9 hP2 hD2 hS2 => ?_)
    clear hP1 hD1 hS1 locs1 H1
    obtain ⟨N1_16, rfl⟩ : ∃ z9, z9 = u9 := ⟨_, rfl⟩
    replace hP2 : va_P D vwCl ([ia cy (mm 4) 7 C, mO cy mm ik tl fm tz vl iw (nI (RC S)) (b2i (RC S = 60)) om, ia cy (mm 1) 169 S, ia cy (mm 6) 6 (PR S), ia cy (mm 7) 6 N1_16]) H2 := hP2
    replace hD2 : va_D (va_A _ sz) ([ia cy (mm 4) 7 C, mO cy mm ik tl fm tz vl iw (nI (RC S)) (b2i (RC S = 60)) om, ia cy (mm 1) 169 S, ia cy (mm 6) 6 (PR S), ia cy (mm 7) 6 N1_16]) := hD2
    replace hP2 := hP2.sub (ws' := [mO cy mm ik tl fm tz vl iw (nI (RC S)) (b2i (RC S = 60)) om, ia cy (mm 1) 169 S, ia cy (mm 4) 7 C, ia cy (mm 6) 6 (PR S), ia cy (mm 7) 6 N1_16]) [1, 2, 0, 3, 4] rfl
    replace hD2 := hD2.sub (ws' := [mO cy mm ik tl fm tz vl iw (nI (RC S)) (b2i (RC S = 60)) om, ia cy (mm 1) 169 S, ia cy (mm 4) 7 C, ia cy (mm 6) 6 (PR S), ia cy (mm 7) 6 N1_16]) [1, 2, 0, 3, 4] (by decide) rfl
    refine lv_aload_n hx hb dX7_pressure_19 rfl (lv_at hl0 0 rfl) ?_
    refine va_get (D := D) (ci := 7) (v := .ref (mm 6)) (C := RX7) (T := TX7) (N := 23) hx hb hw iX7 hown hK hP2 0 rfl rfl 11 (by decide) (hw _ kw_4_75) (fun _ h9 => h9) rfl dX7_pressure_20 ?_
    refine lv_iload_n hx hb dX7_pressure_23 rfl (lv_at hl0 1 rfl) ?_
    refine ald_i (f := PR S) hx hb hK hP2 3 0 rfl rfl j rfl (by first | omega | assumption) (by decide) dX7_pressure_24 ?_
    have hcd : cR S (nI j) = 7 := by unfold cR; clear hx hb hml hown hr hlocks hw hsz hA hG hK hP2 hD2 hS2 hl0; grind
    have hq9 : ([mO cy mm ik tl fm tz vl iw (nI (RC S)) (b2i (RC S = 60)) om, ia cy (mm 1) 169 S, ia cy (mm 4) 7 C, ia cy (mm 6) 6 (PR S), ia cy (mm 7) 6 N1_16]) = ([mO cy mm ik tl fm tz vl iw (nI (RC S)) (b2i (RC S = 60)) om, ia cy (mm 1) 169 S, ia cy (mm 4) 7 (fnd C (cR S (nI j))), ia cy (mm 6) 6 (PR S), ia cy (mm 7) 6 N1_16]) := congrArg (fun z9 => [mO cy mm ik tl fm tz vl iw (nI (RC S)) (b2i (RC S = 60)) om, ia cy (mm 1) 169 S, ia cy (mm 4) 7 z9, ia cy (mm 6) 6 (PR S), ia cy (mm 7) 6 N1_16]) (show C = (fnd C (cR S (nI j))) from fnd_o hcd)
    replace hP2 := (congrArg (fun z9 => va_P D vwCl z9 _) hq9).mp hP2
    replace hD2 := (congrArg (fun z9 => va_D _ z9) hq9).mp hD2
    clear hq9
    refine re_i (PR S, N1_16, nI (RC S), b2i (RC S = 60)) hx hb hr hlocks hP2 hD2 hS2 dX7_pressure_25 ?_
    exact (ans_o hcd (by rw [hbj]))
  · refine lv_aload_n hx hb dX7_pressure_8 rfl (lv_at hl0 0 rfl) ?_
    refine lv_ldc (v := (-1000000001)) hx hb hown (hw _ kw_4_143) dX7_pressure_9 ?_
    refine cV_i (wc := [mO cy mm ik tl fm tz vl iw rm rr om, ia cy (mm 4) 7 C]) (wr := [ia cy (mm 1) 169 S, ia cy (mm 6) 6 P, ia cy (mm 7) 6 N]) (rest := []) hx hb hml hown hw hG hK hP1 hD1 hS1 hA hl0 kc_X7_finds kw_4_139 [.int (-1000000001)] (c_X7_finds l D cy G H1.size mm ik tl fm tz vl iw rm rr om C 0 (-1000000001) (by decide) (by decide)) [0, 2] [1, 3, 4] rfl rfl rfl rfl rfl 0 rfl rfl rfl rfl rfl (Nat.le_of_ble_eq_true rfl) ⟨Nat.le_of_ble_eq_true rfl, Nat.le_of_ble_eq_true rfl⟩ dX7_pressure_11 ⟨Nat.le_of_ble_eq_true rfl, Nat.le_of_ble_eq_true rfl⟩ (fun r_11 u9 H2 locs2 hu9 hP2 hD2 hS2 => ?_)
    clear hP1 hD1 hS1 locs1 H1
    have hr_11 := hu9
    replace hP2 : va_P D vwCl ([ia cy (mm 1) 169 S, ia cy (mm 6) 6 P, ia cy (mm 7) 6 N, mO cy mm ik tl fm tz vl iw rm rr om, ia cy (mm 4) 7 (upd C 0 (C 0 + 1))]) H2 := hP2
    replace hD2 : va_D (va_A _ sz) ([ia cy (mm 1) 169 S, ia cy (mm 6) 6 P, ia cy (mm 7) 6 N, mO cy mm ik tl fm tz vl iw rm rr om, ia cy (mm 4) 7 (upd C 0 (C 0 + 1))]) := hD2
    replace hP2 := hP2.sub (ws' := [mO cy mm ik tl fm tz vl iw rm rr om, ia cy (mm 1) 169 S, ia cy (mm 4) 7 (upd C 0 (C 0 + 1)), ia cy (mm 6) 6 P, ia cy (mm 7) 6 N]) [3, 0, 4, 1, 2] rfl
    replace hD2 := hD2.sub (ws' := [mO cy mm ik tl fm tz vl iw rm rr om, ia cy (mm 1) 169 S, ia cy (mm 4) 7 (upd C 0 (C 0 + 1)), ia cy (mm 6) 6 P, ia cy (mm 7) 6 N]) [3, 0, 4, 1, 2] (by decide) rfl
    subst hr_11
    have hcd : cR S x1 = 0 := by unfold cR; clear hx hb hml hown hr hlocks hw hsz hA hG hK hP2 hD2 hS2 hl0; grind
    have hq9 : ([mO cy mm ik tl fm tz vl iw rm rr om, ia cy (mm 1) 169 S, ia cy (mm 4) 7 (upd C 0 (C 0 + 1)), ia cy (mm 6) 6 P, ia cy (mm 7) 6 N]) = ([mO cy mm ik tl fm tz vl iw rm rr om, ia cy (mm 1) 169 S, ia cy (mm 4) 7 (fnd C (cR S x1)), ia cy (mm 6) 6 P, ia cy (mm 7) 6 N]) := congrArg (fun z9 => [mO cy mm ik tl fm tz vl iw rm rr om, ia cy (mm 1) 169 S, ia cy (mm 4) 7 z9, ia cy (mm 6) 6 P, ia cy (mm 7) 6 N]) (show (upd C 0 (C 0 + 1)) = (fnd C (cR S x1)) from fnd_f hcd (by decide))
    replace hP2 := (congrArg (fun z9 => va_P D vwCl z9 _) hq9).mp hP2
    replace hD2 := (congrArg (fun z9 => va_D _ z9) hq9).mp hD2
    clear hq9
    refine re_i (P, N, rm, rr) hx hb hr hlocks hP2 hD2 hS2 dX7_pressure_14 ?_
    exact (ans_f hcd (by decide) rfl)

theorem kc_X7_flow : kV yX7_flow cX7_flow 2 (some .int) 1 := ⟨kw_5_70, kw_5_71, kw_1_8, kw_5_72, by decide, by decide, by decide +kernel⟩
set_option maxHeartbeats 4000000 in
set_option maxRecDepth 100000 in
theorem c_X7_flow (l : Launch) (D : va_G) (cy : Nat → ClassId) (G : Nat → Nat) (sz : Nat) (mm : Nat → Nat) (ik : Int32) (tl : Int32) (fm : Int32) (tz : Int32) (vl : Int32) (iw : Int32) (rm : Int32) (rr : Int32) (om : Int32) (S : Nat → Int32) (C : Nat → Int32) (P : Nat → Int32) (N : Nat → Int32) (x1 : Int32) (wf : wf S) : Met l yX7_flow (wm yX7_flow cX7_flow 2 (some .int)) { frames := 5, cells := 0, slots := 0, locals := 113 } (va_Pc [.ref (mm 0), .int x1] (pr D (TY cy) G ([mO cy mm ik tl fm tz vl iw rm rr om, ia cy (mm 1) 169 S, ia cy (mm 4) 7 C, ia cy (mm 6) 6 P, ia cy (mm 7) 6 N]) sz)) (va_Qi (fun (r : Int32) (u : (Nat → Int32) × (Nat → Int32) × Int32 × Int32) => r = ans (cG S x1) (flow S (PR S) (bstN x1))) (fun (u : (Nat → Int32) × (Nat → Int32) × Int32 × Int32) t => po D (va_A ([mO cy mm ik tl fm tz vl iw rm rr om, ia cy (mm 1) 169 S, ia cy (mm 4) 7 C, ia cy (mm 6) 6 P, ia cy (mm 7) 6 N]) sz) ([mO cy mm ik tl fm tz vl iw u.2.2.1 u.2.2.2 om, ia cy (mm 1) 169 S, ia cy (mm 4) 7 (fnd C (cG S x1)), ia cy (mm 6) 6 u.1, ia cy (mm 7) 6 u.2.1]) t) (va_A ([mO cy mm ik tl fm tz vl iw rm rr om, ia cy (mm 1) 169 S, ia cy (mm 4) 7 C, ia cy (mm 6) 6 P, ia cy (mm 7) 6 N]) sz)) 0 0 (va_A ([mO cy mm ik tl fm tz vl iw rm rr om, ia cy (mm 1) 169 S, ia cy (mm 4) 7 C, ia cy (mm 6) 6 P, ia cy (mm 7) 6 N]) sz) := by
  refine mk_rw (by decide) RX7 rfl (Nat.le_of_ble_eq_true rfl) [(0, .ref (mm 0)), (1, .int x1)] rfl ?_
  intro p e s m below meth c hx hb hml hown hr hlocks hin hw hsz hA hG hK H0 locs0 hP0 hD0 hS0 ls0 hl0
  clear hin
  have hg20 := wf_g20 wf
  have hr6 := wf_r6 wf
  refine lv_aload_n hx hb dX7_flow_0 rfl (lv_at hl0 0 rfl) ?_
  refine lv_iload_n hx hb dX7_flow_1 rfl (lv_at hl0 1 rfl) ?_
  refine rV_i (wc := [mO cy mm ik tl fm tz vl iw rm rr om, ia cy (mm 1) 169 S]) (rest := []) hx hb hml hown hw hG hK hP0 hS0 hA hl0 kc_X7_isGap kw_4_169 [.int x1] (c_X7_isGap l D cy G H0.size mm ik tl fm tz vl iw rm rr om S x1 (by first | omega | assumption)) [0, 1] rfl 0 rfl rfl rfl rfl rfl (Nat.le_of_ble_eq_true rfl) ⟨Nat.le_of_ble_eq_true rfl, Nat.le_of_ble_eq_true rfl⟩ dX7_flow_2 ⟨Nat.le_of_ble_eq_true rfl, Nat.le_of_ble_eq_true rfl⟩ (fun r_2 H1 locs1 hr_2 hP1 hS1 => ?_)
  have hD1 := hD0
  clear hP0 hD0 hS0 locs0 H0
  subst hr_2
  refine lb_ne (tgt := 15) hx hb dX7_flow_5 (by decide) (fun c_5 => ?_) (fun c_5 => ?_)
  · obtain ⟨j, hj, rfl⟩ := wf_gap wf c_5
    have hbj : bstN (nI j) = j := bst_n (by omega)
    refine lv_aload_n hx hb dX7_flow_15 rfl (lv_at hl0 0 rfl) ?_
    refine cV_v (wc := [mO cy mm ik tl fm tz vl iw rm rr om, ia cy (mm 1) 169 S, ia cy (mm 6) 6 P, ia cy (mm 7) 6 N]) (wr := [ia cy (mm 4) 7 C]) (rest := []) hx hb hml hown hw hG hK hP1 hD1 hS1 hA hl0 kc_X7_rests kw_5_57 [] (c_X7_rests l D cy G H1.size mm ik tl fm tz vl iw rm rr om S P N (by first | omega | assumption)) [0, 1, 3, 4] [2] rfl rfl rfl rfl rfl 0 rfl rfl rfl rfl rfl (Nat.le_of_ble_eq_true rfl) ⟨Nat.le_of_ble_eq_true rfl, Nat.le_of_ble_eq_true rfl⟩ dX7_flow_16 ⟨Nat.le_of_ble_eq_true rfl, Nat.le_of_ble_eq_true rfl⟩ (fun u9 H2 locs2 hu9 hP2 hD2 hS2 => ?_)
    clear hP1 hD1 hS1 locs1 H1
    obtain ⟨N1_16, rfl⟩ : ∃ z9, z9 = u9 := ⟨_, rfl⟩
    replace hP2 : va_P D vwCl ([ia cy (mm 4) 7 C, mO cy mm ik tl fm tz vl iw (nI (RC S)) (b2i (RC S = 60)) om, ia cy (mm 1) 169 S, ia cy (mm 6) 6 (PR S), ia cy (mm 7) 6 N1_16]) H2 := hP2
    replace hD2 : va_D (va_A _ sz) ([ia cy (mm 4) 7 C, mO cy mm ik tl fm tz vl iw (nI (RC S)) (b2i (RC S = 60)) om, ia cy (mm 1) 169 S, ia cy (mm 6) 6 (PR S), ia cy (mm 7) 6 N1_16]) := hD2
    replace hP2 := hP2.sub (ws' := [mO cy mm ik tl fm tz vl iw (nI (RC S)) (b2i (RC S = 60)) om, ia cy (mm 1) 169 S, ia cy (mm 4) 7 C, ia cy (mm 6) 6 (PR S), ia cy (mm 7) 6 N1_16]) [1, 2, 0, 3, 4] rfl
    replace hD2 := hD2.sub (ws' := [mO cy mm ik tl fm tz vl iw (nI (RC S)) (b2i (RC S = 60)) om, ia cy (mm 1) 169 S, ia cy (mm 4) 7 C, ia cy (mm 6) 6 (PR S), ia cy (mm 7) 6 N1_16]) [1, 2, 0, 3, 4] (by decide) rfl
    refine lv_aload_n hx hb dX7_flow_19 rfl (lv_at hl0 0 rfl) ?_
    refine lv_iload_n hx hb dX7_flow_20 rfl (lv_at hl0 1 rfl) ?_
    refine rV_i (wc := [mO cy mm ik tl fm tz vl iw (nI (RC S)) (b2i (RC S = 60)) om, ia cy (mm 1) 169 S, ia cy (mm 6) 6 (PR S)]) (rest := []) hx hb hml hown hw hG hK hP2 hS2 hA hl0 kc_X7_flowOf kw_5_73 [.int (nI j)] (c_X7_flowOf l D cy G H2.size mm ik tl fm tz vl iw (nI (RC S)) (b2i (RC S = 60)) om S (PR S) j (by first | omega | assumption) (by first | omega | assumption)) [0, 1, 3] rfl 0 rfl rfl rfl rfl rfl (Nat.le_of_ble_eq_true rfl) ⟨Nat.le_of_ble_eq_true rfl, Nat.le_of_ble_eq_true rfl⟩ dX7_flow_21 ⟨Nat.le_of_ble_eq_true rfl, Nat.le_of_ble_eq_true rfl⟩ (fun r_21 H3 locs3 hr_21 hP3 hS3 => ?_)
    have hD3 := hD2
    clear hP2 hD2 hS2 locs2 H2
    subst hr_21
    have hcd : cG S (nI j) = 7 := by unfold cG; clear hx hb hml hown hr hlocks hw hsz hA hG hK hP3 hD3 hS3 hl0; grind
    have hq9 : ([mO cy mm ik tl fm tz vl iw (nI (RC S)) (b2i (RC S = 60)) om, ia cy (mm 1) 169 S, ia cy (mm 4) 7 C, ia cy (mm 6) 6 (PR S), ia cy (mm 7) 6 N1_16]) = ([mO cy mm ik tl fm tz vl iw (nI (RC S)) (b2i (RC S = 60)) om, ia cy (mm 1) 169 S, ia cy (mm 4) 7 (fnd C (cG S (nI j))), ia cy (mm 6) 6 (PR S), ia cy (mm 7) 6 N1_16]) := congrArg (fun z9 => [mO cy mm ik tl fm tz vl iw (nI (RC S)) (b2i (RC S = 60)) om, ia cy (mm 1) 169 S, ia cy (mm 4) 7 z9, ia cy (mm 6) 6 (PR S), ia cy (mm 7) 6 N1_16]) (show C = (fnd C (cG S (nI j))) from fnd_o hcd)
    replace hP3 := (congrArg (fun z9 => va_P D vwCl z9 _) hq9).mp hP3
    replace hD3 := (congrArg (fun z9 => va_D _ z9) hq9).mp hD3
    clear hq9
    refine re_i (PR S, N1_16, nI (RC S), b2i (RC S = 60)) hx hb hr hlocks hP3 hD3 hS3 dX7_flow_24 ?_
    exact (ans_o hcd (by rw [hbj]))
  · refine lv_aload_n hx hb dX7_flow_8 rfl (lv_at hl0 0 rfl) ?_
    refine lv_ldc (v := (-1000000001)) hx hb hown (hw _ kw_4_143) dX7_flow_9 ?_
    refine cV_i (wc := [mO cy mm ik tl fm tz vl iw rm rr om, ia cy (mm 4) 7 C]) (wr := [ia cy (mm 1) 169 S, ia cy (mm 6) 6 P, ia cy (mm 7) 6 N]) (rest := []) hx hb hml hown hw hG hK hP1 hD1 hS1 hA hl0 kc_X7_finds kw_4_139 [.int (-1000000001)] (c_X7_finds l D cy G H1.size mm ik tl fm tz vl iw rm rr om C 0 (-1000000001) (by decide) (by decide)) [0, 2] [1, 3, 4] rfl rfl rfl rfl rfl 0 rfl rfl rfl rfl rfl (Nat.le_of_ble_eq_true rfl) ⟨Nat.le_of_ble_eq_true rfl, Nat.le_of_ble_eq_true rfl⟩ dX7_flow_11 ⟨Nat.le_of_ble_eq_true rfl, Nat.le_of_ble_eq_true rfl⟩ (fun r_11 u9 H2 locs2 hu9 hP2 hD2 hS2 => ?_)
    clear hP1 hD1 hS1 locs1 H1
    have hr_11 := hu9
    replace hP2 : va_P D vwCl ([ia cy (mm 1) 169 S, ia cy (mm 6) 6 P, ia cy (mm 7) 6 N, mO cy mm ik tl fm tz vl iw rm rr om, ia cy (mm 4) 7 (upd C 0 (C 0 + 1))]) H2 := hP2
    replace hD2 : va_D (va_A _ sz) ([ia cy (mm 1) 169 S, ia cy (mm 6) 6 P, ia cy (mm 7) 6 N, mO cy mm ik tl fm tz vl iw rm rr om, ia cy (mm 4) 7 (upd C 0 (C 0 + 1))]) := hD2
    replace hP2 := hP2.sub (ws' := [mO cy mm ik tl fm tz vl iw rm rr om, ia cy (mm 1) 169 S, ia cy (mm 4) 7 (upd C 0 (C 0 + 1)), ia cy (mm 6) 6 P, ia cy (mm 7) 6 N]) [3, 0, 4, 1, 2] rfl
    replace hD2 := hD2.sub (ws' := [mO cy mm ik tl fm tz vl iw rm rr om, ia cy (mm 1) 169 S, ia cy (mm 4) 7 (upd C 0 (C 0 + 1)), ia cy (mm 6) 6 P, ia cy (mm 7) 6 N]) [3, 0, 4, 1, 2] (by decide) rfl
    subst hr_11
    have hcd : cG S x1 = 0 := by unfold cG; clear hx hb hml hown hr hlocks hw hsz hA hG hK hP2 hD2 hS2 hl0; grind
    have hq9 : ([mO cy mm ik tl fm tz vl iw rm rr om, ia cy (mm 1) 169 S, ia cy (mm 4) 7 (upd C 0 (C 0 + 1)), ia cy (mm 6) 6 P, ia cy (mm 7) 6 N]) = ([mO cy mm ik tl fm tz vl iw rm rr om, ia cy (mm 1) 169 S, ia cy (mm 4) 7 (fnd C (cG S x1)), ia cy (mm 6) 6 P, ia cy (mm 7) 6 N]) := congrArg (fun z9 => [mO cy mm ik tl fm tz vl iw rm rr om, ia cy (mm 1) 169 S, ia cy (mm 4) 7 z9, ia cy (mm 6) 6 P, ia cy (mm 7) 6 N]) (show (upd C 0 (C 0 + 1)) = (fnd C (cG S x1)) from fnd_f hcd (by decide))
    replace hP2 := (congrArg (fun z9 => va_P D vwCl z9 _) hq9).mp hP2
    replace hD2 := (congrArg (fun z9 => va_D _ z9) hq9).mp hD2
    clear hq9
    refine re_i (P, N, rm, rr) hx hb hr hlocks hP2 hD2 hS2 dX7_flow_14 ?_
    exact (ans_f hcd (by decide) rfl)

theorem kc_X7_lean : kV yX7_lean cX7_lean 2 (some .int) 1 := ⟨kw_5_78, kw_5_79, kw_1_8, kw_5_80, by decide, by decide, by decide +kernel⟩
set_option maxHeartbeats 4000000 in
set_option maxRecDepth 100000 in
theorem c_X7_lean (l : Launch) (D : va_G) (cy : Nat → ClassId) (G : Nat → Nat) (sz : Nat) (mm : Nat → Nat) (ik : Int32) (tl : Int32) (fm : Int32) (tz : Int32) (vl : Int32) (iw : Int32) (rm : Int32) (rr : Int32) (om : Int32) (S : Nat → Int32) (C : Nat → Int32) (P : Nat → Int32) (N : Nat → Int32) (x1 : Int32) (wf : wf S) : Met l yX7_lean (wm yX7_lean cX7_lean 2 (some .int)) { frames := 5, cells := 0, slots := 0, locals := 113 } (va_Pc [.ref (mm 0), .int x1] (pr D (TY cy) G ([mO cy mm ik tl fm tz vl iw rm rr om, ia cy (mm 1) 169 S, ia cy (mm 4) 7 C, ia cy (mm 6) 6 P, ia cy (mm 7) 6 N]) sz)) (va_Qi (fun (r : Int32) (u : (Nat → Int32) × (Nat → Int32) × Int32 × Int32) => r = ans (cG S x1) (lean (flow S (PR S) (bstN x1)))) (fun (u : (Nat → Int32) × (Nat → Int32) × Int32 × Int32) t => po D (va_A ([mO cy mm ik tl fm tz vl iw rm rr om, ia cy (mm 1) 169 S, ia cy (mm 4) 7 C, ia cy (mm 6) 6 P, ia cy (mm 7) 6 N]) sz) ([mO cy mm ik tl fm tz vl iw u.2.2.1 u.2.2.2 om, ia cy (mm 1) 169 S, ia cy (mm 4) 7 (fnd C (cG S x1)), ia cy (mm 6) 6 u.1, ia cy (mm 7) 6 u.2.1]) t) (va_A ([mO cy mm ik tl fm tz vl iw rm rr om, ia cy (mm 1) 169 S, ia cy (mm 4) 7 C, ia cy (mm 6) 6 P, ia cy (mm 7) 6 N]) sz)) 0 0 (va_A ([mO cy mm ik tl fm tz vl iw rm rr om, ia cy (mm 1) 169 S, ia cy (mm 4) 7 C, ia cy (mm 6) 6 P, ia cy (mm 7) 6 N]) sz) := by
  refine mk_rw (by decide) RX7 rfl (Nat.le_of_ble_eq_true rfl) [(0, .ref (mm 0)), (1, .int x1)] rfl ?_
  intro p e s m below meth c hx hb hml hown hr hlocks hin hw hsz hA hG hK H0 locs0 hP0 hD0 hS0 ls0 hl0
  clear hin
  have hg20 := wf_g20 wf
  have hr6 := wf_r6 wf
  refine lv_aload_n hx hb dX7_lean_0 rfl (lv_at hl0 0 rfl) ?_
  refine lv_iload_n hx hb dX7_lean_1 rfl (lv_at hl0 1 rfl) ?_
  refine rV_i (wc := [mO cy mm ik tl fm tz vl iw rm rr om, ia cy (mm 1) 169 S]) (rest := []) hx hb hml hown hw hG hK hP0 hS0 hA hl0 kc_X7_isGap kw_4_169 [.int x1] (c_X7_isGap l D cy G H0.size mm ik tl fm tz vl iw rm rr om S x1 (by first | omega | assumption)) [0, 1] rfl 0 rfl rfl rfl rfl rfl (Nat.le_of_ble_eq_true rfl) ⟨Nat.le_of_ble_eq_true rfl, Nat.le_of_ble_eq_true rfl⟩ dX7_lean_2 ⟨Nat.le_of_ble_eq_true rfl, Nat.le_of_ble_eq_true rfl⟩ (fun r_2 H1 locs1 hr_2 hP1 hS1 => ?_)
  have hD1 := hD0
  clear hP0 hD0 hS0 locs0 H0
  subst hr_2
  refine lb_ne (tgt := 15) hx hb dX7_lean_5 (by decide) (fun c_5 => ?_) (fun c_5 => ?_)
  · obtain ⟨j, hj, rfl⟩ := wf_gap wf c_5
    have hbj : bstN (nI j) = j := bst_n (by omega)
    refine lv_aload_n hx hb dX7_lean_15 rfl (lv_at hl0 0 rfl) ?_
    refine cV_v (wc := [mO cy mm ik tl fm tz vl iw rm rr om, ia cy (mm 1) 169 S, ia cy (mm 6) 6 P, ia cy (mm 7) 6 N]) (wr := [ia cy (mm 4) 7 C]) (rest := []) hx hb hml hown hw hG hK hP1 hD1 hS1 hA hl0 kc_X7_rests kw_5_57 [] (c_X7_rests l D cy G H1.size mm ik tl fm tz vl iw rm rr om S P N (by first | omega | assumption)) [0, 1, 3, 4] [2] rfl rfl rfl rfl rfl 0 rfl rfl rfl rfl rfl (Nat.le_of_ble_eq_true rfl) ⟨Nat.le_of_ble_eq_true rfl, Nat.le_of_ble_eq_true rfl⟩ dX7_lean_16 ⟨Nat.le_of_ble_eq_true rfl, Nat.le_of_ble_eq_true rfl⟩ (fun u9 H2 locs2 hu9 hP2 hD2 hS2 => ?_)
    clear hP1 hD1 hS1 locs1 H1
    obtain ⟨N1_16, rfl⟩ : ∃ z9, z9 = u9 := ⟨_, rfl⟩
    replace hP2 : va_P D vwCl ([ia cy (mm 4) 7 C, mO cy mm ik tl fm tz vl iw (nI (RC S)) (b2i (RC S = 60)) om, ia cy (mm 1) 169 S, ia cy (mm 6) 6 (PR S), ia cy (mm 7) 6 N1_16]) H2 := hP2
    replace hD2 : va_D (va_A _ sz) ([ia cy (mm 4) 7 C, mO cy mm ik tl fm tz vl iw (nI (RC S)) (b2i (RC S = 60)) om, ia cy (mm 1) 169 S, ia cy (mm 6) 6 (PR S), ia cy (mm 7) 6 N1_16]) := hD2
    replace hP2 := hP2.sub (ws' := [mO cy mm ik tl fm tz vl iw (nI (RC S)) (b2i (RC S = 60)) om, ia cy (mm 1) 169 S, ia cy (mm 4) 7 C, ia cy (mm 6) 6 (PR S), ia cy (mm 7) 6 N1_16]) [1, 2, 0, 3, 4] rfl
    replace hD2 := hD2.sub (ws' := [mO cy mm ik tl fm tz vl iw (nI (RC S)) (b2i (RC S = 60)) om, ia cy (mm 1) 169 S, ia cy (mm 4) 7 C, ia cy (mm 6) 6 (PR S), ia cy (mm 7) 6 N1_16]) [1, 2, 0, 3, 4] (by decide) rfl
    refine lv_aload_n hx hb dX7_lean_19 rfl (lv_at hl0 0 rfl) ?_
    refine lv_iload_n hx hb dX7_lean_20 rfl (lv_at hl0 1 rfl) ?_
    refine rV_i (wc := [mO cy mm ik tl fm tz vl iw (nI (RC S)) (b2i (RC S = 60)) om, ia cy (mm 1) 169 S, ia cy (mm 6) 6 (PR S)]) (rest := []) hx hb hml hown hw hG hK hP2 hS2 hA hl0 kc_X7_leanOf kw_5_81 [.int (nI j)] (c_X7_leanOf l D cy G H2.size mm ik tl fm tz vl iw (nI (RC S)) (b2i (RC S = 60)) om S (PR S) j (by first | omega | assumption) (by first | omega | assumption)) [0, 1, 3] rfl 0 rfl rfl rfl rfl rfl (Nat.le_of_ble_eq_true rfl) ⟨Nat.le_of_ble_eq_true rfl, Nat.le_of_ble_eq_true rfl⟩ dX7_lean_21 ⟨Nat.le_of_ble_eq_true rfl, Nat.le_of_ble_eq_true rfl⟩ (fun r_21 H3 locs3 hr_21 hP3 hS3 => ?_)
    have hD3 := hD2
    clear hP2 hD2 hS2 locs2 H2
    subst hr_21
    have hcd : cG S (nI j) = 7 := by unfold cG; clear hx hb hml hown hr hlocks hw hsz hA hG hK hP3 hD3 hS3 hl0; grind
    have hq9 : ([mO cy mm ik tl fm tz vl iw (nI (RC S)) (b2i (RC S = 60)) om, ia cy (mm 1) 169 S, ia cy (mm 4) 7 C, ia cy (mm 6) 6 (PR S), ia cy (mm 7) 6 N1_16]) = ([mO cy mm ik tl fm tz vl iw (nI (RC S)) (b2i (RC S = 60)) om, ia cy (mm 1) 169 S, ia cy (mm 4) 7 (fnd C (cG S (nI j))), ia cy (mm 6) 6 (PR S), ia cy (mm 7) 6 N1_16]) := congrArg (fun z9 => [mO cy mm ik tl fm tz vl iw (nI (RC S)) (b2i (RC S = 60)) om, ia cy (mm 1) 169 S, ia cy (mm 4) 7 z9, ia cy (mm 6) 6 (PR S), ia cy (mm 7) 6 N1_16]) (show C = (fnd C (cG S (nI j))) from fnd_o hcd)
    replace hP3 := (congrArg (fun z9 => va_P D vwCl z9 _) hq9).mp hP3
    replace hD3 := (congrArg (fun z9 => va_D _ z9) hq9).mp hD3
    clear hq9
    refine re_i (PR S, N1_16, nI (RC S), b2i (RC S = 60)) hx hb hr hlocks hP3 hD3 hS3 dX7_lean_24 ?_
    exact (ans_o hcd (by rw [hbj]))
  · refine lv_aload_n hx hb dX7_lean_8 rfl (lv_at hl0 0 rfl) ?_
    refine lv_ldc (v := (-1000000001)) hx hb hown (hw _ kw_4_143) dX7_lean_9 ?_
    refine cV_i (wc := [mO cy mm ik tl fm tz vl iw rm rr om, ia cy (mm 4) 7 C]) (wr := [ia cy (mm 1) 169 S, ia cy (mm 6) 6 P, ia cy (mm 7) 6 N]) (rest := []) hx hb hml hown hw hG hK hP1 hD1 hS1 hA hl0 kc_X7_finds kw_4_139 [.int (-1000000001)] (c_X7_finds l D cy G H1.size mm ik tl fm tz vl iw rm rr om C 0 (-1000000001) (by decide) (by decide)) [0, 2] [1, 3, 4] rfl rfl rfl rfl rfl 0 rfl rfl rfl rfl rfl (Nat.le_of_ble_eq_true rfl) ⟨Nat.le_of_ble_eq_true rfl, Nat.le_of_ble_eq_true rfl⟩ dX7_lean_11 ⟨Nat.le_of_ble_eq_true rfl, Nat.le_of_ble_eq_true rfl⟩ (fun r_11 u9 H2 locs2 hu9 hP2 hD2 hS2 => ?_)
    clear hP1 hD1 hS1 locs1 H1
    have hr_11 := hu9
    replace hP2 : va_P D vwCl ([ia cy (mm 1) 169 S, ia cy (mm 6) 6 P, ia cy (mm 7) 6 N, mO cy mm ik tl fm tz vl iw rm rr om, ia cy (mm 4) 7 (upd C 0 (C 0 + 1))]) H2 := hP2
    replace hD2 : va_D (va_A _ sz) ([ia cy (mm 1) 169 S, ia cy (mm 6) 6 P, ia cy (mm 7) 6 N, mO cy mm ik tl fm tz vl iw rm rr om, ia cy (mm 4) 7 (upd C 0 (C 0 + 1))]) := hD2
    replace hP2 := hP2.sub (ws' := [mO cy mm ik tl fm tz vl iw rm rr om, ia cy (mm 1) 169 S, ia cy (mm 4) 7 (upd C 0 (C 0 + 1)), ia cy (mm 6) 6 P, ia cy (mm 7) 6 N]) [3, 0, 4, 1, 2] rfl
    replace hD2 := hD2.sub (ws' := [mO cy mm ik tl fm tz vl iw rm rr om, ia cy (mm 1) 169 S, ia cy (mm 4) 7 (upd C 0 (C 0 + 1)), ia cy (mm 6) 6 P, ia cy (mm 7) 6 N]) [3, 0, 4, 1, 2] (by decide) rfl
    subst hr_11
    have hcd : cG S x1 = 0 := by unfold cG; clear hx hb hml hown hr hlocks hw hsz hA hG hK hP2 hD2 hS2 hl0; grind
    have hq9 : ([mO cy mm ik tl fm tz vl iw rm rr om, ia cy (mm 1) 169 S, ia cy (mm 4) 7 (upd C 0 (C 0 + 1)), ia cy (mm 6) 6 P, ia cy (mm 7) 6 N]) = ([mO cy mm ik tl fm tz vl iw rm rr om, ia cy (mm 1) 169 S, ia cy (mm 4) 7 (fnd C (cG S x1)), ia cy (mm 6) 6 P, ia cy (mm 7) 6 N]) := congrArg (fun z9 => [mO cy mm ik tl fm tz vl iw rm rr om, ia cy (mm 1) 169 S, ia cy (mm 4) 7 z9, ia cy (mm 6) 6 P, ia cy (mm 7) 6 N]) (show (upd C 0 (C 0 + 1)) = (fnd C (cG S x1)) from fnd_f hcd (by decide))
    replace hP2 := (congrArg (fun z9 => va_P D vwCl z9 _) hq9).mp hP2
    replace hD2 := (congrArg (fun z9 => va_D _ z9) hq9).mp hD2
    clear hq9
    refine re_i (P, N, rm, rr) hx hb hr hlocks hP2 hD2 hS2 dX7_lean_14 ?_
    exact (ans_f hcd (by decide) rfl)

theorem kc_X7_rounds : kV yX7_rounds cX7_rounds 1 (some .int) 0 := ⟨kw_5_89, kw_5_90, kw_1_8, kw_5_91, by decide, by decide, by decide +kernel⟩
set_option maxHeartbeats 4000000 in
set_option maxRecDepth 100000 in
theorem c_X7_rounds (l : Launch) (D : va_G) (cy : Nat → ClassId) (G : Nat → Nat) (sz : Nat) (mm : Nat → Nat) (ik : Int32) (tl : Int32) (fm : Int32) (tz : Int32) (vl : Int32) (iw : Int32) (rm : Int32) (rr : Int32) (om : Int32) (S : Nat → Int32) (P : Nat → Int32) (N : Nat → Int32) (wf : wf S) : Met l yX7_rounds (wm yX7_rounds cX7_rounds 1 (some .int)) { frames := 5, cells := 0, slots := 0, locals := 113 } (va_Pc [.ref (mm 0)] (pr D (TY cy) G ([mO cy mm ik tl fm tz vl iw rm rr om, ia cy (mm 1) 169 S, ia cy (mm 6) 6 P, ia cy (mm 7) 6 N]) sz)) (va_Qi (fun (r : Int32) (u : (Nat → Int32) × (Nat → Int32) × Int32 × Int32) => r = nI (RC S)) (fun (u : (Nat → Int32) × (Nat → Int32) × Int32 × Int32) t => po D (va_A ([mO cy mm ik tl fm tz vl iw rm rr om, ia cy (mm 1) 169 S, ia cy (mm 6) 6 P, ia cy (mm 7) 6 N]) sz) ([mO cy mm ik tl fm tz vl iw u.2.2.1 u.2.2.2 om, ia cy (mm 1) 169 S, ia cy (mm 6) 6 u.1, ia cy (mm 7) 6 u.2.1]) t) (va_A ([mO cy mm ik tl fm tz vl iw rm rr om, ia cy (mm 1) 169 S, ia cy (mm 6) 6 P, ia cy (mm 7) 6 N]) sz)) 0 0 (va_A ([mO cy mm ik tl fm tz vl iw rm rr om, ia cy (mm 1) 169 S, ia cy (mm 6) 6 P, ia cy (mm 7) 6 N]) sz) := by
  refine mk_rw (by decide) RX7 rfl (Nat.le_of_ble_eq_true rfl) [(0, .ref (mm 0))] rfl ?_
  intro p e s m below meth c hx hb hml hown hr hlocks hin hw hsz hA hG hK H0 locs0 hP0 hD0 hS0 ls0 hl0
  clear hin
  refine lv_aload_n hx hb dX7_rounds_0 rfl (lv_at hl0 0 rfl) ?_
  refine cV_v (wc := [mO cy mm ik tl fm tz vl iw rm rr om, ia cy (mm 1) 169 S, ia cy (mm 6) 6 P, ia cy (mm 7) 6 N]) (wr := []) (rest := []) hx hb hml hown hw hG hK hP0 hD0 hS0 hA hl0 kc_X7_rests kw_5_57 [] (c_X7_rests l D cy G H0.size mm ik tl fm tz vl iw rm rr om S P N (by first | omega | assumption)) [0, 1, 2, 3] [] rfl rfl rfl rfl rfl 0 rfl rfl rfl rfl rfl (Nat.le_of_ble_eq_true rfl) ⟨Nat.le_of_ble_eq_true rfl, Nat.le_of_ble_eq_true rfl⟩ dX7_rounds_1 ⟨Nat.le_of_ble_eq_true rfl, Nat.le_of_ble_eq_true rfl⟩ (fun u9 H1 locs1 hu9 hP1 hD1 hS1 => ?_)
  clear hP0 hD0 hS0 locs0 H0
  obtain ⟨N1_1, rfl⟩ : ∃ z9, z9 = u9 := ⟨_, rfl⟩
  replace hP1 : va_P D vwCl ([mO cy mm ik tl fm tz vl iw (nI (RC S)) (b2i (RC S = 60)) om, ia cy (mm 1) 169 S, ia cy (mm 6) 6 (PR S), ia cy (mm 7) 6 N1_1]) H1 := hP1
  replace hD1 : va_D (va_A _ sz) ([mO cy mm ik tl fm tz vl iw (nI (RC S)) (b2i (RC S = 60)) om, ia cy (mm 1) 169 S, ia cy (mm 6) 6 (PR S), ia cy (mm 7) 6 N1_1]) := hD1
  refine lv_aload_n hx hb dX7_rounds_4 rfl (lv_at hl0 0 rfl) ?_
  refine va_get (D := D) (ci := 7) (v := .int (nI (RC S))) (C := RX7) (T := TX7) (N := 23) hx hb hw iX7 hown hK hP1 0 rfl rfl 13 (by decide) (hw _ kw_4_77) (fun _ h9 => h9) rfl dX7_rounds_5 ?_
  refine re_i (PR S, N1_1, nI (RC S), b2i (RC S = 60)) hx hb hr hlocks hP1 hD1 hS1 dX7_rounds_8 ?_
  exact (rfl)

theorem kc_X7_rest : kV yX7_rest cX7_rest 4 (some .int) 1 := ⟨kw_5_93, kw_5_94, kw_1_8, kw_5_95, by decide, by decide, by decide +kernel⟩
set_option maxHeartbeats 4000000 in
set_option maxRecDepth 100000 in
theorem c_X7_rest (l : Launch) (D : va_G) (cy : Nat → ClassId) (G : Nat → Nat) (sz : Nat) (mm : Nat → Nat) (ik : Int32) (tl : Int32) (fm : Int32) (tz : Int32) (vl : Int32) (iw : Int32) (rm : Int32) (rr : Int32) (om : Int32) (S : Nat → Int32) (C : Nat → Int32) (P : Nat → Int32) (N : Nat → Int32) (x1 : Int32) (wf : wf S) : Met l yX7_rest (wm yX7_rest cX7_rest 4 (some .int)) { frames := 5, cells := 0, slots := 0, locals := 113 } (va_Pc [.ref (mm 0), .int x1] (pr D (TY cy) G ([mO cy mm ik tl fm tz vl iw rm rr om, ia cy (mm 1) 169 S, ia cy (mm 4) 7 C, ia cy (mm 6) 6 P, ia cy (mm 7) 6 N]) sz)) (va_Qi (fun (r : Int32) (u : (Nat → Int32) × (Nat → Int32) × Int32 × Int32) => r = ans (cR S x1) (rst S (PR S) (bstN x1) (gcN S))) (fun (u : (Nat → Int32) × (Nat → Int32) × Int32 × Int32) t => po D (va_A ([mO cy mm ik tl fm tz vl iw rm rr om, ia cy (mm 1) 169 S, ia cy (mm 4) 7 C, ia cy (mm 6) 6 P, ia cy (mm 7) 6 N]) sz) ([mO cy mm ik tl fm tz vl iw u.2.2.1 u.2.2.2 om, ia cy (mm 1) 169 S, ia cy (mm 4) 7 (fnd C (cR S x1)), ia cy (mm 6) 6 u.1, ia cy (mm 7) 6 u.2.1]) t) (va_A ([mO cy mm ik tl fm tz vl iw rm rr om, ia cy (mm 1) 169 S, ia cy (mm 4) 7 C, ia cy (mm 6) 6 P, ia cy (mm 7) 6 N]) sz)) 0 0 (va_A ([mO cy mm ik tl fm tz vl iw rm rr om, ia cy (mm 1) 169 S, ia cy (mm 4) 7 C, ia cy (mm 6) 6 P, ia cy (mm 7) 6 N]) sz) := by
  refine mk_rw (by decide) RX7 rfl (Nat.le_of_ble_eq_true rfl) [(0, .ref (mm 0)), (1, .int x1)] rfl ?_
  intro p e s m below meth c hx hb hml hown hr hlocks hin hw hsz hA hG hK H0 locs0 hP0 hD0 hS0 ls0 hl0
  clear hin
  have hg20 := wf_g20 wf
  have hr6 := wf_r6 wf
  refine lv_aload_n hx hb dX7_rest_0 rfl (lv_at hl0 0 rfl) ?_
  refine lv_iload_n hx hb dX7_rest_1 rfl (lv_at hl0 1 rfl) ?_
  refine rV_i (wc := [mO cy mm ik tl fm tz vl iw rm rr om, ia cy (mm 1) 169 S]) (rest := []) hx hb hml hown hw hG hK hP0 hS0 hA hl0 kc_X7_isRoom kw_4_156 [.int x1] (c_X7_isRoom l D cy G H0.size mm ik tl fm tz vl iw rm rr om S x1 (by first | omega | assumption)) [0, 1] rfl 0 rfl rfl rfl rfl rfl (Nat.le_of_ble_eq_true rfl) ⟨Nat.le_of_ble_eq_true rfl, Nat.le_of_ble_eq_true rfl⟩ dX7_rest_2 ⟨Nat.le_of_ble_eq_true rfl, Nat.le_of_ble_eq_true rfl⟩ (fun r_2 H1 locs1 hr_2 hP1 hS1 => ?_)
  have hD1 := hD0
  clear hP0 hD0 hS0 locs0 H0
  subst hr_2
  refine lb_ne (tgt := 15) hx hb dX7_rest_5 (by decide) (fun c_5 => ?_) (fun c_5 => ?_)
  · obtain ⟨j, hj, rfl⟩ := wf_room wf c_5
    have hbj : bstN (nI j) = j := bst_n (by omega)
    refine lv_aload_n hx hb dX7_rest_15 rfl (lv_at hl0 0 rfl) ?_
    refine cV_v (wc := [mO cy mm ik tl fm tz vl iw rm rr om, ia cy (mm 1) 169 S, ia cy (mm 6) 6 P, ia cy (mm 7) 6 N]) (wr := [ia cy (mm 4) 7 C]) (rest := []) hx hb hml hown hw hG hK hP1 hD1 hS1 hA hl0 kc_X7_rests kw_5_57 [] (c_X7_rests l D cy G H1.size mm ik tl fm tz vl iw rm rr om S P N (by first | omega | assumption)) [0, 1, 3, 4] [2] rfl rfl rfl rfl rfl 0 rfl rfl rfl rfl rfl (Nat.le_of_ble_eq_true rfl) ⟨Nat.le_of_ble_eq_true rfl, Nat.le_of_ble_eq_true rfl⟩ dX7_rest_16 ⟨Nat.le_of_ble_eq_true rfl, Nat.le_of_ble_eq_true rfl⟩ (fun u9 H2 locs2 hu9 hP2 hD2 hS2 => ?_)
    clear hP1 hD1 hS1 locs1 H1
    obtain ⟨N1_16, rfl⟩ : ∃ z9, z9 = u9 := ⟨_, rfl⟩
    replace hP2 : va_P D vwCl ([ia cy (mm 4) 7 C, mO cy mm ik tl fm tz vl iw (nI (RC S)) (b2i (RC S = 60)) om, ia cy (mm 1) 169 S, ia cy (mm 6) 6 (PR S), ia cy (mm 7) 6 N1_16]) H2 := hP2
    replace hD2 : va_D (va_A _ sz) ([ia cy (mm 4) 7 C, mO cy mm ik tl fm tz vl iw (nI (RC S)) (b2i (RC S = 60)) om, ia cy (mm 1) 169 S, ia cy (mm 6) 6 (PR S), ia cy (mm 7) 6 N1_16]) := hD2
    replace hP2 := hP2.sub (ws' := [mO cy mm ik tl fm tz vl iw (nI (RC S)) (b2i (RC S = 60)) om, ia cy (mm 1) 169 S, ia cy (mm 4) 7 C, ia cy (mm 6) 6 (PR S), ia cy (mm 7) 6 N1_16]) [1, 2, 0, 3, 4] rfl
    replace hD2 := hD2.sub (ws' := [mO cy mm ik tl fm tz vl iw (nI (RC S)) (b2i (RC S = 60)) om, ia cy (mm 1) 169 S, ia cy (mm 4) 7 C, ia cy (mm 6) 6 (PR S), ia cy (mm 7) 6 N1_16]) [1, 2, 0, 3, 4] (by decide) rfl
    refine lv_iconst (v := 0) hx hb dX7_rest_19 (by decide) ?_
    refine lv_istore_n (lv' := [(2, .int 0), (0, .ref (mm 0)), (1, .int (nI j))]) hx hb dX7_rest_20 rfl hl0 (by decide) rfl (fun ls1 hl1 => ?_)
    clear hl0 ls0
    refine lv_iconst (v := 0) hx hb dX7_rest_21 (by decide) ?_
    refine lv_istore_n (lv' := [(3, .int 0), (2, .int 0), (0, .ref (mm 0)), (1, .int (nI j))]) hx hb dX7_rest_22 rfl hl1 (by decide) rfl (fun ls2 hl2 => ?_)
    clear hl1 ls1
    refine wlp (ι := Nat) (nL := 4) (fun x9 => (x9 ≤ gcN S)) (fun x9 => [mO cy mm ik tl fm tz vl iw (nI (RC S)) (b2i (RC S = 60)) om, ia cy (mm 1) 169 S, ia cy (mm 4) 7 C, ia cy (mm 6) 6 (PR S), ia cy (mm 7) 6 N1_16]) (fun x9 => [(3, .int (nI x9)), (2, .int (rst S (PR S) j x9)), (0, .ref (mm 0)), (1, .int (nI j))]) (fun x9 => []) (fun x9 => gcN S - x9) 23 ?_ 0 (by first | omega | assumption | rfl | simp_all) rfl hP2 hD2 hS2 (lv_sub hl2 [0, 1, 2, 3] rfl)
    clear hP2 hD2 hS2 locs2 H2 hl2 ls2
    intro x9 hI ih_23 H3 locs3 ls3 hP3 hD3 hS3 hl3
    obtain ⟨i, rfl⟩ : ∃ z9, z9 = x9 := ⟨_, rfl⟩
    have hi := hI
    replace hi : i ≤ gcN S := hi
    replace hP3 : va_P D vwCl ([mO cy mm ik tl fm tz vl iw (nI (RC S)) (b2i (RC S = 60)) om, ia cy (mm 1) 169 S, ia cy (mm 4) 7 C, ia cy (mm 6) 6 (PR S), ia cy (mm 7) 6 N1_16]) H3 := hP3
    replace hD3 : va_D (va_A _ sz) ([mO cy mm ik tl fm tz vl iw (nI (RC S)) (b2i (RC S = 60)) om, ia cy (mm 1) 169 S, ia cy (mm 4) 7 C, ia cy (mm 6) 6 (PR S), ia cy (mm 7) 6 N1_16]) := hD3
    replace hl3 : lv_has ls3 4 [(3, .int (nI i)), (2, .int (rst S (PR S) j i)), (0, .ref (mm 0)), (1, .int (nI j))] := hl3
    show W p l e _ s m _ below meth c _ _ _ _ _ (F0 m 23 ls3 [])
    refine lv_iload_n hx hb dX7_rest_23 rfl (lv_at hl3 0 rfl) ?_
    refine lv_aload_n hx hb dX7_rest_24 rfl (lv_at hl3 2 rfl) ?_
    refine va_get (D := D) (ci := 7) (v := .ref (mm 1)) (C := RX7) (T := TX7) (N := 23) hx hb hw iX7 hown hK hP3 0 rfl rfl 0 (by decide) (hw _ kw_4_64) (fun _ h9 => h9) rfl dX7_rest_25 ?_
    refine lv_iconst (v := 1) hx hb dX7_rest_28 (by decide) ?_
    refine ald_i (f := S) hx hb hK hP3 1 0 rfl rfl 1 rfl (by first | omega | assumption) (by decide) dX7_rest_29 ?_
    refine tp (show (S 1) = nI (gcN S) from wf_g wf) ?_
    refine ln_ge (tgt := 81) i (gcN S) rfl rfl (by omega) (by omega) hx hb dX7_rest_30 (by decide) (fun c_30 => ?_) (fun c_30 => ?_)
    · obtain rfl : i = gcN S := (by omega)
      refine lv_iload_n hx hb dX7_rest_81 rfl (lv_at hl3 1 rfl) ?_
      have hcd : cR S (nI j) = 7 := by unfold cR; clear hx hb hml hown hr hlocks hw hsz hA hG hK hP3 hD3 hS3 hl3 ih_23; grind
      have hq9 : ([mO cy mm ik tl fm tz vl iw (nI (RC S)) (b2i (RC S = 60)) om, ia cy (mm 1) 169 S, ia cy (mm 4) 7 C, ia cy (mm 6) 6 (PR S), ia cy (mm 7) 6 N1_16]) = ([mO cy mm ik tl fm tz vl iw (nI (RC S)) (b2i (RC S = 60)) om, ia cy (mm 1) 169 S, ia cy (mm 4) 7 (fnd C (cR S (nI j))), ia cy (mm 6) 6 (PR S), ia cy (mm 7) 6 N1_16]) := congrArg (fun z9 => [mO cy mm ik tl fm tz vl iw (nI (RC S)) (b2i (RC S = 60)) om, ia cy (mm 1) 169 S, ia cy (mm 4) 7 z9, ia cy (mm 6) 6 (PR S), ia cy (mm 7) 6 N1_16]) (show C = (fnd C (cR S (nI j))) from fnd_o hcd)
      replace hP3 := (congrArg (fun z9 => va_P D vwCl z9 _) hq9).mp hP3
      replace hD3 := (congrArg (fun z9 => va_D _ z9) hq9).mp hD3
      clear hq9
      refine re_i (PR S, N1_16, nI (RC S), b2i (RC S = 60)) hx hb hr hlocks hP3 hD3 hS3 dX7_rest_82 ?_
      exact (ans_o hcd (by rw [hbj]))
    · have hotk := ot_k (k := j) wf c_30 (by omega)
      have hri := wf_rm6 wf c_30
      refine lv_iload_n hx hb dX7_rest_33 rfl (lv_at hl3 1 rfl) ?_
      refine lv_aload_n hx hb dX7_rest_34 rfl (lv_at hl3 2 rfl) ?_
      refine lv_iload_n hx hb dX7_rest_35 rfl (lv_at hl3 0 rfl) ?_
      refine lv_iconst (v := 1) hx hb dX7_rest_36 (by decide) ?_
      refine rV_i (wc := [mO cy mm ik tl fm tz vl iw (nI (RC S)) (b2i (RC S = 60)) om, ia cy (mm 1) 169 S]) (rest := [.int (rst S (PR S) j i)]) hx hb hml hown hw hG hK hP3 hS3 hA hl3 kc_X7_has kw_4_174 [.int (nI i), .int 1] (c_X7_has l D cy G H3.size mm ik tl fm tz vl iw (nI (RC S)) (b2i (RC S = 60)) om S i 1 (by first | omega | assumption) (by first | omega | assumption)) [0, 1] rfl 0 rfl rfl rfl rfl rfl (Nat.le_of_ble_eq_true rfl) ⟨Nat.le_of_ble_eq_true rfl, Nat.le_of_ble_eq_true rfl⟩ dX7_rest_37 ⟨Nat.le_of_ble_eq_true rfl, Nat.le_of_ble_eq_true rfl⟩ (fun r_37 H4 locs4 hr_37 hP4 hS4 => ?_)
      have hD4 := hD3
      clear hP3 hD3 hS3 locs3 H3
      subst hr_37
      refine tp (show (S (9 + 8 * i + 1)) = S (10 + 8 * i) from congrArg _ (by omega)) ?_
      refine tp (show (S (10 + 8 * i)) = nI (rmN S i) from wf_rm wf c_30) ?_
      refine lv_iload_n hx hb dX7_rest_40 rfl (lv_at hl3 3 rfl) ?_
      refine ln_ne (tgt := 52) (rmN S i) j rfl rfl (by omega) (by omega) hx hb dX7_rest_41 (by decide) (fun c_41 => ?_) (fun c_41 => ?_)
      · refine lv_aload_n hx hb dX7_rest_52 rfl (lv_at hl3 2 rfl) ?_
        refine lv_iload_n hx hb dX7_rest_53 rfl (lv_at hl3 0 rfl) ?_
        refine lv_iconst (v := 2) hx hb dX7_rest_54 (by decide) ?_
        refine rV_i (wc := [mO cy mm ik tl fm tz vl iw (nI (RC S)) (b2i (RC S = 60)) om, ia cy (mm 1) 169 S]) (rest := [.int (rst S (PR S) j i)]) hx hb hml hown hw hG hK hP4 hS4 hA hl3 kc_X7_has kw_4_174 [.int (nI i), .int 2] (c_X7_has l D cy G H4.size mm ik tl fm tz vl iw (nI (RC S)) (b2i (RC S = 60)) om S i 2 (by first | omega | assumption) (by first | omega | assumption)) [0, 1] rfl 0 rfl rfl rfl rfl rfl (Nat.le_of_ble_eq_true rfl) ⟨Nat.le_of_ble_eq_true rfl, Nat.le_of_ble_eq_true rfl⟩ dX7_rest_55 ⟨Nat.le_of_ble_eq_true rfl, Nat.le_of_ble_eq_true rfl⟩ (fun r_55 H5 locs5 hr_55 hP5 hS5 => ?_)
        have hD5 := hD4
        clear hP4 hD4 hS4 locs4 H4
        subst hr_55
        refine tp (show (S (9 + 8 * i + 2)) = S (11 + 8 * i) from congrArg _ (by omega)) ?_
        refine lv_iload_n hx hb dX7_rest_58 rfl (lv_at hl3 3 rfl) ?_
        refine lv_icmp_ne (tgt := 72) hx hb dX7_rest_59 (by decide) (fun c_59 => ?_) (fun c_59 => ?_)
        · refine lv_iconst (v := 0) hx hb dX7_rest_72 (by decide) ?_
          refine lv_iadd hx hb dX7_rest_73 ?_
          refine lv_istore_n (lv' := [(2, .int ((rst S (PR S) j i) + 0)), (3, .int (nI i)), (0, .ref (mm 0)), (1, .int (nI j))]) hx hb dX7_rest_74 rfl hl3 (by decide) rfl (fun ls4 hl4 => ?_)
          clear hl3 ls3
          have hq9 : rst S (PR S) j (i + 1) = (rst S (PR S) j i) + 0 := by clear hx hb hml hown hr hlocks hw hsz hA hG hK hP5 hD5 hS5 hl4 ih_23; grind [rst]
          replace hl4 : lv_has ls4 4 [(2, .int (rst S (PR S) j (i + 1))), (3, .int (nI i)), (0, .ref (mm 0)), (1, .int (nI j))] := (congrArg (fun z9 => lv_has ls4 4 [(2, .int z9), (3, .int (nI i)), (0, .ref (mm 0)), (1, .int (nI j))]) hq9).mpr hl4
          clear hq9
          refine lv_iinc (v := nI (i + 1)) (lv' := [(3, .int (nI (i + 1))), (2, .int (rst S (PR S) j (i + 1))), (0, .ref (mm 0)), (1, .int (nI j))]) hx hb dX7_rest_75 hl4 (k := 1) rfl (nI_inc _) (by decide) rfl (fun ls5 hl5 => ?_)
          clear hl4 ls4
          refine lv_goto (tgt := 23) hx hb dX7_rest_78 (by decide) ?_
          exact ih_23 (i + 1) (by first | omega | assumption | rfl | simp_all) (by (try dsimp only); omega) H5 locs5 ls5 hP5 hD5 hS5 (lv_sub hl5 [0, 1, 2, 3] rfl)
        · refine lv_iconst (v := 0) hx hb dX7_rest_62 (by decide) ?_
          refine lv_aload_n hx hb dX7_rest_63 rfl (lv_at hl3 2 rfl) ?_
          refine lv_iload_n hx hb dX7_rest_64 rfl (lv_at hl3 0 rfl) ?_
          refine rV_i (wc := [mO cy mm ik tl fm tz vl iw (nI (RC S)) (b2i (RC S = 60)) om, ia cy (mm 1) 169 S, ia cy (mm 6) 6 (PR S)]) (rest := [.int 0, .int (rst S (PR S) j i)]) hx hb hml hown hw hG hK hP5 hS5 hA hl3 kc_X7_flowOf kw_5_73 [.int (nI i)] (c_X7_flowOf l D cy G H5.size mm ik tl fm tz vl iw (nI (RC S)) (b2i (RC S = 60)) om S (PR S) i (by first | omega | assumption) (by first | omega | assumption)) [0, 1, 3] rfl 0 rfl rfl rfl rfl rfl (Nat.le_of_ble_eq_true rfl) ⟨Nat.le_of_ble_eq_true rfl, Nat.le_of_ble_eq_true rfl⟩ dX7_rest_65 ⟨Nat.le_of_ble_eq_true rfl, Nat.le_of_ble_eq_true rfl⟩ (fun r_65 H6 locs6 hr_65 hP6 hS6 => ?_)
          have hD6 := hD5
          clear hP5 hD5 hS5 locs5 H5
          subst hr_65
          refine lv_isub hx hb dX7_rest_68 ?_
          refine lv_goto (tgt := 73) hx hb dX7_rest_69 (by decide) ?_
          refine lv_iadd hx hb dX7_rest_73 ?_
          refine lv_istore_n (lv' := [(2, .int ((rst S (PR S) j i) + (0 - (flow S (PR S) i)))), (3, .int (nI i)), (0, .ref (mm 0)), (1, .int (nI j))]) hx hb dX7_rest_74 rfl hl3 (by decide) rfl (fun ls4 hl4 => ?_)
          clear hl3 ls3
          have hq9 : rst S (PR S) j (i + 1) = (rst S (PR S) j i) + (0 - (flow S (PR S) i)) := by clear hx hb hml hown hr hlocks hw hsz hA hG hK hP6 hD6 hS6 hl4 ih_23; grind [rst]
          replace hl4 : lv_has ls4 4 [(2, .int (rst S (PR S) j (i + 1))), (3, .int (nI i)), (0, .ref (mm 0)), (1, .int (nI j))] := (congrArg (fun z9 => lv_has ls4 4 [(2, .int z9), (3, .int (nI i)), (0, .ref (mm 0)), (1, .int (nI j))]) hq9).mpr hl4
          clear hq9
          refine lv_iinc (v := nI (i + 1)) (lv' := [(3, .int (nI (i + 1))), (2, .int (rst S (PR S) j (i + 1))), (0, .ref (mm 0)), (1, .int (nI j))]) hx hb dX7_rest_75 hl4 (k := 1) rfl (nI_inc _) (by decide) rfl (fun ls5 hl5 => ?_)
          clear hl4 ls4
          refine lv_goto (tgt := 23) hx hb dX7_rest_78 (by decide) ?_
          exact ih_23 (i + 1) (by first | omega | assumption | rfl | simp_all) (by (try dsimp only); omega) H6 locs6 ls5 hP6 hD6 hS6 (lv_sub hl5 [0, 1, 2, 3] rfl)
      · refine lv_aload_n hx hb dX7_rest_44 rfl (lv_at hl3 2 rfl) ?_
        refine lv_iload_n hx hb dX7_rest_45 rfl (lv_at hl3 0 rfl) ?_
        refine rV_i (wc := [mO cy mm ik tl fm tz vl iw (nI (RC S)) (b2i (RC S = 60)) om, ia cy (mm 1) 169 S, ia cy (mm 6) 6 (PR S)]) (rest := [.int (rst S (PR S) j i)]) hx hb hml hown hw hG hK hP4 hS4 hA hl3 kc_X7_flowOf kw_5_73 [.int (nI i)] (c_X7_flowOf l D cy G H4.size mm ik tl fm tz vl iw (nI (RC S)) (b2i (RC S = 60)) om S (PR S) i (by first | omega | assumption) (by first | omega | assumption)) [0, 1, 3] rfl 0 rfl rfl rfl rfl rfl (Nat.le_of_ble_eq_true rfl) ⟨Nat.le_of_ble_eq_true rfl, Nat.le_of_ble_eq_true rfl⟩ dX7_rest_46 ⟨Nat.le_of_ble_eq_true rfl, Nat.le_of_ble_eq_true rfl⟩ (fun r_46 H5 locs5 hr_46 hP5 hS5 => ?_)
        have hD5 := hD4
        clear hP4 hD4 hS4 locs4 H4
        subst hr_46
        refine lv_goto (tgt := 73) hx hb dX7_rest_49 (by decide) ?_
        refine lv_iadd hx hb dX7_rest_73 ?_
        refine lv_istore_n (lv' := [(2, .int ((rst S (PR S) j i) + (flow S (PR S) i))), (3, .int (nI i)), (0, .ref (mm 0)), (1, .int (nI j))]) hx hb dX7_rest_74 rfl hl3 (by decide) rfl (fun ls4 hl4 => ?_)
        clear hl3 ls3
        have hq9 : rst S (PR S) j (i + 1) = (rst S (PR S) j i) + (flow S (PR S) i) := by clear hx hb hml hown hr hlocks hw hsz hA hG hK hP5 hD5 hS5 hl4 ih_23; grind [rst]
        replace hl4 : lv_has ls4 4 [(2, .int (rst S (PR S) j (i + 1))), (3, .int (nI i)), (0, .ref (mm 0)), (1, .int (nI j))] := (congrArg (fun z9 => lv_has ls4 4 [(2, .int z9), (3, .int (nI i)), (0, .ref (mm 0)), (1, .int (nI j))]) hq9).mpr hl4
        clear hq9
        refine lv_iinc (v := nI (i + 1)) (lv' := [(3, .int (nI (i + 1))), (2, .int (rst S (PR S) j (i + 1))), (0, .ref (mm 0)), (1, .int (nI j))]) hx hb dX7_rest_75 hl4 (k := 1) rfl (nI_inc _) (by decide) rfl (fun ls5 hl5 => ?_)
        clear hl4 ls4
        refine lv_goto (tgt := 23) hx hb dX7_rest_78 (by decide) ?_
        exact ih_23 (i + 1) (by first | omega | assumption | rfl | simp_all) (by (try dsimp only); omega) H5 locs5 ls5 hP5 hD5 hS5 (lv_sub hl5 [0, 1, 2, 3] rfl)
  · refine lv_aload_n hx hb dX7_rest_8 rfl (lv_at hl0 0 rfl) ?_
    refine lv_ldc (v := (-1000000001)) hx hb hown (hw _ kw_4_143) dX7_rest_9 ?_
    refine cV_i (wc := [mO cy mm ik tl fm tz vl iw rm rr om, ia cy (mm 4) 7 C]) (wr := [ia cy (mm 1) 169 S, ia cy (mm 6) 6 P, ia cy (mm 7) 6 N]) (rest := []) hx hb hml hown hw hG hK hP1 hD1 hS1 hA hl0 kc_X7_finds kw_4_139 [.int (-1000000001)] (c_X7_finds l D cy G H1.size mm ik tl fm tz vl iw rm rr om C 0 (-1000000001) (by decide) (by decide)) [0, 2] [1, 3, 4] rfl rfl rfl rfl rfl 0 rfl rfl rfl rfl rfl (Nat.le_of_ble_eq_true rfl) ⟨Nat.le_of_ble_eq_true rfl, Nat.le_of_ble_eq_true rfl⟩ dX7_rest_11 ⟨Nat.le_of_ble_eq_true rfl, Nat.le_of_ble_eq_true rfl⟩ (fun r_11 u9 H2 locs2 hu9 hP2 hD2 hS2 => ?_)
    clear hP1 hD1 hS1 locs1 H1
    have hr_11 := hu9
    replace hP2 : va_P D vwCl ([ia cy (mm 1) 169 S, ia cy (mm 6) 6 P, ia cy (mm 7) 6 N, mO cy mm ik tl fm tz vl iw rm rr om, ia cy (mm 4) 7 (upd C 0 (C 0 + 1))]) H2 := hP2
    replace hD2 : va_D (va_A _ sz) ([ia cy (mm 1) 169 S, ia cy (mm 6) 6 P, ia cy (mm 7) 6 N, mO cy mm ik tl fm tz vl iw rm rr om, ia cy (mm 4) 7 (upd C 0 (C 0 + 1))]) := hD2
    replace hP2 := hP2.sub (ws' := [mO cy mm ik tl fm tz vl iw rm rr om, ia cy (mm 1) 169 S, ia cy (mm 4) 7 (upd C 0 (C 0 + 1)), ia cy (mm 6) 6 P, ia cy (mm 7) 6 N]) [3, 0, 4, 1, 2] rfl
    replace hD2 := hD2.sub (ws' := [mO cy mm ik tl fm tz vl iw rm rr om, ia cy (mm 1) 169 S, ia cy (mm 4) 7 (upd C 0 (C 0 + 1)), ia cy (mm 6) 6 P, ia cy (mm 7) 6 N]) [3, 0, 4, 1, 2] (by decide) rfl
    subst hr_11
    have hcd : cR S x1 = 0 := by unfold cR; clear hx hb hml hown hr hlocks hw hsz hA hG hK hP2 hD2 hS2 hl0; grind
    have hq9 : ([mO cy mm ik tl fm tz vl iw rm rr om, ia cy (mm 1) 169 S, ia cy (mm 4) 7 (upd C 0 (C 0 + 1)), ia cy (mm 6) 6 P, ia cy (mm 7) 6 N]) = ([mO cy mm ik tl fm tz vl iw rm rr om, ia cy (mm 1) 169 S, ia cy (mm 4) 7 (fnd C (cR S x1)), ia cy (mm 6) 6 P, ia cy (mm 7) 6 N]) := congrArg (fun z9 => [mO cy mm ik tl fm tz vl iw rm rr om, ia cy (mm 1) 169 S, ia cy (mm 4) 7 z9, ia cy (mm 6) 6 P, ia cy (mm 7) 6 N]) (show (upd C 0 (C 0 + 1)) = (fnd C (cR S x1)) from fnd_f hcd (by decide))
    replace hP2 := (congrArg (fun z9 => va_P D vwCl z9 _) hq9).mp hP2
    replace hD2 := (congrArg (fun z9 => va_D _ z9) hq9).mp hD2
    clear hq9
    refine re_i (P, N, rm, rr) hx hb hr hlocks hP2 hD2 hS2 dX7_rest_14 ?_
    exact (ans_f hcd (by decide) rfl)

theorem kc_X7_air : kV yX7_air cX7_air 2 (some .int) 1 := ⟨kw_5_97, kw_5_98, kw_1_8, kw_5_99, by decide, by decide, by decide +kernel⟩
set_option maxHeartbeats 4000000 in
set_option maxRecDepth 100000 in
theorem c_X7_air (l : Launch) (D : va_G) (cy : Nat → ClassId) (G : Nat → Nat) (sz : Nat) (mm : Nat → Nat) (ik : Int32) (tl : Int32) (fm : Int32) (tz : Int32) (vl : Int32) (iw : Int32) (rm : Int32) (rr : Int32) (om : Int32) (S : Nat → Int32) (C : Nat → Int32) (P : Nat → Int32) (N : Nat → Int32) (x1 : Int32) (wf : wf S) : Met l yX7_air (wm yX7_air cX7_air 2 (some .int)) { frames := 5, cells := 0, slots := 0, locals := 113 } (va_Pc [.ref (mm 0), .int x1] (pr D (TY cy) G ([mO cy mm ik tl fm tz vl iw rm rr om, ia cy (mm 1) 169 S, ia cy (mm 4) 7 C, ia cy (mm 6) 6 P, ia cy (mm 7) 6 N]) sz)) (va_Qi (fun (r : Int32) (u : (Nat → Int32) × (Nat → Int32) × Int32 × Int32) => r = ans (cAir x1) (vAir S x1)) (fun (u : (Nat → Int32) × (Nat → Int32) × Int32 × Int32) t => po D (va_A ([mO cy mm ik tl fm tz vl iw rm rr om, ia cy (mm 1) 169 S, ia cy (mm 4) 7 C, ia cy (mm 6) 6 P, ia cy (mm 7) 6 N]) sz) ([mO cy mm ik tl fm tz vl iw u.2.2.1 u.2.2.2 om, ia cy (mm 1) 169 S, ia cy (mm 4) 7 (fnd C (cAir x1)), ia cy (mm 6) 6 u.1, ia cy (mm 7) 6 u.2.1]) t) (va_A ([mO cy mm ik tl fm tz vl iw rm rr om, ia cy (mm 1) 169 S, ia cy (mm 4) 7 C, ia cy (mm 6) 6 P, ia cy (mm 7) 6 N]) sz)) 0 0 (va_A ([mO cy mm ik tl fm tz vl iw rm rr om, ia cy (mm 1) 169 S, ia cy (mm 4) 7 C, ia cy (mm 6) 6 P, ia cy (mm 7) 6 N]) sz) := by
  refine mk_rw (by decide) RX7 rfl (Nat.le_of_ble_eq_true rfl) [(0, .ref (mm 0)), (1, .int x1)] rfl ?_
  intro p e s m below meth c hx hb hml hown hr hlocks hin hw hsz hA hG hK H0 locs0 hP0 hD0 hS0 ls0 hl0
  clear hin
  refine lv_iload_n hx hb dX7_air_0 rfl (lv_at hl0 1 rfl) ?_
  refine lv_i2l hx hb dX7_air_1 rfl ?_
  refine lv_lconst (v := 0) hx hb dX7_air_2 (by decide) ?_
  refine lv_ldc2 (v := 3) hx hb hown (hw _ kw_5_100) dX7_air_3 ?_
  refine rT_i (wc := []) (rest := []) hx hb hml hown hw hG hK hP0 hS0 hA hl0 kc_X7_in kw_4_153 [.long x1.toInt64, .long 0, .long 3] (c_X7_in l D cy G H0.size x1.toInt64 0 3) [] rfl rfl rfl (Nat.le_of_ble_eq_true rfl) ⟨Nat.le_of_ble_eq_true rfl, Nat.le_of_ble_eq_true rfl⟩ dX7_air_6 ⟨Nat.le_of_ble_eq_true rfl, Nat.le_of_ble_eq_true rfl⟩ (fun r_6 H1 locs1 hr_6 hP1 hS1 => ?_)
  have hD1 := hD0
  clear hP0 hD0 hS0 locs0 H0
  subst hr_6
  refine tp (show (b2i (0 ≤ x1.toInt64 ∧ x1.toInt64 ≤ 3)) = b2i (0 ≤ x1 ∧ x1 ≤ 3) from b2i_iff (in_c (by decide) (by decide))) ?_
  refine lb_ne (tgt := 19) hx hb dX7_air_9 (by decide) (fun c_9 => ?_) (fun c_9 => ?_)
  · refine lv_aload_n hx hb dX7_air_19 rfl (lv_at hl0 0 rfl) ?_
    refine cV_v (wc := [mO cy mm ik tl fm tz vl iw rm rr om, ia cy (mm 1) 169 S, ia cy (mm 6) 6 P, ia cy (mm 7) 6 N]) (wr := [ia cy (mm 4) 7 C]) (rest := []) hx hb hml hown hw hG hK hP1 hD1 hS1 hA hl0 kc_X7_rests kw_5_57 [] (c_X7_rests l D cy G H1.size mm ik tl fm tz vl iw rm rr om S P N (by first | omega | assumption)) [0, 1, 3, 4] [2] rfl rfl rfl rfl rfl 0 rfl rfl rfl rfl rfl (Nat.le_of_ble_eq_true rfl) ⟨Nat.le_of_ble_eq_true rfl, Nat.le_of_ble_eq_true rfl⟩ dX7_air_20 ⟨Nat.le_of_ble_eq_true rfl, Nat.le_of_ble_eq_true rfl⟩ (fun u9 H2 locs2 hu9 hP2 hD2 hS2 => ?_)
    clear hP1 hD1 hS1 locs1 H1
    obtain ⟨N1_20, rfl⟩ : ∃ z9, z9 = u9 := ⟨_, rfl⟩
    replace hP2 : va_P D vwCl ([ia cy (mm 4) 7 C, mO cy mm ik tl fm tz vl iw (nI (RC S)) (b2i (RC S = 60)) om, ia cy (mm 1) 169 S, ia cy (mm 6) 6 (PR S), ia cy (mm 7) 6 N1_20]) H2 := hP2
    replace hD2 : va_D (va_A _ sz) ([ia cy (mm 4) 7 C, mO cy mm ik tl fm tz vl iw (nI (RC S)) (b2i (RC S = 60)) om, ia cy (mm 1) 169 S, ia cy (mm 6) 6 (PR S), ia cy (mm 7) 6 N1_20]) := hD2
    replace hP2 := hP2.sub (ws' := [mO cy mm ik tl fm tz vl iw (nI (RC S)) (b2i (RC S = 60)) om, ia cy (mm 1) 169 S, ia cy (mm 4) 7 C, ia cy (mm 6) 6 (PR S), ia cy (mm 7) 6 N1_20]) [1, 2, 0, 3, 4] rfl
    replace hD2 := hD2.sub (ws' := [mO cy mm ik tl fm tz vl iw (nI (RC S)) (b2i (RC S = 60)) om, ia cy (mm 1) 169 S, ia cy (mm 4) 7 C, ia cy (mm 6) 6 (PR S), ia cy (mm 7) 6 N1_20]) [1, 2, 0, 3, 4] (by decide) rfl
    refine lv_iload_n hx hb dX7_air_23 rfl (lv_at hl0 1 rfl) ?_
    refine lv_if_ne (tgt := 34) hx hb dX7_air_24 (by decide) (fun c_24 => ?_) (fun c_24 => ?_)
    · refine lv_iload_n hx hb dX7_air_34 rfl (lv_at hl0 1 rfl) ?_
      refine lv_iconst (v := 1) hx hb dX7_air_35 (by decide) ?_
      refine lv_icmp_ne (tgt := 46) hx hb dX7_air_36 (by decide) (fun c_36 => ?_) (fun c_36 => ?_)
      · refine lv_iload_n hx hb dX7_air_46 rfl (lv_at hl0 1 rfl) ?_
        refine lv_iconst (v := 2) hx hb dX7_air_47 (by decide) ?_
        refine lv_icmp_ne (tgt := 66) hx hb dX7_air_48 (by decide) (fun c_48 => ?_) (fun c_48 => ?_)
        · refine lv_aload_n hx hb dX7_air_66 rfl (lv_at hl0 0 rfl) ?_
          refine va_get (D := D) (ci := 7) (v := .int (b2i (RC S = 60))) (C := RX7) (T := TX7) (N := 23) hx hb hw iX7 hown hK hP2 0 rfl rfl 14 (by decide) (hw _ kw_4_78) (fun _ h9 => h9) rfl dX7_air_67 ?_
          refine lb_eq (tgt := 77) hx hb dX7_air_70 (by decide) (fun c_70 => ?_) (fun c_70 => ?_)
          · refine lv_iconst (v := 0) hx hb dX7_air_77 (by decide) ?_
            have hcd : cAir x1 = 7 := by unfold cAir; clear hx hb hml hown hr hlocks hw hsz hA hG hK hP2 hD2 hS2 hl0; grind
            have hq9 : ([mO cy mm ik tl fm tz vl iw (nI (RC S)) (b2i (RC S = 60)) om, ia cy (mm 1) 169 S, ia cy (mm 4) 7 C, ia cy (mm 6) 6 (PR S), ia cy (mm 7) 6 N1_20]) = ([mO cy mm ik tl fm tz vl iw (nI (RC S)) (b2i (RC S = 60)) om, ia cy (mm 1) 169 S, ia cy (mm 4) 7 (fnd C (cAir x1)), ia cy (mm 6) 6 (PR S), ia cy (mm 7) 6 N1_20]) := congrArg (fun z9 => [mO cy mm ik tl fm tz vl iw (nI (RC S)) (b2i (RC S = 60)) om, ia cy (mm 1) 169 S, ia cy (mm 4) 7 z9, ia cy (mm 6) 6 (PR S), ia cy (mm 7) 6 N1_20]) (show C = (fnd C (cAir x1)) from fnd_o hcd)
            replace hP2 := (congrArg (fun z9 => va_P D vwCl z9 _) hq9).mp hP2
            replace hD2 := (congrArg (fun z9 => va_D _ z9) hq9).mp hD2
            clear hq9
            refine re_i (PR S, N1_20, nI (RC S), b2i (RC S = 60)) hx hb hr hlocks hP2 hD2 hS2 dX7_air_78 ?_
            exact (ans_o hcd (by unfold vAir; clear hx hb hml hown hr hlocks hw hsz hA hG hK hP2 hD2 hS2 hl0; grind [b2i]))
          · refine lv_iconst (v := 1) hx hb dX7_air_73 (by decide) ?_
            refine lv_goto (tgt := 78) hx hb dX7_air_74 (by decide) ?_
            have hcd : cAir x1 = 7 := by unfold cAir; clear hx hb hml hown hr hlocks hw hsz hA hG hK hP2 hD2 hS2 hl0; grind
            have hq9 : ([mO cy mm ik tl fm tz vl iw (nI (RC S)) (b2i (RC S = 60)) om, ia cy (mm 1) 169 S, ia cy (mm 4) 7 C, ia cy (mm 6) 6 (PR S), ia cy (mm 7) 6 N1_20]) = ([mO cy mm ik tl fm tz vl iw (nI (RC S)) (b2i (RC S = 60)) om, ia cy (mm 1) 169 S, ia cy (mm 4) 7 (fnd C (cAir x1)), ia cy (mm 6) 6 (PR S), ia cy (mm 7) 6 N1_20]) := congrArg (fun z9 => [mO cy mm ik tl fm tz vl iw (nI (RC S)) (b2i (RC S = 60)) om, ia cy (mm 1) 169 S, ia cy (mm 4) 7 z9, ia cy (mm 6) 6 (PR S), ia cy (mm 7) 6 N1_20]) (show C = (fnd C (cAir x1)) from fnd_o hcd)
            replace hP2 := (congrArg (fun z9 => va_P D vwCl z9 _) hq9).mp hP2
            replace hD2 := (congrArg (fun z9 => va_D _ z9) hq9).mp hD2
            clear hq9
            refine re_i (PR S, N1_20, nI (RC S), b2i (RC S = 60)) hx hb hr hlocks hP2 hD2 hS2 dX7_air_78 ?_
            exact (ans_o hcd (by unfold vAir; clear hx hb hml hown hr hlocks hw hsz hA hG hK hP2 hD2 hS2 hl0; grind [b2i]))
        · refine lv_aload_n hx hb dX7_air_51 rfl (lv_at hl0 0 rfl) ?_
          refine rV_i (wc := [mO cy mm ik tl fm tz vl iw (nI (RC S)) (b2i (RC S = 60)) om, ia cy (mm 1) 169 S, ia cy (mm 6) 6 (PR S)]) (rest := []) hx hb hml hown hw hG hK hP2 hS2 hA hl0 kc_X7_smokes kw_5_109 [] (c_X7_smokes l D cy G H2.size mm ik tl fm tz vl iw (nI (RC S)) (b2i (RC S = 60)) om S (PR S) (by first | omega | assumption)) [0, 1, 3] rfl 0 rfl rfl rfl rfl rfl (Nat.le_of_ble_eq_true rfl) ⟨Nat.le_of_ble_eq_true rfl, Nat.le_of_ble_eq_true rfl⟩ dX7_air_52 ⟨Nat.le_of_ble_eq_true rfl, Nat.le_of_ble_eq_true rfl⟩ (fun r_52 H3 locs3 hr_52 hP3 hS3 => ?_)
          have hD3 := hD2
          clear hP2 hD2 hS2 locs2 H2
          subst hr_52
          refine tp (show (b2i (smk S (PR S) (gcN S) = true)) = b2i (smokes S = true) from rfl) ?_
          refine lb_eq (tgt := 62) hx hb dX7_air_55 (by decide) (fun c_55 => ?_) (fun c_55 => ?_)
          · refine lv_iconst (v := 0) hx hb dX7_air_62 (by decide) ?_
            refine lv_goto (tgt := 78) hx hb dX7_air_63 (by decide) ?_
            have hcd : cAir x1 = 7 := by unfold cAir; clear hx hb hml hown hr hlocks hw hsz hA hG hK hP3 hD3 hS3 hl0; grind
            have hq9 : ([mO cy mm ik tl fm tz vl iw (nI (RC S)) (b2i (RC S = 60)) om, ia cy (mm 1) 169 S, ia cy (mm 4) 7 C, ia cy (mm 6) 6 (PR S), ia cy (mm 7) 6 N1_20]) = ([mO cy mm ik tl fm tz vl iw (nI (RC S)) (b2i (RC S = 60)) om, ia cy (mm 1) 169 S, ia cy (mm 4) 7 (fnd C (cAir x1)), ia cy (mm 6) 6 (PR S), ia cy (mm 7) 6 N1_20]) := congrArg (fun z9 => [mO cy mm ik tl fm tz vl iw (nI (RC S)) (b2i (RC S = 60)) om, ia cy (mm 1) 169 S, ia cy (mm 4) 7 z9, ia cy (mm 6) 6 (PR S), ia cy (mm 7) 6 N1_20]) (show C = (fnd C (cAir x1)) from fnd_o hcd)
            replace hP3 := (congrArg (fun z9 => va_P D vwCl z9 _) hq9).mp hP3
            replace hD3 := (congrArg (fun z9 => va_D _ z9) hq9).mp hD3
            clear hq9
            refine re_i (PR S, N1_20, nI (RC S), b2i (RC S = 60)) hx hb hr hlocks hP3 hD3 hS3 dX7_air_78 ?_
            exact (ans_o hcd (by unfold vAir; clear hx hb hml hown hr hlocks hw hsz hA hG hK hP3 hD3 hS3 hl0; grind [b2i]))
          · refine lv_iconst (v := 1) hx hb dX7_air_58 (by decide) ?_
            refine lv_goto (tgt := 78) hx hb dX7_air_59 (by decide) ?_
            have hcd : cAir x1 = 7 := by unfold cAir; clear hx hb hml hown hr hlocks hw hsz hA hG hK hP3 hD3 hS3 hl0; grind
            have hq9 : ([mO cy mm ik tl fm tz vl iw (nI (RC S)) (b2i (RC S = 60)) om, ia cy (mm 1) 169 S, ia cy (mm 4) 7 C, ia cy (mm 6) 6 (PR S), ia cy (mm 7) 6 N1_20]) = ([mO cy mm ik tl fm tz vl iw (nI (RC S)) (b2i (RC S = 60)) om, ia cy (mm 1) 169 S, ia cy (mm 4) 7 (fnd C (cAir x1)), ia cy (mm 6) 6 (PR S), ia cy (mm 7) 6 N1_20]) := congrArg (fun z9 => [mO cy mm ik tl fm tz vl iw (nI (RC S)) (b2i (RC S = 60)) om, ia cy (mm 1) 169 S, ia cy (mm 4) 7 z9, ia cy (mm 6) 6 (PR S), ia cy (mm 7) 6 N1_20]) (show C = (fnd C (cAir x1)) from fnd_o hcd)
            replace hP3 := (congrArg (fun z9 => va_P D vwCl z9 _) hq9).mp hP3
            replace hD3 := (congrArg (fun z9 => va_D _ z9) hq9).mp hD3
            clear hq9
            refine re_i (PR S, N1_20, nI (RC S), b2i (RC S = 60)) hx hb hr hlocks hP3 hD3 hS3 dX7_air_78 ?_
            exact (ans_o hcd (by unfold vAir; clear hx hb hml hown hr hlocks hw hsz hA hG hK hP3 hD3 hS3 hl0; grind [b2i]))
      · refine lv_aload_n hx hb dX7_air_39 rfl (lv_at hl0 0 rfl) ?_
        refine rV_i (wc := [mO cy mm ik tl fm tz vl iw (nI (RC S)) (b2i (RC S = 60)) om, ia cy (mm 1) 169 S, ia cy (mm 6) 6 (PR S)]) (rest := []) hx hb hml hown hw hG hK hP2 hS2 hA hl0 kc_X7_lost kw_5_105 [] (c_X7_lost l D cy G H2.size mm ik tl fm tz vl iw (nI (RC S)) (b2i (RC S = 60)) om S (PR S) (by first | omega | assumption)) [0, 1, 3] rfl 0 rfl rfl rfl rfl rfl (Nat.le_of_ble_eq_true rfl) ⟨Nat.le_of_ble_eq_true rfl, Nat.le_of_ble_eq_true rfl⟩ dX7_air_40 ⟨Nat.le_of_ble_eq_true rfl, Nat.le_of_ble_eq_true rfl⟩ (fun r_40 H3 locs3 hr_40 hP3 hS3 => ?_)
        have hD3 := hD2
        clear hP2 hD2 hS2 locs2 H2
        subst hr_40
        refine tp (show (frs S (PR S) (gcN S) * S 2) = lost S from rfl) ?_
        refine lv_goto (tgt := 78) hx hb dX7_air_43 (by decide) ?_
        have hcd : cAir x1 = 7 := by unfold cAir; clear hx hb hml hown hr hlocks hw hsz hA hG hK hP3 hD3 hS3 hl0; grind
        have hq9 : ([mO cy mm ik tl fm tz vl iw (nI (RC S)) (b2i (RC S = 60)) om, ia cy (mm 1) 169 S, ia cy (mm 4) 7 C, ia cy (mm 6) 6 (PR S), ia cy (mm 7) 6 N1_20]) = ([mO cy mm ik tl fm tz vl iw (nI (RC S)) (b2i (RC S = 60)) om, ia cy (mm 1) 169 S, ia cy (mm 4) 7 (fnd C (cAir x1)), ia cy (mm 6) 6 (PR S), ia cy (mm 7) 6 N1_20]) := congrArg (fun z9 => [mO cy mm ik tl fm tz vl iw (nI (RC S)) (b2i (RC S = 60)) om, ia cy (mm 1) 169 S, ia cy (mm 4) 7 z9, ia cy (mm 6) 6 (PR S), ia cy (mm 7) 6 N1_20]) (show C = (fnd C (cAir x1)) from fnd_o hcd)
        replace hP3 := (congrArg (fun z9 => va_P D vwCl z9 _) hq9).mp hP3
        replace hD3 := (congrArg (fun z9 => va_D _ z9) hq9).mp hD3
        clear hq9
        refine re_i (PR S, N1_20, nI (RC S), b2i (RC S = 60)) hx hb hr hlocks hP3 hD3 hS3 dX7_air_78 ?_
        exact (ans_o hcd (by unfold vAir; clear hx hb hml hown hr hlocks hw hsz hA hG hK hP3 hD3 hS3 hl0; grind [b2i]))
    · refine lv_aload_n hx hb dX7_air_27 rfl (lv_at hl0 0 rfl) ?_
      refine rV_i (wc := [mO cy mm ik tl fm tz vl iw (nI (RC S)) (b2i (RC S = 60)) om, ia cy (mm 1) 169 S, ia cy (mm 6) 6 (PR S)]) (rest := []) hx hb hml hown hw hG hK hP2 hS2 hA hl0 kc_X7_fresh kw_5_101 [] (c_X7_fresh l D cy G H2.size mm ik tl fm tz vl iw (nI (RC S)) (b2i (RC S = 60)) om S (PR S) (by first | omega | assumption)) [0, 1, 3] rfl 0 rfl rfl rfl rfl rfl (Nat.le_of_ble_eq_true rfl) ⟨Nat.le_of_ble_eq_true rfl, Nat.le_of_ble_eq_true rfl⟩ dX7_air_28 ⟨Nat.le_of_ble_eq_true rfl, Nat.le_of_ble_eq_true rfl⟩ (fun r_28 H3 locs3 hr_28 hP3 hS3 => ?_)
      have hD3 := hD2
      clear hP2 hD2 hS2 locs2 H2
      subst hr_28
      refine tp (show (frs S (PR S) (gcN S)) = fresh S from rfl) ?_
      refine lv_goto (tgt := 78) hx hb dX7_air_31 (by decide) ?_
      have hcd : cAir x1 = 7 := by unfold cAir; clear hx hb hml hown hr hlocks hw hsz hA hG hK hP3 hD3 hS3 hl0; grind
      have hq9 : ([mO cy mm ik tl fm tz vl iw (nI (RC S)) (b2i (RC S = 60)) om, ia cy (mm 1) 169 S, ia cy (mm 4) 7 C, ia cy (mm 6) 6 (PR S), ia cy (mm 7) 6 N1_20]) = ([mO cy mm ik tl fm tz vl iw (nI (RC S)) (b2i (RC S = 60)) om, ia cy (mm 1) 169 S, ia cy (mm 4) 7 (fnd C (cAir x1)), ia cy (mm 6) 6 (PR S), ia cy (mm 7) 6 N1_20]) := congrArg (fun z9 => [mO cy mm ik tl fm tz vl iw (nI (RC S)) (b2i (RC S = 60)) om, ia cy (mm 1) 169 S, ia cy (mm 4) 7 z9, ia cy (mm 6) 6 (PR S), ia cy (mm 7) 6 N1_20]) (show C = (fnd C (cAir x1)) from fnd_o hcd)
      replace hP3 := (congrArg (fun z9 => va_P D vwCl z9 _) hq9).mp hP3
      replace hD3 := (congrArg (fun z9 => va_D _ z9) hq9).mp hD3
      clear hq9
      refine re_i (PR S, N1_20, nI (RC S), b2i (RC S = 60)) hx hb hr hlocks hP3 hD3 hS3 dX7_air_78 ?_
      exact (ans_o hcd (by unfold vAir; clear hx hb hml hown hr hlocks hw hsz hA hG hK hP3 hD3 hS3 hl0; grind [b2i]))
  · refine lv_aload_n hx hb dX7_air_12 rfl (lv_at hl0 0 rfl) ?_
    refine lv_ldc (v := (-1000000001)) hx hb hown (hw _ kw_4_143) dX7_air_13 ?_
    refine cV_i (wc := [mO cy mm ik tl fm tz vl iw rm rr om, ia cy (mm 4) 7 C]) (wr := [ia cy (mm 1) 169 S, ia cy (mm 6) 6 P, ia cy (mm 7) 6 N]) (rest := []) hx hb hml hown hw hG hK hP1 hD1 hS1 hA hl0 kc_X7_finds kw_4_139 [.int (-1000000001)] (c_X7_finds l D cy G H1.size mm ik tl fm tz vl iw rm rr om C 0 (-1000000001) (by decide) (by decide)) [0, 2] [1, 3, 4] rfl rfl rfl rfl rfl 0 rfl rfl rfl rfl rfl (Nat.le_of_ble_eq_true rfl) ⟨Nat.le_of_ble_eq_true rfl, Nat.le_of_ble_eq_true rfl⟩ dX7_air_15 ⟨Nat.le_of_ble_eq_true rfl, Nat.le_of_ble_eq_true rfl⟩ (fun r_15 u9 H2 locs2 hu9 hP2 hD2 hS2 => ?_)
    clear hP1 hD1 hS1 locs1 H1
    have hr_15 := hu9
    replace hP2 : va_P D vwCl ([ia cy (mm 1) 169 S, ia cy (mm 6) 6 P, ia cy (mm 7) 6 N, mO cy mm ik tl fm tz vl iw rm rr om, ia cy (mm 4) 7 (upd C 0 (C 0 + 1))]) H2 := hP2
    replace hD2 : va_D (va_A _ sz) ([ia cy (mm 1) 169 S, ia cy (mm 6) 6 P, ia cy (mm 7) 6 N, mO cy mm ik tl fm tz vl iw rm rr om, ia cy (mm 4) 7 (upd C 0 (C 0 + 1))]) := hD2
    replace hP2 := hP2.sub (ws' := [mO cy mm ik tl fm tz vl iw rm rr om, ia cy (mm 1) 169 S, ia cy (mm 4) 7 (upd C 0 (C 0 + 1)), ia cy (mm 6) 6 P, ia cy (mm 7) 6 N]) [3, 0, 4, 1, 2] rfl
    replace hD2 := hD2.sub (ws' := [mO cy mm ik tl fm tz vl iw rm rr om, ia cy (mm 1) 169 S, ia cy (mm 4) 7 (upd C 0 (C 0 + 1)), ia cy (mm 6) 6 P, ia cy (mm 7) 6 N]) [3, 0, 4, 1, 2] (by decide) rfl
    subst hr_15
    have hcd : cAir x1 = 0 := by unfold cAir; clear hx hb hml hown hr hlocks hw hsz hA hG hK hP2 hD2 hS2 hl0; grind
    have hq9 : ([mO cy mm ik tl fm tz vl iw rm rr om, ia cy (mm 1) 169 S, ia cy (mm 4) 7 (upd C 0 (C 0 + 1)), ia cy (mm 6) 6 P, ia cy (mm 7) 6 N]) = ([mO cy mm ik tl fm tz vl iw rm rr om, ia cy (mm 1) 169 S, ia cy (mm 4) 7 (fnd C (cAir x1)), ia cy (mm 6) 6 P, ia cy (mm 7) 6 N]) := congrArg (fun z9 => [mO cy mm ik tl fm tz vl iw rm rr om, ia cy (mm 1) 169 S, ia cy (mm 4) 7 z9, ia cy (mm 6) 6 P, ia cy (mm 7) 6 N]) (show (upd C 0 (C 0 + 1)) = (fnd C (cAir x1)) from fnd_f hcd (by decide))
    replace hP2 := (congrArg (fun z9 => va_P D vwCl z9 _) hq9).mp hP2
    replace hD2 := (congrArg (fun z9 => va_D _ z9) hq9).mp hD2
    clear hq9
    refine re_i (P, N, rm, rr) hx hb hr hlocks hP2 hD2 hS2 dX7_air_18 ?_
    exact (ans_f hcd (by decide) rfl)

theorem kc_X7_seed : kV yX7_seed cX7_seed 3 (some .int) 1 := ⟨kw_5_114, kw_5_115, kw_1_8, kw_5_116, by decide, by decide, by decide +kernel⟩
set_option maxHeartbeats 4000000 in
set_option maxRecDepth 100000 in
theorem c_X7_seed (l : Launch) (D : va_G) (cy : Nat → ClassId) (G : Nat → Nat) (sz : Nat) (mm : Nat → Nat) (ik : Int32) (tl : Int32) (fm : Int32) (tz : Int32) (vl : Int32) (iw : Int32) (rm : Int32) (rr : Int32) (om : Int32) (S : Nat → Int32) (v : Int32)  : Met l yX7_seed (wm yX7_seed cX7_seed 3 (some .int)) { frames := 0, cells := 0, slots := 0, locals := 0 } (va_Pc [.ref (mm 0), .int v] (pr D (TY cy) G ([mO cy mm ik tl fm tz vl iw rm rr om, ia cy (mm 1) 169 S]) sz)) (va_Qi (fun (r : Int32) (u : Unit) => r = S 8) (fun (u : Unit) t => po D (va_A ([mO cy mm ik tl fm tz vl iw rm rr om, ia cy (mm 1) 169 S]) sz) ([mO cy mm ik tl fm tz vl iw rm rr om, ia cy (mm 1) 169 (upd S 8 v)]) t) (va_A ([mO cy mm ik tl fm tz vl iw rm rr om, ia cy (mm 1) 169 S]) sz)) 0 0 (va_A ([mO cy mm ik tl fm tz vl iw rm rr om, ia cy (mm 1) 169 S]) sz) := by
  refine mk_rw (by decide) RX7 rfl (Nat.le_of_ble_eq_true rfl) [(0, .ref (mm 0)), (1, .int v)] rfl ?_
  intro p e s m below meth c hx hb hml hown hr hlocks hin hw hsz hA hG hK H0 locs0 hP0 hD0 hS0 ls0 hl0
  clear hin
  refine lv_aload_n hx hb dX7_seed_0 rfl (lv_at hl0 0 rfl) ?_
  refine va_get (D := D) (ci := 7) (v := .ref (mm 1)) (C := RX7) (T := TX7) (N := 23) hx hb hw iX7 hown hK hP0 0 rfl rfl 0 (by decide) (hw _ kw_4_64) (fun _ h9 => h9) rfl dX7_seed_1 ?_
  refine lv_bipush (v := 8) hx hb dX7_seed_4 (by decide) ?_
  refine ald_i (f := S) hx hb hK hP0 1 0 rfl rfl 8 rfl (by first | omega | assumption) (by decide) dX7_seed_6 ?_
  refine lv_istore_n (lv' := [(2, .int (S 8)), (0, .ref (mm 0)), (1, .int v)]) hx hb dX7_seed_7 rfl hl0 (by decide) rfl (fun ls1 hl1 => ?_)
  clear hl0 ls0
  refine lv_aload_n hx hb dX7_seed_8 rfl (lv_at hl1 1 rfl) ?_
  refine va_get (D := D) (ci := 7) (v := .ref (mm 1)) (C := RX7) (T := TX7) (N := 23) hx hb hw iX7 hown hK hP0 0 rfl rfl 0 (by decide) (hw _ kw_4_64) (fun _ h9 => h9) rfl dX7_seed_9 ?_
  refine lv_bipush (v := 8) hx hb dX7_seed_12 (by decide) ?_
  refine lv_iload_n hx hb dX7_seed_14 rfl (lv_at hl1 2 rfl) ?_
  refine ast_i (f := S) (ws' := [mO cy mm ik tl fm tz vl iw rm rr om, ia cy (mm 1) 169 (upd S 8 v)]) hx hb hK hP0 hD0 hS0 1 0 rfl rfl 8 rfl (by first | omega | assumption) (by decide) rfl dX7_seed_15 (fun H1 locs1 hP1 hD1 hS1 => ?_)
  clear hP0 hD0 hS0 locs0 H0
  refine lv_iload_n hx hb dX7_seed_16 rfl (lv_at hl1 0 rfl) ?_
  refine re_i () hx hb hr hlocks hP1 hD1 hS1 dX7_seed_17 ?_
  exact (rfl)

theorem kc_X7_seen : kV yX7_seen cX7_seen 3 (some .int) 1 := ⟨kw_5_123, kw_s_57, kw_1_8, kw_5_124, by decide, by decide, by decide +kernel⟩
set_option maxHeartbeats 4000000 in
set_option maxRecDepth 100000 in
theorem c_X7_seen (l : Launch) (D : va_G) (cy : Nat → ClassId) (G : Nat → Nat) (sz : Nat) (mm : Nat → Nat) (ik : Int32) (tl : Int32) (fm : Int32) (tz : Int32) (vl : Int32) (iw : Int32) (rm : Int32) (rr : Int32) (om : Int32) (S : Nat → Int32) (P : Nat → Int32) (j : Nat) (wf : wf S) (hj : j < gcN S) : Met l yX7_seen (wm yX7_seen cX7_seen 3 (some .int)) { frames := 4, cells := 0, slots := 0, locals := 90 } (va_Pc [.ref (mm 0), .int (nI j)] (pr D (TY cy) G ([mO cy mm ik tl fm tz vl iw rm rr om, ia cy (mm 1) 169 S, ia cy (mm 6) 6 P]) sz)) (va_Qi (fun (r : Int32) (u : Unit) => r = seenV S (flow S P j) j) (fun (u : Unit) t => po D (va_A ([mO cy mm ik tl fm tz vl iw rm rr om, ia cy (mm 1) 169 S, ia cy (mm 6) 6 P]) sz) ([mO cy mm ik tl fm tz vl iw rm rr om, ia cy (mm 1) 169 (drw S), ia cy (mm 6) 6 P]) t) (va_A ([mO cy mm ik tl fm tz vl iw rm rr om, ia cy (mm 1) 169 S, ia cy (mm 6) 6 P]) sz)) 0 0 (va_A ([mO cy mm ik tl fm tz vl iw rm rr om, ia cy (mm 1) 169 S, ia cy (mm 6) 6 P]) sz) := by
  refine mk_rw (by decide) RX7 rfl (Nat.le_of_ble_eq_true rfl) [(0, .ref (mm 0)), (1, .int (nI j))] rfl ?_
  intro p e s m below meth c hx hb hml hown hr hlocks hin hw hsz hA hG hK H0 locs0 hP0 hD0 hS0 ls0 hl0
  clear hin
  have hg20 := wf_g20 wf
  refine lv_aload_n hx hb dX7_seen_0 rfl (lv_at hl0 0 rfl) ?_
  refine va_get (D := D) (ci := 7) (v := .ref (mm 1)) (C := RX7) (T := TX7) (N := 23) hx hb hw iX7 hown hK hP0 0 rfl rfl 0 (by decide) (hw _ kw_4_64) (fun _ h9 => h9) rfl dX7_seen_1 ?_
  refine lv_bipush (v := 8) hx hb dX7_seen_4 (by decide) ?_
  refine lv_aload_n hx hb dX7_seen_6 rfl (lv_at hl0 0 rfl) ?_
  refine va_get (D := D) (ci := 7) (v := .ref (mm 1)) (C := RX7) (T := TX7) (N := 23) hx hb hw iX7 hown hK hP0 0 rfl rfl 0 (by decide) (hw _ kw_4_64) (fun _ h9 => h9) rfl dX7_seen_7 ?_
  refine lv_bipush (v := 8) hx hb dX7_seen_10 (by decide) ?_
  refine ald_i (f := S) hx hb hK hP0 1 0 rfl rfl 8 rfl (by first | omega | assumption) (by decide) dX7_seen_12 ?_
  refine lv_ldc (v := 1103515245) hx hb hown (hw _ kw_5_125) dX7_seen_13 ?_
  refine lv_imul hx hb dX7_seen_15 ?_
  refine lv_sipush (v := 12345) hx hb dX7_seen_16 (by decide) ?_
  refine lv_iadd hx hb dX7_seen_19 ?_
  refine ast_i (f := S) (ws' := [mO cy mm ik tl fm tz vl iw rm rr om, ia cy (mm 1) 169 (upd S 8 (((S 8) * 1103515245) + 12345)), ia cy (mm 6) 6 P]) hx hb hK hP0 hD0 hS0 1 0 rfl rfl 8 rfl (by first | omega | assumption) (by decide) rfl dX7_seen_20 (fun H1 locs1 hP1 hD1 hS1 => ?_)
  clear hP0 hD0 hS0 locs0 H0
  have hq9 : ([mO cy mm ik tl fm tz vl iw rm rr om, ia cy (mm 1) 169 (upd S 8 (((S 8) * 1103515245) + 12345)), ia cy (mm 6) 6 P]) = ([mO cy mm ik tl fm tz vl iw rm rr om, ia cy (mm 1) 169 (drw S), ia cy (mm 6) 6 P]) := congrArg (fun z9 => [mO cy mm ik tl fm tz vl iw rm rr om, ia cy (mm 1) 169 z9, ia cy (mm 6) 6 P]) (show (upd S 8 (((S 8) * 1103515245) + 12345)) = (drw S) from rfl)
  replace hP1 := (congrArg (fun z9 => va_P D vwCl z9 _) hq9).mp hP1
  replace hD1 := (congrArg (fun z9 => va_D _ z9) hq9).mp hD1
  clear hq9
  refine lv_aload_n hx hb dX7_seen_21 rfl (lv_at hl0 0 rfl) ?_
  refine va_get (D := D) (ci := 7) (v := .ref (mm 1)) (C := RX7) (T := TX7) (N := 23) hx hb hw iX7 hown hK hP1 0 rfl rfl 0 (by decide) (hw _ kw_4_64) (fun _ h9 => h9) rfl dX7_seen_22 ?_
  refine lv_bipush (v := 8) hx hb dX7_seen_25 (by decide) ?_
  refine ald_i (f := drw S) hx hb hK hP1 1 0 rfl rfl 8 rfl (by first | omega | assumption) (by decide) dX7_seen_27 ?_
  refine lv_bipush (v := 8) hx hb dX7_seen_28 (by decide) ?_
  refine lv_iushr hx hb dX7_seen_30 rfl ?_
  refine lv_bipush (v := 100) hx hb dX7_seen_31 (by decide) ?_
  refine lv_irem hx hb dX7_seen_33 (by decide) ?_
  refine tp (show (((((drw S) 8).toUInt32 >>> ((8 : Int32).toUInt32 &&& Int32.toUInt32 31)).toInt32) - ((((drw S) 8).toUInt32 >>> ((8 : Int32).toUInt32 &&& Int32.toUInt32 31)).toInt32) / 100 * 100) = drawV (drw S 8) from rfl) ?_
  refine lv_aload_n hx hb dX7_seen_34 rfl (lv_at hl0 0 rfl) ?_
  refine va_get (D := D) (ci := 7) (v := .ref (mm 1)) (C := RX7) (T := TX7) (N := 23) hx hb hw iX7 hown hK hP1 0 rfl rfl 0 (by decide) (hw _ kw_4_64) (fun _ h9 => h9) rfl dX7_seen_35 ?_
  refine lv_bipush (v := 7) hx hb dX7_seen_38 (by decide) ?_
  refine ald_i (f := drw S) hx hb hK hP1 1 0 rfl rfl 7 rfl (by first | omega | assumption) (by decide) dX7_seen_40 ?_
  refine tp (show ((drw S) 7) = S 7 from drw_n (by decide)) ?_
  refine lv_icmp_ge (tgt := 48) hx hb dX7_seen_41 (by decide) (fun c_41 => ?_) (fun c_41 => ?_)
  · refine lv_iconst (v := 0) hx hb dX7_seen_48 (by decide) ?_
    refine lv_istore_n (lv' := [(2, .int 0), (0, .ref (mm 0)), (1, .int (nI j))]) hx hb dX7_seen_49 rfl hl0 (by decide) rfl (fun ls1 hl1 => ?_)
    clear hl0 ls0
    refine lv_iload_n hx hb dX7_seen_50 rfl (lv_at hl1 0 rfl) ?_
    refine lv_if_ne (tgt := 64) hx hb dX7_seen_51 (by decide) (fun c => absurd (by decide) c) (fun _ => ?_)
    refine lv_aload_n hx hb dX7_seen_54 rfl (lv_at hl1 1 rfl) ?_
    refine lv_iload_n hx hb dX7_seen_55 rfl (lv_at hl1 2 rfl) ?_
    refine lv_iconst (v := 0) hx hb dX7_seen_56 (by decide) ?_
    refine rV_i (wc := [mO cy mm ik tl fm tz vl iw rm rr om, ia cy (mm 1) 169 (drw S)]) (rest := []) hx hb hml hown hw hG hK hP1 hS1 hA hl1 kc_X7_has kw_4_174 [.int (nI j), .int 0] (c_X7_has l D cy G H1.size mm ik tl fm tz vl iw rm rr om (drw S) j 0 (by first | omega | assumption) (by first | omega | assumption)) [0, 1] rfl 0 rfl rfl rfl rfl rfl (Nat.le_of_ble_eq_true rfl) ⟨Nat.le_of_ble_eq_true rfl, Nat.le_of_ble_eq_true rfl⟩ dX7_seen_57 ⟨Nat.le_of_ble_eq_true rfl, Nat.le_of_ble_eq_true rfl⟩ (fun r_57 H2 locs2 hr_57 hP2 hS2 => ?_)
    have hD2 := hD1
    clear hP1 hD1 hS1 locs1 H1
    subst hr_57
    refine tp (show ((drw S) (9 + 8 * j + 0)) = (drw S) (9 + 8 * j) from congrArg _ (by omega)) ?_
    refine tp (show ((drw S) (9 + 8 * j)) = S (9 + 8 * j) from drw_n (by omega)) ?_
    refine lv_iconst (v := 1) hx hb dX7_seen_60 (by decide) ?_
    refine lv_icmp_ne (tgt := 68) hx hb dX7_seen_61 (by decide) (fun c_61 => ?_) (fun c_61 => ?_)
    · refine lv_aload_n hx hb dX7_seen_68 rfl (lv_at hl1 1 rfl) ?_
      refine lv_iload_n hx hb dX7_seen_69 rfl (lv_at hl1 2 rfl) ?_
      refine rV_i (wc := [mO cy mm ik tl fm tz vl iw rm rr om, ia cy (mm 1) 169 (drw S), ia cy (mm 6) 6 P]) (rest := []) hx hb hml hown hw hG hK hP2 hS2 hA hl1 kc_X7_leanOf kw_5_81 [.int (nI j)] (c_X7_leanOf l D cy G H2.size mm ik tl fm tz vl iw rm rr om (drw S) P j ((drw_wf wf).1) (by rw [(drw_wf wf).2.2.1]; exact hj)) [0, 1, 2] rfl 0 rfl rfl rfl rfl rfl (Nat.le_of_ble_eq_true rfl) ⟨Nat.le_of_ble_eq_true rfl, Nat.le_of_ble_eq_true rfl⟩ dX7_seen_70 ⟨Nat.le_of_ble_eq_true rfl, Nat.le_of_ble_eq_true rfl⟩ (fun r_70 H3 locs3 hr_70 hP3 hS3 => ?_)
      have hD3 := hD2
      clear hP2 hD2 hS2 locs2 H2
      subst hr_70
      refine tp (show (lean (flow (drw S) P j)) = lean (flow S P j) from congrArg lean (flow_8 _ _ _ _)) ?_
      refine re_i () hx hb hr hlocks hP3 hD3 hS3 dX7_seen_73 ?_
      exact (by unfold seenV; clear hx hb hml hown hr hlocks hw hsz hA hG hK hP3 hD3 hS3 hl1; grind)
    · refine lv_iconst (v := 0) hx hb dX7_seen_64 (by decide) ?_
      refine lv_goto (tgt := 73) hx hb dX7_seen_65 (by decide) ?_
      refine re_i () hx hb hr hlocks hP2 hD2 hS2 dX7_seen_73 ?_
      exact (by unfold seenV; clear hx hb hml hown hr hlocks hw hsz hA hG hK hP2 hD2 hS2 hl1; grind)
  · refine lv_iconst (v := 1) hx hb dX7_seen_44 (by decide) ?_
    refine lv_goto (tgt := 49) hx hb dX7_seen_45 (by decide) ?_
    refine lv_istore_n (lv' := [(2, .int 1), (0, .ref (mm 0)), (1, .int (nI j))]) hx hb dX7_seen_49 rfl hl0 (by decide) rfl (fun ls1 hl1 => ?_)
    clear hl0 ls0
    refine lv_iload_n hx hb dX7_seen_50 rfl (lv_at hl1 0 rfl) ?_
    refine lv_if_ne (tgt := 64) hx hb dX7_seen_51 (by decide) (fun _ => ?_) (fun c => absurd c (by decide))
    refine lv_iconst (v := 0) hx hb dX7_seen_64 (by decide) ?_
    refine lv_goto (tgt := 73) hx hb dX7_seen_65 (by decide) ?_
    refine re_i () hx hb hr hlocks hP1 hD1 hS1 dX7_seen_73 ?_
    exact (by unfold seenV; clear hx hb hml hown hr hlocks hw hsz hA hG hK hP1 hD1 hS1 hl1; grind)

theorem kc_X7_stick : kV yX7_stick cX7_stick 2 (some .int) 1 := ⟨kw_5_118, kw_5_119, kw_1_8, kw_5_120, by decide, by decide, by decide +kernel⟩
set_option maxHeartbeats 4000000 in
set_option maxRecDepth 100000 in
theorem c_X7_stick (l : Launch) (D : va_G) (cy : Nat → ClassId) (G : Nat → Nat) (sz : Nat) (mm : Nat → Nat) (ik : Int32) (tl : Int32) (fm : Int32) (tz : Int32) (vl : Int32) (iw : Int32) (rm : Int32) (rr : Int32) (om : Int32) (S : Nat → Int32) (C : Nat → Int32) (P : Nat → Int32) (N : Nat → Int32) (x1 : Int32) (wf : wf S) : Met l yX7_stick (wm yX7_stick cX7_stick 2 (some .int)) { frames := 5, cells := 0, slots := 0, locals := 113 } (va_Pc [.ref (mm 0), .int x1] (pr D (TY cy) G ([mO cy mm ik tl fm tz vl iw rm rr om, ia cy (mm 1) 169 S, ia cy (mm 4) 7 C, ia cy (mm 6) 6 P, ia cy (mm 7) 6 N]) sz)) (va_Qi (fun (r : Int32) (u : (Nat → Int32) × (Nat → Int32) × Int32 × Int32) => r = ans (cG S x1) (seenV S (flow S (PR S) (bstN x1)) (bstN x1))) (fun (u : (Nat → Int32) × (Nat → Int32) × Int32 × Int32) t => po D (va_A ([mO cy mm ik tl fm tz vl iw rm rr om, ia cy (mm 1) 169 S, ia cy (mm 4) 7 C, ia cy (mm 6) 6 P, ia cy (mm 7) 6 N]) sz) ([mO cy mm ik tl fm tz vl iw u.2.2.1 u.2.2.2 om, ia cy (mm 1) 169 (if cG S x1 = 7 then drw S else S), ia cy (mm 4) 7 (fnd C (cG S x1)), ia cy (mm 6) 6 u.1, ia cy (mm 7) 6 u.2.1]) t) (va_A ([mO cy mm ik tl fm tz vl iw rm rr om, ia cy (mm 1) 169 S, ia cy (mm 4) 7 C, ia cy (mm 6) 6 P, ia cy (mm 7) 6 N]) sz)) 0 0 (va_A ([mO cy mm ik tl fm tz vl iw rm rr om, ia cy (mm 1) 169 S, ia cy (mm 4) 7 C, ia cy (mm 6) 6 P, ia cy (mm 7) 6 N]) sz) := by
  refine mk_rw (by decide) RX7 rfl (Nat.le_of_ble_eq_true rfl) [(0, .ref (mm 0)), (1, .int x1)] rfl ?_
  intro p e s m below meth c hx hb hml hown hr hlocks hin hw hsz hA hG hK H0 locs0 hP0 hD0 hS0 ls0 hl0
  clear hin
  have hg20 := wf_g20 wf
  have hr6 := wf_r6 wf
  refine lv_aload_n hx hb dX7_stick_0 rfl (lv_at hl0 0 rfl) ?_
  refine lv_iload_n hx hb dX7_stick_1 rfl (lv_at hl0 1 rfl) ?_
  refine rV_i (wc := [mO cy mm ik tl fm tz vl iw rm rr om, ia cy (mm 1) 169 S]) (rest := []) hx hb hml hown hw hG hK hP0 hS0 hA hl0 kc_X7_isGap kw_4_169 [.int x1] (c_X7_isGap l D cy G H0.size mm ik tl fm tz vl iw rm rr om S x1 (by first | omega | assumption)) [0, 1] rfl 0 rfl rfl rfl rfl rfl (Nat.le_of_ble_eq_true rfl) ⟨Nat.le_of_ble_eq_true rfl, Nat.le_of_ble_eq_true rfl⟩ dX7_stick_2 ⟨Nat.le_of_ble_eq_true rfl, Nat.le_of_ble_eq_true rfl⟩ (fun r_2 H1 locs1 hr_2 hP1 hS1 => ?_)
  have hD1 := hD0
  clear hP0 hD0 hS0 locs0 H0
  subst hr_2
  refine lb_ne (tgt := 15) hx hb dX7_stick_5 (by decide) (fun c_5 => ?_) (fun c_5 => ?_)
  · obtain ⟨j, hj, rfl⟩ := wf_gap wf c_5
    have hbj : bstN (nI j) = j := bst_n (by omega)
    refine lv_aload_n hx hb dX7_stick_15 rfl (lv_at hl0 0 rfl) ?_
    refine cV_v (wc := [mO cy mm ik tl fm tz vl iw rm rr om, ia cy (mm 1) 169 S, ia cy (mm 6) 6 P, ia cy (mm 7) 6 N]) (wr := [ia cy (mm 4) 7 C]) (rest := []) hx hb hml hown hw hG hK hP1 hD1 hS1 hA hl0 kc_X7_rests kw_5_57 [] (c_X7_rests l D cy G H1.size mm ik tl fm tz vl iw rm rr om S P N (by first | omega | assumption)) [0, 1, 3, 4] [2] rfl rfl rfl rfl rfl 0 rfl rfl rfl rfl rfl (Nat.le_of_ble_eq_true rfl) ⟨Nat.le_of_ble_eq_true rfl, Nat.le_of_ble_eq_true rfl⟩ dX7_stick_16 ⟨Nat.le_of_ble_eq_true rfl, Nat.le_of_ble_eq_true rfl⟩ (fun u9 H2 locs2 hu9 hP2 hD2 hS2 => ?_)
    clear hP1 hD1 hS1 locs1 H1
    obtain ⟨N1_16, rfl⟩ : ∃ z9, z9 = u9 := ⟨_, rfl⟩
    replace hP2 : va_P D vwCl ([ia cy (mm 4) 7 C, mO cy mm ik tl fm tz vl iw (nI (RC S)) (b2i (RC S = 60)) om, ia cy (mm 1) 169 S, ia cy (mm 6) 6 (PR S), ia cy (mm 7) 6 N1_16]) H2 := hP2
    replace hD2 : va_D (va_A _ sz) ([ia cy (mm 4) 7 C, mO cy mm ik tl fm tz vl iw (nI (RC S)) (b2i (RC S = 60)) om, ia cy (mm 1) 169 S, ia cy (mm 6) 6 (PR S), ia cy (mm 7) 6 N1_16]) := hD2
    replace hP2 := hP2.sub (ws' := [mO cy mm ik tl fm tz vl iw (nI (RC S)) (b2i (RC S = 60)) om, ia cy (mm 1) 169 S, ia cy (mm 4) 7 C, ia cy (mm 6) 6 (PR S), ia cy (mm 7) 6 N1_16]) [1, 2, 0, 3, 4] rfl
    replace hD2 := hD2.sub (ws' := [mO cy mm ik tl fm tz vl iw (nI (RC S)) (b2i (RC S = 60)) om, ia cy (mm 1) 169 S, ia cy (mm 4) 7 C, ia cy (mm 6) 6 (PR S), ia cy (mm 7) 6 N1_16]) [1, 2, 0, 3, 4] (by decide) rfl
    refine lv_aload_n hx hb dX7_stick_19 rfl (lv_at hl0 0 rfl) ?_
    refine lv_iload_n hx hb dX7_stick_20 rfl (lv_at hl0 1 rfl) ?_
    refine cV_i (wc := [mO cy mm ik tl fm tz vl iw (nI (RC S)) (b2i (RC S = 60)) om, ia cy (mm 1) 169 S, ia cy (mm 6) 6 (PR S)]) (wr := [ia cy (mm 4) 7 C, ia cy (mm 7) 6 N1_16]) (rest := []) hx hb hml hown hw hG hK hP2 hD2 hS2 hA hl0 kc_X7_seen kw_5_121 [.int (nI j)] (c_X7_seen l D cy G H2.size mm ik tl fm tz vl iw (nI (RC S)) (b2i (RC S = 60)) om S (PR S) j (by first | omega | assumption) (by first | omega | assumption)) [0, 1, 3] [2, 4] rfl rfl rfl rfl rfl 0 rfl rfl rfl rfl rfl (Nat.le_of_ble_eq_true rfl) ⟨Nat.le_of_ble_eq_true rfl, Nat.le_of_ble_eq_true rfl⟩ dX7_stick_21 ⟨Nat.le_of_ble_eq_true rfl, Nat.le_of_ble_eq_true rfl⟩ (fun r_21 u9 H3 locs3 hu9 hP3 hD3 hS3 => ?_)
    clear hP2 hD2 hS2 locs2 H2
    have hr_21 := hu9
    replace hP3 : va_P D vwCl ([ia cy (mm 4) 7 C, ia cy (mm 7) 6 N1_16, mO cy mm ik tl fm tz vl iw (nI (RC S)) (b2i (RC S = 60)) om, ia cy (mm 1) 169 (drw S), ia cy (mm 6) 6 (PR S)]) H3 := hP3
    replace hD3 : va_D (va_A _ sz) ([ia cy (mm 4) 7 C, ia cy (mm 7) 6 N1_16, mO cy mm ik tl fm tz vl iw (nI (RC S)) (b2i (RC S = 60)) om, ia cy (mm 1) 169 (drw S), ia cy (mm 6) 6 (PR S)]) := hD3
    replace hP3 := hP3.sub (ws' := [mO cy mm ik tl fm tz vl iw (nI (RC S)) (b2i (RC S = 60)) om, ia cy (mm 1) 169 (drw S), ia cy (mm 4) 7 C, ia cy (mm 6) 6 (PR S), ia cy (mm 7) 6 N1_16]) [2, 3, 0, 4, 1] rfl
    replace hD3 := hD3.sub (ws' := [mO cy mm ik tl fm tz vl iw (nI (RC S)) (b2i (RC S = 60)) om, ia cy (mm 1) 169 (drw S), ia cy (mm 4) 7 C, ia cy (mm 6) 6 (PR S), ia cy (mm 7) 6 N1_16]) [2, 3, 0, 4, 1] (by decide) rfl
    subst hr_21
    have hcd : cG S (nI j) = 7 := by unfold cG; clear hx hb hml hown hr hlocks hw hsz hA hG hK hP3 hD3 hS3 hl0; grind
    have hq9 : ([mO cy mm ik tl fm tz vl iw (nI (RC S)) (b2i (RC S = 60)) om, ia cy (mm 1) 169 (drw S), ia cy (mm 4) 7 C, ia cy (mm 6) 6 (PR S), ia cy (mm 7) 6 N1_16]) = ([mO cy mm ik tl fm tz vl iw (nI (RC S)) (b2i (RC S = 60)) om, ia cy (mm 1) 169 (drw S), ia cy (mm 4) 7 (fnd C (cG S (nI j))), ia cy (mm 6) 6 (PR S), ia cy (mm 7) 6 N1_16]) := congrArg (fun z9 => [mO cy mm ik tl fm tz vl iw (nI (RC S)) (b2i (RC S = 60)) om, ia cy (mm 1) 169 (drw S), ia cy (mm 4) 7 z9, ia cy (mm 6) 6 (PR S), ia cy (mm 7) 6 N1_16]) (show C = (fnd C (cG S (nI j))) from fnd_o hcd)
    replace hP3 := (congrArg (fun z9 => va_P D vwCl z9 _) hq9).mp hP3
    replace hD3 := (congrArg (fun z9 => va_D _ z9) hq9).mp hD3
    clear hq9
    have hq9 : ([mO cy mm ik tl fm tz vl iw (nI (RC S)) (b2i (RC S = 60)) om, ia cy (mm 1) 169 (drw S), ia cy (mm 4) 7 (fnd C (cG S (nI j))), ia cy (mm 6) 6 (PR S), ia cy (mm 7) 6 N1_16]) = ([mO cy mm ik tl fm tz vl iw (nI (RC S)) (b2i (RC S = 60)) om, ia cy (mm 1) 169 (if cG S (nI j) = 7 then drw S else S), ia cy (mm 4) 7 (fnd C (cG S (nI j))), ia cy (mm 6) 6 (PR S), ia cy (mm 7) 6 N1_16]) := congrArg (fun z9 => [mO cy mm ik tl fm tz vl iw (nI (RC S)) (b2i (RC S = 60)) om, ia cy (mm 1) 169 z9, ia cy (mm 4) 7 (fnd C (cG S (nI j))), ia cy (mm 6) 6 (PR S), ia cy (mm 7) 6 N1_16]) (show (drw S) = (if cG S (nI j) = 7 then drw S else S) from (if_pos hcd).symm)
    replace hP3 := (congrArg (fun z9 => va_P D vwCl z9 _) hq9).mp hP3
    replace hD3 := (congrArg (fun z9 => va_D _ z9) hq9).mp hD3
    clear hq9
    refine re_i (PR S, N1_16, nI (RC S), b2i (RC S = 60)) hx hb hr hlocks hP3 hD3 hS3 dX7_stick_24 ?_
    exact (ans_o hcd (by rw [hbj]))
  · refine lv_aload_n hx hb dX7_stick_8 rfl (lv_at hl0 0 rfl) ?_
    refine lv_ldc (v := (-1000000001)) hx hb hown (hw _ kw_4_143) dX7_stick_9 ?_
    refine cV_i (wc := [mO cy mm ik tl fm tz vl iw rm rr om, ia cy (mm 4) 7 C]) (wr := [ia cy (mm 1) 169 S, ia cy (mm 6) 6 P, ia cy (mm 7) 6 N]) (rest := []) hx hb hml hown hw hG hK hP1 hD1 hS1 hA hl0 kc_X7_finds kw_4_139 [.int (-1000000001)] (c_X7_finds l D cy G H1.size mm ik tl fm tz vl iw rm rr om C 0 (-1000000001) (by decide) (by decide)) [0, 2] [1, 3, 4] rfl rfl rfl rfl rfl 0 rfl rfl rfl rfl rfl (Nat.le_of_ble_eq_true rfl) ⟨Nat.le_of_ble_eq_true rfl, Nat.le_of_ble_eq_true rfl⟩ dX7_stick_11 ⟨Nat.le_of_ble_eq_true rfl, Nat.le_of_ble_eq_true rfl⟩ (fun r_11 u9 H2 locs2 hu9 hP2 hD2 hS2 => ?_)
    clear hP1 hD1 hS1 locs1 H1
    have hr_11 := hu9
    replace hP2 : va_P D vwCl ([ia cy (mm 1) 169 S, ia cy (mm 6) 6 P, ia cy (mm 7) 6 N, mO cy mm ik tl fm tz vl iw rm rr om, ia cy (mm 4) 7 (upd C 0 (C 0 + 1))]) H2 := hP2
    replace hD2 : va_D (va_A _ sz) ([ia cy (mm 1) 169 S, ia cy (mm 6) 6 P, ia cy (mm 7) 6 N, mO cy mm ik tl fm tz vl iw rm rr om, ia cy (mm 4) 7 (upd C 0 (C 0 + 1))]) := hD2
    replace hP2 := hP2.sub (ws' := [mO cy mm ik tl fm tz vl iw rm rr om, ia cy (mm 1) 169 S, ia cy (mm 4) 7 (upd C 0 (C 0 + 1)), ia cy (mm 6) 6 P, ia cy (mm 7) 6 N]) [3, 0, 4, 1, 2] rfl
    replace hD2 := hD2.sub (ws' := [mO cy mm ik tl fm tz vl iw rm rr om, ia cy (mm 1) 169 S, ia cy (mm 4) 7 (upd C 0 (C 0 + 1)), ia cy (mm 6) 6 P, ia cy (mm 7) 6 N]) [3, 0, 4, 1, 2] (by decide) rfl
    subst hr_11
    have hcd : cG S x1 = 0 := by unfold cG; clear hx hb hml hown hr hlocks hw hsz hA hG hK hP2 hD2 hS2 hl0; grind
    have hq9 : ([mO cy mm ik tl fm tz vl iw rm rr om, ia cy (mm 1) 169 S, ia cy (mm 4) 7 (upd C 0 (C 0 + 1)), ia cy (mm 6) 6 P, ia cy (mm 7) 6 N]) = ([mO cy mm ik tl fm tz vl iw rm rr om, ia cy (mm 1) 169 S, ia cy (mm 4) 7 (fnd C (cG S x1)), ia cy (mm 6) 6 P, ia cy (mm 7) 6 N]) := congrArg (fun z9 => [mO cy mm ik tl fm tz vl iw rm rr om, ia cy (mm 1) 169 S, ia cy (mm 4) 7 z9, ia cy (mm 6) 6 P, ia cy (mm 7) 6 N]) (show (upd C 0 (C 0 + 1)) = (fnd C (cG S x1)) from fnd_f hcd (by decide))
    replace hP2 := (congrArg (fun z9 => va_P D vwCl z9 _) hq9).mp hP2
    replace hD2 := (congrArg (fun z9 => va_D _ z9) hq9).mp hD2
    clear hq9
    have hq9 : ([mO cy mm ik tl fm tz vl iw rm rr om, ia cy (mm 1) 169 S, ia cy (mm 4) 7 (fnd C (cG S x1)), ia cy (mm 6) 6 P, ia cy (mm 7) 6 N]) = ([mO cy mm ik tl fm tz vl iw rm rr om, ia cy (mm 1) 169 (if cG S x1 = 7 then drw S else S), ia cy (mm 4) 7 (fnd C (cG S x1)), ia cy (mm 6) 6 P, ia cy (mm 7) 6 N]) := congrArg (fun z9 => [mO cy mm ik tl fm tz vl iw rm rr om, ia cy (mm 1) 169 z9, ia cy (mm 4) 7 (fnd C (cG S x1)), ia cy (mm 6) 6 P, ia cy (mm 7) 6 N]) (show S = (if cG S x1 = 7 then drw S else S) from (if_neg (fun z9 => absurd (hcd.symm.trans z9) (by decide))).symm)
    replace hP2 := (congrArg (fun z9 => va_P D vwCl z9 _) hq9).mp hP2
    replace hD2 := (congrArg (fun z9 => va_D _ z9) hq9).mp hD2
    clear hq9
    refine re_i (P, N, rm, rr) hx hb hr hlocks hP2 hD2 hS2 dX7_stick_14 ?_
    exact (ans_f hcd (by decide) rfl)

theorem kc_X7_widths : kV yX7_widths cX7_widths 9 (some .int) 3 := ⟨kw_5_127, kw_5_128, kw_1_8, kw_5_129, by decide, by decide, by decide +kernel⟩
set_option maxHeartbeats 4000000 in
set_option maxRecDepth 100000 in
theorem c_X7_widths (l : Launch) (D : va_G) (cy : Nat → ClassId) (G : Nat → Nat) (sz : Nat) (mm : Nat → Nat) (ik : Int32) (tl : Int32) (fm : Int32) (tz : Int32) (vl : Int32) (iw : Int32) (rm : Int32) (rr : Int32) (om : Int32) (S : Nat → Int32) (C : Nat → Int32) (P : Nat → Int32) (N : Nat → Int32) (x1 : Int32) (x2 : Int32) (x3 : Int32) (wf : wf S) : Met l yX7_widths (wm yX7_widths cX7_widths 9 (some .int)) { frames := 5, cells := 0, slots := 0, locals := 113 } (va_Pc [.ref (mm 0), .int x1, .int x2, .int x3] (pr D (TY cy) G ([mO cy mm ik tl fm tz vl iw rm rr om, ia cy (mm 1) 169 S, ia cy (mm 4) 7 C, ia cy (mm 6) 6 P, ia cy (mm 7) 6 N]) sz)) (va_Qi (fun (r : Int32) (u : (Nat → Int32) × (Nat → Int32) × Int32 × Int32) => r = ans (cWidths S x1 x2 x3) (vWidths S (bstN x1) x2 x3)) (fun (u : (Nat → Int32) × (Nat → Int32) × Int32 × Int32) t => po D (va_A ([mO cy mm ik tl fm tz vl iw rm rr om, ia cy (mm 1) 169 S, ia cy (mm 4) 7 C, ia cy (mm 6) 6 P, ia cy (mm 7) 6 N]) sz) ([mO cy mm ik tl fm tz vl iw u.2.2.1 u.2.2.2 om, ia cy (mm 1) 169 S, ia cy (mm 4) 7 (fnd C (cWidths S x1 x2 x3)), ia cy (mm 6) 6 u.1, ia cy (mm 7) 6 u.2.1]) t) (va_A ([mO cy mm ik tl fm tz vl iw rm rr om, ia cy (mm 1) 169 S, ia cy (mm 4) 7 C, ia cy (mm 6) 6 P, ia cy (mm 7) 6 N]) sz)) 0 0 (va_A ([mO cy mm ik tl fm tz vl iw rm rr om, ia cy (mm 1) 169 S, ia cy (mm 4) 7 C, ia cy (mm 6) 6 P, ia cy (mm 7) 6 N]) sz) := by
  refine mk_rw (by decide) RX7 rfl (Nat.le_of_ble_eq_true rfl) [(0, .ref (mm 0)), (1, .int x1), (2, .int x2), (3, .int x3)] rfl ?_
  intro p e s m below meth c hx hb hml hown hr hlocks hin hw hsz hA hG hK H0 locs0 hP0 hD0 hS0 ls0 hl0
  clear hin
  have hg20 := wf_g20 wf
  have hr6 := wf_r6 wf
  refine lv_aload_n hx hb dX7_widths_0 rfl (lv_at hl0 0 rfl) ?_
  refine lv_iload_n hx hb dX7_widths_1 rfl (lv_at hl0 1 rfl) ?_
  refine rV_i (wc := [mO cy mm ik tl fm tz vl iw rm rr om, ia cy (mm 1) 169 S]) (rest := []) hx hb hml hown hw hG hK hP0 hS0 hA hl0 kc_X7_isGap kw_4_169 [.int x1] (c_X7_isGap l D cy G H0.size mm ik tl fm tz vl iw rm rr om S x1 (by first | omega | assumption)) [0, 1] rfl 0 rfl rfl rfl rfl rfl (Nat.le_of_ble_eq_true rfl) ⟨Nat.le_of_ble_eq_true rfl, Nat.le_of_ble_eq_true rfl⟩ dX7_widths_2 ⟨Nat.le_of_ble_eq_true rfl, Nat.le_of_ble_eq_true rfl⟩ (fun r_2 H1 locs1 hr_2 hP1 hS1 => ?_)
  have hD1 := hD0
  clear hP0 hD0 hS0 locs0 H0
  subst hr_2
  refine lb_eq (tgt := 34) hx hb dX7_widths_5 (by decide) (fun c_5 => ?_) (fun c_5 => ?_)
  · refine lv_aload_n hx hb dX7_widths_34 rfl (lv_at hl0 0 rfl) ?_
    refine lv_ldc (v := (-1000000001)) hx hb hown (hw _ kw_4_143) dX7_widths_35 ?_
    refine cV_i (wc := [mO cy mm ik tl fm tz vl iw rm rr om, ia cy (mm 4) 7 C]) (wr := [ia cy (mm 1) 169 S, ia cy (mm 6) 6 P, ia cy (mm 7) 6 N]) (rest := []) hx hb hml hown hw hG hK hP1 hD1 hS1 hA hl0 kc_X7_finds kw_4_139 [.int (-1000000001)] (c_X7_finds l D cy G H1.size mm ik tl fm tz vl iw rm rr om C 0 (-1000000001) (by decide) (by decide)) [0, 2] [1, 3, 4] rfl rfl rfl rfl rfl 0 rfl rfl rfl rfl rfl (Nat.le_of_ble_eq_true rfl) ⟨Nat.le_of_ble_eq_true rfl, Nat.le_of_ble_eq_true rfl⟩ dX7_widths_37 ⟨Nat.le_of_ble_eq_true rfl, Nat.le_of_ble_eq_true rfl⟩ (fun r_37 u9 H2 locs2 hu9 hP2 hD2 hS2 => ?_)
    clear hP1 hD1 hS1 locs1 H1
    have hr_37 := hu9
    replace hP2 : va_P D vwCl ([ia cy (mm 1) 169 S, ia cy (mm 6) 6 P, ia cy (mm 7) 6 N, mO cy mm ik tl fm tz vl iw rm rr om, ia cy (mm 4) 7 (upd C 0 (C 0 + 1))]) H2 := hP2
    replace hD2 : va_D (va_A _ sz) ([ia cy (mm 1) 169 S, ia cy (mm 6) 6 P, ia cy (mm 7) 6 N, mO cy mm ik tl fm tz vl iw rm rr om, ia cy (mm 4) 7 (upd C 0 (C 0 + 1))]) := hD2
    replace hP2 := hP2.sub (ws' := [mO cy mm ik tl fm tz vl iw rm rr om, ia cy (mm 1) 169 S, ia cy (mm 4) 7 (upd C 0 (C 0 + 1)), ia cy (mm 6) 6 P, ia cy (mm 7) 6 N]) [3, 0, 4, 1, 2] rfl
    replace hD2 := hD2.sub (ws' := [mO cy mm ik tl fm tz vl iw rm rr om, ia cy (mm 1) 169 S, ia cy (mm 4) 7 (upd C 0 (C 0 + 1)), ia cy (mm 6) 6 P, ia cy (mm 7) 6 N]) [3, 0, 4, 1, 2] (by decide) rfl
    subst hr_37
    have hcd : cWidths S x1 x2 x3 = 0 := by unfold cWidths; clear hx hb hml hown hr hlocks hw hsz hA hG hK hP2 hD2 hS2 hl0; grind
    have hq9 : ([mO cy mm ik tl fm tz vl iw rm rr om, ia cy (mm 1) 169 S, ia cy (mm 4) 7 (upd C 0 (C 0 + 1)), ia cy (mm 6) 6 P, ia cy (mm 7) 6 N]) = ([mO cy mm ik tl fm tz vl iw rm rr om, ia cy (mm 1) 169 S, ia cy (mm 4) 7 (fnd C (cWidths S x1 x2 x3)), ia cy (mm 6) 6 P, ia cy (mm 7) 6 N]) := congrArg (fun z9 => [mO cy mm ik tl fm tz vl iw rm rr om, ia cy (mm 1) 169 S, ia cy (mm 4) 7 z9, ia cy (mm 6) 6 P, ia cy (mm 7) 6 N]) (show (upd C 0 (C 0 + 1)) = (fnd C (cWidths S x1 x2 x3)) from fnd_f hcd (by decide))
    replace hP2 := (congrArg (fun z9 => va_P D vwCl z9 _) hq9).mp hP2
    replace hD2 := (congrArg (fun z9 => va_D _ z9) hq9).mp hD2
    clear hq9
    refine re_i (P, N, rm, rr) hx hb hr hlocks hP2 hD2 hS2 dX7_widths_40 ?_
    exact (ans_f hcd (by decide) rfl)
  · refine lv_iload_n hx hb dX7_widths_8 rfl (lv_at hl0 2 rfl) ?_
    refine lv_i2l hx hb dX7_widths_9 rfl ?_
    refine lv_ldc2 (v := (-9)) hx hb hown (hw _ kw_5_130) dX7_widths_10 ?_
    refine lv_ldc2 (v := 9) hx hb hown (hw _ kw_4_173) dX7_widths_13 ?_
    refine rT_i (wc := []) (rest := []) hx hb hml hown hw hG hK hP1 hS1 hA hl0 kc_X7_in kw_4_153 [.long x2.toInt64, .long (-9), .long 9] (c_X7_in l D cy G H1.size x2.toInt64 (-9) 9) [] rfl rfl rfl (Nat.le_of_ble_eq_true rfl) ⟨Nat.le_of_ble_eq_true rfl, Nat.le_of_ble_eq_true rfl⟩ dX7_widths_16 ⟨Nat.le_of_ble_eq_true rfl, Nat.le_of_ble_eq_true rfl⟩ (fun r_16 H2 locs2 hr_16 hP2 hS2 => ?_)
    have hD2 := hD1
    clear hP1 hD1 hS1 locs1 H1
    subst hr_16
    refine tp (show (b2i ((-9) ≤ x2.toInt64 ∧ x2.toInt64 ≤ 9)) = b2i ((-9) ≤ x2 ∧ x2 ≤ 9) from b2i_iff (in_c (by decide) (by decide))) ?_
    refine lb_eq (tgt := 34) hx hb dX7_widths_19 (by decide) (fun c_19 => ?_) (fun c_19 => ?_)
    · refine lv_aload_n hx hb dX7_widths_34 rfl (lv_at hl0 0 rfl) ?_
      refine lv_ldc (v := (-1000000001)) hx hb hown (hw _ kw_4_143) dX7_widths_35 ?_
      refine cV_i (wc := [mO cy mm ik tl fm tz vl iw rm rr om, ia cy (mm 4) 7 C]) (wr := [ia cy (mm 1) 169 S, ia cy (mm 6) 6 P, ia cy (mm 7) 6 N]) (rest := []) hx hb hml hown hw hG hK hP2 hD2 hS2 hA hl0 kc_X7_finds kw_4_139 [.int (-1000000001)] (c_X7_finds l D cy G H2.size mm ik tl fm tz vl iw rm rr om C 0 (-1000000001) (by decide) (by decide)) [0, 2] [1, 3, 4] rfl rfl rfl rfl rfl 0 rfl rfl rfl rfl rfl (Nat.le_of_ble_eq_true rfl) ⟨Nat.le_of_ble_eq_true rfl, Nat.le_of_ble_eq_true rfl⟩ dX7_widths_37 ⟨Nat.le_of_ble_eq_true rfl, Nat.le_of_ble_eq_true rfl⟩ (fun r_37 u9 H3 locs3 hu9 hP3 hD3 hS3 => ?_)
      clear hP2 hD2 hS2 locs2 H2
      have hr_37 := hu9
      replace hP3 : va_P D vwCl ([ia cy (mm 1) 169 S, ia cy (mm 6) 6 P, ia cy (mm 7) 6 N, mO cy mm ik tl fm tz vl iw rm rr om, ia cy (mm 4) 7 (upd C 0 (C 0 + 1))]) H3 := hP3
      replace hD3 : va_D (va_A _ sz) ([ia cy (mm 1) 169 S, ia cy (mm 6) 6 P, ia cy (mm 7) 6 N, mO cy mm ik tl fm tz vl iw rm rr om, ia cy (mm 4) 7 (upd C 0 (C 0 + 1))]) := hD3
      replace hP3 := hP3.sub (ws' := [mO cy mm ik tl fm tz vl iw rm rr om, ia cy (mm 1) 169 S, ia cy (mm 4) 7 (upd C 0 (C 0 + 1)), ia cy (mm 6) 6 P, ia cy (mm 7) 6 N]) [3, 0, 4, 1, 2] rfl
      replace hD3 := hD3.sub (ws' := [mO cy mm ik tl fm tz vl iw rm rr om, ia cy (mm 1) 169 S, ia cy (mm 4) 7 (upd C 0 (C 0 + 1)), ia cy (mm 6) 6 P, ia cy (mm 7) 6 N]) [3, 0, 4, 1, 2] (by decide) rfl
      subst hr_37
      have hcd : cWidths S x1 x2 x3 = 0 := by unfold cWidths; clear hx hb hml hown hr hlocks hw hsz hA hG hK hP3 hD3 hS3 hl0; grind
      have hq9 : ([mO cy mm ik tl fm tz vl iw rm rr om, ia cy (mm 1) 169 S, ia cy (mm 4) 7 (upd C 0 (C 0 + 1)), ia cy (mm 6) 6 P, ia cy (mm 7) 6 N]) = ([mO cy mm ik tl fm tz vl iw rm rr om, ia cy (mm 1) 169 S, ia cy (mm 4) 7 (fnd C (cWidths S x1 x2 x3)), ia cy (mm 6) 6 P, ia cy (mm 7) 6 N]) := congrArg (fun z9 => [mO cy mm ik tl fm tz vl iw rm rr om, ia cy (mm 1) 169 S, ia cy (mm 4) 7 z9, ia cy (mm 6) 6 P, ia cy (mm 7) 6 N]) (show (upd C 0 (C 0 + 1)) = (fnd C (cWidths S x1 x2 x3)) from fnd_f hcd (by decide))
      replace hP3 := (congrArg (fun z9 => va_P D vwCl z9 _) hq9).mp hP3
      replace hD3 := (congrArg (fun z9 => va_D _ z9) hq9).mp hD3
      clear hq9
      refine re_i (P, N, rm, rr) hx hb hr hlocks hP3 hD3 hS3 dX7_widths_40 ?_
      exact (ans_f hcd (by decide) rfl)
    · refine lv_iload_n hx hb dX7_widths_22 rfl (lv_at hl0 3 rfl) ?_
      refine lv_i2l hx hb dX7_widths_23 rfl ?_
      refine lv_lconst (v := 0) hx hb dX7_widths_24 (by decide) ?_
      refine lv_ldc2 (v := 2) hx hb hown (hw _ kw_5_131) dX7_widths_25 ?_
      refine rT_i (wc := []) (rest := []) hx hb hml hown hw hG hK hP2 hS2 hA hl0 kc_X7_in kw_4_153 [.long x3.toInt64, .long 0, .long 2] (c_X7_in l D cy G H2.size x3.toInt64 0 2) [] rfl rfl rfl (Nat.le_of_ble_eq_true rfl) ⟨Nat.le_of_ble_eq_true rfl, Nat.le_of_ble_eq_true rfl⟩ dX7_widths_28 ⟨Nat.le_of_ble_eq_true rfl, Nat.le_of_ble_eq_true rfl⟩ (fun r_28 H3 locs3 hr_28 hP3 hS3 => ?_)
      have hD3 := hD2
      clear hP2 hD2 hS2 locs2 H2
      subst hr_28
      refine tp (show (b2i (0 ≤ x3.toInt64 ∧ x3.toInt64 ≤ 2)) = b2i (0 ≤ x3 ∧ x3 ≤ 2) from b2i_iff (in_c (by decide) (by decide))) ?_
      refine lb_ne (tgt := 41) hx hb dX7_widths_31 (by decide) (fun c_31 => ?_) (fun c_31 => ?_)
      · obtain ⟨j, hj, rfl⟩ := wf_gap wf c_5
        have hbj : bstN (nI j) = j := bst_n (by omega)
        have hj20 : j < 20 := by omega
        refine lv_aload_n hx hb dX7_widths_41 rfl (lv_at hl0 0 rfl) ?_
        refine lv_iload_n hx hb dX7_widths_42 rfl (lv_at hl0 1 rfl) ?_
        refine lv_iconst (v := 3) hx hb dX7_widths_43 (by decide) ?_
        refine rV_i (wc := [mO cy mm ik tl fm tz vl iw rm rr om, ia cy (mm 1) 169 S]) (rest := []) hx hb hml hown hw hG hK hP3 hS3 hA hl0 kc_X7_has kw_4_174 [.int (nI j), .int 3] (c_X7_has l D cy G H3.size mm ik tl fm tz vl iw rm rr om S j 3 (by first | omega | assumption) (by first | omega | assumption)) [0, 1] rfl 0 rfl rfl rfl rfl rfl (Nat.le_of_ble_eq_true rfl) ⟨Nat.le_of_ble_eq_true rfl, Nat.le_of_ble_eq_true rfl⟩ dX7_widths_44 ⟨Nat.le_of_ble_eq_true rfl, Nat.le_of_ble_eq_true rfl⟩ (fun r_44 H4 locs4 hr_44 hP4 hS4 => ?_)
        have hD4 := hD3
        clear hP3 hD3 hS3 locs3 H3
        subst hr_44
        refine tp (show (S (9 + 8 * j + 3)) = S (12 + 8 * j) from congrArg _ (by omega)) ?_
        refine lv_istore (lv' := [(4, .int (S (12 + 8 * j))), (0, .ref (mm 0)), (1, .int (nI j)), (2, .int x2), (3, .int x3)]) hx hb dX7_widths_47 hl0 (by decide) rfl (fun ls1 hl1 => ?_)
        clear hl0 ls0
        refine lv_iconst (v := 0) hx hb dX7_widths_49 (by decide) ?_
        refine lv_istore (lv' := [(5, .int 0), (4, .int (S (12 + 8 * j))), (0, .ref (mm 0)), (1, .int (nI j)), (2, .int x2), (3, .int x3)]) hx hb dX7_widths_50 hl1 (by decide) rfl (fun ls2 hl2 => ?_)
        clear hl1 ls1
        refine lv_iconst (v := (-1)) hx hb dX7_widths_52 (by decide) ?_
        refine lv_istore (lv' := [(6, .int (-1)), (5, .int 0), (4, .int (S (12 + 8 * j))), (0, .ref (mm 0)), (1, .int (nI j)), (2, .int x2), (3, .int x3)]) hx hb dX7_widths_53 hl2 (by decide) rfl (fun ls3 hl3 => ?_)
        clear hl2 ls2
        refine lv_iconst (v := (-1)) hx hb dX7_widths_55 (by decide) ?_
        refine lv_istore (lv' := [(7, .int (-1)), (6, .int (-1)), (5, .int 0), (4, .int (S (12 + 8 * j))), (0, .ref (mm 0)), (1, .int (nI j)), (2, .int x2), (3, .int x3)]) hx hb dX7_widths_56 hl3 (by decide) rfl (fun ls4 hl4 => ?_)
        clear hl3 ls3
        refine lv_iconst (v := 0) hx hb dX7_widths_58 (by decide) ?_
        refine lv_istore (lv' := [(8, .int 0), (7, .int (-1)), (6, .int (-1)), (5, .int 0), (4, .int (S (12 + 8 * j))), (0, .ref (mm 0)), (1, .int (nI j)), (2, .int x2), (3, .int x3)]) hx hb dX7_widths_59 hl4 (by decide) rfl (fun ls5 hl5 => ?_)
        clear hl4 ls4
        have hq9 : nI (cntN (okW S j x2) 0) = 0 := rfl
        replace hl5 : lv_has ls5 9 [(8, .int 0), (7, .int (-1)), (6, .int (-1)), (5, .int (nI (cntN (okW S j x2) 0))), (4, .int (S (12 + 8 * j))), (0, .ref (mm 0)), (1, .int (nI j)), (2, .int x2), (3, .int x3)] := (congrArg (fun z9 => lv_has ls5 9 [(8, .int 0), (7, .int (-1)), (6, .int (-1)), (5, .int z9), (4, .int (S (12 + 8 * j))), (0, .ref (mm 0)), (1, .int (nI j)), (2, .int x2), (3, .int x3)]) hq9).mpr hl5
        clear hq9
        have hq9 : fsN (okW S j x2) 0 = -1 := rfl
        replace hl5 : lv_has ls5 9 [(8, .int 0), (7, .int (-1)), (6, .int (fsN (okW S j x2) 0)), (5, .int (nI (cntN (okW S j x2) 0))), (4, .int (S (12 + 8 * j))), (0, .ref (mm 0)), (1, .int (nI j)), (2, .int x2), (3, .int x3)] := (congrArg (fun z9 => lv_has ls5 9 [(8, .int 0), (7, .int (-1)), (6, .int z9), (5, .int (nI (cntN (okW S j x2) 0))), (4, .int (S (12 + 8 * j))), (0, .ref (mm 0)), (1, .int (nI j)), (2, .int x2), (3, .int x3)]) hq9).mpr hl5
        clear hq9
        have hq9 : lsN (okW S j x2) 0 = -1 := rfl
        replace hl5 : lv_has ls5 9 [(8, .int 0), (7, .int (lsN (okW S j x2) 0)), (6, .int (fsN (okW S j x2) 0)), (5, .int (nI (cntN (okW S j x2) 0))), (4, .int (S (12 + 8 * j))), (0, .ref (mm 0)), (1, .int (nI j)), (2, .int x2), (3, .int x3)] := (congrArg (fun z9 => lv_has ls5 9 [(8, .int 0), (7, .int z9), (6, .int (fsN (okW S j x2) 0)), (5, .int (nI (cntN (okW S j x2) 0))), (4, .int (S (12 + 8 * j))), (0, .ref (mm 0)), (1, .int (nI j)), (2, .int x2), (3, .int x3)]) hq9).mpr hl5
        clear hq9
        refine wlp (ι := Nat × (Nat → Int32) × (Nat → Int32) × (Nat → Int32) × Int32 × Int32) (nL := 9) (fun x9 => (x9.1 ≤ 100) ∧ (∀ v : Int32, upd x9.2.1 (12 + 8 * j) v = upd S (12 + 8 * j) v)) (fun x9 => [mO cy mm ik tl fm tz vl iw x9.2.2.2.2.1 x9.2.2.2.2.2 om, ia cy (mm 1) 169 x9.2.1, ia cy (mm 4) 7 C, ia cy (mm 6) 6 x9.2.2.1, ia cy (mm 7) 6 x9.2.2.2.1]) (fun x9 => [(8, .int (nI x9.1)), (7, .int (lsN (okW S j x2) x9.1)), (6, .int (fsN (okW S j x2) x9.1)), (5, .int (nI (cntN (okW S j x2) x9.1))), (4, .int (S (12 + 8 * j))), (0, .ref (mm 0)), (1, .int (nI j)), (2, .int x2), (3, .int x3)]) (fun x9 => []) (fun x9 => 100 - x9.1) 61 ?_ (0, S, P, N, rm, rr) (⟨by first | omega | assumption | rfl | simp_all, fun _ => rfl⟩) rfl hP4 hD4 hS4 (lv_sub hl5 [0, 1, 2, 3, 4, 5, 6, 7, 8] rfl)
        clear hP4 hD4 hS4 locs4 H4 hl5 ls5
        intro x9 hI ih_61 H5 locs5 ls6 hP5 hD5 hS5 hl6
        obtain ⟨i, X1, P1, N1, rm1, rr1⟩ := x9
        obtain ⟨hi, hU⟩ := hI
        replace hi : i ≤ 100 := hi
        replace hU : ∀ v : Int32, upd X1 (12 + 8 * j) v = upd S (12 + 8 * j) v := hU
        replace hP5 : va_P D vwCl ([mO cy mm ik tl fm tz vl iw rm1 rr1 om, ia cy (mm 1) 169 X1, ia cy (mm 4) 7 C, ia cy (mm 6) 6 P1, ia cy (mm 7) 6 N1]) H5 := hP5
        replace hD5 : va_D (va_A _ sz) ([mO cy mm ik tl fm tz vl iw rm1 rr1 om, ia cy (mm 1) 169 X1, ia cy (mm 4) 7 C, ia cy (mm 6) 6 P1, ia cy (mm 7) 6 N1]) := hD5
        replace hl6 : lv_has ls6 9 [(8, .int (nI i)), (7, .int (lsN (okW S j x2) i)), (6, .int (fsN (okW S j x2) i)), (5, .int (nI (cntN (okW S j x2) i))), (4, .int (S (12 + 8 * j))), (0, .ref (mm 0)), (1, .int (nI j)), (2, .int x2), (3, .int x3)] := hl6
        show W p l e _ s m _ below meth c _ _ _ _ _ (F0 m 61 ls6 [])
        refine lv_iload hx hb dX7_widths_61 (lv_at hl6 0 rfl) ?_
        refine lv_bipush (v := 100) hx hb dX7_widths_63 (by decide) ?_
        refine ln_ge (tgt := 124) i 100 rfl rfl (by omega) (by omega) hx hb dX7_widths_65 (by decide) (fun c_65 => ?_) (fun c_65 => ?_)
        · obtain rfl : i = 100 := (by omega)
          refine lv_aload_n hx hb dX7_widths_124 rfl (lv_at hl6 5 rfl) ?_
          refine va_get (D := D) (ci := 7) (v := .ref (mm 1)) (C := RX7) (T := TX7) (N := 23) hx hb hw iX7 hown hK hP5 0 rfl rfl 0 (by decide) (hw _ kw_4_64) (fun _ h9 => h9) rfl dX7_widths_125 ?_
          refine lv_bipush (v := 9) hx hb dX7_widths_128 (by decide) ?_
          refine lv_bipush (v := 8) hx hb dX7_widths_130 (by decide) ?_
          refine lv_iload_n hx hb dX7_widths_132 rfl (lv_at hl6 6 rfl) ?_
          refine lv_imul hx hb dX7_widths_133 ?_
          refine tp (show (8 * (nI j)) = nI (8 * j) from pk_mul _ _) ?_
          refine lv_iadd hx hb dX7_widths_134 ?_
          refine tp (show (9 + (nI (8 * j))) = nI (9 + 8 * j) from nI_add _ _) ?_
          refine lv_iconst (v := 3) hx hb dX7_widths_135 (by decide) ?_
          refine lv_iadd hx hb dX7_widths_136 ?_
          refine tp (show ((nI (9 + 8 * j)) + 3) = nI (9 + 8 * j + 3) from nI_add _ _) ?_
          refine lv_iload hx hb dX7_widths_137 (lv_at hl6 4 rfl) ?_
          refine ast_i (f := X1) (ws' := [mO cy mm ik tl fm tz vl iw rm1 rr1 om, ia cy (mm 1) 169 (upd X1 (12 + 8 * j) (S (12 + 8 * j))), ia cy (mm 4) 7 C, ia cy (mm 6) 6 P1, ia cy (mm 7) 6 N1]) hx hb hK hP5 hD5 hS5 1 0 rfl rfl (12 + 8 * j) (congrArg nI (by omega)) (by omega) (by decide) rfl dX7_widths_139 (fun H6 locs6 hP6 hD6 hS6 => ?_)
          clear hP5 hD5 hS5 locs5 H5
          have hq9 : ([mO cy mm ik tl fm tz vl iw rm1 rr1 om, ia cy (mm 1) 169 (upd X1 (12 + 8 * j) (S (12 + 8 * j))), ia cy (mm 4) 7 C, ia cy (mm 6) 6 P1, ia cy (mm 7) 6 N1]) = ([mO cy mm ik tl fm tz vl iw rm1 rr1 om, ia cy (mm 1) 169 S, ia cy (mm 4) 7 C, ia cy (mm 6) 6 P1, ia cy (mm 7) 6 N1]) := congrArg (fun z9 => [mO cy mm ik tl fm tz vl iw rm1 rr1 om, ia cy (mm 1) 169 z9, ia cy (mm 4) 7 C, ia cy (mm 6) 6 P1, ia cy (mm 7) 6 N1]) (show (upd X1 (12 + 8 * j) (S (12 + 8 * j))) = S from (hU _).trans (upd_back S _))
          replace hP6 := (congrArg (fun z9 => va_P D vwCl z9 _) hq9).mp hP6
          replace hD6 := (congrArg (fun z9 => va_D _ z9) hq9).mp hD6
          clear hq9
          have hcn := cntN_le (okW S j x2) 100
          have hcn0 : nI (cntN (okW S j x2) 100) = 0 ↔ cntN (okW S j x2) 100 = 0 := nI_eq (b := 0) (by omega) (by decide)
          refine lv_iload_n hx hb dX7_widths_140 rfl (lv_at hl6 8 rfl) ?_
          refine lv_if_ne (tgt := 149) hx hb dX7_widths_141 (by decide) (fun c_141 => ?_) (fun c_141 => ?_)
          · refine lv_iload hx hb dX7_widths_149 (lv_at hl6 3 rfl) ?_
            refine lv_if_ne (tgt := 163) hx hb dX7_widths_151 (by decide) (fun c_151 => ?_) (fun c_151 => ?_)
            · refine lv_iload_n hx hb dX7_widths_163 rfl (lv_at hl6 8 rfl) ?_
              refine lv_iconst (v := 1) hx hb dX7_widths_164 (by decide) ?_
              refine lv_icmp_ne (tgt := 173) hx hb dX7_widths_165 (by decide) (fun c_165 => ?_) (fun c_165 => ?_)
              · refine lv_iload hx hb dX7_widths_173 (lv_at hl6 1 rfl) ?_
                have hcd : cWidths S (nI j) x2 x3 = 7 := by unfold cWidths; rw [hbj]; clear hx hb hml hown hr hlocks hw hsz hA hG hK hP6 hD6 hS6 hl6 ih_61; grind
                have hq9 : ([mO cy mm ik tl fm tz vl iw rm1 rr1 om, ia cy (mm 1) 169 S, ia cy (mm 4) 7 C, ia cy (mm 6) 6 P1, ia cy (mm 7) 6 N1]) = ([mO cy mm ik tl fm tz vl iw rm1 rr1 om, ia cy (mm 1) 169 S, ia cy (mm 4) 7 (fnd C (cWidths S (nI j) x2 x3)), ia cy (mm 6) 6 P1, ia cy (mm 7) 6 N1]) := congrArg (fun z9 => [mO cy mm ik tl fm tz vl iw rm1 rr1 om, ia cy (mm 1) 169 S, ia cy (mm 4) 7 z9, ia cy (mm 6) 6 P1, ia cy (mm 7) 6 N1]) (show C = (fnd C (cWidths S (nI j) x2 x3)) from fnd_o hcd)
                replace hP6 := (congrArg (fun z9 => va_P D vwCl z9 _) hq9).mp hP6
                replace hD6 := (congrArg (fun z9 => va_D _ z9) hq9).mp hD6
                clear hq9
                refine re_i (P1, N1, rm1, rr1) hx hb hr hlocks hP6 hD6 hS6 dX7_widths_175 ?_
                exact (ans_o hcd (by rw [hbj]; unfold vWidths; clear hx hb hml hown hr hlocks hw hsz hA hG hK hP6 hD6 hS6 hl6 ih_61; grind [fsN, lsN]))
              · refine lv_iload hx hb dX7_widths_168 (lv_at hl6 2 rfl) ?_
                refine lv_goto (tgt := 175) hx hb dX7_widths_170 (by decide) ?_
                have hcd : cWidths S (nI j) x2 x3 = 7 := by unfold cWidths; rw [hbj]; clear hx hb hml hown hr hlocks hw hsz hA hG hK hP6 hD6 hS6 hl6 ih_61; grind
                have hq9 : ([mO cy mm ik tl fm tz vl iw rm1 rr1 om, ia cy (mm 1) 169 S, ia cy (mm 4) 7 C, ia cy (mm 6) 6 P1, ia cy (mm 7) 6 N1]) = ([mO cy mm ik tl fm tz vl iw rm1 rr1 om, ia cy (mm 1) 169 S, ia cy (mm 4) 7 (fnd C (cWidths S (nI j) x2 x3)), ia cy (mm 6) 6 P1, ia cy (mm 7) 6 N1]) := congrArg (fun z9 => [mO cy mm ik tl fm tz vl iw rm1 rr1 om, ia cy (mm 1) 169 S, ia cy (mm 4) 7 z9, ia cy (mm 6) 6 P1, ia cy (mm 7) 6 N1]) (show C = (fnd C (cWidths S (nI j) x2 x3)) from fnd_o hcd)
                replace hP6 := (congrArg (fun z9 => va_P D vwCl z9 _) hq9).mp hP6
                replace hD6 := (congrArg (fun z9 => va_D _ z9) hq9).mp hD6
                clear hq9
                refine re_i (P1, N1, rm1, rr1) hx hb hr hlocks hP6 hD6 hS6 dX7_widths_175 ?_
                exact (ans_o hcd (by rw [hbj]; unfold vWidths; clear hx hb hml hown hr hlocks hw hsz hA hG hK hP6 hD6 hS6 hl6 ih_61; grind [fsN, lsN]))
            · refine lv_aload_n hx hb dX7_widths_154 rfl (lv_at hl6 5 rfl) ?_
              refine lv_ldc (v := (-1000000004)) hx hb hown (hw _ kw_5_132) dX7_widths_155 ?_
              refine cV_i (wc := [mO cy mm ik tl fm tz vl iw rm1 rr1 om, ia cy (mm 4) 7 C]) (wr := [ia cy (mm 1) 169 S, ia cy (mm 6) 6 P1, ia cy (mm 7) 6 N1]) (rest := []) hx hb hml hown hw hG hK hP6 hD6 hS6 hA hl6 kc_X7_finds kw_4_139 [.int (-1000000004)] (c_X7_finds l D cy G H6.size mm ik tl fm tz vl iw rm1 rr1 om C 3 (-1000000004) (by decide) (by decide)) [0, 2] [1, 3, 4] rfl rfl rfl rfl rfl 0 rfl rfl rfl rfl rfl (Nat.le_of_ble_eq_true rfl) ⟨Nat.le_of_ble_eq_true rfl, Nat.le_of_ble_eq_true rfl⟩ dX7_widths_157 ⟨Nat.le_of_ble_eq_true rfl, Nat.le_of_ble_eq_true rfl⟩ (fun r_157 u9 H7 locs7 hu9 hP7 hD7 hS7 => ?_)
              clear hP6 hD6 hS6 locs6 H6
              have hr_157 := hu9
              replace hP7 : va_P D vwCl ([ia cy (mm 1) 169 S, ia cy (mm 6) 6 P1, ia cy (mm 7) 6 N1, mO cy mm ik tl fm tz vl iw rm1 rr1 om, ia cy (mm 4) 7 (upd C 3 (C 3 + 1))]) H7 := hP7
              replace hD7 : va_D (va_A _ sz) ([ia cy (mm 1) 169 S, ia cy (mm 6) 6 P1, ia cy (mm 7) 6 N1, mO cy mm ik tl fm tz vl iw rm1 rr1 om, ia cy (mm 4) 7 (upd C 3 (C 3 + 1))]) := hD7
              replace hP7 := hP7.sub (ws' := [mO cy mm ik tl fm tz vl iw rm1 rr1 om, ia cy (mm 1) 169 S, ia cy (mm 4) 7 (upd C 3 (C 3 + 1)), ia cy (mm 6) 6 P1, ia cy (mm 7) 6 N1]) [3, 0, 4, 1, 2] rfl
              replace hD7 := hD7.sub (ws' := [mO cy mm ik tl fm tz vl iw rm1 rr1 om, ia cy (mm 1) 169 S, ia cy (mm 4) 7 (upd C 3 (C 3 + 1)), ia cy (mm 6) 6 P1, ia cy (mm 7) 6 N1]) [3, 0, 4, 1, 2] (by decide) rfl
              subst hr_157
              refine lv_goto (tgt := 175) hx hb dX7_widths_160 (by decide) ?_
              have hcd : cWidths S (nI j) x2 x3 = 3 := by unfold cWidths; rw [hbj]; clear hx hb hml hown hr hlocks hw hsz hA hG hK hP7 hD7 hS7 hl6 ih_61; grind
              have hq9 : ([mO cy mm ik tl fm tz vl iw rm1 rr1 om, ia cy (mm 1) 169 S, ia cy (mm 4) 7 (upd C 3 (C 3 + 1)), ia cy (mm 6) 6 P1, ia cy (mm 7) 6 N1]) = ([mO cy mm ik tl fm tz vl iw rm1 rr1 om, ia cy (mm 1) 169 S, ia cy (mm 4) 7 (fnd C (cWidths S (nI j) x2 x3)), ia cy (mm 6) 6 P1, ia cy (mm 7) 6 N1]) := congrArg (fun z9 => [mO cy mm ik tl fm tz vl iw rm1 rr1 om, ia cy (mm 1) 169 S, ia cy (mm 4) 7 z9, ia cy (mm 6) 6 P1, ia cy (mm 7) 6 N1]) (show (upd C 3 (C 3 + 1)) = (fnd C (cWidths S (nI j) x2 x3)) from fnd_f hcd (by decide))
              replace hP7 := (congrArg (fun z9 => va_P D vwCl z9 _) hq9).mp hP7
              replace hD7 := (congrArg (fun z9 => va_D _ z9) hq9).mp hD7
              clear hq9
              refine re_i (P1, N1, rm1, rr1) hx hb hr hlocks hP7 hD7 hS7 dX7_widths_175 ?_
              exact (ans_f hcd (by decide) rfl)
          · refine lv_iload hx hb dX7_widths_144 (lv_at hl6 3 rfl) ?_
            refine lv_goto (tgt := 175) hx hb dX7_widths_146 (by decide) ?_
            have hcd : cWidths S (nI j) x2 x3 = 7 := by unfold cWidths; rw [hbj]; clear hx hb hml hown hr hlocks hw hsz hA hG hK hP6 hD6 hS6 hl6 ih_61; grind
            have hq9 : ([mO cy mm ik tl fm tz vl iw rm1 rr1 om, ia cy (mm 1) 169 S, ia cy (mm 4) 7 C, ia cy (mm 6) 6 P1, ia cy (mm 7) 6 N1]) = ([mO cy mm ik tl fm tz vl iw rm1 rr1 om, ia cy (mm 1) 169 S, ia cy (mm 4) 7 (fnd C (cWidths S (nI j) x2 x3)), ia cy (mm 6) 6 P1, ia cy (mm 7) 6 N1]) := congrArg (fun z9 => [mO cy mm ik tl fm tz vl iw rm1 rr1 om, ia cy (mm 1) 169 S, ia cy (mm 4) 7 z9, ia cy (mm 6) 6 P1, ia cy (mm 7) 6 N1]) (show C = (fnd C (cWidths S (nI j) x2 x3)) from fnd_o hcd)
            replace hP6 := (congrArg (fun z9 => va_P D vwCl z9 _) hq9).mp hP6
            replace hD6 := (congrArg (fun z9 => va_D _ z9) hq9).mp hD6
            clear hq9
            refine re_i (P1, N1, rm1, rr1) hx hb hr hlocks hP6 hD6 hS6 dX7_widths_175 ?_
            exact (ans_o hcd (by rw [hbj]; unfold vWidths; clear hx hb hml hown hr hlocks hw hsz hA hG hK hP6 hD6 hS6 hl6 ih_61; grind [fsN, lsN]))
        · refine lv_aload_n hx hb dX7_widths_68 rfl (lv_at hl6 5 rfl) ?_
          refine va_get (D := D) (ci := 7) (v := .ref (mm 1)) (C := RX7) (T := TX7) (N := 23) hx hb hw iX7 hown hK hP5 0 rfl rfl 0 (by decide) (hw _ kw_4_64) (fun _ h9 => h9) rfl dX7_widths_69 ?_
          refine lv_bipush (v := 9) hx hb dX7_widths_72 (by decide) ?_
          refine lv_bipush (v := 8) hx hb dX7_widths_74 (by decide) ?_
          refine lv_iload_n hx hb dX7_widths_76 rfl (lv_at hl6 6 rfl) ?_
          refine lv_imul hx hb dX7_widths_77 ?_
          refine tp (show (8 * (nI j)) = nI (8 * j) from pk_mul _ _) ?_
          refine lv_iadd hx hb dX7_widths_78 ?_
          refine tp (show (9 + (nI (8 * j))) = nI (9 + 8 * j) from nI_add _ _) ?_
          refine lv_iconst (v := 3) hx hb dX7_widths_79 (by decide) ?_
          refine lv_iadd hx hb dX7_widths_80 ?_
          refine tp (show ((nI (9 + 8 * j)) + 3) = nI (9 + 8 * j + 3) from nI_add _ _) ?_
          refine lv_iload hx hb dX7_widths_81 (lv_at hl6 0 rfl) ?_
          refine ast_i (f := X1) (ws' := [mO cy mm ik tl fm tz vl iw rm1 rr1 om, ia cy (mm 1) 169 (upd X1 (12 + 8 * j) (nI i)), ia cy (mm 4) 7 C, ia cy (mm 6) 6 P1, ia cy (mm 7) 6 N1]) hx hb hK hP5 hD5 hS5 1 0 rfl rfl (12 + 8 * j) (congrArg nI (by omega)) (by omega) (by decide) rfl dX7_widths_83 (fun H6 locs6 hP6 hD6 hS6 => ?_)
          clear hP5 hD5 hS5 locs5 H5
          have hq9 : ([mO cy mm ik tl fm tz vl iw rm1 rr1 om, ia cy (mm 1) 169 (upd X1 (12 + 8 * j) (nI i)), ia cy (mm 4) 7 C, ia cy (mm 6) 6 P1, ia cy (mm 7) 6 N1]) = ([mO cy mm ik tl fm tz vl iw rm1 rr1 om, ia cy (mm 1) 169 (upd S (12 + 8 * j) (nI i)), ia cy (mm 4) 7 C, ia cy (mm 6) 6 P1, ia cy (mm 7) 6 N1]) := congrArg (fun z9 => [mO cy mm ik tl fm tz vl iw rm1 rr1 om, ia cy (mm 1) 169 z9, ia cy (mm 4) 7 C, ia cy (mm 6) 6 P1, ia cy (mm 7) 6 N1]) (show (upd X1 (12 + 8 * j) (nI i)) = (upd S (12 + 8 * j) (nI i)) from hU (nI i))
          replace hP6 := (congrArg (fun z9 => va_P D vwCl z9 _) hq9).mp hP6
          replace hD6 := (congrArg (fun z9 => va_D _ z9) hq9).mp hD6
          clear hq9
          have hcn := cntN_le (okW S j x2) i
          refine lv_aload_n hx hb dX7_widths_84 rfl (lv_at hl6 5 rfl) ?_
          refine cV_v (wc := [mO cy mm ik tl fm tz vl iw rm1 rr1 om, ia cy (mm 1) 169 (upd S (12 + 8 * j) (nI i)), ia cy (mm 6) 6 P1, ia cy (mm 7) 6 N1]) (wr := [ia cy (mm 4) 7 C]) (rest := []) hx hb hml hown hw hG hK hP6 hD6 hS6 hA hl6 kc_X7_rests kw_5_57 [] (c_X7_rests l D cy G H6.size mm ik tl fm tz vl iw rm1 rr1 om (upd S (12 + 8 * j) (nI i)) P1 N1 ((wf_wd wf hj20 (nI i)).1)) [0, 1, 3, 4] [2] rfl rfl rfl rfl rfl 0 rfl rfl rfl rfl rfl (Nat.le_of_ble_eq_true rfl) ⟨Nat.le_of_ble_eq_true rfl, Nat.le_of_ble_eq_true rfl⟩ dX7_widths_85 ⟨Nat.le_of_ble_eq_true rfl, Nat.le_of_ble_eq_true rfl⟩ (fun u9 H7 locs7 hu9 hP7 hD7 hS7 => ?_)
          clear hP6 hD6 hS6 locs6 H6
          obtain ⟨N1_85, rfl⟩ : ∃ z9, z9 = u9 := ⟨_, rfl⟩
          replace hP7 : va_P D vwCl ([ia cy (mm 4) 7 C, mO cy mm ik tl fm tz vl iw (nI (RC (upd S (12 + 8 * j) (nI i)))) (b2i (RC (upd S (12 + 8 * j) (nI i)) = 60)) om, ia cy (mm 1) 169 (upd S (12 + 8 * j) (nI i)), ia cy (mm 6) 6 (PR (upd S (12 + 8 * j) (nI i))), ia cy (mm 7) 6 N1_85]) H7 := hP7
          replace hD7 : va_D (va_A _ sz) ([ia cy (mm 4) 7 C, mO cy mm ik tl fm tz vl iw (nI (RC (upd S (12 + 8 * j) (nI i)))) (b2i (RC (upd S (12 + 8 * j) (nI i)) = 60)) om, ia cy (mm 1) 169 (upd S (12 + 8 * j) (nI i)), ia cy (mm 6) 6 (PR (upd S (12 + 8 * j) (nI i))), ia cy (mm 7) 6 N1_85]) := hD7
          replace hP7 := hP7.sub (ws' := [mO cy mm ik tl fm tz vl iw (nI (RC (upd S (12 + 8 * j) (nI i)))) (b2i (RC (upd S (12 + 8 * j) (nI i)) = 60)) om, ia cy (mm 1) 169 (upd S (12 + 8 * j) (nI i)), ia cy (mm 4) 7 C, ia cy (mm 6) 6 (PR (upd S (12 + 8 * j) (nI i))), ia cy (mm 7) 6 N1_85]) [1, 2, 0, 3, 4] rfl
          replace hD7 := hD7.sub (ws' := [mO cy mm ik tl fm tz vl iw (nI (RC (upd S (12 + 8 * j) (nI i)))) (b2i (RC (upd S (12 + 8 * j) (nI i)) = 60)) om, ia cy (mm 1) 169 (upd S (12 + 8 * j) (nI i)), ia cy (mm 4) 7 C, ia cy (mm 6) 6 (PR (upd S (12 + 8 * j) (nI i))), ia cy (mm 7) 6 N1_85]) [1, 2, 0, 3, 4] (by decide) rfl
          refine lv_aload_n hx hb dX7_widths_88 rfl (lv_at hl6 5 rfl) ?_
          refine lv_iload_n hx hb dX7_widths_89 rfl (lv_at hl6 6 rfl) ?_
          refine rV_i (wc := [mO cy mm ik tl fm tz vl iw (nI (RC (upd S (12 + 8 * j) (nI i)))) (b2i (RC (upd S (12 + 8 * j) (nI i)) = 60)) om, ia cy (mm 1) 169 (upd S (12 + 8 * j) (nI i)), ia cy (mm 6) 6 (PR (upd S (12 + 8 * j) (nI i)))]) (rest := []) hx hb hml hown hw hG hK hP7 hS7 hA hl6 kc_X7_leanOf kw_5_81 [.int (nI j)] (c_X7_leanOf l D cy G H7.size mm ik tl fm tz vl iw (nI (RC (upd S (12 + 8 * j) (nI i)))) (b2i (RC (upd S (12 + 8 * j) (nI i)) = 60)) om (upd S (12 + 8 * j) (nI i)) (PR (upd S (12 + 8 * j) (nI i))) j ((wf_wd wf hj20 (nI i)).1) (by rw [(wf_wd wf hj20 (nI i)).2.2.1]; exact hj)) [0, 1, 3] rfl 0 rfl rfl rfl rfl rfl (Nat.le_of_ble_eq_true rfl) ⟨Nat.le_of_ble_eq_true rfl, Nat.le_of_ble_eq_true rfl⟩ dX7_widths_90 ⟨Nat.le_of_ble_eq_true rfl, Nat.le_of_ble_eq_true rfl⟩ (fun r_90 H8 locs8 hr_90 hP8 hS8 => ?_)
          have hD8 := hD7
          clear hP7 hD7 hS7 locs7 H7
          subst hr_90
          refine lv_iload_n hx hb dX7_widths_93 rfl (lv_at hl6 7 rfl) ?_
          refine lv_icmp_ne (tgt := 118) hx hb dX7_widths_94 (by decide) (fun c_94 => ?_) (fun c_94 => ?_)
          · have hok : okW S j x2 i = false := by unfold okW; simp [c_94]
            have hq9 : nI (cntN (okW S j x2) (i + 1)) = nI (cntN (okW S j x2) i) := congrArg nI (fs_f hok).1
            replace hl6 : lv_has ls6 9 [(8, .int (nI i)), (7, .int (lsN (okW S j x2) i)), (6, .int (fsN (okW S j x2) i)), (5, .int (nI (cntN (okW S j x2) (i + 1)))), (4, .int (S (12 + 8 * j))), (0, .ref (mm 0)), (1, .int (nI j)), (2, .int x2), (3, .int x3)] := (congrArg (fun z9 => lv_has ls6 9 [(8, .int (nI i)), (7, .int (lsN (okW S j x2) i)), (6, .int (fsN (okW S j x2) i)), (5, .int z9), (4, .int (S (12 + 8 * j))), (0, .ref (mm 0)), (1, .int (nI j)), (2, .int x2), (3, .int x3)]) hq9).mpr hl6
            clear hq9
            have hq9 : fsN (okW S j x2) (i + 1) = fsN (okW S j x2) i := (fs_f hok).2.1
            replace hl6 : lv_has ls6 9 [(8, .int (nI i)), (7, .int (lsN (okW S j x2) i)), (6, .int (fsN (okW S j x2) (i + 1))), (5, .int (nI (cntN (okW S j x2) (i + 1)))), (4, .int (S (12 + 8 * j))), (0, .ref (mm 0)), (1, .int (nI j)), (2, .int x2), (3, .int x3)] := (congrArg (fun z9 => lv_has ls6 9 [(8, .int (nI i)), (7, .int (lsN (okW S j x2) i)), (6, .int z9), (5, .int (nI (cntN (okW S j x2) (i + 1)))), (4, .int (S (12 + 8 * j))), (0, .ref (mm 0)), (1, .int (nI j)), (2, .int x2), (3, .int x3)]) hq9).mpr hl6
            clear hq9
            have hq9 : lsN (okW S j x2) (i + 1) = lsN (okW S j x2) i := (fs_f hok).2.2
            replace hl6 : lv_has ls6 9 [(8, .int (nI i)), (7, .int (lsN (okW S j x2) (i + 1))), (6, .int (fsN (okW S j x2) (i + 1))), (5, .int (nI (cntN (okW S j x2) (i + 1)))), (4, .int (S (12 + 8 * j))), (0, .ref (mm 0)), (1, .int (nI j)), (2, .int x2), (3, .int x3)] := (congrArg (fun z9 => lv_has ls6 9 [(8, .int (nI i)), (7, .int z9), (6, .int (fsN (okW S j x2) (i + 1))), (5, .int (nI (cntN (okW S j x2) (i + 1)))), (4, .int (S (12 + 8 * j))), (0, .ref (mm 0)), (1, .int (nI j)), (2, .int x2), (3, .int x3)]) hq9).mpr hl6
            clear hq9
            refine lv_iinc (v := nI (i + 1)) (lv' := [(8, .int (nI (i + 1))), (7, .int (lsN (okW S j x2) (i + 1))), (6, .int (fsN (okW S j x2) (i + 1))), (5, .int (nI (cntN (okW S j x2) (i + 1)))), (4, .int (S (12 + 8 * j))), (0, .ref (mm 0)), (1, .int (nI j)), (2, .int x2), (3, .int x3)]) hx hb dX7_widths_118 hl6 (k := 0) rfl (nI_inc _) (by decide) rfl (fun ls7 hl7 => ?_)
            clear hl6 ls6
            refine lv_goto (tgt := 61) hx hb dX7_widths_121 (by decide) ?_
            exact ih_61 (i + 1, upd S (12 + 8 * j) (nI i), PR (upd S (12 + 8 * j) (nI i)), N1_85, nI (RC (upd S (12 + 8 * j) (nI i))), b2i (RC (upd S (12 + 8 * j) (nI i)) = 60)) (⟨by first | omega | assumption | rfl | simp_all, fun v => upd_upd S _ _ v⟩) (by (try dsimp only); omega) H8 locs8 ls7 hP8 hD8 hS8 (lv_sub hl7 [0, 1, 2, 3, 4, 5, 6, 7, 8] rfl)
          · refine lv_iinc (v := nI (cntN (okW S j x2) i + 1)) (lv' := [(5, .int (nI (cntN (okW S j x2) i + 1))), (8, .int (nI i)), (7, .int (lsN (okW S j x2) i)), (6, .int (fsN (okW S j x2) i)), (4, .int (S (12 + 8 * j))), (0, .ref (mm 0)), (1, .int (nI j)), (2, .int x2), (3, .int x3)]) hx hb dX7_widths_97 hl6 (k := 3) rfl (nI_inc _) (by decide) rfl (fun ls7 hl7 => ?_)
            clear hl6 ls6
            refine lv_iload hx hb dX7_widths_100 (lv_at hl7 3 rfl) ?_
            refine lv_if_ge (tgt := 110) hx hb dX7_widths_102 (by decide) (fun c_102 => ?_) (fun c_102 => ?_)
            · refine lv_iload hx hb dX7_widths_110 (lv_at hl7 3 rfl) ?_
              refine lv_istore (lv' := [(6, .int (fsN (okW S j x2) i)), (5, .int (nI (cntN (okW S j x2) i + 1))), (8, .int (nI i)), (7, .int (lsN (okW S j x2) i)), (4, .int (S (12 + 8 * j))), (0, .ref (mm 0)), (1, .int (nI j)), (2, .int x2), (3, .int x3)]) hx hb dX7_widths_112 hl7 (by decide) rfl (fun ls8 hl8 => ?_)
              clear hl7 ls7
              refine lv_iload hx hb dX7_widths_114 (lv_at hl8 2 rfl) ?_
              refine lv_istore (lv' := [(7, .int (nI i)), (6, .int (fsN (okW S j x2) i)), (5, .int (nI (cntN (okW S j x2) i + 1))), (8, .int (nI i)), (4, .int (S (12 + 8 * j))), (0, .ref (mm 0)), (1, .int (nI j)), (2, .int x2), (3, .int x3)]) hx hb dX7_widths_116 hl8 (by decide) rfl (fun ls9 hl9 => ?_)
              clear hl8 ls8
              have hok : okW S j x2 i = true := by unfold okW; simp [c_94]
              have hq9 : nI (cntN (okW S j x2) (i + 1)) = nI (cntN (okW S j x2) i + 1) := congrArg nI (fs_t hok).1
              replace hl9 : lv_has ls9 9 [(7, .int (nI i)), (6, .int (fsN (okW S j x2) i)), (5, .int (nI (cntN (okW S j x2) (i + 1)))), (8, .int (nI i)), (4, .int (S (12 + 8 * j))), (0, .ref (mm 0)), (1, .int (nI j)), (2, .int x2), (3, .int x3)] := (congrArg (fun z9 => lv_has ls9 9 [(7, .int (nI i)), (6, .int (fsN (okW S j x2) i)), (5, .int z9), (8, .int (nI i)), (4, .int (S (12 + 8 * j))), (0, .ref (mm 0)), (1, .int (nI j)), (2, .int x2), (3, .int x3)]) hq9).mpr hl9
              clear hq9
              have hq9 : fsN (okW S j x2) (i + 1) = fsN (okW S j x2) i := fs_n (by omega) hok (Int32.not_lt.mpr c_102)
              replace hl9 : lv_has ls9 9 [(7, .int (nI i)), (6, .int (fsN (okW S j x2) (i + 1))), (5, .int (nI (cntN (okW S j x2) (i + 1)))), (8, .int (nI i)), (4, .int (S (12 + 8 * j))), (0, .ref (mm 0)), (1, .int (nI j)), (2, .int x2), (3, .int x3)] := (congrArg (fun z9 => lv_has ls9 9 [(7, .int (nI i)), (6, .int z9), (5, .int (nI (cntN (okW S j x2) (i + 1)))), (8, .int (nI i)), (4, .int (S (12 + 8 * j))), (0, .ref (mm 0)), (1, .int (nI j)), (2, .int x2), (3, .int x3)]) hq9).mpr hl9
              clear hq9
              have hq9 : lsN (okW S j x2) (i + 1) = nI i := (fs_t hok).2
              replace hl9 : lv_has ls9 9 [(7, .int (lsN (okW S j x2) (i + 1))), (6, .int (fsN (okW S j x2) (i + 1))), (5, .int (nI (cntN (okW S j x2) (i + 1)))), (8, .int (nI i)), (4, .int (S (12 + 8 * j))), (0, .ref (mm 0)), (1, .int (nI j)), (2, .int x2), (3, .int x3)] := (congrArg (fun z9 => lv_has ls9 9 [(7, .int z9), (6, .int (fsN (okW S j x2) (i + 1))), (5, .int (nI (cntN (okW S j x2) (i + 1)))), (8, .int (nI i)), (4, .int (S (12 + 8 * j))), (0, .ref (mm 0)), (1, .int (nI j)), (2, .int x2), (3, .int x3)]) hq9).mpr hl9
              clear hq9
              refine lv_iinc (v := nI (i + 1)) (lv' := [(8, .int (nI (i + 1))), (7, .int (lsN (okW S j x2) (i + 1))), (6, .int (fsN (okW S j x2) (i + 1))), (5, .int (nI (cntN (okW S j x2) (i + 1)))), (4, .int (S (12 + 8 * j))), (0, .ref (mm 0)), (1, .int (nI j)), (2, .int x2), (3, .int x3)]) hx hb dX7_widths_118 hl9 (k := 3) rfl (nI_inc _) (by decide) rfl (fun ls10 hl10 => ?_)
              clear hl9 ls9
              refine lv_goto (tgt := 61) hx hb dX7_widths_121 (by decide) ?_
              exact ih_61 (i + 1, upd S (12 + 8 * j) (nI i), PR (upd S (12 + 8 * j) (nI i)), N1_85, nI (RC (upd S (12 + 8 * j) (nI i))), b2i (RC (upd S (12 + 8 * j) (nI i)) = 60)) (⟨by first | omega | assumption | rfl | simp_all, fun v => upd_upd S _ _ v⟩) (by (try dsimp only); omega) H8 locs8 ls10 hP8 hD8 hS8 (lv_sub hl10 [0, 1, 2, 3, 4, 5, 6, 7, 8] rfl)
            · refine lv_iload hx hb dX7_widths_105 (lv_at hl7 1 rfl) ?_
              refine lv_goto (tgt := 112) hx hb dX7_widths_107 (by decide) ?_
              refine lv_istore (lv' := [(6, .int (nI i)), (5, .int (nI (cntN (okW S j x2) i + 1))), (8, .int (nI i)), (7, .int (lsN (okW S j x2) i)), (4, .int (S (12 + 8 * j))), (0, .ref (mm 0)), (1, .int (nI j)), (2, .int x2), (3, .int x3)]) hx hb dX7_widths_112 hl7 (by decide) rfl (fun ls8 hl8 => ?_)
              clear hl7 ls7
              refine lv_iload hx hb dX7_widths_114 (lv_at hl8 2 rfl) ?_
              refine lv_istore (lv' := [(7, .int (nI i)), (6, .int (nI i)), (5, .int (nI (cntN (okW S j x2) i + 1))), (8, .int (nI i)), (4, .int (S (12 + 8 * j))), (0, .ref (mm 0)), (1, .int (nI j)), (2, .int x2), (3, .int x3)]) hx hb dX7_widths_116 hl8 (by decide) rfl (fun ls9 hl9 => ?_)
              clear hl8 ls8
              have hok : okW S j x2 i = true := by unfold okW; simp [c_94]
              have hq9 : nI (cntN (okW S j x2) (i + 1)) = nI (cntN (okW S j x2) i + 1) := congrArg nI (fs_t hok).1
              replace hl9 : lv_has ls9 9 [(7, .int (nI i)), (6, .int (nI i)), (5, .int (nI (cntN (okW S j x2) (i + 1)))), (8, .int (nI i)), (4, .int (S (12 + 8 * j))), (0, .ref (mm 0)), (1, .int (nI j)), (2, .int x2), (3, .int x3)] := (congrArg (fun z9 => lv_has ls9 9 [(7, .int (nI i)), (6, .int (nI i)), (5, .int z9), (8, .int (nI i)), (4, .int (S (12 + 8 * j))), (0, .ref (mm 0)), (1, .int (nI j)), (2, .int x2), (3, .int x3)]) hq9).mpr hl9
              clear hq9
              have hq9 : fsN (okW S j x2) (i + 1) = nI i := fs_z (by omega) hok (Int32.not_le.mp c_102)
              replace hl9 : lv_has ls9 9 [(7, .int (nI i)), (6, .int (fsN (okW S j x2) (i + 1))), (5, .int (nI (cntN (okW S j x2) (i + 1)))), (8, .int (nI i)), (4, .int (S (12 + 8 * j))), (0, .ref (mm 0)), (1, .int (nI j)), (2, .int x2), (3, .int x3)] := (congrArg (fun z9 => lv_has ls9 9 [(7, .int (nI i)), (6, .int z9), (5, .int (nI (cntN (okW S j x2) (i + 1)))), (8, .int (nI i)), (4, .int (S (12 + 8 * j))), (0, .ref (mm 0)), (1, .int (nI j)), (2, .int x2), (3, .int x3)]) hq9).mpr hl9
              clear hq9
              have hq9 : lsN (okW S j x2) (i + 1) = nI i := (fs_t hok).2
              replace hl9 : lv_has ls9 9 [(7, .int (lsN (okW S j x2) (i + 1))), (6, .int (fsN (okW S j x2) (i + 1))), (5, .int (nI (cntN (okW S j x2) (i + 1)))), (8, .int (nI i)), (4, .int (S (12 + 8 * j))), (0, .ref (mm 0)), (1, .int (nI j)), (2, .int x2), (3, .int x3)] := (congrArg (fun z9 => lv_has ls9 9 [(7, .int z9), (6, .int (fsN (okW S j x2) (i + 1))), (5, .int (nI (cntN (okW S j x2) (i + 1)))), (8, .int (nI i)), (4, .int (S (12 + 8 * j))), (0, .ref (mm 0)), (1, .int (nI j)), (2, .int x2), (3, .int x3)]) hq9).mpr hl9
              clear hq9
              refine lv_iinc (v := nI (i + 1)) (lv' := [(8, .int (nI (i + 1))), (7, .int (lsN (okW S j x2) (i + 1))), (6, .int (fsN (okW S j x2) (i + 1))), (5, .int (nI (cntN (okW S j x2) (i + 1)))), (4, .int (S (12 + 8 * j))), (0, .ref (mm 0)), (1, .int (nI j)), (2, .int x2), (3, .int x3)]) hx hb dX7_widths_118 hl9 (k := 3) rfl (nI_inc _) (by decide) rfl (fun ls10 hl10 => ?_)
              clear hl9 ls9
              refine lv_goto (tgt := 61) hx hb dX7_widths_121 (by decide) ?_
              exact ih_61 (i + 1, upd S (12 + 8 * j) (nI i), PR (upd S (12 + 8 * j) (nI i)), N1_85, nI (RC (upd S (12 + 8 * j) (nI i))), b2i (RC (upd S (12 + 8 * j) (nI i)) = 60)) (⟨by first | omega | assumption | rfl | simp_all, fun v => upd_upd S _ _ v⟩) (by (try dsimp only); omega) H8 locs8 ls10 hP8 hD8 hS8 (lv_sub hl10 [0, 1, 2, 3, 4, 5, 6, 7, 8] rfl)
      · refine lv_aload_n hx hb dX7_widths_34 rfl (lv_at hl0 0 rfl) ?_
        refine lv_ldc (v := (-1000000001)) hx hb hown (hw _ kw_4_143) dX7_widths_35 ?_
        refine cV_i (wc := [mO cy mm ik tl fm tz vl iw rm rr om, ia cy (mm 4) 7 C]) (wr := [ia cy (mm 1) 169 S, ia cy (mm 6) 6 P, ia cy (mm 7) 6 N]) (rest := []) hx hb hml hown hw hG hK hP3 hD3 hS3 hA hl0 kc_X7_finds kw_4_139 [.int (-1000000001)] (c_X7_finds l D cy G H3.size mm ik tl fm tz vl iw rm rr om C 0 (-1000000001) (by decide) (by decide)) [0, 2] [1, 3, 4] rfl rfl rfl rfl rfl 0 rfl rfl rfl rfl rfl (Nat.le_of_ble_eq_true rfl) ⟨Nat.le_of_ble_eq_true rfl, Nat.le_of_ble_eq_true rfl⟩ dX7_widths_37 ⟨Nat.le_of_ble_eq_true rfl, Nat.le_of_ble_eq_true rfl⟩ (fun r_37 u9 H4 locs4 hu9 hP4 hD4 hS4 => ?_)
        clear hP3 hD3 hS3 locs3 H3
        have hr_37 := hu9
        replace hP4 : va_P D vwCl ([ia cy (mm 1) 169 S, ia cy (mm 6) 6 P, ia cy (mm 7) 6 N, mO cy mm ik tl fm tz vl iw rm rr om, ia cy (mm 4) 7 (upd C 0 (C 0 + 1))]) H4 := hP4
        replace hD4 : va_D (va_A _ sz) ([ia cy (mm 1) 169 S, ia cy (mm 6) 6 P, ia cy (mm 7) 6 N, mO cy mm ik tl fm tz vl iw rm rr om, ia cy (mm 4) 7 (upd C 0 (C 0 + 1))]) := hD4
        replace hP4 := hP4.sub (ws' := [mO cy mm ik tl fm tz vl iw rm rr om, ia cy (mm 1) 169 S, ia cy (mm 4) 7 (upd C 0 (C 0 + 1)), ia cy (mm 6) 6 P, ia cy (mm 7) 6 N]) [3, 0, 4, 1, 2] rfl
        replace hD4 := hD4.sub (ws' := [mO cy mm ik tl fm tz vl iw rm rr om, ia cy (mm 1) 169 S, ia cy (mm 4) 7 (upd C 0 (C 0 + 1)), ia cy (mm 6) 6 P, ia cy (mm 7) 6 N]) [3, 0, 4, 1, 2] (by decide) rfl
        subst hr_37
        have hcd : cWidths S x1 x2 x3 = 0 := by unfold cWidths; clear hx hb hml hown hr hlocks hw hsz hA hG hK hP4 hD4 hS4 hl0; grind
        have hq9 : ([mO cy mm ik tl fm tz vl iw rm rr om, ia cy (mm 1) 169 S, ia cy (mm 4) 7 (upd C 0 (C 0 + 1)), ia cy (mm 6) 6 P, ia cy (mm 7) 6 N]) = ([mO cy mm ik tl fm tz vl iw rm rr om, ia cy (mm 1) 169 S, ia cy (mm 4) 7 (fnd C (cWidths S x1 x2 x3)), ia cy (mm 6) 6 P, ia cy (mm 7) 6 N]) := congrArg (fun z9 => [mO cy mm ik tl fm tz vl iw rm rr om, ia cy (mm 1) 169 S, ia cy (mm 4) 7 z9, ia cy (mm 6) 6 P, ia cy (mm 7) 6 N]) (show (upd C 0 (C 0 + 1)) = (fnd C (cWidths S x1 x2 x3)) from fnd_f hcd (by decide))
        replace hP4 := (congrArg (fun z9 => va_P D vwCl z9 _) hq9).mp hP4
        replace hD4 := (congrArg (fun z9 => va_D _ z9) hq9).mp hD4
        clear hq9
        refine re_i (P, N, rm, rr) hx hb hr hlocks hP4 hD4 hS4 dX7_widths_40 ?_
        exact (ans_f hcd (by decide) rfl)

theorem kc_X7_most : kV yX7_most cX7_most 3 (some .int) 0 := ⟨kw_5_134, kw_5_135, kw_1_8, kw_5_136, by decide, by decide, by decide +kernel⟩
set_option maxHeartbeats 4000000 in
set_option maxRecDepth 100000 in
theorem c_X7_most (l : Launch) (D : va_G) (cy : Nat → ClassId) (G : Nat → Nat) (sz : Nat) (mm : Nat → Nat) (ik : Int32) (tl : Int32) (fm : Int32) (tz : Int32) (vl : Int32) (iw : Int32) (rm : Int32) (rr : Int32) (om : Int32) (S : Nat → Int32) (C : Nat → Int32) (P : Nat → Int32) (N : Nat → Int32) (wf : wf S) : Met l yX7_most (wm yX7_most cX7_most 3 (some .int)) { frames := 5, cells := 0, slots := 0, locals := 113 } (va_Pc [.ref (mm 0)] (pr D (TY cy) G ([mO cy mm ik tl fm tz vl iw rm rr om, ia cy (mm 1) 169 S, ia cy (mm 4) 7 C, ia cy (mm 6) 6 P, ia cy (mm 7) 6 N]) sz)) (va_Qi (fun (r : Int32) (u : (Nat → Int32) × (Nat → Int32) × Int32 × Int32) => r = ans (cMost S) (nI (mst (flow S (PR S)) (gcN S)))) (fun (u : (Nat → Int32) × (Nat → Int32) × Int32 × Int32) t => po D (va_A ([mO cy mm ik tl fm tz vl iw rm rr om, ia cy (mm 1) 169 S, ia cy (mm 4) 7 C, ia cy (mm 6) 6 P, ia cy (mm 7) 6 N]) sz) ([mO cy mm ik tl fm tz vl iw u.2.2.1 u.2.2.2 om, ia cy (mm 1) 169 S, ia cy (mm 4) 7 (fnd C (cMost S)), ia cy (mm 6) 6 u.1, ia cy (mm 7) 6 u.2.1]) t) (va_A ([mO cy mm ik tl fm tz vl iw rm rr om, ia cy (mm 1) 169 S, ia cy (mm 4) 7 C, ia cy (mm 6) 6 P, ia cy (mm 7) 6 N]) sz)) 0 0 (va_A ([mO cy mm ik tl fm tz vl iw rm rr om, ia cy (mm 1) 169 S, ia cy (mm 4) 7 C, ia cy (mm 6) 6 P, ia cy (mm 7) 6 N]) sz) := by
  refine mk_rw (by decide) RX7 rfl (Nat.le_of_ble_eq_true rfl) [(0, .ref (mm 0))] rfl ?_
  intro p e s m below meth c hx hb hml hown hr hlocks hin hw hsz hA hG hK H0 locs0 hP0 hD0 hS0 ls0 hl0
  clear hin
  have hg20 := wf_g20 wf
  have hr6 := wf_r6 wf
  have hg0 : S 1 = 0 ↔ gcN S = 0 := by rw [wf_g wf]; exact nI_eq (b := 0) (by omega) (by decide)
  have hn0 : nI (gcN S) = 0 ↔ gcN S = 0 := nI_eq (b := 0) (by omega) (by decide)
  refine lv_aload_n hx hb dX7_most_0 rfl (lv_at hl0 0 rfl) ?_
  refine va_get (D := D) (ci := 7) (v := .ref (mm 1)) (C := RX7) (T := TX7) (N := 23) hx hb hw iX7 hown hK hP0 0 rfl rfl 0 (by decide) (hw _ kw_4_64) (fun _ h9 => h9) rfl dX7_most_1 ?_
  refine lv_iconst (v := 1) hx hb dX7_most_4 (by decide) ?_
  refine ald_i (f := S) hx hb hK hP0 1 0 rfl rfl 1 rfl (by first | omega | assumption) (by decide) dX7_most_5 ?_
  refine tp (show (S 1) = nI (gcN S) from wf_g wf) ?_
  refine lv_if_ne (tgt := 16) hx hb dX7_most_6 (by decide) (fun c_6 => ?_) (fun c_6 => ?_)
  · have hg1 : 1 ≤ gcN S := by have := wid_c1 (by omega) c_6; omega
    refine lv_aload_n hx hb dX7_most_16 rfl (lv_at hl0 0 rfl) ?_
    refine cV_v (wc := [mO cy mm ik tl fm tz vl iw rm rr om, ia cy (mm 1) 169 S, ia cy (mm 6) 6 P, ia cy (mm 7) 6 N]) (wr := [ia cy (mm 4) 7 C]) (rest := []) hx hb hml hown hw hG hK hP0 hD0 hS0 hA hl0 kc_X7_rests kw_5_57 [] (c_X7_rests l D cy G H0.size mm ik tl fm tz vl iw rm rr om S P N (by first | omega | assumption)) [0, 1, 3, 4] [2] rfl rfl rfl rfl rfl 0 rfl rfl rfl rfl rfl (Nat.le_of_ble_eq_true rfl) ⟨Nat.le_of_ble_eq_true rfl, Nat.le_of_ble_eq_true rfl⟩ dX7_most_17 ⟨Nat.le_of_ble_eq_true rfl, Nat.le_of_ble_eq_true rfl⟩ (fun u9 H1 locs1 hu9 hP1 hD1 hS1 => ?_)
    clear hP0 hD0 hS0 locs0 H0
    obtain ⟨N1_17, rfl⟩ : ∃ z9, z9 = u9 := ⟨_, rfl⟩
    replace hP1 : va_P D vwCl ([ia cy (mm 4) 7 C, mO cy mm ik tl fm tz vl iw (nI (RC S)) (b2i (RC S = 60)) om, ia cy (mm 1) 169 S, ia cy (mm 6) 6 (PR S), ia cy (mm 7) 6 N1_17]) H1 := hP1
    replace hD1 : va_D (va_A _ sz) ([ia cy (mm 4) 7 C, mO cy mm ik tl fm tz vl iw (nI (RC S)) (b2i (RC S = 60)) om, ia cy (mm 1) 169 S, ia cy (mm 6) 6 (PR S), ia cy (mm 7) 6 N1_17]) := hD1
    replace hP1 := hP1.sub (ws' := [mO cy mm ik tl fm tz vl iw (nI (RC S)) (b2i (RC S = 60)) om, ia cy (mm 1) 169 S, ia cy (mm 4) 7 C, ia cy (mm 6) 6 (PR S), ia cy (mm 7) 6 N1_17]) [1, 2, 0, 3, 4] rfl
    replace hD1 := hD1.sub (ws' := [mO cy mm ik tl fm tz vl iw (nI (RC S)) (b2i (RC S = 60)) om, ia cy (mm 1) 169 S, ia cy (mm 4) 7 C, ia cy (mm 6) 6 (PR S), ia cy (mm 7) 6 N1_17]) [1, 2, 0, 3, 4] (by decide) rfl
    refine lv_iconst (v := 0) hx hb dX7_most_20 (by decide) ?_
    refine lv_istore_n (lv' := [(1, .int 0), (0, .ref (mm 0))]) hx hb dX7_most_21 rfl hl0 (by decide) rfl (fun ls1 hl1 => ?_)
    clear hl0 ls0
    refine lv_iconst (v := 1) hx hb dX7_most_22 (by decide) ?_
    refine lv_istore_n (lv' := [(2, .int 1), (1, .int 0), (0, .ref (mm 0))]) hx hb dX7_most_23 rfl hl1 (by decide) rfl (fun ls2 hl2 => ?_)
    clear hl1 ls1
    have hq9 : nI (mst (flow S (PR S)) 1) = 0 := show nI (mst (flow S (PR S)) 1) = nI 0 from congrArg nI (by have := mst_lt (flow S (PR S)) 1 (by decide); omega)
    replace hl2 : lv_has ls2 3 [(2, .int 1), (1, .int (nI (mst (flow S (PR S)) 1))), (0, .ref (mm 0))] := (congrArg (fun z9 => lv_has ls2 3 [(2, .int 1), (1, .int z9), (0, .ref (mm 0))]) hq9).mpr hl2
    clear hq9
    refine wlp (ι := Nat) (nL := 3) (fun x9 => (x9 ≤ gcN S) ∧ (1 ≤ x9)) (fun x9 => [mO cy mm ik tl fm tz vl iw (nI (RC S)) (b2i (RC S = 60)) om, ia cy (mm 1) 169 S, ia cy (mm 4) 7 C, ia cy (mm 6) 6 (PR S), ia cy (mm 7) 6 N1_17]) (fun x9 => [(2, .int (nI x9)), (1, .int (nI (mst (flow S (PR S)) x9))), (0, .ref (mm 0))]) (fun x9 => []) (fun x9 => gcN S - x9) 24 ?_ 1 (⟨by first | omega | assumption | rfl | simp_all, by first | omega | assumption | rfl | simp_all⟩) rfl hP1 hD1 hS1 (lv_sub hl2 [0, 1, 2] rfl)
    clear hP1 hD1 hS1 locs1 H1 hl2 ls2
    intro x9 hI ih_24 H2 locs2 ls3 hP2 hD2 hS2 hl3
    obtain ⟨i, rfl⟩ : ∃ z9, z9 = x9 := ⟨_, rfl⟩
    obtain ⟨hi, hi1⟩ := hI
    replace hi : i ≤ gcN S := hi
    replace hi1 : 1 ≤ i := hi1
    replace hP2 : va_P D vwCl ([mO cy mm ik tl fm tz vl iw (nI (RC S)) (b2i (RC S = 60)) om, ia cy (mm 1) 169 S, ia cy (mm 4) 7 C, ia cy (mm 6) 6 (PR S), ia cy (mm 7) 6 N1_17]) H2 := hP2
    replace hD2 : va_D (va_A _ sz) ([mO cy mm ik tl fm tz vl iw (nI (RC S)) (b2i (RC S = 60)) om, ia cy (mm 1) 169 S, ia cy (mm 4) 7 C, ia cy (mm 6) 6 (PR S), ia cy (mm 7) 6 N1_17]) := hD2
    replace hl3 : lv_has ls3 3 [(2, .int (nI i)), (1, .int (nI (mst (flow S (PR S)) i))), (0, .ref (mm 0))] := hl3
    show W p l e _ s m _ below meth c _ _ _ _ _ (F0 m 24 ls3 [])
    refine lv_iload_n hx hb dX7_most_24 rfl (lv_at hl3 0 rfl) ?_
    refine lv_aload_n hx hb dX7_most_25 rfl (lv_at hl3 2 rfl) ?_
    refine va_get (D := D) (ci := 7) (v := .ref (mm 1)) (C := RX7) (T := TX7) (N := 23) hx hb hw iX7 hown hK hP2 0 rfl rfl 0 (by decide) (hw _ kw_4_64) (fun _ h9 => h9) rfl dX7_most_26 ?_
    refine lv_iconst (v := 1) hx hb dX7_most_29 (by decide) ?_
    refine ald_i (f := S) hx hb hK hP2 1 0 rfl rfl 1 rfl (by first | omega | assumption) (by decide) dX7_most_30 ?_
    refine tp (show (S 1) = nI (gcN S) from wf_g wf) ?_
    refine ln_ge (tgt := 65) i (gcN S) rfl rfl (by omega) (by omega) hx hb dX7_most_31 (by decide) (fun c_31 => ?_) (fun c_31 => ?_)
    · obtain rfl : i = gcN S := (by omega)
      refine lv_iload_n hx hb dX7_most_65 rfl (lv_at hl3 1 rfl) ?_
      have hcd : cMost S = 7 := by unfold cMost; clear hx hb hml hown hr hlocks hw hsz hA hG hK hP2 hD2 hS2 hl3 ih_24; grind
      have hq9 : ([mO cy mm ik tl fm tz vl iw (nI (RC S)) (b2i (RC S = 60)) om, ia cy (mm 1) 169 S, ia cy (mm 4) 7 C, ia cy (mm 6) 6 (PR S), ia cy (mm 7) 6 N1_17]) = ([mO cy mm ik tl fm tz vl iw (nI (RC S)) (b2i (RC S = 60)) om, ia cy (mm 1) 169 S, ia cy (mm 4) 7 (fnd C (cMost S)), ia cy (mm 6) 6 (PR S), ia cy (mm 7) 6 N1_17]) := congrArg (fun z9 => [mO cy mm ik tl fm tz vl iw (nI (RC S)) (b2i (RC S = 60)) om, ia cy (mm 1) 169 S, ia cy (mm 4) 7 z9, ia cy (mm 6) 6 (PR S), ia cy (mm 7) 6 N1_17]) (show C = (fnd C (cMost S)) from fnd_o hcd)
      replace hP2 := (congrArg (fun z9 => va_P D vwCl z9 _) hq9).mp hP2
      replace hD2 := (congrArg (fun z9 => va_D _ z9) hq9).mp hD2
      clear hq9
      refine re_i (PR S, N1_17, nI (RC S), b2i (RC S = 60)) hx hb hr hlocks hP2 hD2 hS2 dX7_most_66 ?_
      exact (ans_o hcd (rfl))
    · have hml9 := mst_lt (flow S (PR S)) i (by omega)
      refine lv_aload_n hx hb dX7_most_34 rfl (lv_at hl3 2 rfl) ?_
      refine lv_iload_n hx hb dX7_most_35 rfl (lv_at hl3 0 rfl) ?_
      refine rV_i (wc := [mO cy mm ik tl fm tz vl iw (nI (RC S)) (b2i (RC S = 60)) om, ia cy (mm 1) 169 S, ia cy (mm 6) 6 (PR S)]) (rest := []) hx hb hml hown hw hG hK hP2 hS2 hA hl3 kc_X7_flowOf kw_5_73 [.int (nI i)] (c_X7_flowOf l D cy G H2.size mm ik tl fm tz vl iw (nI (RC S)) (b2i (RC S = 60)) om S (PR S) i (by first | omega | assumption) (by first | omega | assumption)) [0, 1, 3] rfl 0 rfl rfl rfl rfl rfl (Nat.le_of_ble_eq_true rfl) ⟨Nat.le_of_ble_eq_true rfl, Nat.le_of_ble_eq_true rfl⟩ dX7_most_36 ⟨Nat.le_of_ble_eq_true rfl, Nat.le_of_ble_eq_true rfl⟩ (fun r_36 H3 locs3 hr_36 hP3 hS3 => ?_)
      have hD3 := hD2
      clear hP2 hD2 hS2 locs2 H2
      subst hr_36
      refine rT_i (wc := []) (rest := []) hx hb hml hown hw hG hK hP3 hS3 hA hl3 kc_X7_size kw_5_85 [.int (flow S (PR S) i)] (c_X7_size l D cy G H3.size (flow S (PR S) i)) [] rfl rfl rfl (Nat.le_of_ble_eq_true rfl) ⟨Nat.le_of_ble_eq_true rfl, Nat.le_of_ble_eq_true rfl⟩ dX7_most_39 ⟨Nat.le_of_ble_eq_true rfl, Nat.le_of_ble_eq_true rfl⟩ (fun r_39 H4 locs4 hr_39 hP4 hS4 => ?_)
      have hD4 := hD3
      clear hP3 hD3 hS3 locs3 H3
      subst hr_39
      refine lv_aload_n hx hb dX7_most_42 rfl (lv_at hl3 2 rfl) ?_
      refine lv_iload_n hx hb dX7_most_43 rfl (lv_at hl3 1 rfl) ?_
      refine rV_i (wc := [mO cy mm ik tl fm tz vl iw (nI (RC S)) (b2i (RC S = 60)) om, ia cy (mm 1) 169 S, ia cy (mm 6) 6 (PR S)]) (rest := [.int (absI (flow S (PR S) i))]) hx hb hml hown hw hG hK hP4 hS4 hA hl3 kc_X7_flowOf kw_5_73 [.int (nI (mst (flow S (PR S)) i))] (c_X7_flowOf l D cy G H4.size mm ik tl fm tz vl iw (nI (RC S)) (b2i (RC S = 60)) om S (PR S) (mst (flow S (PR S)) i) (by first | omega | assumption) (by first | omega | assumption)) [0, 1, 3] rfl 0 rfl rfl rfl rfl rfl (Nat.le_of_ble_eq_true rfl) ⟨Nat.le_of_ble_eq_true rfl, Nat.le_of_ble_eq_true rfl⟩ dX7_most_44 ⟨Nat.le_of_ble_eq_true rfl, Nat.le_of_ble_eq_true rfl⟩ (fun r_44 H5 locs5 hr_44 hP5 hS5 => ?_)
      have hD5 := hD4
      clear hP4 hD4 hS4 locs4 H4
      subst hr_44
      refine rT_i (wc := []) (rest := [.int (absI (flow S (PR S) i))]) hx hb hml hown hw hG hK hP5 hS5 hA hl3 kc_X7_size kw_5_85 [.int (flow S (PR S) (mst (flow S (PR S)) i))] (c_X7_size l D cy G H5.size (flow S (PR S) (mst (flow S (PR S)) i))) [] rfl rfl rfl (Nat.le_of_ble_eq_true rfl) ⟨Nat.le_of_ble_eq_true rfl, Nat.le_of_ble_eq_true rfl⟩ dX7_most_47 ⟨Nat.le_of_ble_eq_true rfl, Nat.le_of_ble_eq_true rfl⟩ (fun r_47 H6 locs6 hr_47 hP6 hS6 => ?_)
      have hD6 := hD5
      clear hP5 hD5 hS5 locs5 H5
      subst hr_47
      refine lv_icmp_le (tgt := 57) hx hb dX7_most_50 (by decide) (fun c_50 => ?_) (fun c_50 => ?_)
      · refine lv_iload_n hx hb dX7_most_57 rfl (lv_at hl3 1 rfl) ?_
        refine lv_istore_n (lv' := [(1, .int (nI (mst (flow S (PR S)) i))), (2, .int (nI i)), (0, .ref (mm 0))]) hx hb dX7_most_58 rfl hl3 (by decide) rfl (fun ls4 hl4 => ?_)
        clear hl3 ls3
        have hq9 : nI (mst (flow S (PR S)) (i + 1)) = nI (mst (flow S (PR S)) i) := congrArg nI (by clear hx hb hml hown hr hlocks hw hsz hA hG hK hP6 hD6 hS6 hl4 ih_24; grind [mst])
        replace hl4 : lv_has ls4 3 [(1, .int (nI (mst (flow S (PR S)) (i + 1)))), (2, .int (nI i)), (0, .ref (mm 0))] := (congrArg (fun z9 => lv_has ls4 3 [(1, .int z9), (2, .int (nI i)), (0, .ref (mm 0))]) hq9).mpr hl4
        clear hq9
        refine lv_iinc (v := nI (i + 1)) (lv' := [(2, .int (nI (i + 1))), (1, .int (nI (mst (flow S (PR S)) (i + 1)))), (0, .ref (mm 0))]) hx hb dX7_most_59 hl4 (k := 1) rfl (nI_inc _) (by decide) rfl (fun ls5 hl5 => ?_)
        clear hl4 ls4
        refine lv_goto (tgt := 24) hx hb dX7_most_62 (by decide) ?_
        exact ih_24 (i + 1) (⟨by first | omega | assumption | rfl | simp_all, by first | omega | assumption | rfl | simp_all⟩) (by (try dsimp only); omega) H6 locs6 ls5 hP6 hD6 hS6 (lv_sub hl5 [0, 1, 2] rfl)
      · refine lv_iload_n hx hb dX7_most_53 rfl (lv_at hl3 0 rfl) ?_
        refine lv_goto (tgt := 58) hx hb dX7_most_54 (by decide) ?_
        refine lv_istore_n (lv' := [(1, .int (nI i)), (2, .int (nI i)), (0, .ref (mm 0))]) hx hb dX7_most_58 rfl hl3 (by decide) rfl (fun ls4 hl4 => ?_)
        clear hl3 ls3
        have hq9 : nI (mst (flow S (PR S)) (i + 1)) = nI i := congrArg nI (by clear hx hb hml hown hr hlocks hw hsz hA hG hK hP6 hD6 hS6 hl4 ih_24; grind [mst])
        replace hl4 : lv_has ls4 3 [(1, .int (nI (mst (flow S (PR S)) (i + 1)))), (2, .int (nI i)), (0, .ref (mm 0))] := (congrArg (fun z9 => lv_has ls4 3 [(1, .int z9), (2, .int (nI i)), (0, .ref (mm 0))]) hq9).mpr hl4
        clear hq9
        refine lv_iinc (v := nI (i + 1)) (lv' := [(2, .int (nI (i + 1))), (1, .int (nI (mst (flow S (PR S)) (i + 1)))), (0, .ref (mm 0))]) hx hb dX7_most_59 hl4 (k := 1) rfl (nI_inc _) (by decide) rfl (fun ls5 hl5 => ?_)
        clear hl4 ls4
        refine lv_goto (tgt := 24) hx hb dX7_most_62 (by decide) ?_
        exact ih_24 (i + 1) (⟨by first | omega | assumption | rfl | simp_all, by first | omega | assumption | rfl | simp_all⟩) (by (try dsimp only); omega) H6 locs6 ls5 hP6 hD6 hS6 (lv_sub hl5 [0, 1, 2] rfl)
  · refine lv_aload_n hx hb dX7_most_9 rfl (lv_at hl0 0 rfl) ?_
    refine lv_ldc (v := (-1000000004)) hx hb hown (hw _ kw_5_132) dX7_most_10 ?_
    refine cV_i (wc := [mO cy mm ik tl fm tz vl iw rm rr om, ia cy (mm 4) 7 C]) (wr := [ia cy (mm 1) 169 S, ia cy (mm 6) 6 P, ia cy (mm 7) 6 N]) (rest := []) hx hb hml hown hw hG hK hP0 hD0 hS0 hA hl0 kc_X7_finds kw_4_139 [.int (-1000000004)] (c_X7_finds l D cy G H0.size mm ik tl fm tz vl iw rm rr om C 3 (-1000000004) (by decide) (by decide)) [0, 2] [1, 3, 4] rfl rfl rfl rfl rfl 0 rfl rfl rfl rfl rfl (Nat.le_of_ble_eq_true rfl) ⟨Nat.le_of_ble_eq_true rfl, Nat.le_of_ble_eq_true rfl⟩ dX7_most_12 ⟨Nat.le_of_ble_eq_true rfl, Nat.le_of_ble_eq_true rfl⟩ (fun r_12 u9 H1 locs1 hu9 hP1 hD1 hS1 => ?_)
    clear hP0 hD0 hS0 locs0 H0
    have hr_12 := hu9
    replace hP1 : va_P D vwCl ([ia cy (mm 1) 169 S, ia cy (mm 6) 6 P, ia cy (mm 7) 6 N, mO cy mm ik tl fm tz vl iw rm rr om, ia cy (mm 4) 7 (upd C 3 (C 3 + 1))]) H1 := hP1
    replace hD1 : va_D (va_A _ sz) ([ia cy (mm 1) 169 S, ia cy (mm 6) 6 P, ia cy (mm 7) 6 N, mO cy mm ik tl fm tz vl iw rm rr om, ia cy (mm 4) 7 (upd C 3 (C 3 + 1))]) := hD1
    replace hP1 := hP1.sub (ws' := [mO cy mm ik tl fm tz vl iw rm rr om, ia cy (mm 1) 169 S, ia cy (mm 4) 7 (upd C 3 (C 3 + 1)), ia cy (mm 6) 6 P, ia cy (mm 7) 6 N]) [3, 0, 4, 1, 2] rfl
    replace hD1 := hD1.sub (ws' := [mO cy mm ik tl fm tz vl iw rm rr om, ia cy (mm 1) 169 S, ia cy (mm 4) 7 (upd C 3 (C 3 + 1)), ia cy (mm 6) 6 P, ia cy (mm 7) 6 N]) [3, 0, 4, 1, 2] (by decide) rfl
    subst hr_12
    have hcd : cMost S = 3 := by unfold cMost; clear hx hb hml hown hr hlocks hw hsz hA hG hK hP1 hD1 hS1 hl0; grind
    have hq9 : ([mO cy mm ik tl fm tz vl iw rm rr om, ia cy (mm 1) 169 S, ia cy (mm 4) 7 (upd C 3 (C 3 + 1)), ia cy (mm 6) 6 P, ia cy (mm 7) 6 N]) = ([mO cy mm ik tl fm tz vl iw rm rr om, ia cy (mm 1) 169 S, ia cy (mm 4) 7 (fnd C (cMost S)), ia cy (mm 6) 6 P, ia cy (mm 7) 6 N]) := congrArg (fun z9 => [mO cy mm ik tl fm tz vl iw rm rr om, ia cy (mm 1) 169 S, ia cy (mm 4) 7 z9, ia cy (mm 6) 6 P, ia cy (mm 7) 6 N]) (show (upd C 3 (C 3 + 1)) = (fnd C (cMost S)) from fnd_f hcd (by decide))
    replace hP1 := (congrArg (fun z9 => va_P D vwCl z9 _) hq9).mp hP1
    replace hD1 := (congrArg (fun z9 => va_D _ z9) hq9).mp hD1
    clear hq9
    refine re_i (P, N, rm, rr) hx hb hr hlocks hP1 hD1 hS1 dX7_most_15 ?_
    exact (ans_f hcd (by decide) rfl)
